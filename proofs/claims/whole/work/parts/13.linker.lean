abbrev yLk_endSection : MethodName := ⟨"ImageForge$Linker", "endSection", "(LImageForge$Image;III)I"⟩
abbrev cLk_endSection : ByteArray := prog_3_method_3_code
abbrev wsLk_endSection : List Cond := .code yLk_endSection cLk_endSection 5 (some .int) :: bw
theorem gdLk_endSection : GoodIn bw wsLk_endSection := gd_of tw_577
theorem hdLk_endSection : yLk_endSection.cls ≠ "java/lang/invoke/MethodHandle" ∧ yLk_endSection.cls ≠ "java/lang/invoke/VarHandle" ∧ (parseMethodDescriptor yLk_endSection.desc).map (fun d => d.parameters.length) = some 4 := by decide +kernel
theorem dLk_endSection_0 : decode cLk_endSection 0 = .ok (.aload_n 1, 1) := by decide +kernel
theorem dLk_endSection_1 : decode cLk_endSection 1 = .ok (.iload_n 2, 1) := by decide +kernel
theorem dLk_endSection_2 : decode cLk_endSection 2 = .ok (.iload_n 3, 1) := by decide +kernel
theorem dLk_endSection_3 : decode cLk_endSection 3 = .ok (.iload 4, 2) := by decide +kernel
theorem dLk_endSection_5 : decode cLk_endSection 5 = .ok (.iload_n 3, 1) := by decide +kernel
theorem dLk_endSection_6 : decode cLk_endSection 6 = .ok (.isub, 1) := by decide +kernel
theorem dLk_endSection_7 : decode cLk_endSection 7 = .ok (.invokevirtual 64, 3) := by decide +kernel
theorem dLk_endSection_10 : decode cLk_endSection 10 = .ok (.iload 4, 2) := by decide +kernel
theorem dLk_endSection_12 : decode cLk_endSection 12 = .ok (.bipush 64, 2) := by decide +kernel
theorem dLk_endSection_14 : decode cLk_endSection 14 = .ok (.invokestatic 68, 3) := by decide +kernel
theorem dLk_endSection_17 : decode cLk_endSection 17 = .ok (.ireturn, 1) := by decide +kernel
abbrev yLk_writeParts : MethodName := ⟨"ImageForge$Linker", "writeParts", "([LImageForge$ObjectFile;ILImageForge$Image;I)I"⟩
abbrev cLk_writeParts : ByteArray := prog_3_method_4_code
abbrev wsLk_writeParts : List Cond := .code yLk_writeParts cLk_writeParts 9 (some .int) :: bw
theorem gdLk_writeParts : GoodIn bw wsLk_writeParts := gd_of tw_569
theorem hdLk_writeParts : yLk_writeParts.cls ≠ "java/lang/invoke/MethodHandle" ∧ yLk_writeParts.cls ≠ "java/lang/invoke/VarHandle" ∧ (parseMethodDescriptor yLk_writeParts.desc).map (fun d => d.parameters.length) = some 4 := by decide +kernel
theorem dLk_writeParts_0 : decode cLk_writeParts 0 = .ok (.iload 4, 2) := by decide +kernel
theorem dLk_writeParts_2 : decode cLk_writeParts 2 = .ok (.istore 5, 2) := by decide +kernel
theorem dLk_writeParts_4 : decode cLk_writeParts 4 = .ok (.iconst 0, 1) := by decide +kernel
theorem dLk_writeParts_5 : decode cLk_writeParts 5 = .ok (.istore 6, 2) := by decide +kernel
theorem dLk_writeParts_7 : decode cLk_writeParts 7 = .ok (.iload 6, 2) := by decide +kernel
theorem dLk_writeParts_9 : decode cLk_writeParts 9 = .ok (.iconst 4, 1) := by decide +kernel
theorem dLk_writeParts_10 : decode cLk_writeParts 10 = .ok (.if_icmp .ge 82, 3) := by decide +kernel
theorem dLk_writeParts_13 : decode cLk_writeParts 13 = .ok (.aload_n 1, 1) := by decide +kernel
theorem dLk_writeParts_14 : decode cLk_writeParts 14 = .ok (.iload 6, 2) := by decide +kernel
theorem dLk_writeParts_16 : decode cLk_writeParts 16 = .ok (.aaload, 1) := by decide +kernel
theorem dLk_writeParts_17 : decode cLk_writeParts 17 = .ok (.getfield 72, 3) := by decide +kernel
theorem dLk_writeParts_20 : decode cLk_writeParts 20 = .ok (.iload_n 2, 1) := by decide +kernel
theorem dLk_writeParts_21 : decode cLk_writeParts 21 = .ok (.aaload, 1) := by decide +kernel
theorem dLk_writeParts_22 : decode cLk_writeParts 22 = .ok (.astore 7, 2) := by decide +kernel
theorem dLk_writeParts_24 : decode cLk_writeParts 24 = .ok (.iload 5, 2) := by decide +kernel
theorem dLk_writeParts_26 : decode cLk_writeParts 26 = .ok (.iconst 4, 1) := by decide +kernel
theorem dLk_writeParts_27 : decode cLk_writeParts 27 = .ok (.invokestatic 68, 3) := by decide +kernel
theorem dLk_writeParts_30 : decode cLk_writeParts 30 = .ok (.istore 8, 2) := by decide +kernel
theorem dLk_writeParts_32 : decode cLk_writeParts 32 = .ok (.aload_n 0, 1) := by decide +kernel
theorem dLk_writeParts_33 : decode cLk_writeParts 33 = .ok (.getfield 17, 3) := by decide +kernel
theorem dLk_writeParts_36 : decode cLk_writeParts 36 = .ok (.iload_n 2, 1) := by decide +kernel
theorem dLk_writeParts_37 : decode cLk_writeParts 37 = .ok (.aaload, 1) := by decide +kernel
theorem dLk_writeParts_38 : decode cLk_writeParts 38 = .ok (.iload 6, 2) := by decide +kernel
theorem dLk_writeParts_40 : decode cLk_writeParts 40 = .ok (.iload 8, 2) := by decide +kernel
theorem dLk_writeParts_42 : decode cLk_writeParts 42 = .ok (.iastore, 1) := by decide +kernel
theorem dLk_writeParts_43 : decode cLk_writeParts 43 = .ok (.aload 7, 2) := by decide +kernel
theorem dLk_writeParts_45 : decode cLk_writeParts 45 = .ok (.getfield 78, 3) := by decide +kernel
theorem dLk_writeParts_48 : decode cLk_writeParts 48 = .ok (.iconst 0, 1) := by decide +kernel
theorem dLk_writeParts_49 : decode cLk_writeParts 49 = .ok (.aload_n 3, 1) := by decide +kernel
theorem dLk_writeParts_50 : decode cLk_writeParts 50 = .ok (.getfield 84, 3) := by decide +kernel
theorem dLk_writeParts_53 : decode cLk_writeParts 53 = .ok (.iload 8, 2) := by decide +kernel
theorem dLk_writeParts_55 : decode cLk_writeParts 55 = .ok (.aload 7, 2) := by decide +kernel
theorem dLk_writeParts_57 : decode cLk_writeParts 57 = .ok (.getfield 85, 3) := by decide +kernel
theorem dLk_writeParts_60 : decode cLk_writeParts 60 = .ok (.invokestatic 86, 3) := by decide +kernel
theorem dLk_writeParts_63 : decode cLk_writeParts 63 = .ok (.aload 7, 2) := by decide +kernel
theorem dLk_writeParts_65 : decode cLk_writeParts 65 = .ok (.getfield 85, 3) := by decide +kernel
theorem dLk_writeParts_68 : decode cLk_writeParts 68 = .ok (.ifCond .ne 8, 3) := by decide +kernel
theorem dLk_writeParts_71 : decode cLk_writeParts 71 = .ok (.iload 5, 2) := by decide +kernel
theorem dLk_writeParts_73 : decode cLk_writeParts 73 = .ok (.goto 11, 3) := by decide +kernel
theorem dLk_writeParts_76 : decode cLk_writeParts 76 = .ok (.iload 8, 2) := by decide +kernel
theorem dLk_writeParts_78 : decode cLk_writeParts 78 = .ok (.aload 7, 2) := by decide +kernel
theorem dLk_writeParts_80 : decode cLk_writeParts 80 = .ok (.getfield 85, 3) := by decide +kernel
theorem dLk_writeParts_83 : decode cLk_writeParts 83 = .ok (.iadd, 1) := by decide +kernel
theorem dLk_writeParts_84 : decode cLk_writeParts 84 = .ok (.istore 5, 2) := by decide +kernel
theorem dLk_writeParts_86 : decode cLk_writeParts 86 = .ok (.iinc 6 1, 3) := by decide +kernel
theorem dLk_writeParts_89 : decode cLk_writeParts 89 = .ok (.goto (-82), 3) := by decide +kernel
theorem dLk_writeParts_92 : decode cLk_writeParts 92 = .ok (.iload 5, 2) := by decide +kernel
theorem dLk_writeParts_94 : decode cLk_writeParts 94 = .ok (.ireturn, 1) := by decide +kernel
abbrev yLk_placeDefinitions : MethodName := ⟨"ImageForge$Linker", "placeDefinitions", "([LImageForge$Name;)V"⟩
abbrev cLk_placeDefinitions : ByteArray := prog_3_method_5_code
abbrev wsLk_placeDefinitions : List Cond := .code yLk_placeDefinitions cLk_placeDefinitions 4 none :: bw
theorem gdLk_placeDefinitions : GoodIn bw wsLk_placeDefinitions := gd_of tw_589
theorem hdLk_placeDefinitions : yLk_placeDefinitions.cls ≠ "java/lang/invoke/MethodHandle" ∧ yLk_placeDefinitions.cls ≠ "java/lang/invoke/VarHandle" ∧ (parseMethodDescriptor yLk_placeDefinitions.desc).map (fun d => d.parameters.length) = some 1 := by decide +kernel
theorem dLk_placeDefinitions_0 : decode cLk_placeDefinitions 0 = .ok (.iconst 0, 1) := by decide +kernel
theorem dLk_placeDefinitions_1 : decode cLk_placeDefinitions 1 = .ok (.istore_n 2, 1) := by decide +kernel
theorem dLk_placeDefinitions_2 : decode cLk_placeDefinitions 2 = .ok (.iload_n 2, 1) := by decide +kernel
theorem dLk_placeDefinitions_3 : decode cLk_placeDefinitions 3 = .ok (.bipush 16, 2) := by decide +kernel
theorem dLk_placeDefinitions_5 : decode cLk_placeDefinitions 5 = .ok (.if_icmp .ge 38, 3) := by decide +kernel
theorem dLk_placeDefinitions_8 : decode cLk_placeDefinitions 8 = .ok (.aload_n 1, 1) := by decide +kernel
theorem dLk_placeDefinitions_9 : decode cLk_placeDefinitions 9 = .ok (.iload_n 2, 1) := by decide +kernel
theorem dLk_placeDefinitions_10 : decode cLk_placeDefinitions 10 = .ok (.aaload, 1) := by decide +kernel
theorem dLk_placeDefinitions_11 : decode cLk_placeDefinitions 11 = .ok (.astore_n 3, 1) := by decide +kernel
theorem dLk_placeDefinitions_12 : decode cLk_placeDefinitions 12 = .ok (.aload_n 0, 1) := by decide +kernel
theorem dLk_placeDefinitions_13 : decode cLk_placeDefinitions 13 = .ok (.getfield 9, 3) := by decide +kernel
theorem dLk_placeDefinitions_16 : decode cLk_placeDefinitions 16 = .ok (.iload_n 2, 1) := by decide +kernel
theorem dLk_placeDefinitions_17 : decode cLk_placeDefinitions 17 = .ok (.aload_n 0, 1) := by decide +kernel
theorem dLk_placeDefinitions_18 : decode cLk_placeDefinitions 18 = .ok (.getfield 17, 3) := by decide +kernel
theorem dLk_placeDefinitions_21 : decode cLk_placeDefinitions 21 = .ok (.aload_n 3, 1) := by decide +kernel
theorem dLk_placeDefinitions_22 : decode cLk_placeDefinitions 22 = .ok (.getfield 92, 3) := by decide +kernel
theorem dLk_placeDefinitions_25 : decode cLk_placeDefinitions 25 = .ok (.aaload, 1) := by decide +kernel
theorem dLk_placeDefinitions_26 : decode cLk_placeDefinitions 26 = .ok (.aload_n 3, 1) := by decide +kernel
theorem dLk_placeDefinitions_27 : decode cLk_placeDefinitions 27 = .ok (.getfield 97, 3) := by decide +kernel
theorem dLk_placeDefinitions_30 : decode cLk_placeDefinitions 30 = .ok (.iaload, 1) := by decide +kernel
theorem dLk_placeDefinitions_31 : decode cLk_placeDefinitions 31 = .ok (.aload_n 3, 1) := by decide +kernel
theorem dLk_placeDefinitions_32 : decode cLk_placeDefinitions 32 = .ok (.getfield 100, 3) := by decide +kernel
theorem dLk_placeDefinitions_35 : decode cLk_placeDefinitions 35 = .ok (.iadd, 1) := by decide +kernel
theorem dLk_placeDefinitions_36 : decode cLk_placeDefinitions 36 = .ok (.iastore, 1) := by decide +kernel
theorem dLk_placeDefinitions_37 : decode cLk_placeDefinitions 37 = .ok (.iinc 2 1, 3) := by decide +kernel
theorem dLk_placeDefinitions_40 : decode cLk_placeDefinitions 40 = .ok (.goto (-38), 3) := by decide +kernel
theorem dLk_placeDefinitions_43 : decode cLk_placeDefinitions 43 = .ok (.return_, 1) := by decide +kernel
abbrev yLk_countLibraries : MethodName := ⟨"ImageForge$Linker", "countLibraries", "([LImageForge$Name;)I"⟩
abbrev cLk_countLibraries : ByteArray := prog_3_method_7_code
abbrev wsLk_countLibraries : List Cond := .code yLk_countLibraries cLk_countLibraries 7 (some .int) :: bw
theorem gdLk_countLibraries : GoodIn bw wsLk_countLibraries := gd_of tw_597
theorem hdLk_countLibraries : yLk_countLibraries.cls ≠ "java/lang/invoke/MethodHandle" ∧ yLk_countLibraries.cls ≠ "java/lang/invoke/VarHandle" ∧ (parseMethodDescriptor yLk_countLibraries.desc).map (fun d => d.parameters.length) = some 1 := by decide +kernel
theorem dLk_countLibraries_0 : decode cLk_countLibraries 0 = .ok (.iconst 0, 1) := by decide +kernel
theorem dLk_countLibraries_1 : decode cLk_countLibraries 1 = .ok (.istore_n 2, 1) := by decide +kernel
theorem dLk_countLibraries_2 : decode cLk_countLibraries 2 = .ok (.aload_n 1, 1) := by decide +kernel
theorem dLk_countLibraries_3 : decode cLk_countLibraries 3 = .ok (.astore_n 3, 1) := by decide +kernel
theorem dLk_countLibraries_4 : decode cLk_countLibraries 4 = .ok (.aload_n 3, 1) := by decide +kernel
theorem dLk_countLibraries_5 : decode cLk_countLibraries 5 = .ok (.arraylength, 1) := by decide +kernel
theorem dLk_countLibraries_6 : decode cLk_countLibraries 6 = .ok (.istore 4, 2) := by decide +kernel
theorem dLk_countLibraries_8 : decode cLk_countLibraries 8 = .ok (.iconst 0, 1) := by decide +kernel
theorem dLk_countLibraries_9 : decode cLk_countLibraries 9 = .ok (.istore 5, 2) := by decide +kernel
theorem dLk_countLibraries_11 : decode cLk_countLibraries 11 = .ok (.iload 5, 2) := by decide +kernel
theorem dLk_countLibraries_13 : decode cLk_countLibraries 13 = .ok (.iload 4, 2) := by decide +kernel
theorem dLk_countLibraries_15 : decode cLk_countLibraries 15 = .ok (.if_icmp .ge 33, 3) := by decide +kernel
theorem dLk_countLibraries_18 : decode cLk_countLibraries 18 = .ok (.aload_n 3, 1) := by decide +kernel
theorem dLk_countLibraries_19 : decode cLk_countLibraries 19 = .ok (.iload 5, 2) := by decide +kernel
theorem dLk_countLibraries_21 : decode cLk_countLibraries 21 = .ok (.aaload, 1) := by decide +kernel
theorem dLk_countLibraries_22 : decode cLk_countLibraries 22 = .ok (.astore 6, 2) := by decide +kernel
theorem dLk_countLibraries_24 : decode cLk_countLibraries 24 = .ok (.aload 6, 2) := by decide +kernel
theorem dLk_countLibraries_26 : decode cLk_countLibraries 26 = .ok (.invokevirtual 115, 3) := by decide +kernel
theorem dLk_countLibraries_29 : decode cLk_countLibraries 29 = .ok (.ifCond .eq 13, 3) := by decide +kernel
theorem dLk_countLibraries_32 : decode cLk_countLibraries 32 = .ok (.iload_n 2, 1) := by decide +kernel
theorem dLk_countLibraries_33 : decode cLk_countLibraries 33 = .ok (.iconst 1, 1) := by decide +kernel
theorem dLk_countLibraries_34 : decode cLk_countLibraries 34 = .ok (.aload 6, 2) := by decide +kernel
theorem dLk_countLibraries_36 : decode cLk_countLibraries 36 = .ok (.getfield 119, 3) := by decide +kernel
theorem dLk_countLibraries_39 : decode cLk_countLibraries 39 = .ok (.ishl, 1) := by decide +kernel
theorem dLk_countLibraries_40 : decode cLk_countLibraries 40 = .ok (.ior, 1) := by decide +kernel
theorem dLk_countLibraries_41 : decode cLk_countLibraries 41 = .ok (.istore_n 2, 1) := by decide +kernel
theorem dLk_countLibraries_42 : decode cLk_countLibraries 42 = .ok (.iinc 5 1, 3) := by decide +kernel
theorem dLk_countLibraries_45 : decode cLk_countLibraries 45 = .ok (.goto (-34), 3) := by decide +kernel
theorem dLk_countLibraries_48 : decode cLk_countLibraries 48 = .ok (.iload_n 2, 1) := by decide +kernel
theorem dLk_countLibraries_49 : decode cLk_countLibraries 49 = .ok (.invokestatic 122, 3) := by decide +kernel
theorem dLk_countLibraries_52 : decode cLk_countLibraries 52 = .ok (.ireturn, 1) := by decide +kernel
abbrev yLk_writeSlots : MethodName := ⟨"ImageForge$Linker", "writeSlots", "([LImageForge$Name;ILImageForge$Image;I)I"⟩
abbrev cLk_writeSlots : ByteArray := prog_3_method_8_code
abbrev wsLk_writeSlots : List Cond := .code yLk_writeSlots cLk_writeSlots 7 (some .int) :: bw
theorem gdLk_writeSlots : GoodIn bw wsLk_writeSlots := gd_of tw_608
theorem hdLk_writeSlots : yLk_writeSlots.cls ≠ "java/lang/invoke/MethodHandle" ∧ yLk_writeSlots.cls ≠ "java/lang/invoke/VarHandle" ∧ (parseMethodDescriptor yLk_writeSlots.desc).map (fun d => d.parameters.length) = some 4 := by decide +kernel
theorem dLk_writeSlots_0 : decode cLk_writeSlots 0 = .ok (.iload 4, 2) := by decide +kernel
theorem dLk_writeSlots_2 : decode cLk_writeSlots 2 = .ok (.istore 5, 2) := by decide +kernel
theorem dLk_writeSlots_4 : decode cLk_writeSlots 4 = .ok (.iconst 0, 1) := by decide +kernel
theorem dLk_writeSlots_5 : decode cLk_writeSlots 5 = .ok (.istore 6, 2) := by decide +kernel
theorem dLk_writeSlots_7 : decode cLk_writeSlots 7 = .ok (.iload 6, 2) := by decide +kernel
theorem dLk_writeSlots_9 : decode cLk_writeSlots 9 = .ok (.bipush 16, 2) := by decide +kernel
theorem dLk_writeSlots_11 : decode cLk_writeSlots 11 = .ok (.if_icmp .ge 48, 3) := by decide +kernel
theorem dLk_writeSlots_14 : decode cLk_writeSlots 14 = .ok (.aload_n 1, 1) := by decide +kernel
theorem dLk_writeSlots_15 : decode cLk_writeSlots 15 = .ok (.iload 6, 2) := by decide +kernel
theorem dLk_writeSlots_17 : decode cLk_writeSlots 17 = .ok (.aaload, 1) := by decide +kernel
theorem dLk_writeSlots_18 : decode cLk_writeSlots 18 = .ok (.getfield 119, 3) := by decide +kernel
theorem dLk_writeSlots_21 : decode cLk_writeSlots 21 = .ok (.iload_n 2, 1) := by decide +kernel
theorem dLk_writeSlots_22 : decode cLk_writeSlots 22 = .ok (.if_icmp .ne 31, 3) := by decide +kernel
theorem dLk_writeSlots_25 : decode cLk_writeSlots 25 = .ok (.aload_n 3, 1) := by decide +kernel
theorem dLk_writeSlots_26 : decode cLk_writeSlots 26 = .ok (.iload 5, 2) := by decide +kernel
theorem dLk_writeSlots_28 : decode cLk_writeSlots 28 = .ok (.aload_n 1, 1) := by decide +kernel
theorem dLk_writeSlots_29 : decode cLk_writeSlots 29 = .ok (.iload 6, 2) := by decide +kernel
theorem dLk_writeSlots_31 : decode cLk_writeSlots 31 = .ok (.aaload, 1) := by decide +kernel
theorem dLk_writeSlots_32 : decode cLk_writeSlots 32 = .ok (.getfield 128, 3) := by decide +kernel
theorem dLk_writeSlots_35 : decode cLk_writeSlots 35 = .ok (.ldc 131, 2) := by decide +kernel
theorem dLk_writeSlots_37 : decode cLk_writeSlots 37 = .ok (.ior, 1) := by decide +kernel
theorem dLk_writeSlots_38 : decode cLk_writeSlots 38 = .ok (.invokevirtual 111, 3) := by decide +kernel
theorem dLk_writeSlots_41 : decode cLk_writeSlots 41 = .ok (.aload_n 0, 1) := by decide +kernel
theorem dLk_writeSlots_42 : decode cLk_writeSlots 42 = .ok (.getfield 9, 3) := by decide +kernel
theorem dLk_writeSlots_45 : decode cLk_writeSlots 45 = .ok (.iload 6, 2) := by decide +kernel
theorem dLk_writeSlots_47 : decode cLk_writeSlots 47 = .ok (.iload 5, 2) := by decide +kernel
theorem dLk_writeSlots_49 : decode cLk_writeSlots 49 = .ok (.iastore, 1) := by decide +kernel
theorem dLk_writeSlots_50 : decode cLk_writeSlots 50 = .ok (.iinc 5 4, 3) := by decide +kernel
theorem dLk_writeSlots_53 : decode cLk_writeSlots 53 = .ok (.iinc 6 1, 3) := by decide +kernel
theorem dLk_writeSlots_56 : decode cLk_writeSlots 56 = .ok (.goto (-49), 3) := by decide +kernel
theorem dLk_writeSlots_59 : decode cLk_writeSlots 59 = .ok (.iload 5, 2) := by decide +kernel
theorem dLk_writeSlots_61 : decode cLk_writeSlots 61 = .ok (.ireturn, 1) := by decide +kernel
abbrev yLk_writeImports : MethodName := ⟨"ImageForge$Linker", "writeImports", "([LImageForge$Name;LImageForge$Image;I)I"⟩
abbrev cLk_writeImports : ByteArray := prog_3_method_6_code
abbrev wsLk_writeImports : List Cond := .code yLk_writeImports cLk_writeImports 9 (some .int) :: bw
theorem gdLk_writeImports : GoodIn bw wsLk_writeImports := gd_of tw_593
theorem hdLk_writeImports : yLk_writeImports.cls ≠ "java/lang/invoke/MethodHandle" ∧ yLk_writeImports.cls ≠ "java/lang/invoke/VarHandle" ∧ (parseMethodDescriptor yLk_writeImports.desc).map (fun d => d.parameters.length) = some 3 := by decide +kernel
theorem dLk_writeImports_0 : decode cLk_writeImports 0 = .ok (.aload_n 0, 1) := by decide +kernel
theorem dLk_writeImports_1 : decode cLk_writeImports 1 = .ok (.aload_n 1, 1) := by decide +kernel
theorem dLk_writeImports_2 : decode cLk_writeImports 2 = .ok (.invokevirtual 103, 3) := by decide +kernel
theorem dLk_writeImports_5 : decode cLk_writeImports 5 = .ok (.istore 4, 2) := by decide +kernel
theorem dLk_writeImports_7 : decode cLk_writeImports 7 = .ok (.iload 4, 2) := by decide +kernel
theorem dLk_writeImports_9 : decode cLk_writeImports 9 = .ok (.ifCond .ne 5, 3) := by decide +kernel
theorem dLk_writeImports_12 : decode cLk_writeImports 12 = .ok (.iload_n 3, 1) := by decide +kernel
theorem dLk_writeImports_13 : decode cLk_writeImports 13 = .ok (.ireturn, 1) := by decide +kernel
theorem dLk_writeImports_14 : decode cLk_writeImports 14 = .ok (.iload_n 3, 1) := by decide +kernel
theorem dLk_writeImports_15 : decode cLk_writeImports 15 = .ok (.istore 5, 2) := by decide +kernel
theorem dLk_writeImports_17 : decode cLk_writeImports 17 = .ok (.iload_n 3, 1) := by decide +kernel
theorem dLk_writeImports_18 : decode cLk_writeImports 18 = .ok (.iload 4, 2) := by decide +kernel
theorem dLk_writeImports_20 : decode cLk_writeImports 20 = .ok (.iconst 1, 1) := by decide +kernel
theorem dLk_writeImports_21 : decode cLk_writeImports 21 = .ok (.iadd, 1) := by decide +kernel
theorem dLk_writeImports_22 : decode cLk_writeImports 22 = .ok (.bipush 8, 2) := by decide +kernel
theorem dLk_writeImports_24 : decode cLk_writeImports 24 = .ok (.imul, 1) := by decide +kernel
theorem dLk_writeImports_25 : decode cLk_writeImports 25 = .ok (.iadd, 1) := by decide +kernel
theorem dLk_writeImports_26 : decode cLk_writeImports 26 = .ok (.istore 6, 2) := by decide +kernel
theorem dLk_writeImports_28 : decode cLk_writeImports 28 = .ok (.iconst 0, 1) := by decide +kernel
theorem dLk_writeImports_29 : decode cLk_writeImports 29 = .ok (.istore 7, 2) := by decide +kernel
theorem dLk_writeImports_31 : decode cLk_writeImports 31 = .ok (.iload 7, 2) := by decide +kernel
theorem dLk_writeImports_33 : decode cLk_writeImports 33 = .ok (.iconst 4, 1) := by decide +kernel
theorem dLk_writeImports_34 : decode cLk_writeImports 34 = .ok (.if_icmp .ge 57, 3) := by decide +kernel
theorem dLk_writeImports_37 : decode cLk_writeImports 37 = .ok (.aload_n 0, 1) := by decide +kernel
theorem dLk_writeImports_38 : decode cLk_writeImports 38 = .ok (.aload_n 1, 1) := by decide +kernel
theorem dLk_writeImports_39 : decode cLk_writeImports 39 = .ok (.iload 7, 2) := by decide +kernel
theorem dLk_writeImports_41 : decode cLk_writeImports 41 = .ok (.aload_n 2, 1) := by decide +kernel
theorem dLk_writeImports_42 : decode cLk_writeImports 42 = .ok (.iload 6, 2) := by decide +kernel
theorem dLk_writeImports_44 : decode cLk_writeImports 44 = .ok (.invokevirtual 107, 3) := by decide +kernel
theorem dLk_writeImports_47 : decode cLk_writeImports 47 = .ok (.istore 8, 2) := by decide +kernel
theorem dLk_writeImports_49 : decode cLk_writeImports 49 = .ok (.iload 8, 2) := by decide +kernel
theorem dLk_writeImports_51 : decode cLk_writeImports 51 = .ok (.iload 6, 2) := by decide +kernel
theorem dLk_writeImports_53 : decode cLk_writeImports 53 = .ok (.if_icmp .eq 32, 3) := by decide +kernel
theorem dLk_writeImports_56 : decode cLk_writeImports 56 = .ok (.aload_n 2, 1) := by decide +kernel
theorem dLk_writeImports_57 : decode cLk_writeImports 57 = .ok (.iload 5, 2) := by decide +kernel
theorem dLk_writeImports_59 : decode cLk_writeImports 59 = .ok (.iload 7, 2) := by decide +kernel
theorem dLk_writeImports_61 : decode cLk_writeImports 61 = .ok (.iconst 1, 1) := by decide +kernel
theorem dLk_writeImports_62 : decode cLk_writeImports 62 = .ok (.iadd, 1) := by decide +kernel
theorem dLk_writeImports_63 : decode cLk_writeImports 63 = .ok (.invokevirtual 111, 3) := by decide +kernel
theorem dLk_writeImports_66 : decode cLk_writeImports 66 = .ok (.aload_n 2, 1) := by decide +kernel
theorem dLk_writeImports_67 : decode cLk_writeImports 67 = .ok (.iload 5, 2) := by decide +kernel
theorem dLk_writeImports_69 : decode cLk_writeImports 69 = .ok (.iconst 4, 1) := by decide +kernel
theorem dLk_writeImports_70 : decode cLk_writeImports 70 = .ok (.iadd, 1) := by decide +kernel
theorem dLk_writeImports_71 : decode cLk_writeImports 71 = .ok (.iload 6, 2) := by decide +kernel
theorem dLk_writeImports_73 : decode cLk_writeImports 73 = .ok (.invokevirtual 111, 3) := by decide +kernel
theorem dLk_writeImports_76 : decode cLk_writeImports 76 = .ok (.iinc 5 8, 3) := by decide +kernel
theorem dLk_writeImports_79 : decode cLk_writeImports 79 = .ok (.iload 8, 2) := by decide +kernel
theorem dLk_writeImports_81 : decode cLk_writeImports 81 = .ok (.iconst 4, 1) := by decide +kernel
theorem dLk_writeImports_82 : decode cLk_writeImports 82 = .ok (.iadd, 1) := by decide +kernel
theorem dLk_writeImports_83 : decode cLk_writeImports 83 = .ok (.istore 6, 2) := by decide +kernel
theorem dLk_writeImports_85 : decode cLk_writeImports 85 = .ok (.iinc 7 1, 3) := by decide +kernel
theorem dLk_writeImports_88 : decode cLk_writeImports 88 = .ok (.goto (-57), 3) := by decide +kernel
theorem dLk_writeImports_91 : decode cLk_writeImports 91 = .ok (.iload 6, 2) := by decide +kernel
theorem dLk_writeImports_93 : decode cLk_writeImports 93 = .ok (.ireturn, 1) := by decide +kernel
abbrev yLk_writeExports : MethodName := ⟨"ImageForge$Linker", "writeExports", "([LImageForge$Name;LImageForge$Image;I)I"⟩
abbrev cLk_writeExports : ByteArray := prog_3_method_9_code
abbrev wsLk_writeExports : List Cond := .code yLk_writeExports cLk_writeExports 7 (some .int) :: bw
theorem gdLk_writeExports : GoodIn bw wsLk_writeExports := gd_of tw_614
theorem hdLk_writeExports : yLk_writeExports.cls ≠ "java/lang/invoke/MethodHandle" ∧ yLk_writeExports.cls ≠ "java/lang/invoke/VarHandle" ∧ (parseMethodDescriptor yLk_writeExports.desc).map (fun d => d.parameters.length) = some 3 := by decide +kernel
theorem dLk_writeExports_0 : decode cLk_writeExports 0 = .ok (.iconst 0, 1) := by decide +kernel
theorem dLk_writeExports_1 : decode cLk_writeExports 1 = .ok (.istore 4, 2) := by decide +kernel
theorem dLk_writeExports_3 : decode cLk_writeExports 3 = .ok (.iload_n 3, 1) := by decide +kernel
theorem dLk_writeExports_4 : decode cLk_writeExports 4 = .ok (.iconst 4, 1) := by decide +kernel
theorem dLk_writeExports_5 : decode cLk_writeExports 5 = .ok (.iadd, 1) := by decide +kernel
theorem dLk_writeExports_6 : decode cLk_writeExports 6 = .ok (.istore 5, 2) := by decide +kernel
theorem dLk_writeExports_8 : decode cLk_writeExports 8 = .ok (.iconst 0, 1) := by decide +kernel
theorem dLk_writeExports_9 : decode cLk_writeExports 9 = .ok (.istore 6, 2) := by decide +kernel
theorem dLk_writeExports_11 : decode cLk_writeExports 11 = .ok (.iload 6, 2) := by decide +kernel
theorem dLk_writeExports_13 : decode cLk_writeExports 13 = .ok (.bipush 16, 2) := by decide +kernel
theorem dLk_writeExports_15 : decode cLk_writeExports 15 = .ok (.if_icmp .ge 48, 3) := by decide +kernel
theorem dLk_writeExports_18 : decode cLk_writeExports 18 = .ok (.aload_n 1, 1) := by decide +kernel
theorem dLk_writeExports_19 : decode cLk_writeExports 19 = .ok (.iload 6, 2) := by decide +kernel
theorem dLk_writeExports_21 : decode cLk_writeExports 21 = .ok (.aaload, 1) := by decide +kernel
theorem dLk_writeExports_22 : decode cLk_writeExports 22 = .ok (.getfield 132, 3) := by decide +kernel
theorem dLk_writeExports_25 : decode cLk_writeExports 25 = .ok (.ifCond .eq 32, 3) := by decide +kernel
theorem dLk_writeExports_28 : decode cLk_writeExports 28 = .ok (.aload_n 2, 1) := by decide +kernel
theorem dLk_writeExports_29 : decode cLk_writeExports 29 = .ok (.iload 5, 2) := by decide +kernel
theorem dLk_writeExports_31 : decode cLk_writeExports 31 = .ok (.iload 6, 2) := by decide +kernel
theorem dLk_writeExports_33 : decode cLk_writeExports 33 = .ok (.invokevirtual 111, 3) := by decide +kernel
theorem dLk_writeExports_36 : decode cLk_writeExports 36 = .ok (.aload_n 2, 1) := by decide +kernel
theorem dLk_writeExports_37 : decode cLk_writeExports 37 = .ok (.iload 5, 2) := by decide +kernel
theorem dLk_writeExports_39 : decode cLk_writeExports 39 = .ok (.iconst 4, 1) := by decide +kernel
theorem dLk_writeExports_40 : decode cLk_writeExports 40 = .ok (.iadd, 1) := by decide +kernel
theorem dLk_writeExports_41 : decode cLk_writeExports 41 = .ok (.aload_n 0, 1) := by decide +kernel
theorem dLk_writeExports_42 : decode cLk_writeExports 42 = .ok (.getfield 9, 3) := by decide +kernel
theorem dLk_writeExports_45 : decode cLk_writeExports 45 = .ok (.iload 6, 2) := by decide +kernel
theorem dLk_writeExports_47 : decode cLk_writeExports 47 = .ok (.iaload, 1) := by decide +kernel
theorem dLk_writeExports_48 : decode cLk_writeExports 48 = .ok (.invokevirtual 111, 3) := by decide +kernel
theorem dLk_writeExports_51 : decode cLk_writeExports 51 = .ok (.iinc 5 8, 3) := by decide +kernel
theorem dLk_writeExports_54 : decode cLk_writeExports 54 = .ok (.iinc 4 1, 3) := by decide +kernel
theorem dLk_writeExports_57 : decode cLk_writeExports 57 = .ok (.iinc 6 1, 3) := by decide +kernel
theorem dLk_writeExports_60 : decode cLk_writeExports 60 = .ok (.goto (-49), 3) := by decide +kernel
theorem dLk_writeExports_63 : decode cLk_writeExports 63 = .ok (.iload 4, 2) := by decide +kernel
theorem dLk_writeExports_65 : decode cLk_writeExports 65 = .ok (.ifCond .ne 5, 3) := by decide +kernel
theorem dLk_writeExports_68 : decode cLk_writeExports 68 = .ok (.iload_n 3, 1) := by decide +kernel
theorem dLk_writeExports_69 : decode cLk_writeExports 69 = .ok (.ireturn, 1) := by decide +kernel
theorem dLk_writeExports_70 : decode cLk_writeExports 70 = .ok (.aload_n 2, 1) := by decide +kernel
theorem dLk_writeExports_71 : decode cLk_writeExports 71 = .ok (.iload_n 3, 1) := by decide +kernel
theorem dLk_writeExports_72 : decode cLk_writeExports 72 = .ok (.iload 4, 2) := by decide +kernel
theorem dLk_writeExports_74 : decode cLk_writeExports 74 = .ok (.invokevirtual 111, 3) := by decide +kernel
theorem dLk_writeExports_77 : decode cLk_writeExports 77 = .ok (.iload 5, 2) := by decide +kernel
theorem dLk_writeExports_79 : decode cLk_writeExports 79 = .ok (.ireturn, 1) := by decide +kernel
abbrev yLk_amountFor : MethodName := ⟨"ImageForge$Linker", "amountFor", "(LImageForge$Reference;I)I"⟩
abbrev cLk_amountFor : ByteArray := prog_3_method_11_code
abbrev wsLk_amountFor : List Cond := .code yLk_amountFor cLk_amountFor 4 (some .int) :: bw
theorem gdLk_amountFor : GoodIn bw wsLk_amountFor := gd_of tw_627
theorem hdLk_amountFor : yLk_amountFor.cls ≠ "java/lang/invoke/MethodHandle" ∧ yLk_amountFor.cls ≠ "java/lang/invoke/VarHandle" ∧ (parseMethodDescriptor yLk_amountFor.desc).map (fun d => d.parameters.length) = some 2 := by decide +kernel
theorem dLk_amountFor_0 : decode cLk_amountFor 0 = .ok (.aload_n 0, 1) := by decide +kernel
theorem dLk_amountFor_1 : decode cLk_amountFor 1 = .ok (.getfield 9, 3) := by decide +kernel
theorem dLk_amountFor_4 : decode cLk_amountFor 4 = .ok (.aload_n 1, 1) := by decide +kernel
theorem dLk_amountFor_5 : decode cLk_amountFor 5 = .ok (.invokevirtual 165, 3) := by decide +kernel
theorem dLk_amountFor_8 : decode cLk_amountFor 8 = .ok (.iaload, 1) := by decide +kernel
theorem dLk_amountFor_9 : decode cLk_amountFor 9 = .ok (.istore_n 3, 1) := by decide +kernel
theorem dLk_amountFor_10 : decode cLk_amountFor 10 = .ok (.aload_n 1, 1) := by decide +kernel
theorem dLk_amountFor_11 : decode cLk_amountFor 11 = .ok (.invokevirtual 162, 3) := by decide +kernel
theorem dLk_amountFor_14 : decode cLk_amountFor 14 = .ok (.tableswitch 38 0 2 #[26, 32, 38], 26) := by decide +kernel
theorem dLk_amountFor_40 : decode cLk_amountFor 40 = .ok (.sipush 4096, 3) := by decide +kernel
theorem dLk_amountFor_43 : decode cLk_amountFor 43 = .ok (.iload_n 3, 1) := by decide +kernel
theorem dLk_amountFor_44 : decode cLk_amountFor 44 = .ok (.iadd, 1) := by decide +kernel
theorem dLk_amountFor_45 : decode cLk_amountFor 45 = .ok (.ireturn, 1) := by decide +kernel
theorem dLk_amountFor_46 : decode cLk_amountFor 46 = .ok (.iload_n 3, 1) := by decide +kernel
theorem dLk_amountFor_47 : decode cLk_amountFor 47 = .ok (.iload_n 2, 1) := by decide +kernel
theorem dLk_amountFor_48 : decode cLk_amountFor 48 = .ok (.iconst 4, 1) := by decide +kernel
theorem dLk_amountFor_49 : decode cLk_amountFor 49 = .ok (.iadd, 1) := by decide +kernel
theorem dLk_amountFor_50 : decode cLk_amountFor 50 = .ok (.isub, 1) := by decide +kernel
theorem dLk_amountFor_51 : decode cLk_amountFor 51 = .ok (.ireturn, 1) := by decide +kernel
theorem dLk_amountFor_52 : decode cLk_amountFor 52 = .ok (.iload_n 3, 1) := by decide +kernel
theorem dLk_amountFor_53 : decode cLk_amountFor 53 = .ok (.ireturn, 1) := by decide +kernel
abbrev yLk_writeReferences : MethodName := ⟨"ImageForge$Linker", "writeReferences", "([LImageForge$ObjectFile;LImageForge$Image;)V"⟩
abbrev cLk_writeReferences : ByteArray := prog_3_method_10_code
abbrev wsLk_writeReferences : List Cond := .code yLk_writeReferences cLk_writeReferences 8 none :: bw
theorem gdLk_writeReferences : GoodIn bw wsLk_writeReferences := gd_of tw_618
theorem hdLk_writeReferences : yLk_writeReferences.cls ≠ "java/lang/invoke/MethodHandle" ∧ yLk_writeReferences.cls ≠ "java/lang/invoke/VarHandle" ∧ (parseMethodDescriptor yLk_writeReferences.desc).map (fun d => d.parameters.length) = some 2 := by decide +kernel
theorem dLk_writeReferences_0 : decode cLk_writeReferences 0 = .ok (.iconst 0, 1) := by decide +kernel
theorem dLk_writeReferences_1 : decode cLk_writeReferences 1 = .ok (.istore_n 3, 1) := by decide +kernel
theorem dLk_writeReferences_2 : decode cLk_writeReferences 2 = .ok (.iload_n 3, 1) := by decide +kernel
theorem dLk_writeReferences_3 : decode cLk_writeReferences 3 = .ok (.sipush 896, 3) := by decide +kernel
theorem dLk_writeReferences_6 : decode cLk_writeReferences 6 = .ok (.if_icmp .ge 16, 3) := by decide +kernel
theorem dLk_writeReferences_9 : decode cLk_writeReferences 9 = .ok (.aload_n 0, 1) := by decide +kernel
theorem dLk_writeReferences_10 : decode cLk_writeReferences 10 = .ok (.getfield 20, 3) := by decide +kernel
theorem dLk_writeReferences_13 : decode cLk_writeReferences 13 = .ok (.iload_n 3, 1) := by decide +kernel
theorem dLk_writeReferences_14 : decode cLk_writeReferences 14 = .ok (.iconst 0, 1) := by decide +kernel
theorem dLk_writeReferences_15 : decode cLk_writeReferences 15 = .ok (.bastore, 1) := by decide +kernel
theorem dLk_writeReferences_16 : decode cLk_writeReferences 16 = .ok (.iinc 3 1, 3) := by decide +kernel
theorem dLk_writeReferences_19 : decode cLk_writeReferences 19 = .ok (.goto (-17), 3) := by decide +kernel
theorem dLk_writeReferences_22 : decode cLk_writeReferences 22 = .ok (.iconst 0, 1) := by decide +kernel
theorem dLk_writeReferences_23 : decode cLk_writeReferences 23 = .ok (.istore_n 3, 1) := by decide +kernel
theorem dLk_writeReferences_24 : decode cLk_writeReferences 24 = .ok (.iload_n 3, 1) := by decide +kernel
theorem dLk_writeReferences_25 : decode cLk_writeReferences 25 = .ok (.iconst 4, 1) := by decide +kernel
theorem dLk_writeReferences_26 : decode cLk_writeReferences 26 = .ok (.if_icmp .ge 102, 3) := by decide +kernel
theorem dLk_writeReferences_29 : decode cLk_writeReferences 29 = .ok (.aload_n 1, 1) := by decide +kernel
theorem dLk_writeReferences_30 : decode cLk_writeReferences 30 = .ok (.iload_n 3, 1) := by decide +kernel
theorem dLk_writeReferences_31 : decode cLk_writeReferences 31 = .ok (.aaload, 1) := by decide +kernel
theorem dLk_writeReferences_32 : decode cLk_writeReferences 32 = .ok (.getfield 136, 3) := by decide +kernel
theorem dLk_writeReferences_35 : decode cLk_writeReferences 35 = .ok (.astore 4, 2) := by decide +kernel
theorem dLk_writeReferences_37 : decode cLk_writeReferences 37 = .ok (.iconst 0, 1) := by decide +kernel
theorem dLk_writeReferences_38 : decode cLk_writeReferences 38 = .ok (.istore 5, 2) := by decide +kernel
theorem dLk_writeReferences_40 : decode cLk_writeReferences 40 = .ok (.iload 5, 2) := by decide +kernel
theorem dLk_writeReferences_42 : decode cLk_writeReferences 42 = .ok (.aload 4, 2) := by decide +kernel
theorem dLk_writeReferences_44 : decode cLk_writeReferences 44 = .ok (.invokevirtual 140, 3) := by decide +kernel
theorem dLk_writeReferences_47 : decode cLk_writeReferences 47 = .ok (.if_icmp .ge 75, 3) := by decide +kernel
theorem dLk_writeReferences_50 : decode cLk_writeReferences 50 = .ok (.aload 4, 2) := by decide +kernel
theorem dLk_writeReferences_52 : decode cLk_writeReferences 52 = .ok (.iload 5, 2) := by decide +kernel
theorem dLk_writeReferences_54 : decode cLk_writeReferences 54 = .ok (.invokevirtual 145, 3) := by decide +kernel
theorem dLk_writeReferences_57 : decode cLk_writeReferences 57 = .ok (.checkcast 149, 3) := by decide +kernel
theorem dLk_writeReferences_60 : decode cLk_writeReferences 60 = .ok (.astore 6, 2) := by decide +kernel
theorem dLk_writeReferences_62 : decode cLk_writeReferences 62 = .ok (.aload_n 0, 1) := by decide +kernel
theorem dLk_writeReferences_63 : decode cLk_writeReferences 63 = .ok (.getfield 17, 3) := by decide +kernel
theorem dLk_writeReferences_66 : decode cLk_writeReferences 66 = .ok (.aload 6, 2) := by decide +kernel
theorem dLk_writeReferences_68 : decode cLk_writeReferences 68 = .ok (.invokevirtual 151, 3) := by decide +kernel
theorem dLk_writeReferences_71 : decode cLk_writeReferences 71 = .ok (.aaload, 1) := by decide +kernel
theorem dLk_writeReferences_72 : decode cLk_writeReferences 72 = .ok (.iload_n 3, 1) := by decide +kernel
theorem dLk_writeReferences_73 : decode cLk_writeReferences 73 = .ok (.iaload, 1) := by decide +kernel
theorem dLk_writeReferences_74 : decode cLk_writeReferences 74 = .ok (.aload 6, 2) := by decide +kernel
theorem dLk_writeReferences_76 : decode cLk_writeReferences 76 = .ok (.invokevirtual 153, 3) := by decide +kernel
theorem dLk_writeReferences_79 : decode cLk_writeReferences 79 = .ok (.iadd, 1) := by decide +kernel
theorem dLk_writeReferences_80 : decode cLk_writeReferences 80 = .ok (.istore 7, 2) := by decide +kernel
theorem dLk_writeReferences_82 : decode cLk_writeReferences 82 = .ok (.aload_n 2, 1) := by decide +kernel
theorem dLk_writeReferences_83 : decode cLk_writeReferences 83 = .ok (.iload 7, 2) := by decide +kernel
theorem dLk_writeReferences_85 : decode cLk_writeReferences 85 = .ok (.aload_n 0, 1) := by decide +kernel
theorem dLk_writeReferences_86 : decode cLk_writeReferences 86 = .ok (.aload 6, 2) := by decide +kernel
theorem dLk_writeReferences_88 : decode cLk_writeReferences 88 = .ok (.iload 7, 2) := by decide +kernel
theorem dLk_writeReferences_90 : decode cLk_writeReferences 90 = .ok (.invokevirtual 155, 3) := by decide +kernel
theorem dLk_writeReferences_93 : decode cLk_writeReferences 93 = .ok (.invokevirtual 159, 3) := by decide +kernel
theorem dLk_writeReferences_96 : decode cLk_writeReferences 96 = .ok (.aload_n 0, 1) := by decide +kernel
theorem dLk_writeReferences_97 : decode cLk_writeReferences 97 = .ok (.getfield 20, 3) := by decide +kernel
theorem dLk_writeReferences_100 : decode cLk_writeReferences 100 = .ok (.iload 7, 2) := by decide +kernel
theorem dLk_writeReferences_102 : decode cLk_writeReferences 102 = .ok (.aload 6, 2) := by decide +kernel
theorem dLk_writeReferences_104 : decode cLk_writeReferences 104 = .ok (.invokevirtual 162, 3) := by decide +kernel
theorem dLk_writeReferences_107 : decode cLk_writeReferences 107 = .ok (.ifCond .ne 7, 3) := by decide +kernel
theorem dLk_writeReferences_110 : decode cLk_writeReferences 110 = .ok (.iconst 1, 1) := by decide +kernel
theorem dLk_writeReferences_111 : decode cLk_writeReferences 111 = .ok (.goto 4, 3) := by decide +kernel
theorem dLk_writeReferences_114 : decode cLk_writeReferences 114 = .ok (.iconst 0, 1) := by decide +kernel
theorem dLk_writeReferences_115 : decode cLk_writeReferences 115 = .ok (.bastore, 1) := by decide +kernel
theorem dLk_writeReferences_116 : decode cLk_writeReferences 116 = .ok (.iinc 5 1, 3) := by decide +kernel
theorem dLk_writeReferences_119 : decode cLk_writeReferences 119 = .ok (.goto (-79), 3) := by decide +kernel
theorem dLk_writeReferences_122 : decode cLk_writeReferences 122 = .ok (.iinc 3 1, 3) := by decide +kernel
theorem dLk_writeReferences_125 : decode cLk_writeReferences 125 = .ok (.goto (-101), 3) := by decide +kernel
theorem dLk_writeReferences_128 : decode cLk_writeReferences 128 = .ok (.return_, 1) := by decide +kernel
abbrev yLk_writeBlock : MethodName := ⟨"ImageForge$Linker", "writeBlock", "(LImageForge$Image;II)I"⟩
abbrev cLk_writeBlock : ByteArray := prog_3_method_13_code
abbrev wsLk_writeBlock : List Cond := .code yLk_writeBlock cLk_writeBlock 7 (some .int) :: bw
theorem gdLk_writeBlock : GoodIn bw wsLk_writeBlock := gd_of tw_645
theorem hdLk_writeBlock : yLk_writeBlock.cls ≠ "java/lang/invoke/MethodHandle" ∧ yLk_writeBlock.cls ≠ "java/lang/invoke/VarHandle" ∧ (parseMethodDescriptor yLk_writeBlock.desc).map (fun d => d.parameters.length) = some 3 := by decide +kernel
theorem dLk_writeBlock_0 : decode cLk_writeBlock 0 = .ok (.iload_n 3, 1) := by decide +kernel
theorem dLk_writeBlock_1 : decode cLk_writeBlock 1 = .ok (.bipush 8, 2) := by decide +kernel
theorem dLk_writeBlock_3 : decode cLk_writeBlock 3 = .ok (.iadd, 1) := by decide +kernel
theorem dLk_writeBlock_4 : decode cLk_writeBlock 4 = .ok (.istore 4, 2) := by decide +kernel
theorem dLk_writeBlock_6 : decode cLk_writeBlock 6 = .ok (.iconst 0, 1) := by decide +kernel
theorem dLk_writeBlock_7 : decode cLk_writeBlock 7 = .ok (.istore 5, 2) := by decide +kernel
theorem dLk_writeBlock_9 : decode cLk_writeBlock 9 = .ok (.iconst 0, 1) := by decide +kernel
theorem dLk_writeBlock_10 : decode cLk_writeBlock 10 = .ok (.istore 6, 2) := by decide +kernel
theorem dLk_writeBlock_12 : decode cLk_writeBlock 12 = .ok (.iload 6, 2) := by decide +kernel
theorem dLk_writeBlock_14 : decode cLk_writeBlock 14 = .ok (.bipush 64, 2) := by decide +kernel
theorem dLk_writeBlock_16 : decode cLk_writeBlock 16 = .ok (.if_icmp .ge 39, 3) := by decide +kernel
theorem dLk_writeBlock_19 : decode cLk_writeBlock 19 = .ok (.aload_n 0, 1) := by decide +kernel
theorem dLk_writeBlock_20 : decode cLk_writeBlock 20 = .ok (.getfield 20, 3) := by decide +kernel
theorem dLk_writeBlock_23 : decode cLk_writeBlock 23 = .ok (.iload_n 2, 1) := by decide +kernel
theorem dLk_writeBlock_24 : decode cLk_writeBlock 24 = .ok (.iload 6, 2) := by decide +kernel
theorem dLk_writeBlock_26 : decode cLk_writeBlock 26 = .ok (.iadd, 1) := by decide +kernel
theorem dLk_writeBlock_27 : decode cLk_writeBlock 27 = .ok (.baload, 1) := by decide +kernel
theorem dLk_writeBlock_28 : decode cLk_writeBlock 28 = .ok (.ifCond .eq 21, 3) := by decide +kernel
theorem dLk_writeBlock_31 : decode cLk_writeBlock 31 = .ok (.aload_n 1, 1) := by decide +kernel
theorem dLk_writeBlock_32 : decode cLk_writeBlock 32 = .ok (.iload 4, 2) := by decide +kernel
theorem dLk_writeBlock_34 : decode cLk_writeBlock 34 = .ok (.iload 6, 2) := by decide +kernel
theorem dLk_writeBlock_36 : decode cLk_writeBlock 36 = .ok (.sipush 12288, 3) := by decide +kernel
theorem dLk_writeBlock_39 : decode cLk_writeBlock 39 = .ok (.ior, 1) := by decide +kernel
theorem dLk_writeBlock_40 : decode cLk_writeBlock 40 = .ok (.invokevirtual 172, 3) := by decide +kernel
theorem dLk_writeBlock_43 : decode cLk_writeBlock 43 = .ok (.iinc 4 2, 3) := by decide +kernel
theorem dLk_writeBlock_46 : decode cLk_writeBlock 46 = .ok (.iinc 5 1, 3) := by decide +kernel
theorem dLk_writeBlock_49 : decode cLk_writeBlock 49 = .ok (.iinc 6 1, 3) := by decide +kernel
theorem dLk_writeBlock_52 : decode cLk_writeBlock 52 = .ok (.goto (-40), 3) := by decide +kernel
theorem dLk_writeBlock_55 : decode cLk_writeBlock 55 = .ok (.iload 5, 2) := by decide +kernel
theorem dLk_writeBlock_57 : decode cLk_writeBlock 57 = .ok (.ifCond .ne 5, 3) := by decide +kernel
theorem dLk_writeBlock_60 : decode cLk_writeBlock 60 = .ok (.iload_n 3, 1) := by decide +kernel
theorem dLk_writeBlock_61 : decode cLk_writeBlock 61 = .ok (.ireturn, 1) := by decide +kernel
theorem dLk_writeBlock_62 : decode cLk_writeBlock 62 = .ok (.iload 4, 2) := by decide +kernel
theorem dLk_writeBlock_64 : decode cLk_writeBlock 64 = .ok (.iload 5, 2) := by decide +kernel
theorem dLk_writeBlock_66 : decode cLk_writeBlock 66 = .ok (.iconst 2, 1) := by decide +kernel
theorem dLk_writeBlock_67 : decode cLk_writeBlock 67 = .ok (.irem, 1) := by decide +kernel
theorem dLk_writeBlock_68 : decode cLk_writeBlock 68 = .ok (.iconst 2, 1) := by decide +kernel
theorem dLk_writeBlock_69 : decode cLk_writeBlock 69 = .ok (.imul, 1) := by decide +kernel
theorem dLk_writeBlock_70 : decode cLk_writeBlock 70 = .ok (.iadd, 1) := by decide +kernel
theorem dLk_writeBlock_71 : decode cLk_writeBlock 71 = .ok (.istore 4, 2) := by decide +kernel
theorem dLk_writeBlock_73 : decode cLk_writeBlock 73 = .ok (.aload_n 1, 1) := by decide +kernel
theorem dLk_writeBlock_74 : decode cLk_writeBlock 74 = .ok (.iload_n 3, 1) := by decide +kernel
theorem dLk_writeBlock_75 : decode cLk_writeBlock 75 = .ok (.iload_n 2, 1) := by decide +kernel
theorem dLk_writeBlock_76 : decode cLk_writeBlock 76 = .ok (.invokevirtual 111, 3) := by decide +kernel
theorem dLk_writeBlock_79 : decode cLk_writeBlock 79 = .ok (.aload_n 1, 1) := by decide +kernel
theorem dLk_writeBlock_80 : decode cLk_writeBlock 80 = .ok (.iload_n 3, 1) := by decide +kernel
theorem dLk_writeBlock_81 : decode cLk_writeBlock 81 = .ok (.iconst 4, 1) := by decide +kernel
theorem dLk_writeBlock_82 : decode cLk_writeBlock 82 = .ok (.iadd, 1) := by decide +kernel
theorem dLk_writeBlock_83 : decode cLk_writeBlock 83 = .ok (.iload 4, 2) := by decide +kernel
theorem dLk_writeBlock_85 : decode cLk_writeBlock 85 = .ok (.iload_n 3, 1) := by decide +kernel
theorem dLk_writeBlock_86 : decode cLk_writeBlock 86 = .ok (.isub, 1) := by decide +kernel
theorem dLk_writeBlock_87 : decode cLk_writeBlock 87 = .ok (.invokevirtual 111, 3) := by decide +kernel
theorem dLk_writeBlock_90 : decode cLk_writeBlock 90 = .ok (.iload 4, 2) := by decide +kernel
theorem dLk_writeBlock_92 : decode cLk_writeBlock 92 = .ok (.ireturn, 1) := by decide +kernel
abbrev yLk_writeRelocations : MethodName := ⟨"ImageForge$Linker", "writeRelocations", "(LImageForge$Image;I)I"⟩
abbrev cLk_writeRelocations : ByteArray := prog_3_method_12_code
abbrev wsLk_writeRelocations : List Cond := .code yLk_writeRelocations cLk_writeRelocations 5 (some .int) :: bw
theorem gdLk_writeRelocations : GoodIn bw wsLk_writeRelocations := gd_of tw_641
theorem hdLk_writeRelocations : yLk_writeRelocations.cls ≠ "java/lang/invoke/MethodHandle" ∧ yLk_writeRelocations.cls ≠ "java/lang/invoke/VarHandle" ∧ (parseMethodDescriptor yLk_writeRelocations.desc).map (fun d => d.parameters.length) = some 2 := by decide +kernel
theorem dLk_writeRelocations_0 : decode cLk_writeRelocations 0 = .ok (.iload_n 2, 1) := by decide +kernel
theorem dLk_writeRelocations_1 : decode cLk_writeRelocations 1 = .ok (.istore_n 3, 1) := by decide +kernel
theorem dLk_writeRelocations_2 : decode cLk_writeRelocations 2 = .ok (.iconst 0, 1) := by decide +kernel
theorem dLk_writeRelocations_3 : decode cLk_writeRelocations 3 = .ok (.istore 4, 2) := by decide +kernel
theorem dLk_writeRelocations_5 : decode cLk_writeRelocations 5 = .ok (.iload 4, 2) := by decide +kernel
theorem dLk_writeRelocations_7 : decode cLk_writeRelocations 7 = .ok (.iload_n 2, 1) := by decide +kernel
theorem dLk_writeRelocations_8 : decode cLk_writeRelocations 8 = .ok (.if_icmp .ge 18, 3) := by decide +kernel
theorem dLk_writeRelocations_11 : decode cLk_writeRelocations 11 = .ok (.aload_n 0, 1) := by decide +kernel
theorem dLk_writeRelocations_12 : decode cLk_writeRelocations 12 = .ok (.aload_n 1, 1) := by decide +kernel
theorem dLk_writeRelocations_13 : decode cLk_writeRelocations 13 = .ok (.iload 4, 2) := by decide +kernel
theorem dLk_writeRelocations_15 : decode cLk_writeRelocations 15 = .ok (.iload_n 3, 1) := by decide +kernel
theorem dLk_writeRelocations_16 : decode cLk_writeRelocations 16 = .ok (.invokevirtual 168, 3) := by decide +kernel
theorem dLk_writeRelocations_19 : decode cLk_writeRelocations 19 = .ok (.istore_n 3, 1) := by decide +kernel
theorem dLk_writeRelocations_20 : decode cLk_writeRelocations 20 = .ok (.iinc 4 64, 3) := by decide +kernel
theorem dLk_writeRelocations_23 : decode cLk_writeRelocations 23 = .ok (.goto (-18), 3) := by decide +kernel
theorem dLk_writeRelocations_26 : decode cLk_writeRelocations 26 = .ok (.iload_n 3, 1) := by decide +kernel
theorem dLk_writeRelocations_27 : decode cLk_writeRelocations 27 = .ok (.ireturn, 1) := by decide +kernel
abbrev yLk_writeHeader : MethodName := ⟨"ImageForge$Linker", "writeHeader", "([LImageForge$Name;LImageForge$Image;)V"⟩
abbrev cLk_writeHeader : ByteArray := prog_3_method_14_code
abbrev wsLk_writeHeader : List Cond := .code yLk_writeHeader cLk_writeHeader 3 none :: bw
theorem gdLk_writeHeader : GoodIn bw wsLk_writeHeader := gd_of tw_653
theorem hdLk_writeHeader : yLk_writeHeader.cls ≠ "java/lang/invoke/MethodHandle" ∧ yLk_writeHeader.cls ≠ "java/lang/invoke/VarHandle" ∧ (parseMethodDescriptor yLk_writeHeader.desc).map (fun d => d.parameters.length) = some 2 := by decide +kernel
theorem dLk_writeHeader_0 : decode cLk_writeHeader 0 = .ok (.aload_n 2, 1) := by decide +kernel
theorem dLk_writeHeader_1 : decode cLk_writeHeader 1 = .ok (.iconst 0, 1) := by decide +kernel
theorem dLk_writeHeader_2 : decode cLk_writeHeader 2 = .ok (.sipush 23117, 3) := by decide +kernel
theorem dLk_writeHeader_5 : decode cLk_writeHeader 5 = .ok (.invokevirtual 111, 3) := by decide +kernel
theorem dLk_writeHeader_8 : decode cLk_writeHeader 8 = .ok (.aload_n 2, 1) := by decide +kernel
theorem dLk_writeHeader_9 : decode cLk_writeHeader 9 = .ok (.iconst 4, 1) := by decide +kernel
theorem dLk_writeHeader_10 : decode cLk_writeHeader 10 = .ok (.iconst 5, 1) := by decide +kernel
theorem dLk_writeHeader_11 : decode cLk_writeHeader 11 = .ok (.invokevirtual 111, 3) := by decide +kernel
theorem dLk_writeHeader_14 : decode cLk_writeHeader 14 = .ok (.aload_n 2, 1) := by decide +kernel
theorem dLk_writeHeader_15 : decode cLk_writeHeader 15 = .ok (.bipush 8, 2) := by decide +kernel
theorem dLk_writeHeader_17 : decode cLk_writeHeader 17 = .ok (.sipush 4096, 3) := by decide +kernel
theorem dLk_writeHeader_20 : decode cLk_writeHeader 20 = .ok (.invokevirtual 111, 3) := by decide +kernel
theorem dLk_writeHeader_23 : decode cLk_writeHeader 23 = .ok (.aload_n 2, 1) := by decide +kernel
theorem dLk_writeHeader_24 : decode cLk_writeHeader 24 = .ok (.bipush 12, 2) := by decide +kernel
theorem dLk_writeHeader_26 : decode cLk_writeHeader 26 = .ok (.aload_n 2, 1) := by decide +kernel
theorem dLk_writeHeader_27 : decode cLk_writeHeader 27 = .ok (.getfield 56, 3) := by decide +kernel
theorem dLk_writeHeader_30 : decode cLk_writeHeader 30 = .ok (.invokevirtual 111, 3) := by decide +kernel
theorem dLk_writeHeader_33 : decode cLk_writeHeader 33 = .ok (.aload_n 2, 1) := by decide +kernel
theorem dLk_writeHeader_34 : decode cLk_writeHeader 34 = .ok (.bipush 16, 2) := by decide +kernel
theorem dLk_writeHeader_36 : decode cLk_writeHeader 36 = .ok (.aload_n 1, 1) := by decide +kernel
theorem dLk_writeHeader_37 : decode cLk_writeHeader 37 = .ok (.iconst 0, 1) := by decide +kernel
theorem dLk_writeHeader_38 : decode cLk_writeHeader 38 = .ok (.aaload, 1) := by decide +kernel
theorem dLk_writeHeader_39 : decode cLk_writeHeader 39 = .ok (.invokevirtual 175, 3) := by decide +kernel
theorem dLk_writeHeader_42 : decode cLk_writeHeader 42 = .ok (.ifCond .eq 12, 3) := by decide +kernel
theorem dLk_writeHeader_45 : decode cLk_writeHeader 45 = .ok (.aload_n 0, 1) := by decide +kernel
theorem dLk_writeHeader_46 : decode cLk_writeHeader 46 = .ok (.getfield 9, 3) := by decide +kernel
theorem dLk_writeHeader_49 : decode cLk_writeHeader 49 = .ok (.iconst 0, 1) := by decide +kernel
theorem dLk_writeHeader_50 : decode cLk_writeHeader 50 = .ok (.iaload, 1) := by decide +kernel
theorem dLk_writeHeader_51 : decode cLk_writeHeader 51 = .ok (.goto 4, 3) := by decide +kernel
theorem dLk_writeHeader_54 : decode cLk_writeHeader 54 = .ok (.iconst 0, 1) := by decide +kernel
theorem dLk_writeHeader_55 : decode cLk_writeHeader 55 = .ok (.invokevirtual 111, 3) := by decide +kernel
theorem dLk_writeHeader_58 : decode cLk_writeHeader 58 = .ok (.aload_n 2, 1) := by decide +kernel
theorem dLk_writeHeader_59 : decode cLk_writeHeader 59 = .ok (.bipush 20, 2) := by decide +kernel
theorem dLk_writeHeader_61 : decode cLk_writeHeader 61 = .ok (.aload_n 2, 1) := by decide +kernel
theorem dLk_writeHeader_62 : decode cLk_writeHeader 62 = .ok (.invokevirtual 178, 3) := by decide +kernel
theorem dLk_writeHeader_65 : decode cLk_writeHeader 65 = .ok (.invokevirtual 111, 3) := by decide +kernel
theorem dLk_writeHeader_68 : decode cLk_writeHeader 68 = .ok (.return_, 1) := by decide +kernel
abbrev yLk_build : MethodName := ⟨"ImageForge$Linker", "build", "([LImageForge$ObjectFile;[LImageForge$Name;LImageForge$Image;)V"⟩
abbrev cLk_build : ByteArray := prog_3_method_2_code
abbrev wsLk_build : List Cond := .code yLk_build cLk_build 5 none :: bw
theorem gdLk_build : GoodIn bw wsLk_build := gd_of tw_558
theorem hdLk_build : yLk_build.cls ≠ "java/lang/invoke/MethodHandle" ∧ yLk_build.cls ≠ "java/lang/invoke/VarHandle" ∧ (parseMethodDescriptor yLk_build.desc).map (fun d => d.parameters.length) = some 3 := by decide +kernel
theorem dLk_build_0 : decode cLk_build 0 = .ok (.aload_n 3, 1) := by decide +kernel
theorem dLk_build_1 : decode cLk_build 1 = .ok (.invokevirtual 24, 3) := by decide +kernel
theorem dLk_build_4 : decode cLk_build 4 = .ok (.bipush 64, 2) := by decide +kernel
theorem dLk_build_6 : decode cLk_build 6 = .ok (.istore 4, 2) := by decide +kernel
theorem dLk_build_8 : decode cLk_build 8 = .ok (.aload_n 0, 1) := by decide +kernel
theorem dLk_build_9 : decode cLk_build 9 = .ok (.aload_n 3, 1) := by decide +kernel
theorem dLk_build_10 : decode cLk_build 10 = .ok (.iconst 0, 1) := by decide +kernel
theorem dLk_build_11 : decode cLk_build 11 = .ok (.iload 4, 2) := by decide +kernel
theorem dLk_build_13 : decode cLk_build 13 = .ok (.aload_n 0, 1) := by decide +kernel
theorem dLk_build_14 : decode cLk_build 14 = .ok (.aload_n 1, 1) := by decide +kernel
theorem dLk_build_15 : decode cLk_build 15 = .ok (.iconst 0, 1) := by decide +kernel
theorem dLk_build_16 : decode cLk_build 16 = .ok (.aload_n 3, 1) := by decide +kernel
theorem dLk_build_17 : decode cLk_build 17 = .ok (.iload 4, 2) := by decide +kernel
theorem dLk_build_19 : decode cLk_build 19 = .ok (.invokevirtual 29, 3) := by decide +kernel
theorem dLk_build_22 : decode cLk_build 22 = .ok (.invokevirtual 33, 3) := by decide +kernel
theorem dLk_build_25 : decode cLk_build 25 = .ok (.istore 4, 2) := by decide +kernel
theorem dLk_build_27 : decode cLk_build 27 = .ok (.aload_n 0, 1) := by decide +kernel
theorem dLk_build_28 : decode cLk_build 28 = .ok (.aload_n 3, 1) := by decide +kernel
theorem dLk_build_29 : decode cLk_build 29 = .ok (.iconst 1, 1) := by decide +kernel
theorem dLk_build_30 : decode cLk_build 30 = .ok (.iload 4, 2) := by decide +kernel
theorem dLk_build_32 : decode cLk_build 32 = .ok (.aload_n 0, 1) := by decide +kernel
theorem dLk_build_33 : decode cLk_build 33 = .ok (.aload_n 1, 1) := by decide +kernel
theorem dLk_build_34 : decode cLk_build 34 = .ok (.iconst 1, 1) := by decide +kernel
theorem dLk_build_35 : decode cLk_build 35 = .ok (.aload_n 3, 1) := by decide +kernel
theorem dLk_build_36 : decode cLk_build 36 = .ok (.iload 4, 2) := by decide +kernel
theorem dLk_build_38 : decode cLk_build 38 = .ok (.invokevirtual 29, 3) := by decide +kernel
theorem dLk_build_41 : decode cLk_build 41 = .ok (.invokevirtual 33, 3) := by decide +kernel
theorem dLk_build_44 : decode cLk_build 44 = .ok (.istore 4, 2) := by decide +kernel
theorem dLk_build_46 : decode cLk_build 46 = .ok (.aload_n 0, 1) := by decide +kernel
theorem dLk_build_47 : decode cLk_build 47 = .ok (.aload_n 2, 1) := by decide +kernel
theorem dLk_build_48 : decode cLk_build 48 = .ok (.invokevirtual 37, 3) := by decide +kernel
theorem dLk_build_51 : decode cLk_build 51 = .ok (.aload_n 0, 1) := by decide +kernel
theorem dLk_build_52 : decode cLk_build 52 = .ok (.aload_n 3, 1) := by decide +kernel
theorem dLk_build_53 : decode cLk_build 53 = .ok (.iconst 2, 1) := by decide +kernel
theorem dLk_build_54 : decode cLk_build 54 = .ok (.iload 4, 2) := by decide +kernel
theorem dLk_build_56 : decode cLk_build 56 = .ok (.aload_n 0, 1) := by decide +kernel
theorem dLk_build_57 : decode cLk_build 57 = .ok (.aload_n 2, 1) := by decide +kernel
theorem dLk_build_58 : decode cLk_build 58 = .ok (.aload_n 3, 1) := by decide +kernel
theorem dLk_build_59 : decode cLk_build 59 = .ok (.iload 4, 2) := by decide +kernel
theorem dLk_build_61 : decode cLk_build 61 = .ok (.invokevirtual 41, 3) := by decide +kernel
theorem dLk_build_64 : decode cLk_build 64 = .ok (.invokevirtual 33, 3) := by decide +kernel
theorem dLk_build_67 : decode cLk_build 67 = .ok (.istore 4, 2) := by decide +kernel
theorem dLk_build_69 : decode cLk_build 69 = .ok (.aload_n 0, 1) := by decide +kernel
theorem dLk_build_70 : decode cLk_build 70 = .ok (.aload_n 3, 1) := by decide +kernel
theorem dLk_build_71 : decode cLk_build 71 = .ok (.iconst 3, 1) := by decide +kernel
theorem dLk_build_72 : decode cLk_build 72 = .ok (.iload 4, 2) := by decide +kernel
theorem dLk_build_74 : decode cLk_build 74 = .ok (.aload_n 0, 1) := by decide +kernel
theorem dLk_build_75 : decode cLk_build 75 = .ok (.aload_n 2, 1) := by decide +kernel
theorem dLk_build_76 : decode cLk_build 76 = .ok (.aload_n 3, 1) := by decide +kernel
theorem dLk_build_77 : decode cLk_build 77 = .ok (.iload 4, 2) := by decide +kernel
theorem dLk_build_79 : decode cLk_build 79 = .ok (.invokevirtual 45, 3) := by decide +kernel
theorem dLk_build_82 : decode cLk_build 82 = .ok (.invokevirtual 33, 3) := by decide +kernel
theorem dLk_build_85 : decode cLk_build 85 = .ok (.istore 4, 2) := by decide +kernel
theorem dLk_build_87 : decode cLk_build 87 = .ok (.aload_n 0, 1) := by decide +kernel
theorem dLk_build_88 : decode cLk_build 88 = .ok (.aload_n 1, 1) := by decide +kernel
theorem dLk_build_89 : decode cLk_build 89 = .ok (.aload_n 3, 1) := by decide +kernel
theorem dLk_build_90 : decode cLk_build 90 = .ok (.invokevirtual 48, 3) := by decide +kernel
theorem dLk_build_93 : decode cLk_build 93 = .ok (.aload_n 0, 1) := by decide +kernel
theorem dLk_build_94 : decode cLk_build 94 = .ok (.aload_n 3, 1) := by decide +kernel
theorem dLk_build_95 : decode cLk_build 95 = .ok (.iconst 4, 1) := by decide +kernel
theorem dLk_build_96 : decode cLk_build 96 = .ok (.iload 4, 2) := by decide +kernel
theorem dLk_build_98 : decode cLk_build 98 = .ok (.aload_n 0, 1) := by decide +kernel
theorem dLk_build_99 : decode cLk_build 99 = .ok (.aload_n 3, 1) := by decide +kernel
theorem dLk_build_100 : decode cLk_build 100 = .ok (.iload 4, 2) := by decide +kernel
theorem dLk_build_102 : decode cLk_build 102 = .ok (.invokevirtual 52, 3) := by decide +kernel
theorem dLk_build_105 : decode cLk_build 105 = .ok (.invokevirtual 33, 3) := by decide +kernel
theorem dLk_build_108 : decode cLk_build 108 = .ok (.istore 4, 2) := by decide +kernel
theorem dLk_build_110 : decode cLk_build 110 = .ok (.aload_n 3, 1) := by decide +kernel
theorem dLk_build_111 : decode cLk_build 111 = .ok (.iload 4, 2) := by decide +kernel
theorem dLk_build_113 : decode cLk_build 113 = .ok (.putfield 56, 3) := by decide +kernel
theorem dLk_build_116 : decode cLk_build 116 = .ok (.aload_n 0, 1) := by decide +kernel
theorem dLk_build_117 : decode cLk_build 117 = .ok (.aload_n 2, 1) := by decide +kernel
theorem dLk_build_118 : decode cLk_build 118 = .ok (.aload_n 3, 1) := by decide +kernel
theorem dLk_build_119 : decode cLk_build 119 = .ok (.invokevirtual 60, 3) := by decide +kernel
theorem dLk_build_122 : decode cLk_build 122 = .ok (.return_, 1) := by decide +kernel
section
variable {p : Program} {l : Launch} {e : Env} {s : State} {m : MethodId} {args : Array Value} {below : List Frame} {meth : Method} {c : Code} {D : va_G} {cA : Nat → ClassId} {ad : Nat → Nat} {L : List Nat} {rs : va_W} {al : Nat → Bool} {A : Nat → Prop}
abbrev rm_Lk_endSection : Room := { frames := 2, cells := 0, slots := 0, locals := 46 }
def bk_Lk_endSection_0 (F : Nat) (al : Nat → Bool) (u : Mr) (x1 : Nat) (x2 : Int32) (x3 : Int32) (x4 : Int32) : Option (Mr × Int32) := bd2 (fn_Im_setSection F al u x1 x2 x3 (x4 - x3)) fun u1 v1 => (bd2 (fn_Fg_roundUp F al u1 x4 (64 : Int32)) fun u2 v2 => (some (u2, v2)))
set_option maxHeartbeats 4000000 in
set_option maxRecDepth 100000 in
theorem wk_Lk_endSection_0 (cx : Cx p l e s m args below meth c cLk_endSection 5 bw "ImageForge$Linker" (some .int) D cA ad L rs al A) (F : Nat) (out : Mr × Int32) : ∀ (u : Mr) (x1 : Nat) (x2 : Int32) (x3 : Int32) (x4 : Int32), bk_Lk_endSection_0 F al u x1 x2 x3 x4 = some out → okk al 6 x1 = true → Wb p l e rm_Lk_endSection s m args below meth c D cA ad L rs A (QI below args s D cA ad L rs A out) 5 0 [(1, .ref (ad x1)), (2, .int x2), (3, .int x3), (4, .int x4)] [] u := by
  obtain ⟨hx, hb, hml, hown, hts, hr, hlocks, hK, hA, hD, hN, hal, hNx⟩ := cx
  intro u x1 x2 x3 x4 h q1 H locs ls hl hP hS
  unfold bk_Lk_endSection_0 at h
  refine lv_aload_n hx hb dLk_endSection_0 rfl (lv_at hl 0 rfl) ?_
  refine lv_iload_n hx hb dLk_endSection_1 rfl (lv_at hl 1 rfl) ?_
  refine lv_iload_n hx hb dLk_endSection_2 rfl (lv_at hl 2 rfl) ?_
  refine lv_iload hx hb dLk_endSection_3 (lv_at hl 3 rfl) ?_
  refine lv_iload_n hx hb dLk_endSection_5 rfl (lv_at hl 2 rfl) ?_
  refine lv_isub hx hb dLk_endSection_6 ?_
  obtain ⟨u1, v1, hc1, h⟩ := bd2_some h
  refine x_cv (u := u) (out := (u1, v1)) hA hD hS (va_runVN (As := [.int x2, .int x3, .int (x4 - x3)]) (rest := []) ⟨hx, hb, hml, hown, hts⟩ (ct_Im_setSection hal hN F u x1 x2 x3 (x4 - x3) (u1, v1) hc1 q1 _) ⟨va_cnB 3 hts gdIm_setSection rfl rfl rfl (nn_21 hNx) (hts _ tw_2) hdIm_setSection ⟨Nat.le_of_ble_eq_true rfl, Nat.le_of_ble_eq_true rfl⟩, (hts _ tw_580), (hts _ tp_21)⟩ (x_preV hK hD hNx hP (hal _ (okk_al q1)) (okk_t q1) rfl rfl) rfl rfl hl.1 rfl (lv_room (Nat.le_of_ble_eq_true rfl)) dLk_endSection_7 ⟨Nat.zero_le _, Nat.zero_le _⟩) (fun H locs hP hS => ?_)
  refine lv_iload hx hb dLk_endSection_10 (lv_at hl 3 rfl) ?_
  refine lv_bipush (v := 64) hx hb dLk_endSection_12 (by decide) ?_
  obtain ⟨u2, v2, hc2, h⟩ := bd2_some h
  refine x_ci (u := u1) (out := (u2, v2)) hA hD hS (va_runSN (As := [.int x4, .int (64 : Int32)]) (rest := []) ⟨hx, hb, hml, hown, hts⟩ (ct_Fg_roundUp hal hN F u1 x4 (64 : Int32) (u2, v2) hc2  _) ⟨va_cnB 2 hts gdFg_roundUp rfl rfl rfl (nn_20 hNx) (hts _ tw_1) hdFg_roundUp ⟨Nat.le_of_ble_eq_true rfl, Nat.le_of_ble_eq_true rfl⟩, (hts _ tw_571), trivial⟩ (x_preS hK hD hNx hP) rfl rfl hl.1 rfl (lv_room (Nat.le_of_ble_eq_true rfl)) dLk_endSection_14 ⟨Nat.zero_le _, Nat.zero_le _⟩) (fun H locs hP hS => ?_)
  exact x_iret hx hb hr hlocks h hP hS dLk_endSection_17
def fn_Lk_endSection (F : Nat) (al : Nat → Bool) (u : Mr) (x0 : Nat) (x1 : Nat) (x2 : Int32) (x3 : Int32) (x4 : Int32) : Option (Mr × Int32) := bk_Lk_endSection_0 F al u x1 x2 x3 x4
set_option maxHeartbeats 4000000 in
set_option maxRecDepth 100000 in
theorem ct_Lk_endSection {l : Launch} {D : va_G} {cA : Nat → ClassId} {ad : Nat → Nat} {L : List Nat} {rs : va_W} {al : Nat → Bool} (hal : ∀ k, al k = true → k ∈ L) (hN : L.Nodup) (F : Nat) (u : Mr) (x0 : Nat) (x1 : Nat) (x2 : Int32) (x3 : Int32) (x4 : Int32) (out : Mr × Int32) (h : fn_Lk_endSection F al u x0 x1 x2 x3 x4 = some out) (q0 : okk al 8 x0 = true) (q1 : okk al 6 x1 = true) : CtI l yLk_endSection wsLk_endSection rm_Lk_endSection [.ref (ad x0), .ref (ad x1), .int x2, .int x3, .int x4] D cA ad L rs u out := by
  intro sz
  refine Met.ofW (cc := cLk_endSection) (maxL := 5) (ret := (some .int)) (by decide) rfl ?_
  intro p e s m args below meth c s₁ B hml hv
  obtain ⟨rfl, hsz, hP, hK, hD0, hNx⟩ := hv
  subst hsz
  have hD := hD0.self (sz := s.heap.size)
  generalize hAe : va_A (ww ad cA L rs u) s.heap.size = A at hD ⊢
  have hA : ∀ q, s.heap.size ≤ q → A q := fun q h => by rw [← hAe]; exact Or.inr h
  have hl := lv_entry ([.ref (ad x0), .ref (ad x1), .int x2, .int x3, .int x4]) (n := 5) (Nat.le_of_ble_eq_true rfl)
  rw [lg_entry_eq]
  generalize (lg_sl ([.ref (ad x0), .ref (ad x1), .int x2, .int x3, .int x4]) ++ List.replicate (5 - (lg_sl ([.ref (ad x0), .ref (ad x1), .int x2, .int x3, .int x4])).length) Slot.unset).toArray = ls at hl ⊢
  exact wk_Lk_endSection_0 ⟨B.exec, B.bytes, hml, findClass_of_methodNamed B.named, hts_bw (atoms_spec (ws := wsLk_endSection) B.pre), B.returns, B.notSynchronized, hK, hA, fun v => ww_D hD, hN, hal, hNx⟩ F out u x1 x2 x3 x4 h q1 _ _ _ (lv_sub hl [1, 2, 3, 4] rfl) hP va_S.rf
abbrev rm_Lk_writeParts : Room := { frames := 1, cells := 0, slots := 0, locals := 30 }
def bk_Lk_writeParts_84 (F : Nat) (al : Nat → Bool) (k7 : Mr → Nat → Nat → Int32 → Nat → Int32 → Int32 → Option (Mr × Int32)) (u : Mr) (s0 : Int32) (x0 : Nat) (x1 : Nat) (x2 : Int32) (x3 : Nat) (x6 : Int32) : Option (Mr × Int32) := k7 u x0 x1 x2 x3 s0 (x6 + (1 : Int32))
set_option maxHeartbeats 4000000 in
set_option maxRecDepth 100000 in
theorem wk_Lk_writeParts_84 (cx : Cx p l e s m args below meth c cLk_writeParts 9 bw "ImageForge$Linker" (some .int) D cA ad L rs al A) (F : Nat) (out : Mr × Int32) {k7 : Mr → Nat → Nat → Int32 → Nat → Int32 → Int32 → Option (Mr × Int32)} (hk7 : ∀ (u : Mr) (x0 : Nat) (x1 : Nat) (x2 : Int32) (x3 : Nat) (x5 : Int32) (x6 : Int32), k7 u x0 x1 x2 x3 x5 x6 = some out → okk al 8 x0 = true → okk al 2 x1 = true → okk al 6 x3 = true → Wb p l e rm_Lk_writeParts s m args below meth c D cA ad L rs A (QI below args s D cA ad L rs A out) 9 7 [(0, .ref (ad x0)), (1, .ref (ad x1)), (2, .int x2), (3, .ref (ad x3)), (5, .int x5), (6, .int x6)] [] u) : ∀ (u : Mr) (s0 : Int32) (x0 : Nat) (x1 : Nat) (x2 : Int32) (x3 : Nat) (x6 : Int32), bk_Lk_writeParts_84 F al k7 u s0 x0 x1 x2 x3 x6 = some out → okk al 8 x0 = true → okk al 2 x1 = true → okk al 6 x3 = true → Wb p l e rm_Lk_writeParts s m args below meth c D cA ad L rs A (QI below args s D cA ad L rs A out) 9 84 [(0, .ref (ad x0)), (1, .ref (ad x1)), (2, .int x2), (3, .ref (ad x3)), (6, .int x6)] [.int s0] u := by
  obtain ⟨hx, hb, hml, hown, hts, hr, hlocks, hK, hA, hD, hN, hal, hNx⟩ := cx
  intro u s0 x0 x1 x2 x3 x6 h q0 q1 q3 H locs ls hl hP hS
  unfold bk_Lk_writeParts_84 at h
  refine lv_istore (lv' := [(5, .int s0), (0, .ref (ad x0)), (1, .ref (ad x1)), (2, .int x2), (3, .ref (ad x3)), (6, .int x6)]) hx hb dLk_writeParts_84 hl (by decide) rfl (fun ls hl => ?_)
  refine lv_iinc (k := 5) (v := x6 + (1 : Int32)) (lv' := [(6, .int (x6 + (1 : Int32))), (5, .int s0), (0, .ref (ad x0)), (1, .ref (ad x1)), (2, .int x2), (3, .ref (ad x3))]) hx hb dLk_writeParts_86 hl rfl (congrArg (fun z => _ + z) (show Int32.ofInt 1 = 1 by decide)) (by decide) rfl (fun ls hl => ?_)
  refine lv_goto (tgt := 7) hx hb dLk_writeParts_89 rfl ?_
  exact hk7 u x0 x1 x2 x3 s0 (x6 + (1 : Int32)) h q0 q1 q3 _ _ _ (lv_sub hl [2, 3, 4, 5, 1, 0] rfl) hP hS
def bk_Lk_writeParts_7 (F : Nat) (al : Nat → Bool) : Nat → Mr → Nat → Nat → Int32 → Nat → Int32 → Int32 → Option (Mr × Int32)
  | 0, _, _, _, _, _, _, _ => none
  | n + 1, u, x0, x1, x2, x3, x5, x6 => if (4 : Int32) ≤ x6 then (some (u, x5)) else (ck (inb x6 4) (bd1 (rdR al u x1 x6 14) fun y2 => (bd1 (rdR al u y2 0 15) fun y4 => (ck (inb x2 2) (bd1 (rdR al u y4 x2 16) fun y7 => (bd2 (fn_Fg_roundUp F al u x5 (4 : Int32)) fun u9 v9 => (bd1 (rdR al u9 x0 1 10) fun y10 => (ck (inb x2 2) (bd1 (rdR al u9 y10 x2 11) fun y13 => (ck (inb x6 4) (bd1 (rdR al (stI u9 y13 x6 v9) y7 0 17) fun y16 => (bd1 (rdR al (stI u9 y13 x6 v9) x3 0 7) fun y18 => (ck (cpk (stI u9 y13 x6 v9) y16 40 (0 : Int32) 896 v9 ((stI u9 y13 x6 v9).1 y7 1)) (if ((cpI (stI u9 y13 x6 v9) y16 (0 : Int32) y18 v9 ((stI u9 y13 x6 v9).1 y7 1)).1 y7 1) = 0 then (bk_Lk_writeParts_84 F al (bk_Lk_writeParts_7 F al n) (cpI (stI u9 y13 x6 v9) y16 (0 : Int32) y18 v9 ((stI u9 y13 x6 v9).1 y7 1)) x5 x0 x1 x2 x3 x6) else (bk_Lk_writeParts_84 F al (bk_Lk_writeParts_7 F al n) (cpI (stI u9 y13 x6 v9) y16 (0 : Int32) y18 v9 ((stI u9 y13 x6 v9).1 y7 1)) (v9 + ((cpI (stI u9 y13 x6 v9) y16 (0 : Int32) y18 v9 ((stI u9 y13 x6 v9).1 y7 1)).1 y7 1)) x0 x1 x2 x3 x6)))))))))))))))
set_option maxHeartbeats 4000000 in
set_option maxRecDepth 100000 in
theorem wk_Lk_writeParts_7 (cx : Cx p l e s m args below meth c cLk_writeParts 9 bw "ImageForge$Linker" (some .int) D cA ad L rs al A) (F : Nat) (out : Mr × Int32) : ∀ n : Nat, ∀ (u : Mr) (x0 : Nat) (x1 : Nat) (x2 : Int32) (x3 : Nat) (x5 : Int32) (x6 : Int32), bk_Lk_writeParts_7 F al n u x0 x1 x2 x3 x5 x6 = some out → okk al 8 x0 = true → okk al 2 x1 = true → okk al 6 x3 = true → Wb p l e rm_Lk_writeParts s m args below meth c D cA ad L rs A (QI below args s D cA ad L rs A out) 9 7 [(0, .ref (ad x0)), (1, .ref (ad x1)), (2, .int x2), (3, .ref (ad x3)), (5, .int x5), (6, .int x6)] [] u := by
  obtain ⟨hx, hb, hml, hown, hts, hr, hlocks, hK, hA, hD, hN, hal, hNx⟩ := cx
  intro n
  induction n with
  | zero =>
    intro u x0 x1 x2 x3 x5 x6 h
    cases h
  | succ n ih =>
    intro u x0 x1 x2 x3 x5 x6 h q0 q1 q3 H locs ls hl hP hS
    rw [bk_Lk_writeParts_7] at h
    refine lv_iload hx hb dLk_writeParts_7 (lv_at hl 5 rfl) ?_
    refine lv_iconst (v := 4) hx hb dLk_writeParts_9 (by decide) ?_
    refine lv_icmp_ge (tgt := 92) hx hb dLk_writeParts_10 rfl (fun hc => ?_) (fun hc => ?_)
    · replace h := it_t h hc
      refine lv_iload hx hb dLk_writeParts_92 (lv_at hl 4 rfl) ?_
      exact x_iret hx hb hr hlocks h hP hS dLk_writeParts_94
    · replace h := it_f h hc
      refine lv_aload_n hx hb dLk_writeParts_13 rfl (lv_at hl 1 rfl) ?_
      refine lv_iload hx hb dLk_writeParts_14 (lv_at hl 5 rfl) ?_
      obtain ⟨hi1, h⟩ := ck_some h
      obtain ⟨y2, hy3, h⟩ := bd1_some h
      obtain ⟨hy3a, hy3⟩ := rdR_some hy3
      refine x_aald hx hb hK hP (hal _ (okk_al q1)) (okk_t q1) 4 (fun _ _ _ => rfl) rfl rfl (inb_in hi1) hy3a dLk_writeParts_16 ?_
      obtain ⟨y4, hy5, h⟩ := bd1_some h
      obtain ⟨hy5a, hy5⟩ := rdR_some hy5
      refine x_getN hx hb hts in_Ob hown hK hP (hal _ (okk_al hy3)) (okk_t hy3) rfl rfl 0 (by decide) (nf_8 hNx) (fun _ h9 => h9) (congrArg some (x_rf hy5a)) dLk_writeParts_17 ?_
      refine lv_iload_n hx hb dLk_writeParts_20 rfl (lv_at hl 2 rfl) ?_
      obtain ⟨hi6, h⟩ := ck_some h
      obtain ⟨y7, hy8, h⟩ := bd1_some h
      obtain ⟨hy8a, hy8⟩ := rdR_some hy8
      refine x_aald hx hb hK hP (hal _ (okk_al hy5)) (okk_t hy5) 6 (fun _ _ _ => rfl) rfl rfl (inb_in hi6) hy8a dLk_writeParts_21 ?_
      refine lv_astore (lv' := [(7, .ref (ad y7)), (0, .ref (ad x0)), (1, .ref (ad x1)), (2, .int x2), (3, .ref (ad x3)), (5, .int x5), (6, .int x6)]) hx hb dLk_writeParts_22 hl (by decide) rfl (fun ls hl => ?_)
      refine lv_iload hx hb dLk_writeParts_24 (lv_at hl 5 rfl) ?_
      refine lv_iconst (v := 4) hx hb dLk_writeParts_26 (by decide) ?_
      obtain ⟨u9, v9, hc9, h⟩ := bd2_some h
      refine x_ci (u := u) (out := (u9, v9)) hA hD hS (va_runSN (As := [.int x5, .int (4 : Int32)]) (rest := []) ⟨hx, hb, hml, hown, hts⟩ (ct_Fg_roundUp hal hN F u x5 (4 : Int32) (u9, v9) hc9  _) ⟨va_cnB 2 hts gdFg_roundUp rfl rfl rfl (nn_20 hNx) (hts _ tw_1) hdFg_roundUp ⟨Nat.le_of_ble_eq_true rfl, Nat.le_of_ble_eq_true rfl⟩, (hts _ tw_571), trivial⟩ (x_preS hK hD hNx hP) rfl rfl hl.1 rfl (lv_room (Nat.le_of_ble_eq_true rfl)) dLk_writeParts_27 ⟨Nat.zero_le _, Nat.zero_le _⟩) (fun H locs hP hS => ?_)
      refine lv_istore (lv' := [(8, .int v9), (7, .ref (ad y7)), (0, .ref (ad x0)), (1, .ref (ad x1)), (2, .int x2), (3, .ref (ad x3)), (5, .int x5), (6, .int x6)]) hx hb dLk_writeParts_30 hl (by decide) rfl (fun ls hl => ?_)
      refine lv_aload_n hx hb dLk_writeParts_32 rfl (lv_at hl 2 rfl) ?_
      obtain ⟨y10, hy11, h⟩ := bd1_some h
      obtain ⟨hy11a, hy11⟩ := rdR_some hy11
      refine x_get hx hb hts in_Lk hown hK hP (hal _ (okk_al q0)) (okk_t q0) rfl rfl 1 (by decide) (hts _ tw_68) (fun _ h9 => h9) (congrArg some (x_rf hy11a)) dLk_writeParts_33 ?_
      refine lv_iload_n hx hb dLk_writeParts_36 rfl (lv_at hl 4 rfl) ?_
      obtain ⟨hi12, h⟩ := ck_some h
      obtain ⟨y13, hy14, h⟩ := bd1_some h
      obtain ⟨hy14a, hy14⟩ := rdR_some hy14
      refine x_aald hx hb hK hP (hal _ (okk_al hy11)) (okk_t hy11) 8 (fun _ _ _ => rfl) rfl rfl (inb_in hi12) hy14a dLk_writeParts_37 ?_
      refine lv_iload hx hb dLk_writeParts_38 (lv_at hl 7 rfl) ?_
      refine lv_iload hx hb dLk_writeParts_40 (lv_at hl 0 rfl) ?_
      obtain ⟨hi15, h⟩ := ck_some h
      refine x_iast hx hb hK hD hN hP hS (hal _ (okk_al hy14)) (okk_t hy14) 0 (fun _ _ _ => rfl) rfl (by decide) (inb_in hi15) dLk_writeParts_42 (fun H locs hP hS => ?_)
      refine lv_aload hx hb dLk_writeParts_43 (lv_at hl 1 rfl) ?_
      obtain ⟨y16, hy17, h⟩ := bd1_some h
      obtain ⟨hy17a, hy17⟩ := rdR_some hy17
      refine x_getN hx hb hts in_Pt hown hK hP (hal _ (okk_al hy8)) (okk_t hy8) rfl rfl 0 (by decide) (nf_4 hNx) (fun _ h9 => h9) (congrArg some (x_rf hy17a)) dLk_writeParts_45 ?_
      refine lv_iconst (v := 0) hx hb dLk_writeParts_48 (by decide) ?_
      refine lv_aload_n hx hb dLk_writeParts_49 rfl (lv_at hl 5 rfl) ?_
      obtain ⟨y18, hy19, h⟩ := bd1_some h
      obtain ⟨hy19a, hy19⟩ := rdR_some hy19
      refine x_getN hx hb hts in_Im hown hK hP (hal _ (okk_al q3)) (okk_t q3) rfl rfl 0 (by decide) (nf_0 hNx) (fun _ h9 => h9) (congrArg some (x_rf hy19a)) dLk_writeParts_50 ?_
      refine lv_iload hx hb dLk_writeParts_53 (lv_at hl 0 rfl) ?_
      refine lv_aload hx hb dLk_writeParts_55 (lv_at hl 1 rfl) ?_
      refine x_getN hx hb hts in_Pt hown hK hP (hal _ (okk_al hy8)) (okk_t hy8) rfl rfl 1 (by decide) (nf_6 hNx) (fun _ h9 => h9) rfl dLk_writeParts_57 ?_
      obtain ⟨hy20, h⟩ := ck_some h
      refine x_copy hx hb (by rw [hml]; exact hl.1.symm) hown (hts _ tw_573) (hts _ tw_483) (hts _ tw_482) (hts _ tw_24) hK hD hN hP hS (hal _ (okk_al hy17)) (okk_t hy17) (fun _ _ _ => rfl) (hal _ (okk_al hy19)) (okk_t hy19) (fun _ _ _ => rfl) (by decide) hy20 (by decide) (by decide) dLk_writeParts_60 (fun H locs hP hS => ?_)
      refine lv_aload hx hb dLk_writeParts_63 (lv_at hl 1 rfl) ?_
      refine x_getN hx hb hts in_Pt hown hK hP (hal _ (okk_al hy8)) (okk_t hy8) rfl rfl 1 (by decide) (nf_6 hNx) (fun _ h9 => h9) rfl dLk_writeParts_65 ?_
      refine lv_if_ne (tgt := 76) hx hb dLk_writeParts_68 rfl (fun hc => ?_) (fun hc => ?_)
      · replace h := it_f h hc
        refine lv_iload hx hb dLk_writeParts_76 (lv_at hl 0 rfl) ?_
        refine lv_aload hx hb dLk_writeParts_78 (lv_at hl 1 rfl) ?_
        refine x_getN hx hb hts in_Pt hown hK hP (hal _ (okk_al hy8)) (okk_t hy8) rfl rfl 1 (by decide) (nf_6 hNx) (fun _ h9 => h9) rfl dLk_writeParts_80 ?_
        refine lv_iadd hx hb dLk_writeParts_83 ?_
        exact wk_Lk_writeParts_84 ⟨hx, hb, hml, hown, hts, hr, hlocks, hK, hA, hD, hN, hal, hNx⟩ F out ih (cpI (stI u9 y13 x6 v9) y16 (0 : Int32) y18 v9 ((stI u9 y13 x6 v9).1 y7 1)) (v9 + ((cpI (stI u9 y13 x6 v9) y16 (0 : Int32) y18 v9 ((stI u9 y13 x6 v9).1 y7 1)).1 y7 1)) x0 x1 x2 x3 x6 h q0 q1 q3 _ _ _ (lv_sub hl [2, 3, 4, 5, 7] rfl) hP hS
      · replace h := it_t h hc
        refine lv_iload hx hb dLk_writeParts_71 (lv_at hl 6 rfl) ?_
        refine lv_goto (tgt := 84) hx hb dLk_writeParts_73 rfl ?_
        exact wk_Lk_writeParts_84 ⟨hx, hb, hml, hown, hts, hr, hlocks, hK, hA, hD, hN, hal, hNx⟩ F out ih (cpI (stI u9 y13 x6 v9) y16 (0 : Int32) y18 v9 ((stI u9 y13 x6 v9).1 y7 1)) x5 x0 x1 x2 x3 x6 h q0 q1 q3 _ _ _ (lv_sub hl [2, 3, 4, 5, 7] rfl) hP hS
def bk_Lk_writeParts_0 (F : Nat) (al : Nat → Bool) (u : Mr) (x0 : Nat) (x1 : Nat) (x2 : Int32) (x3 : Nat) (x4 : Int32) : Option (Mr × Int32) := bk_Lk_writeParts_7 F al F u x0 x1 x2 x3 x4 (0 : Int32)
set_option maxHeartbeats 4000000 in
set_option maxRecDepth 100000 in
theorem wk_Lk_writeParts_0 (cx : Cx p l e s m args below meth c cLk_writeParts 9 bw "ImageForge$Linker" (some .int) D cA ad L rs al A) (F : Nat) (out : Mr × Int32) : ∀ (u : Mr) (x0 : Nat) (x1 : Nat) (x2 : Int32) (x3 : Nat) (x4 : Int32), bk_Lk_writeParts_0 F al u x0 x1 x2 x3 x4 = some out → okk al 8 x0 = true → okk al 2 x1 = true → okk al 6 x3 = true → Wb p l e rm_Lk_writeParts s m args below meth c D cA ad L rs A (QI below args s D cA ad L rs A out) 9 0 [(0, .ref (ad x0)), (1, .ref (ad x1)), (2, .int x2), (3, .ref (ad x3)), (4, .int x4)] [] u := by
  obtain ⟨hx, hb, hml, hown, hts, hr, hlocks, hK, hA, hD, hN, hal, hNx⟩ := cx
  intro u x0 x1 x2 x3 x4 h q0 q1 q3 H locs ls hl hP hS
  unfold bk_Lk_writeParts_0 at h
  refine lv_iload hx hb dLk_writeParts_0 (lv_at hl 4 rfl) ?_
  refine lv_istore (lv' := [(5, .int x4), (0, .ref (ad x0)), (1, .ref (ad x1)), (2, .int x2), (3, .ref (ad x3)), (4, .int x4)]) hx hb dLk_writeParts_2 hl (by decide) rfl (fun ls hl => ?_)
  refine lv_iconst (v := 0) hx hb dLk_writeParts_4 (by decide) ?_
  refine lv_istore (lv' := [(6, .int (0 : Int32)), (5, .int x4), (0, .ref (ad x0)), (1, .ref (ad x1)), (2, .int x2), (3, .ref (ad x3)), (4, .int x4)]) hx hb dLk_writeParts_5 hl (by decide) rfl (fun ls hl => ?_)
  exact wk_Lk_writeParts_7 ⟨hx, hb, hml, hown, hts, hr, hlocks, hK, hA, hD, hN, hal, hNx⟩ F out F u x0 x1 x2 x3 x4 (0 : Int32) h q0 q1 q3 _ _ _ (lv_sub hl [2, 3, 4, 5, 1, 0] rfl) hP hS
def fn_Lk_writeParts (F : Nat) (al : Nat → Bool) (u : Mr) (x0 : Nat) (x1 : Nat) (x2 : Int32) (x3 : Nat) (x4 : Int32) : Option (Mr × Int32) := bk_Lk_writeParts_0 F al u x0 x1 x2 x3 x4
set_option maxHeartbeats 4000000 in
set_option maxRecDepth 100000 in
theorem ct_Lk_writeParts {l : Launch} {D : va_G} {cA : Nat → ClassId} {ad : Nat → Nat} {L : List Nat} {rs : va_W} {al : Nat → Bool} (hal : ∀ k, al k = true → k ∈ L) (hN : L.Nodup) (F : Nat) (u : Mr) (x0 : Nat) (x1 : Nat) (x2 : Int32) (x3 : Nat) (x4 : Int32) (out : Mr × Int32) (h : fn_Lk_writeParts F al u x0 x1 x2 x3 x4 = some out) (q0 : okk al 8 x0 = true) (q1 : okk al 2 x1 = true) (q3 : okk al 6 x3 = true) : CtI l yLk_writeParts wsLk_writeParts rm_Lk_writeParts [.ref (ad x0), .ref (ad x1), .int x2, .ref (ad x3), .int x4] D cA ad L rs u out := by
  intro sz
  refine Met.ofW (cc := cLk_writeParts) (maxL := 9) (ret := (some .int)) (by decide) rfl ?_
  intro p e s m args below meth c s₁ B hml hv
  obtain ⟨rfl, hsz, hP, hK, hD0, hNx⟩ := hv
  subst hsz
  have hD := hD0.self (sz := s.heap.size)
  generalize hAe : va_A (ww ad cA L rs u) s.heap.size = A at hD ⊢
  have hA : ∀ q, s.heap.size ≤ q → A q := fun q h => by rw [← hAe]; exact Or.inr h
  have hl := lv_entry ([.ref (ad x0), .ref (ad x1), .int x2, .ref (ad x3), .int x4]) (n := 9) (Nat.le_of_ble_eq_true rfl)
  rw [lg_entry_eq]
  generalize (lg_sl ([.ref (ad x0), .ref (ad x1), .int x2, .ref (ad x3), .int x4]) ++ List.replicate (9 - (lg_sl ([.ref (ad x0), .ref (ad x1), .int x2, .ref (ad x3), .int x4])).length) Slot.unset).toArray = ls at hl ⊢
  exact wk_Lk_writeParts_0 ⟨B.exec, B.bytes, hml, findClass_of_methodNamed B.named, hts_bw (atoms_spec (ws := wsLk_writeParts) B.pre), B.returns, B.notSynchronized, hK, hA, fun v => ww_D hD, hN, hal, hNx⟩ F out u x0 x1 x2 x3 x4 h q0 q1 q3 _ _ _ (lv_sub hl [0, 1, 2, 3, 4] rfl) hP va_S.rf
abbrev rm_Lk_placeDefinitions : Room := { frames := 0, cells := 0, slots := 0, locals := 0 }
def bk_Lk_placeDefinitions_2 (F : Nat) (al : Nat → Bool) : Nat → Mr → Nat → Nat → Int32 → Option (Mr × Int32)
  | 0, _, _, _, _ => none
  | n + 1, u, x0, x1, x2 => if (16 : Int32) ≤ x2 then (some (u, 0)) else (ck (inb x2 16) (bd1 (rdR al u x1 x2 20) fun y2 => (bd1 (rdR al u x0 0 9) fun y4 => (bd1 (rdR al u x0 1 10) fun y6 => (ck (inb (u.1 y2 2) 2) (bd1 (rdR al u y6 (u.1 y2 2) 11) fun y9 => (ck (inb (u.1 y2 1) 4) (ck (inb x2 16) (bk_Lk_placeDefinitions_2 F al n (stI u y4 x2 ((u.1 y9 (u.1 y2 1)) + (u.1 y2 3))) x0 x1 (x2 + (1 : Int32)))))))))))
set_option maxHeartbeats 4000000 in
set_option maxRecDepth 100000 in
theorem wk_Lk_placeDefinitions_2 (cx : Cx p l e s m args below meth c cLk_placeDefinitions 4 bw "ImageForge$Linker" none D cA ad L rs al A) (F : Nat) (out : Mr × Int32) : ∀ n : Nat, ∀ (u : Mr) (x0 : Nat) (x1 : Nat) (x2 : Int32), bk_Lk_placeDefinitions_2 F al n u x0 x1 x2 = some out → okk al 8 x0 = true → okk al 3 x1 = true → Wb p l e rm_Lk_placeDefinitions s m args below meth c D cA ad L rs A (QV below args s D cA ad L rs A out) 4 2 [(0, .ref (ad x0)), (1, .ref (ad x1)), (2, .int x2)] [] u := by
  obtain ⟨hx, hb, hml, hown, hts, hr, hlocks, hK, hA, hD, hN, hal, hNx⟩ := cx
  intro n
  induction n with
  | zero =>
    intro u x0 x1 x2 h
    cases h
  | succ n ih =>
    intro u x0 x1 x2 h q0 q1 H locs ls hl hP hS
    rw [bk_Lk_placeDefinitions_2] at h
    refine lv_iload_n hx hb dLk_placeDefinitions_2 rfl (lv_at hl 2 rfl) ?_
    refine lv_bipush (v := 16) hx hb dLk_placeDefinitions_3 (by decide) ?_
    refine lv_icmp_ge (tgt := 43) hx hb dLk_placeDefinitions_5 rfl (fun hc => ?_) (fun hc => ?_)
    · replace h := it_t h hc
      exact x_vret hx hb hr hlocks h hP hS dLk_placeDefinitions_43
    · replace h := it_f h hc
      refine lv_aload_n hx hb dLk_placeDefinitions_8 rfl (lv_at hl 1 rfl) ?_
      refine lv_iload_n hx hb dLk_placeDefinitions_9 rfl (lv_at hl 2 rfl) ?_
      obtain ⟨hi1, h⟩ := ck_some h
      obtain ⟨y2, hy3, h⟩ := bd1_some h
      obtain ⟨hy3a, hy3⟩ := rdR_some hy3
      refine x_aald hx hb hK hP (hal _ (okk_al q1)) (okk_t q1) 5 (fun _ _ _ => rfl) rfl rfl (inb_in hi1) hy3a dLk_placeDefinitions_10 ?_
      refine lv_astore_n (lv' := [(3, .ref (ad y2)), (0, .ref (ad x0)), (1, .ref (ad x1)), (2, .int x2)]) hx hb dLk_placeDefinitions_11 rfl hl (by decide) rfl (fun ls hl => ?_)
      refine lv_aload_n hx hb dLk_placeDefinitions_12 rfl (lv_at hl 1 rfl) ?_
      obtain ⟨y4, hy5, h⟩ := bd1_some h
      obtain ⟨hy5a, hy5⟩ := rdR_some hy5
      refine x_get hx hb hts in_Lk hown hK hP (hal _ (okk_al q0)) (okk_t q0) rfl rfl 0 (by decide) (hts _ tw_67) (fun _ h9 => h9) (congrArg some (x_rf hy5a)) dLk_placeDefinitions_13 ?_
      refine lv_iload_n hx hb dLk_placeDefinitions_16 rfl (lv_at hl 3 rfl) ?_
      refine lv_aload_n hx hb dLk_placeDefinitions_17 rfl (lv_at hl 1 rfl) ?_
      obtain ⟨y6, hy7, h⟩ := bd1_some h
      obtain ⟨hy7a, hy7⟩ := rdR_some hy7
      refine x_get hx hb hts in_Lk hown hK hP (hal _ (okk_al q0)) (okk_t q0) rfl rfl 1 (by decide) (hts _ tw_68) (fun _ h9 => h9) (congrArg some (x_rf hy7a)) dLk_placeDefinitions_18 ?_
      refine lv_aload_n hx hb dLk_placeDefinitions_21 rfl (lv_at hl 0 rfl) ?_
      refine x_getN hx hb hts in_Nm hown hK hP (hal _ (okk_al hy3)) (okk_t hy3) rfl rfl 2 (by decide) (nf_14 hNx) (fun _ h9 => h9) rfl dLk_placeDefinitions_22 ?_
      obtain ⟨hi8, h⟩ := ck_some h
      obtain ⟨y9, hy10, h⟩ := bd1_some h
      obtain ⟨hy10a, hy10⟩ := rdR_some hy10
      refine x_aald hx hb hK hP (hal _ (okk_al hy7)) (okk_t hy7) 8 (fun _ _ _ => rfl) rfl rfl (inb_in hi8) hy10a dLk_placeDefinitions_25 ?_
      refine lv_aload_n hx hb dLk_placeDefinitions_26 rfl (lv_at hl 0 rfl) ?_
      refine x_getN hx hb hts in_Nm hown hK hP (hal _ (okk_al hy3)) (okk_t hy3) rfl rfl 1 (by decide) (nf_13 hNx) (fun _ h9 => h9) rfl dLk_placeDefinitions_27 ?_
      obtain ⟨hi11, h⟩ := ck_some h
      refine x_iald hx hb hK hP (hal _ (okk_al hy10)) (okk_t hy10) 0 (fun _ _ _ => rfl) rfl (inb_in hi11) dLk_placeDefinitions_30 ?_
      refine lv_aload_n hx hb dLk_placeDefinitions_31 rfl (lv_at hl 0 rfl) ?_
      refine x_getN hx hb hts in_Nm hown hK hP (hal _ (okk_al hy3)) (okk_t hy3) rfl rfl 3 (by decide) (nf_15 hNx) (fun _ h9 => h9) rfl dLk_placeDefinitions_32 ?_
      refine lv_iadd hx hb dLk_placeDefinitions_35 ?_
      obtain ⟨hi12, h⟩ := ck_some h
      refine x_iast hx hb hK hD hN hP hS (hal _ (okk_al hy5)) (okk_t hy5) 0 (fun _ _ _ => rfl) rfl (by decide) (inb_in hi12) dLk_placeDefinitions_36 (fun H locs hP hS => ?_)
      refine lv_iinc (k := 3) (v := x2 + (1 : Int32)) (lv' := [(2, .int (x2 + (1 : Int32))), (3, .ref (ad y2)), (0, .ref (ad x0)), (1, .ref (ad x1))]) hx hb dLk_placeDefinitions_37 hl rfl (congrArg (fun z => _ + z) (show Int32.ofInt 1 = 1 by decide)) (by decide) rfl (fun ls hl => ?_)
      refine lv_goto (tgt := 2) hx hb dLk_placeDefinitions_40 rfl ?_
      exact ih (stI u y4 x2 ((u.1 y9 (u.1 y2 1)) + (u.1 y2 3))) x0 x1 (x2 + (1 : Int32)) h q0 q1 _ _ _ (lv_sub hl [2, 3, 0] rfl) hP hS
def bk_Lk_placeDefinitions_0 (F : Nat) (al : Nat → Bool) (u : Mr) (x0 : Nat) (x1 : Nat) : Option (Mr × Int32) := bk_Lk_placeDefinitions_2 F al F u x0 x1 (0 : Int32)
set_option maxHeartbeats 4000000 in
set_option maxRecDepth 100000 in
theorem wk_Lk_placeDefinitions_0 (cx : Cx p l e s m args below meth c cLk_placeDefinitions 4 bw "ImageForge$Linker" none D cA ad L rs al A) (F : Nat) (out : Mr × Int32) : ∀ (u : Mr) (x0 : Nat) (x1 : Nat), bk_Lk_placeDefinitions_0 F al u x0 x1 = some out → okk al 8 x0 = true → okk al 3 x1 = true → Wb p l e rm_Lk_placeDefinitions s m args below meth c D cA ad L rs A (QV below args s D cA ad L rs A out) 4 0 [(0, .ref (ad x0)), (1, .ref (ad x1))] [] u := by
  obtain ⟨hx, hb, hml, hown, hts, hr, hlocks, hK, hA, hD, hN, hal, hNx⟩ := cx
  intro u x0 x1 h q0 q1 H locs ls hl hP hS
  unfold bk_Lk_placeDefinitions_0 at h
  refine lv_iconst (v := 0) hx hb dLk_placeDefinitions_0 (by decide) ?_
  refine lv_istore_n (lv' := [(2, .int (0 : Int32)), (0, .ref (ad x0)), (1, .ref (ad x1))]) hx hb dLk_placeDefinitions_1 rfl hl (by decide) rfl (fun ls hl => ?_)
  exact wk_Lk_placeDefinitions_2 ⟨hx, hb, hml, hown, hts, hr, hlocks, hK, hA, hD, hN, hal, hNx⟩ F out F u x0 x1 (0 : Int32) h q0 q1 _ _ _ (lv_sub hl [1, 2, 0] rfl) hP hS
def fn_Lk_placeDefinitions (F : Nat) (al : Nat → Bool) (u : Mr) (x0 : Nat) (x1 : Nat) : Option (Mr × Int32) := bk_Lk_placeDefinitions_0 F al u x0 x1
set_option maxHeartbeats 4000000 in
set_option maxRecDepth 100000 in
theorem ct_Lk_placeDefinitions {l : Launch} {D : va_G} {cA : Nat → ClassId} {ad : Nat → Nat} {L : List Nat} {rs : va_W} {al : Nat → Bool} (hal : ∀ k, al k = true → k ∈ L) (hN : L.Nodup) (F : Nat) (u : Mr) (x0 : Nat) (x1 : Nat) (out : Mr × Int32) (h : fn_Lk_placeDefinitions F al u x0 x1 = some out) (q0 : okk al 8 x0 = true) (q1 : okk al 3 x1 = true) : CtV l yLk_placeDefinitions wsLk_placeDefinitions rm_Lk_placeDefinitions [.ref (ad x0), .ref (ad x1)] D cA ad L rs u out := by
  intro sz
  refine Met.ofW (cc := cLk_placeDefinitions) (maxL := 4) (ret := none) (by decide) rfl ?_
  intro p e s m args below meth c s₁ B hml hv
  obtain ⟨rfl, hsz, hP, hK, hD0, hNx⟩ := hv
  subst hsz
  have hD := hD0.self (sz := s.heap.size)
  generalize hAe : va_A (ww ad cA L rs u) s.heap.size = A at hD ⊢
  have hA : ∀ q, s.heap.size ≤ q → A q := fun q h => by rw [← hAe]; exact Or.inr h
  have hl := lv_entry ([.ref (ad x0), .ref (ad x1)]) (n := 4) (Nat.le_of_ble_eq_true rfl)
  rw [lg_entry_eq]
  generalize (lg_sl ([.ref (ad x0), .ref (ad x1)]) ++ List.replicate (4 - (lg_sl ([.ref (ad x0), .ref (ad x1)])).length) Slot.unset).toArray = ls at hl ⊢
  exact wk_Lk_placeDefinitions_0 ⟨B.exec, B.bytes, hml, findClass_of_methodNamed B.named, hts_bw (atoms_spec (ws := wsLk_placeDefinitions) B.pre), B.returns, B.notSynchronized, hK, hA, fun v => ww_D hD, hN, hal, hNx⟩ F out u x0 x1 h q0 q1 _ _ _ (lv_sub hl [0, 1] rfl) hP va_S.rf
abbrev rm_Lk_countLibraries : Room := { frames := 1, cells := 0, slots := 0, locals := 20 }
def bk_Lk_countLibraries_42 (F : Nat) (al : Nat → Bool) (k11 : Mr → Int32 → Nat → Int32 → Int32 → Option (Mr × Int32)) (u : Mr) (x2 : Int32) (x3 : Nat) (x4 : Int32) (x5 : Int32) : Option (Mr × Int32) := k11 u x2 x3 x4 (x5 + (1 : Int32))
set_option maxHeartbeats 4000000 in
set_option maxRecDepth 100000 in
theorem wk_Lk_countLibraries_42 (cx : Cx p l e s m args below meth c cLk_countLibraries 7 bw "ImageForge$Linker" (some .int) D cA ad L rs al A) (F : Nat) (out : Mr × Int32) {k11 : Mr → Int32 → Nat → Int32 → Int32 → Option (Mr × Int32)} (hk11 : ∀ (u : Mr) (x2 : Int32) (x3 : Nat) (x4 : Int32) (x5 : Int32), k11 u x2 x3 x4 x5 = some out → okk al 3 x3 = true → Wb p l e rm_Lk_countLibraries s m args below meth c D cA ad L rs A (QI below args s D cA ad L rs A out) 7 11 [(2, .int x2), (3, .ref (ad x3)), (4, .int x4), (5, .int x5)] [] u) : ∀ (u : Mr) (x2 : Int32) (x3 : Nat) (x4 : Int32) (x5 : Int32), bk_Lk_countLibraries_42 F al k11 u x2 x3 x4 x5 = some out → okk al 3 x3 = true → Wb p l e rm_Lk_countLibraries s m args below meth c D cA ad L rs A (QI below args s D cA ad L rs A out) 7 42 [(2, .int x2), (3, .ref (ad x3)), (4, .int x4), (5, .int x5)] [] u := by
  obtain ⟨hx, hb, hml, hown, hts, hr, hlocks, hK, hA, hD, hN, hal, hNx⟩ := cx
  intro u x2 x3 x4 x5 h q3 H locs ls hl hP hS
  unfold bk_Lk_countLibraries_42 at h
  refine lv_iinc (k := 3) (v := x5 + (1 : Int32)) (lv' := [(5, .int (x5 + (1 : Int32))), (2, .int x2), (3, .ref (ad x3)), (4, .int x4)]) hx hb dLk_countLibraries_42 hl rfl (congrArg (fun z => _ + z) (show Int32.ofInt 1 = 1 by decide)) (by decide) rfl (fun ls hl => ?_)
  refine lv_goto (tgt := 11) hx hb dLk_countLibraries_45 rfl ?_
  exact hk11 u x2 x3 x4 (x5 + (1 : Int32)) h q3 _ _ _ (lv_sub hl [1, 2, 3, 0] rfl) hP hS
def bk_Lk_countLibraries_11 (F : Nat) (al : Nat → Bool) : Nat → Mr → Int32 → Nat → Int32 → Int32 → Option (Mr × Int32)
  | 0, _, _, _, _, _ => none
  | n + 1, u, x2, x3, x4, x5 => if x4 ≤ x5 then (bd2 (fn_In_bitCount F al u x2) fun u1 v1 => (some (u1, v1))) else (ck (inb x5 16) (bd1 (rdR al u x3 x5 20) fun y3 => (bd2 (fn_Nm_isImported F al u y3) fun u5 v5 => (if v5 = 0 then (bk_Lk_countLibraries_42 F al (bk_Lk_countLibraries_11 F al n) u5 x2 x3 x4 x5) else (bk_Lk_countLibraries_42 F al (bk_Lk_countLibraries_11 F al n) u5 (x2 ||| ((1 : Int32) <<< ((u5.1 y3 4) &&& 31))) x3 x4 x5)))))
set_option maxHeartbeats 4000000 in
set_option maxRecDepth 100000 in
theorem wk_Lk_countLibraries_11 (cx : Cx p l e s m args below meth c cLk_countLibraries 7 bw "ImageForge$Linker" (some .int) D cA ad L rs al A) (F : Nat) (out : Mr × Int32) : ∀ n : Nat, ∀ (u : Mr) (x2 : Int32) (x3 : Nat) (x4 : Int32) (x5 : Int32), bk_Lk_countLibraries_11 F al n u x2 x3 x4 x5 = some out → okk al 3 x3 = true → Wb p l e rm_Lk_countLibraries s m args below meth c D cA ad L rs A (QI below args s D cA ad L rs A out) 7 11 [(2, .int x2), (3, .ref (ad x3)), (4, .int x4), (5, .int x5)] [] u := by
  obtain ⟨hx, hb, hml, hown, hts, hr, hlocks, hK, hA, hD, hN, hal, hNx⟩ := cx
  intro n
  induction n with
  | zero =>
    intro u x2 x3 x4 x5 h
    cases h
  | succ n ih =>
    intro u x2 x3 x4 x5 h q3 H locs ls hl hP hS
    rw [bk_Lk_countLibraries_11] at h
    refine lv_iload hx hb dLk_countLibraries_11 (lv_at hl 3 rfl) ?_
    refine lv_iload hx hb dLk_countLibraries_13 (lv_at hl 2 rfl) ?_
    refine lv_icmp_ge (tgt := 48) hx hb dLk_countLibraries_15 rfl (fun hc => ?_) (fun hc => ?_)
    · replace h := it_t h hc
      refine lv_iload_n hx hb dLk_countLibraries_48 rfl (lv_at hl 0 rfl) ?_
      obtain ⟨u1, v1, hc1, h⟩ := bd2_some h
      refine x_ci (u := u) (out := (u1, v1)) hA hD hS (va_runS (As := [.int x2]) (rest := []) ⟨hx, hb, hml, hown, hts⟩ (ct_In_bitCount hal hN F u x2 (u1, v1) hc1  _) ⟨callB_of 1 hts gdIn_bitCount rfl rfl rfl (hts _ tw_26) (hts _ tw_599) hdIn_bitCount ⟨Nat.le_of_ble_eq_true rfl, Nat.le_of_ble_eq_true rfl⟩, (hts _ tw_600)⟩ (x_preS hK hD hNx hP) rfl rfl hl.1 rfl (lv_room (Nat.le_of_ble_eq_true rfl)) dLk_countLibraries_49 ⟨Nat.zero_le _, Nat.zero_le _⟩) (fun H locs hP hS => ?_)
      exact x_iret hx hb hr hlocks h hP hS dLk_countLibraries_52
    · replace h := it_f h hc
      refine lv_aload_n hx hb dLk_countLibraries_18 rfl (lv_at hl 1 rfl) ?_
      refine lv_iload hx hb dLk_countLibraries_19 (lv_at hl 3 rfl) ?_
      obtain ⟨hi2, h⟩ := ck_some h
      obtain ⟨y3, hy4, h⟩ := bd1_some h
      obtain ⟨hy4a, hy4⟩ := rdR_some hy4
      refine x_aald hx hb hK hP (hal _ (okk_al q3)) (okk_t q3) 5 (fun _ _ _ => rfl) rfl rfl (inb_in hi2) hy4a dLk_countLibraries_21 ?_
      refine lv_astore (lv' := [(6, .ref (ad y3)), (2, .int x2), (3, .ref (ad x3)), (4, .int x4), (5, .int x5)]) hx hb dLk_countLibraries_22 hl (by decide) rfl (fun ls hl => ?_)
      refine lv_aload hx hb dLk_countLibraries_24 (lv_at hl 0 rfl) ?_
      obtain ⟨u5, v5, hc5, h⟩ := bd2_some h
      refine x_ci (u := u) (out := (u5, v5)) hA hD hS (va_runVN (As := []) (rest := []) ⟨hx, hb, hml, hown, hts⟩ (ct_Nm_isImported hal hN F u y3 (u5, v5) hc5 hy4 _) ⟨va_cnB 0 hts gdNm_isImported rfl rfl rfl (nn_22 hNx) (hts _ tw_10) hdNm_isImported ⟨Nat.le_of_ble_eq_true rfl, Nat.le_of_ble_eq_true rfl⟩, (hts _ tw_523), (hts _ tp_14)⟩ (x_preV hK hD hNx hP (hal _ (okk_al hy4)) (okk_t hy4) rfl rfl) rfl rfl hl.1 rfl (lv_room (Nat.le_of_ble_eq_true rfl)) dLk_countLibraries_26 ⟨Nat.zero_le _, Nat.zero_le _⟩) (fun H locs hP hS => ?_)
      refine lv_if_eq (tgt := 42) hx hb dLk_countLibraries_29 rfl (fun hc => ?_) (fun hc => ?_)
      · replace h := it_t h hc
        exact wk_Lk_countLibraries_42 ⟨hx, hb, hml, hown, hts, hr, hlocks, hK, hA, hD, hN, hal, hNx⟩ F out ih u5 x2 x3 x4 x5 h q3 _ _ _ (lv_sub hl [1, 2, 3, 4] rfl) hP hS
      · replace h := it_f h hc
        refine lv_iload_n hx hb dLk_countLibraries_32 rfl (lv_at hl 1 rfl) ?_
        refine lv_iconst (v := 1) hx hb dLk_countLibraries_33 (by decide) ?_
        refine lv_aload hx hb dLk_countLibraries_34 (lv_at hl 0 rfl) ?_
        refine x_getN hx hb hts in_Nm hown hK hP (hal _ (okk_al hy4)) (okk_t hy4) rfl rfl 4 (by decide) (nf_17 hNx) (fun _ h9 => h9) rfl dLk_countLibraries_36 ?_
        refine lv_ishl hx hb dLk_countLibraries_39 ?_
        refine lv_ior hx hb dLk_countLibraries_40 ?_
        refine lv_istore_n (lv' := [(2, .int (x2 ||| ((1 : Int32) <<< ((u5.1 y3 4) &&& 31)))), (6, .ref (ad y3)), (3, .ref (ad x3)), (4, .int x4), (5, .int x5)]) hx hb dLk_countLibraries_41 rfl hl (by decide) rfl (fun ls hl => ?_)
        exact wk_Lk_countLibraries_42 ⟨hx, hb, hml, hown, hts, hr, hlocks, hK, hA, hD, hN, hal, hNx⟩ F out ih u5 (x2 ||| ((1 : Int32) <<< ((u5.1 y3 4) &&& 31))) x3 x4 x5 h q3 _ _ _ (lv_sub hl [0, 2, 3, 4] rfl) hP hS
def bk_Lk_countLibraries_0 (F : Nat) (al : Nat → Bool) (u : Mr) (x1 : Nat) : Option (Mr × Int32) := bk_Lk_countLibraries_11 F al F u (0 : Int32) x1 (16 : Int32) (0 : Int32)
set_option maxHeartbeats 4000000 in
set_option maxRecDepth 100000 in
theorem wk_Lk_countLibraries_0 (cx : Cx p l e s m args below meth c cLk_countLibraries 7 bw "ImageForge$Linker" (some .int) D cA ad L rs al A) (F : Nat) (out : Mr × Int32) : ∀ (u : Mr) (x1 : Nat), bk_Lk_countLibraries_0 F al u x1 = some out → okk al 3 x1 = true → Wb p l e rm_Lk_countLibraries s m args below meth c D cA ad L rs A (QI below args s D cA ad L rs A out) 7 0 [(1, .ref (ad x1))] [] u := by
  obtain ⟨hx, hb, hml, hown, hts, hr, hlocks, hK, hA, hD, hN, hal, hNx⟩ := cx
  intro u x1 h q1 H locs ls hl hP hS
  unfold bk_Lk_countLibraries_0 at h
  refine lv_iconst (v := 0) hx hb dLk_countLibraries_0 (by decide) ?_
  refine lv_istore_n (lv' := [(2, .int (0 : Int32)), (1, .ref (ad x1))]) hx hb dLk_countLibraries_1 rfl hl (by decide) rfl (fun ls hl => ?_)
  refine lv_aload_n hx hb dLk_countLibraries_2 rfl (lv_at hl 1 rfl) ?_
  refine lv_astore_n (lv' := [(3, .ref (ad x1)), (2, .int (0 : Int32)), (1, .ref (ad x1))]) hx hb dLk_countLibraries_3 rfl hl (by decide) rfl (fun ls hl => ?_)
  refine lv_aload_n hx hb dLk_countLibraries_4 rfl (lv_at hl 0 rfl) ?_
  refine x_alen hx hb hK hP (hal _ (okk_al q1)) (okk_t q1) 5 rfl rfl rfl (v := 16) rfl dLk_countLibraries_5 ?_
  refine lv_istore (lv' := [(4, .int (16 : Int32)), (3, .ref (ad x1)), (2, .int (0 : Int32)), (1, .ref (ad x1))]) hx hb dLk_countLibraries_6 hl (by decide) rfl (fun ls hl => ?_)
  refine lv_iconst (v := 0) hx hb dLk_countLibraries_8 (by decide) ?_
  refine lv_istore (lv' := [(5, .int (0 : Int32)), (4, .int (16 : Int32)), (3, .ref (ad x1)), (2, .int (0 : Int32)), (1, .ref (ad x1))]) hx hb dLk_countLibraries_9 hl (by decide) rfl (fun ls hl => ?_)
  exact wk_Lk_countLibraries_11 ⟨hx, hb, hml, hown, hts, hr, hlocks, hK, hA, hD, hN, hal, hNx⟩ F out F u (0 : Int32) x1 (16 : Int32) (0 : Int32) h q1 _ _ _ (lv_sub hl [3, 2, 1, 0] rfl) hP hS
def fn_Lk_countLibraries (F : Nat) (al : Nat → Bool) (u : Mr) (x0 : Nat) (x1 : Nat) : Option (Mr × Int32) := bk_Lk_countLibraries_0 F al u x1
set_option maxHeartbeats 4000000 in
set_option maxRecDepth 100000 in
theorem ct_Lk_countLibraries {l : Launch} {D : va_G} {cA : Nat → ClassId} {ad : Nat → Nat} {L : List Nat} {rs : va_W} {al : Nat → Bool} (hal : ∀ k, al k = true → k ∈ L) (hN : L.Nodup) (F : Nat) (u : Mr) (x0 : Nat) (x1 : Nat) (out : Mr × Int32) (h : fn_Lk_countLibraries F al u x0 x1 = some out) (q0 : okk al 8 x0 = true) (q1 : okk al 3 x1 = true) : CtI l yLk_countLibraries wsLk_countLibraries rm_Lk_countLibraries [.ref (ad x0), .ref (ad x1)] D cA ad L rs u out := by
  intro sz
  refine Met.ofW (cc := cLk_countLibraries) (maxL := 7) (ret := (some .int)) (by decide) rfl ?_
  intro p e s m args below meth c s₁ B hml hv
  obtain ⟨rfl, hsz, hP, hK, hD0, hNx⟩ := hv
  subst hsz
  have hD := hD0.self (sz := s.heap.size)
  generalize hAe : va_A (ww ad cA L rs u) s.heap.size = A at hD ⊢
  have hA : ∀ q, s.heap.size ≤ q → A q := fun q h => by rw [← hAe]; exact Or.inr h
  have hl := lv_entry ([.ref (ad x0), .ref (ad x1)]) (n := 7) (Nat.le_of_ble_eq_true rfl)
  rw [lg_entry_eq]
  generalize (lg_sl ([.ref (ad x0), .ref (ad x1)]) ++ List.replicate (7 - (lg_sl ([.ref (ad x0), .ref (ad x1)])).length) Slot.unset).toArray = ls at hl ⊢
  exact wk_Lk_countLibraries_0 ⟨B.exec, B.bytes, hml, findClass_of_methodNamed B.named, hts_bw (atoms_spec (ws := wsLk_countLibraries) B.pre), B.returns, B.notSynchronized, hK, hA, fun v => ww_D hD, hN, hal, hNx⟩ F out u x1 h q1 _ _ _ (lv_sub hl [1] rfl) hP va_S.rf
abbrev rm_Lk_writeSlots : Room := { frames := 1, cells := 0, slots := 0, locals := 23 }
def bk_Lk_writeSlots_53 (F : Nat) (al : Nat → Bool) (k7 : Mr → Nat → Nat → Int32 → Nat → Int32 → Int32 → Option (Mr × Int32)) (u : Mr) (x0 : Nat) (x1 : Nat) (x2 : Int32) (x3 : Nat) (x5 : Int32) (x6 : Int32) : Option (Mr × Int32) := k7 u x0 x1 x2 x3 x5 (x6 + (1 : Int32))
set_option maxHeartbeats 4000000 in
set_option maxRecDepth 100000 in
theorem wk_Lk_writeSlots_53 (cx : Cx p l e s m args below meth c cLk_writeSlots 7 bw "ImageForge$Linker" (some .int) D cA ad L rs al A) (F : Nat) (out : Mr × Int32) {k7 : Mr → Nat → Nat → Int32 → Nat → Int32 → Int32 → Option (Mr × Int32)} (hk7 : ∀ (u : Mr) (x0 : Nat) (x1 : Nat) (x2 : Int32) (x3 : Nat) (x5 : Int32) (x6 : Int32), k7 u x0 x1 x2 x3 x5 x6 = some out → okk al 8 x0 = true → okk al 3 x1 = true → okk al 6 x3 = true → Wb p l e rm_Lk_writeSlots s m args below meth c D cA ad L rs A (QI below args s D cA ad L rs A out) 7 7 [(0, .ref (ad x0)), (1, .ref (ad x1)), (2, .int x2), (3, .ref (ad x3)), (5, .int x5), (6, .int x6)] [] u) : ∀ (u : Mr) (x0 : Nat) (x1 : Nat) (x2 : Int32) (x3 : Nat) (x5 : Int32) (x6 : Int32), bk_Lk_writeSlots_53 F al k7 u x0 x1 x2 x3 x5 x6 = some out → okk al 8 x0 = true → okk al 3 x1 = true → okk al 6 x3 = true → Wb p l e rm_Lk_writeSlots s m args below meth c D cA ad L rs A (QI below args s D cA ad L rs A out) 7 53 [(0, .ref (ad x0)), (1, .ref (ad x1)), (2, .int x2), (3, .ref (ad x3)), (5, .int x5), (6, .int x6)] [] u := by
  obtain ⟨hx, hb, hml, hown, hts, hr, hlocks, hK, hA, hD, hN, hal, hNx⟩ := cx
  intro u x0 x1 x2 x3 x5 x6 h q0 q1 q3 H locs ls hl hP hS
  unfold bk_Lk_writeSlots_53 at h
  refine lv_iinc (k := 5) (v := x6 + (1 : Int32)) (lv' := [(6, .int (x6 + (1 : Int32))), (0, .ref (ad x0)), (1, .ref (ad x1)), (2, .int x2), (3, .ref (ad x3)), (5, .int x5)]) hx hb dLk_writeSlots_53 hl rfl (congrArg (fun z => _ + z) (show Int32.ofInt 1 = 1 by decide)) (by decide) rfl (fun ls hl => ?_)
  refine lv_goto (tgt := 7) hx hb dLk_writeSlots_56 rfl ?_
  exact hk7 u x0 x1 x2 x3 x5 (x6 + (1 : Int32)) h q0 q1 q3 _ _ _ (lv_sub hl [1, 2, 3, 4, 5, 0] rfl) hP hS
def bk_Lk_writeSlots_7 (F : Nat) (al : Nat → Bool) : Nat → Mr → Nat → Nat → Int32 → Nat → Int32 → Int32 → Option (Mr × Int32)
  | 0, _, _, _, _, _, _, _ => none
  | n + 1, u, x0, x1, x2, x3, x5, x6 => if (16 : Int32) ≤ x6 then (some (u, x5)) else (ck (inb x6 16) (bd1 (rdR al u x1 x6 20) fun y2 => (if (u.1 y2 4) = x2 then (ck (inb x6 16) (bd1 (rdR al u x1 x6 20) fun y5 => (bd2 (fn_Im_setWord F al u x3 x5 ((u.1 y5 5) ||| (-2147483648 : Int32))) fun u7 v7 => (bd1 (rdR al u7 x0 0 9) fun y8 => (ck (inb x6 16) (bk_Lk_writeSlots_53 F al (bk_Lk_writeSlots_7 F al n) (stI u7 y8 x6 x5) x0 x1 x2 x3 (x5 + (4 : Int32)) x6)))))) else (bk_Lk_writeSlots_53 F al (bk_Lk_writeSlots_7 F al n) u x0 x1 x2 x3 x5 x6))))
set_option maxHeartbeats 4000000 in
set_option maxRecDepth 100000 in
theorem wk_Lk_writeSlots_7 (cx : Cx p l e s m args below meth c cLk_writeSlots 7 bw "ImageForge$Linker" (some .int) D cA ad L rs al A) (F : Nat) (out : Mr × Int32) : ∀ n : Nat, ∀ (u : Mr) (x0 : Nat) (x1 : Nat) (x2 : Int32) (x3 : Nat) (x5 : Int32) (x6 : Int32), bk_Lk_writeSlots_7 F al n u x0 x1 x2 x3 x5 x6 = some out → okk al 8 x0 = true → okk al 3 x1 = true → okk al 6 x3 = true → Wb p l e rm_Lk_writeSlots s m args below meth c D cA ad L rs A (QI below args s D cA ad L rs A out) 7 7 [(0, .ref (ad x0)), (1, .ref (ad x1)), (2, .int x2), (3, .ref (ad x3)), (5, .int x5), (6, .int x6)] [] u := by
  obtain ⟨hx, hb, hml, hown, hts, hr, hlocks, hK, hA, hD, hN, hal, hNx⟩ := cx
  intro n
  induction n with
  | zero =>
    intro u x0 x1 x2 x3 x5 x6 h
    cases h
  | succ n ih =>
    intro u x0 x1 x2 x3 x5 x6 h q0 q1 q3 H locs ls hl hP hS
    rw [bk_Lk_writeSlots_7] at h
    refine lv_iload hx hb dLk_writeSlots_7 (lv_at hl 5 rfl) ?_
    refine lv_bipush (v := 16) hx hb dLk_writeSlots_9 (by decide) ?_
    refine lv_icmp_ge (tgt := 59) hx hb dLk_writeSlots_11 rfl (fun hc => ?_) (fun hc => ?_)
    · replace h := it_t h hc
      refine lv_iload hx hb dLk_writeSlots_59 (lv_at hl 4 rfl) ?_
      exact x_iret hx hb hr hlocks h hP hS dLk_writeSlots_61
    · replace h := it_f h hc
      refine lv_aload_n hx hb dLk_writeSlots_14 rfl (lv_at hl 1 rfl) ?_
      refine lv_iload hx hb dLk_writeSlots_15 (lv_at hl 5 rfl) ?_
      obtain ⟨hi1, h⟩ := ck_some h
      obtain ⟨y2, hy3, h⟩ := bd1_some h
      obtain ⟨hy3a, hy3⟩ := rdR_some hy3
      refine x_aald hx hb hK hP (hal _ (okk_al q1)) (okk_t q1) 5 (fun _ _ _ => rfl) rfl rfl (inb_in hi1) hy3a dLk_writeSlots_17 ?_
      refine x_getN hx hb hts in_Nm hown hK hP (hal _ (okk_al hy3)) (okk_t hy3) rfl rfl 4 (by decide) (nf_17 hNx) (fun _ h9 => h9) rfl dLk_writeSlots_18 ?_
      refine lv_iload_n hx hb dLk_writeSlots_21 rfl (lv_at hl 2 rfl) ?_
      refine lv_icmp_ne (tgt := 53) hx hb dLk_writeSlots_22 rfl (fun hc => ?_) (fun hc => ?_)
      · replace h := it_f h hc
        exact wk_Lk_writeSlots_53 ⟨hx, hb, hml, hown, hts, hr, hlocks, hK, hA, hD, hN, hal, hNx⟩ F out ih u x0 x1 x2 x3 x5 x6 h q0 q1 q3 _ _ _ (lv_sub hl [0, 1, 2, 3, 4, 5] rfl) hP hS
      · replace h := it_t h hc
        refine lv_aload_n hx hb dLk_writeSlots_25 rfl (lv_at hl 3 rfl) ?_
        refine lv_iload hx hb dLk_writeSlots_26 (lv_at hl 4 rfl) ?_
        refine lv_aload_n hx hb dLk_writeSlots_28 rfl (lv_at hl 1 rfl) ?_
        refine lv_iload hx hb dLk_writeSlots_29 (lv_at hl 5 rfl) ?_
        obtain ⟨hi4, h⟩ := ck_some h
        obtain ⟨y5, hy6, h⟩ := bd1_some h
        obtain ⟨hy6a, hy6⟩ := rdR_some hy6
        refine x_aald hx hb hK hP (hal _ (okk_al q1)) (okk_t q1) 5 (fun _ _ _ => rfl) rfl rfl (inb_in hi4) hy6a dLk_writeSlots_31 ?_
        refine x_getN hx hb hts in_Nm hown hK hP (hal _ (okk_al hy6)) (okk_t hy6) rfl rfl 5 (by decide) (nf_19 hNx) (fun _ h9 => h9) rfl dLk_writeSlots_32 ?_
        refine lv_ldc (v := (-2147483648)) hx hb hown (hts _ tw_609) dLk_writeSlots_35 ?_
        refine lv_ior hx hb dLk_writeSlots_37 ?_
        obtain ⟨u7, v7, hc7, h⟩ := bd2_some h
        refine x_cv (u := u) (out := (u7, v7)) hA hD hS (va_runVN (As := [.int x5, .int ((u.1 y5 5) ||| (-2147483648 : Int32))]) (rest := []) ⟨hx, hb, hml, hown, hts⟩ (ct_Im_setWord hal hN F u x3 x5 ((u.1 y5 5) ||| (-2147483648 : Int32)) (u7, v7) hc7 q3 _) ⟨va_cnB 2 hts gdIm_setWord rfl rfl rfl (nn_23 hNx) (hts _ tw_2) hdIm_setWord ⟨Nat.le_of_ble_eq_true rfl, Nat.le_of_ble_eq_true rfl⟩, (hts _ tw_584), (hts _ tp_22)⟩ (x_preV hK hD hNx hP (hal _ (okk_al q3)) (okk_t q3) rfl rfl) rfl rfl hl.1 rfl (lv_room (Nat.le_of_ble_eq_true rfl)) dLk_writeSlots_38 ⟨Nat.zero_le _, Nat.zero_le _⟩) (fun H locs hP hS => ?_)
        refine lv_aload_n hx hb dLk_writeSlots_41 rfl (lv_at hl 0 rfl) ?_
        obtain ⟨y8, hy9, h⟩ := bd1_some h
        obtain ⟨hy9a, hy9⟩ := rdR_some hy9
        refine x_get hx hb hts in_Lk hown hK hP (hal _ (okk_al q0)) (okk_t q0) rfl rfl 0 (by decide) (hts _ tw_67) (fun _ h9 => h9) (congrArg some (x_rf hy9a)) dLk_writeSlots_42 ?_
        refine lv_iload hx hb dLk_writeSlots_45 (lv_at hl 5 rfl) ?_
        refine lv_iload hx hb dLk_writeSlots_47 (lv_at hl 4 rfl) ?_
        obtain ⟨hi10, h⟩ := ck_some h
        refine x_iast hx hb hK hD hN hP hS (hal _ (okk_al hy9)) (okk_t hy9) 0 (fun _ _ _ => rfl) rfl (by decide) (inb_in hi10) dLk_writeSlots_49 (fun H locs hP hS => ?_)
        refine lv_iinc (k := 4) (v := x5 + (4 : Int32)) (lv' := [(5, .int (x5 + (4 : Int32))), (0, .ref (ad x0)), (1, .ref (ad x1)), (2, .int x2), (3, .ref (ad x3)), (6, .int x6)]) hx hb dLk_writeSlots_50 hl rfl (congrArg (fun z => _ + z) (show Int32.ofInt 4 = 4 by decide)) (by decide) rfl (fun ls hl => ?_)
        exact wk_Lk_writeSlots_53 ⟨hx, hb, hml, hown, hts, hr, hlocks, hK, hA, hD, hN, hal, hNx⟩ F out ih (stI u7 y8 x6 x5) x0 x1 x2 x3 (x5 + (4 : Int32)) x6 h q0 q1 q3 _ _ _ (lv_sub hl [1, 2, 3, 4, 0, 5] rfl) hP hS
def bk_Lk_writeSlots_0 (F : Nat) (al : Nat → Bool) (u : Mr) (x0 : Nat) (x1 : Nat) (x2 : Int32) (x3 : Nat) (x4 : Int32) : Option (Mr × Int32) := bk_Lk_writeSlots_7 F al F u x0 x1 x2 x3 x4 (0 : Int32)
set_option maxHeartbeats 4000000 in
set_option maxRecDepth 100000 in
theorem wk_Lk_writeSlots_0 (cx : Cx p l e s m args below meth c cLk_writeSlots 7 bw "ImageForge$Linker" (some .int) D cA ad L rs al A) (F : Nat) (out : Mr × Int32) : ∀ (u : Mr) (x0 : Nat) (x1 : Nat) (x2 : Int32) (x3 : Nat) (x4 : Int32), bk_Lk_writeSlots_0 F al u x0 x1 x2 x3 x4 = some out → okk al 8 x0 = true → okk al 3 x1 = true → okk al 6 x3 = true → Wb p l e rm_Lk_writeSlots s m args below meth c D cA ad L rs A (QI below args s D cA ad L rs A out) 7 0 [(0, .ref (ad x0)), (1, .ref (ad x1)), (2, .int x2), (3, .ref (ad x3)), (4, .int x4)] [] u := by
  obtain ⟨hx, hb, hml, hown, hts, hr, hlocks, hK, hA, hD, hN, hal, hNx⟩ := cx
  intro u x0 x1 x2 x3 x4 h q0 q1 q3 H locs ls hl hP hS
  unfold bk_Lk_writeSlots_0 at h
  refine lv_iload hx hb dLk_writeSlots_0 (lv_at hl 4 rfl) ?_
  refine lv_istore (lv' := [(5, .int x4), (0, .ref (ad x0)), (1, .ref (ad x1)), (2, .int x2), (3, .ref (ad x3)), (4, .int x4)]) hx hb dLk_writeSlots_2 hl (by decide) rfl (fun ls hl => ?_)
  refine lv_iconst (v := 0) hx hb dLk_writeSlots_4 (by decide) ?_
  refine lv_istore (lv' := [(6, .int (0 : Int32)), (5, .int x4), (0, .ref (ad x0)), (1, .ref (ad x1)), (2, .int x2), (3, .ref (ad x3)), (4, .int x4)]) hx hb dLk_writeSlots_5 hl (by decide) rfl (fun ls hl => ?_)
  exact wk_Lk_writeSlots_7 ⟨hx, hb, hml, hown, hts, hr, hlocks, hK, hA, hD, hN, hal, hNx⟩ F out F u x0 x1 x2 x3 x4 (0 : Int32) h q0 q1 q3 _ _ _ (lv_sub hl [2, 3, 4, 5, 1, 0] rfl) hP hS
def fn_Lk_writeSlots (F : Nat) (al : Nat → Bool) (u : Mr) (x0 : Nat) (x1 : Nat) (x2 : Int32) (x3 : Nat) (x4 : Int32) : Option (Mr × Int32) := bk_Lk_writeSlots_0 F al u x0 x1 x2 x3 x4
set_option maxHeartbeats 4000000 in
set_option maxRecDepth 100000 in
theorem ct_Lk_writeSlots {l : Launch} {D : va_G} {cA : Nat → ClassId} {ad : Nat → Nat} {L : List Nat} {rs : va_W} {al : Nat → Bool} (hal : ∀ k, al k = true → k ∈ L) (hN : L.Nodup) (F : Nat) (u : Mr) (x0 : Nat) (x1 : Nat) (x2 : Int32) (x3 : Nat) (x4 : Int32) (out : Mr × Int32) (h : fn_Lk_writeSlots F al u x0 x1 x2 x3 x4 = some out) (q0 : okk al 8 x0 = true) (q1 : okk al 3 x1 = true) (q3 : okk al 6 x3 = true) : CtI l yLk_writeSlots wsLk_writeSlots rm_Lk_writeSlots [.ref (ad x0), .ref (ad x1), .int x2, .ref (ad x3), .int x4] D cA ad L rs u out := by
  intro sz
  refine Met.ofW (cc := cLk_writeSlots) (maxL := 7) (ret := (some .int)) (by decide) rfl ?_
  intro p e s m args below meth c s₁ B hml hv
  obtain ⟨rfl, hsz, hP, hK, hD0, hNx⟩ := hv
  subst hsz
  have hD := hD0.self (sz := s.heap.size)
  generalize hAe : va_A (ww ad cA L rs u) s.heap.size = A at hD ⊢
  have hA : ∀ q, s.heap.size ≤ q → A q := fun q h => by rw [← hAe]; exact Or.inr h
  have hl := lv_entry ([.ref (ad x0), .ref (ad x1), .int x2, .ref (ad x3), .int x4]) (n := 7) (Nat.le_of_ble_eq_true rfl)
  rw [lg_entry_eq]
  generalize (lg_sl ([.ref (ad x0), .ref (ad x1), .int x2, .ref (ad x3), .int x4]) ++ List.replicate (7 - (lg_sl ([.ref (ad x0), .ref (ad x1), .int x2, .ref (ad x3), .int x4])).length) Slot.unset).toArray = ls at hl ⊢
  exact wk_Lk_writeSlots_0 ⟨B.exec, B.bytes, hml, findClass_of_methodNamed B.named, hts_bw (atoms_spec (ws := wsLk_writeSlots) B.pre), B.returns, B.notSynchronized, hK, hA, fun v => ww_D hD, hN, hal, hNx⟩ F out u x0 x1 x2 x3 x4 h q0 q1 q3 _ _ _ (lv_sub hl [0, 1, 2, 3, 4] rfl) hP va_S.rf
abbrev rm_Lk_writeImports : Room := { frames := 2, cells := 0, slots := 0, locals := 49 }
def bk_Lk_writeImports_85 (F : Nat) (al : Nat → Bool) (k31 : Mr → Nat → Nat → Nat → Int32 → Int32 → Int32 → Option (Mr × Int32)) (u : Mr) (x0 : Nat) (x1 : Nat) (x2 : Nat) (x5 : Int32) (x6 : Int32) (x7 : Int32) : Option (Mr × Int32) := k31 u x0 x1 x2 x5 x6 (x7 + (1 : Int32))
set_option maxHeartbeats 4000000 in
set_option maxRecDepth 100000 in
theorem wk_Lk_writeImports_85 (cx : Cx p l e s m args below meth c cLk_writeImports 9 bw "ImageForge$Linker" (some .int) D cA ad L rs al A) (F : Nat) (out : Mr × Int32) {k31 : Mr → Nat → Nat → Nat → Int32 → Int32 → Int32 → Option (Mr × Int32)} (hk31 : ∀ (u : Mr) (x0 : Nat) (x1 : Nat) (x2 : Nat) (x5 : Int32) (x6 : Int32) (x7 : Int32), k31 u x0 x1 x2 x5 x6 x7 = some out → okk al 8 x0 = true → okk al 3 x1 = true → okk al 6 x2 = true → Wb p l e rm_Lk_writeImports s m args below meth c D cA ad L rs A (QI below args s D cA ad L rs A out) 9 31 [(0, .ref (ad x0)), (1, .ref (ad x1)), (2, .ref (ad x2)), (5, .int x5), (6, .int x6), (7, .int x7)] [] u) : ∀ (u : Mr) (x0 : Nat) (x1 : Nat) (x2 : Nat) (x5 : Int32) (x6 : Int32) (x7 : Int32), bk_Lk_writeImports_85 F al k31 u x0 x1 x2 x5 x6 x7 = some out → okk al 8 x0 = true → okk al 3 x1 = true → okk al 6 x2 = true → Wb p l e rm_Lk_writeImports s m args below meth c D cA ad L rs A (QI below args s D cA ad L rs A out) 9 85 [(0, .ref (ad x0)), (1, .ref (ad x1)), (2, .ref (ad x2)), (5, .int x5), (6, .int x6), (7, .int x7)] [] u := by
  obtain ⟨hx, hb, hml, hown, hts, hr, hlocks, hK, hA, hD, hN, hal, hNx⟩ := cx
  intro u x0 x1 x2 x5 x6 x7 h q0 q1 q2 H locs ls hl hP hS
  unfold bk_Lk_writeImports_85 at h
  refine lv_iinc (k := 5) (v := x7 + (1 : Int32)) (lv' := [(7, .int (x7 + (1 : Int32))), (0, .ref (ad x0)), (1, .ref (ad x1)), (2, .ref (ad x2)), (5, .int x5), (6, .int x6)]) hx hb dLk_writeImports_85 hl rfl (congrArg (fun z => _ + z) (show Int32.ofInt 1 = 1 by decide)) (by decide) rfl (fun ls hl => ?_)
  refine lv_goto (tgt := 31) hx hb dLk_writeImports_88 rfl ?_
  exact hk31 u x0 x1 x2 x5 x6 (x7 + (1 : Int32)) h q0 q1 q2 _ _ _ (lv_sub hl [1, 2, 3, 4, 5, 0] rfl) hP hS
def bk_Lk_writeImports_31 (F : Nat) (al : Nat → Bool) : Nat → Mr → Nat → Nat → Nat → Int32 → Int32 → Int32 → Option (Mr × Int32)
  | 0, _, _, _, _, _, _, _ => none
  | n + 1, u, x0, x1, x2, x5, x6, x7 => if (4 : Int32) ≤ x7 then (some (u, x6)) else (bd2 (fn_Lk_writeSlots F al u x0 x1 x7 x2 x6) fun u1 v1 => (if v1 = x6 then (bk_Lk_writeImports_85 F al (bk_Lk_writeImports_31 F al n) u1 x0 x1 x2 x5 x6 x7) else (bd2 (fn_Im_setWord F al u1 x2 x5 (x7 + (1 : Int32))) fun u2 v2 => (bd2 (fn_Im_setWord F al u2 x2 (x5 + (4 : Int32)) x6) fun u3 v3 => (bk_Lk_writeImports_85 F al (bk_Lk_writeImports_31 F al n) u3 x0 x1 x2 (x5 + (8 : Int32)) (v1 + (4 : Int32)) x7)))))
set_option maxHeartbeats 4000000 in
set_option maxRecDepth 100000 in
theorem wk_Lk_writeImports_31 (cx : Cx p l e s m args below meth c cLk_writeImports 9 bw "ImageForge$Linker" (some .int) D cA ad L rs al A) (F : Nat) (out : Mr × Int32) : ∀ n : Nat, ∀ (u : Mr) (x0 : Nat) (x1 : Nat) (x2 : Nat) (x5 : Int32) (x6 : Int32) (x7 : Int32), bk_Lk_writeImports_31 F al n u x0 x1 x2 x5 x6 x7 = some out → okk al 8 x0 = true → okk al 3 x1 = true → okk al 6 x2 = true → Wb p l e rm_Lk_writeImports s m args below meth c D cA ad L rs A (QI below args s D cA ad L rs A out) 9 31 [(0, .ref (ad x0)), (1, .ref (ad x1)), (2, .ref (ad x2)), (5, .int x5), (6, .int x6), (7, .int x7)] [] u := by
  obtain ⟨hx, hb, hml, hown, hts, hr, hlocks, hK, hA, hD, hN, hal, hNx⟩ := cx
  intro n
  induction n with
  | zero =>
    intro u x0 x1 x2 x5 x6 x7 h
    cases h
  | succ n ih =>
    intro u x0 x1 x2 x5 x6 x7 h q0 q1 q2 H locs ls hl hP hS
    rw [bk_Lk_writeImports_31] at h
    refine lv_iload hx hb dLk_writeImports_31 (lv_at hl 5 rfl) ?_
    refine lv_iconst (v := 4) hx hb dLk_writeImports_33 (by decide) ?_
    refine lv_icmp_ge (tgt := 91) hx hb dLk_writeImports_34 rfl (fun hc => ?_) (fun hc => ?_)
    · replace h := it_t h hc
      refine lv_iload hx hb dLk_writeImports_91 (lv_at hl 4 rfl) ?_
      exact x_iret hx hb hr hlocks h hP hS dLk_writeImports_93
    · replace h := it_f h hc
      refine lv_aload_n hx hb dLk_writeImports_37 rfl (lv_at hl 0 rfl) ?_
      refine lv_aload_n hx hb dLk_writeImports_38 rfl (lv_at hl 1 rfl) ?_
      refine lv_iload hx hb dLk_writeImports_39 (lv_at hl 5 rfl) ?_
      refine lv_aload_n hx hb dLk_writeImports_41 rfl (lv_at hl 2 rfl) ?_
      refine lv_iload hx hb dLk_writeImports_42 (lv_at hl 4 rfl) ?_
      obtain ⟨u1, v1, hc1, h⟩ := bd2_some h
      refine x_ci (u := u) (out := (u1, v1)) hA hD hS (va_runV (As := [.ref (ad x1), .int x7, .ref (ad x2), .int x6]) (rest := []) ⟨hx, hb, hml, hown, hts⟩ (ct_Lk_writeSlots hal hN F u x0 x1 x7 x2 x6 (u1, v1) hc1 q0 q1 q2 _) ⟨callB_of 4 hts gdLk_writeSlots rfl rfl rfl (hts _ tw_3) (hts _ tw_605) hdLk_writeSlots ⟨Nat.le_of_ble_eq_true rfl, Nat.le_of_ble_eq_true rfl⟩, (hts _ tw_607), (hts _ tp_26)⟩ (x_preV hK hD hNx hP (hal _ (okk_al q0)) (okk_t q0) rfl rfl) rfl rfl hl.1 rfl (lv_room (Nat.le_of_ble_eq_true rfl)) dLk_writeImports_44 ⟨Nat.zero_le _, Nat.zero_le _⟩) (fun H locs hP hS => ?_)
      refine lv_istore (lv' := [(8, .int v1), (0, .ref (ad x0)), (1, .ref (ad x1)), (2, .ref (ad x2)), (5, .int x5), (6, .int x6), (7, .int x7)]) hx hb dLk_writeImports_47 hl (by decide) rfl (fun ls hl => ?_)
      refine lv_iload hx hb dLk_writeImports_49 (lv_at hl 0 rfl) ?_
      refine lv_iload hx hb dLk_writeImports_51 (lv_at hl 5 rfl) ?_
      refine lv_icmp_eq (tgt := 85) hx hb dLk_writeImports_53 rfl (fun hc => ?_) (fun hc => ?_)
      · replace h := it_t h hc
        exact wk_Lk_writeImports_85 ⟨hx, hb, hml, hown, hts, hr, hlocks, hK, hA, hD, hN, hal, hNx⟩ F out ih u1 x0 x1 x2 x5 x6 x7 h q0 q1 q2 _ _ _ (lv_sub hl [1, 2, 3, 4, 5, 6] rfl) hP hS
      · replace h := it_f h hc
        refine lv_aload_n hx hb dLk_writeImports_56 rfl (lv_at hl 3 rfl) ?_
        refine lv_iload hx hb dLk_writeImports_57 (lv_at hl 4 rfl) ?_
        refine lv_iload hx hb dLk_writeImports_59 (lv_at hl 6 rfl) ?_
        refine lv_iconst (v := 1) hx hb dLk_writeImports_61 (by decide) ?_
        refine lv_iadd hx hb dLk_writeImports_62 ?_
        obtain ⟨u2, v2, hc2, h⟩ := bd2_some h
        refine x_cv (u := u1) (out := (u2, v2)) hA hD hS (va_runVN (As := [.int x5, .int (x7 + (1 : Int32))]) (rest := []) ⟨hx, hb, hml, hown, hts⟩ (ct_Im_setWord hal hN F u1 x2 x5 (x7 + (1 : Int32)) (u2, v2) hc2 q2 _) ⟨va_cnB 2 hts gdIm_setWord rfl rfl rfl (nn_23 hNx) (hts _ tw_2) hdIm_setWord ⟨Nat.le_of_ble_eq_true rfl, Nat.le_of_ble_eq_true rfl⟩, (hts _ tw_584), (hts _ tp_22)⟩ (x_preV hK hD hNx hP (hal _ (okk_al q2)) (okk_t q2) rfl rfl) rfl rfl hl.1 rfl (lv_room (Nat.le_of_ble_eq_true rfl)) dLk_writeImports_63 ⟨Nat.zero_le _, Nat.zero_le _⟩) (fun H locs hP hS => ?_)
        refine lv_aload_n hx hb dLk_writeImports_66 rfl (lv_at hl 3 rfl) ?_
        refine lv_iload hx hb dLk_writeImports_67 (lv_at hl 4 rfl) ?_
        refine lv_iconst (v := 4) hx hb dLk_writeImports_69 (by decide) ?_
        refine lv_iadd hx hb dLk_writeImports_70 ?_
        refine lv_iload hx hb dLk_writeImports_71 (lv_at hl 5 rfl) ?_
        obtain ⟨u3, v3, hc3, h⟩ := bd2_some h
        refine x_cv (u := u2) (out := (u3, v3)) hA hD hS (va_runVN (As := [.int (x5 + (4 : Int32)), .int x6]) (rest := []) ⟨hx, hb, hml, hown, hts⟩ (ct_Im_setWord hal hN F u2 x2 (x5 + (4 : Int32)) x6 (u3, v3) hc3 q2 _) ⟨va_cnB 2 hts gdIm_setWord rfl rfl rfl (nn_23 hNx) (hts _ tw_2) hdIm_setWord ⟨Nat.le_of_ble_eq_true rfl, Nat.le_of_ble_eq_true rfl⟩, (hts _ tw_584), (hts _ tp_22)⟩ (x_preV hK hD hNx hP (hal _ (okk_al q2)) (okk_t q2) rfl rfl) rfl rfl hl.1 rfl (lv_room (Nat.le_of_ble_eq_true rfl)) dLk_writeImports_73 ⟨Nat.zero_le _, Nat.zero_le _⟩) (fun H locs hP hS => ?_)
        refine lv_iinc (k := 4) (v := x5 + (8 : Int32)) (lv' := [(5, .int (x5 + (8 : Int32))), (8, .int v1), (0, .ref (ad x0)), (1, .ref (ad x1)), (2, .ref (ad x2)), (6, .int x6), (7, .int x7)]) hx hb dLk_writeImports_76 hl rfl (congrArg (fun z => _ + z) (show Int32.ofInt 8 = 8 by decide)) (by decide) rfl (fun ls hl => ?_)
        refine lv_iload hx hb dLk_writeImports_79 (lv_at hl 1 rfl) ?_
        refine lv_iconst (v := 4) hx hb dLk_writeImports_81 (by decide) ?_
        refine lv_iadd hx hb dLk_writeImports_82 ?_
        refine lv_istore (lv' := [(6, .int (v1 + (4 : Int32))), (5, .int (x5 + (8 : Int32))), (8, .int v1), (0, .ref (ad x0)), (1, .ref (ad x1)), (2, .ref (ad x2)), (7, .int x7)]) hx hb dLk_writeImports_83 hl (by decide) rfl (fun ls hl => ?_)
        exact wk_Lk_writeImports_85 ⟨hx, hb, hml, hown, hts, hr, hlocks, hK, hA, hD, hN, hal, hNx⟩ F out ih u3 x0 x1 x2 (x5 + (8 : Int32)) (v1 + (4 : Int32)) x7 h q0 q1 q2 _ _ _ (lv_sub hl [3, 4, 5, 1, 0, 6] rfl) hP hS
def bk_Lk_writeImports_0 (F : Nat) (al : Nat → Bool) (u : Mr) (x0 : Nat) (x1 : Nat) (x2 : Nat) (x3 : Int32) : Option (Mr × Int32) := bd2 (fn_Lk_countLibraries F al u x0 x1) fun u1 v1 => (if v1 = 0 then (some (u1, x3)) else (bk_Lk_writeImports_31 F al F u1 x0 x1 x2 x3 (x3 + ((v1 + (1 : Int32)) * (8 : Int32))) (0 : Int32)))
set_option maxHeartbeats 4000000 in
set_option maxRecDepth 100000 in
theorem wk_Lk_writeImports_0 (cx : Cx p l e s m args below meth c cLk_writeImports 9 bw "ImageForge$Linker" (some .int) D cA ad L rs al A) (F : Nat) (out : Mr × Int32) : ∀ (u : Mr) (x0 : Nat) (x1 : Nat) (x2 : Nat) (x3 : Int32), bk_Lk_writeImports_0 F al u x0 x1 x2 x3 = some out → okk al 8 x0 = true → okk al 3 x1 = true → okk al 6 x2 = true → Wb p l e rm_Lk_writeImports s m args below meth c D cA ad L rs A (QI below args s D cA ad L rs A out) 9 0 [(0, .ref (ad x0)), (1, .ref (ad x1)), (2, .ref (ad x2)), (3, .int x3)] [] u := by
  obtain ⟨hx, hb, hml, hown, hts, hr, hlocks, hK, hA, hD, hN, hal, hNx⟩ := cx
  intro u x0 x1 x2 x3 h q0 q1 q2 H locs ls hl hP hS
  unfold bk_Lk_writeImports_0 at h
  refine lv_aload_n hx hb dLk_writeImports_0 rfl (lv_at hl 0 rfl) ?_
  refine lv_aload_n hx hb dLk_writeImports_1 rfl (lv_at hl 1 rfl) ?_
  obtain ⟨u1, v1, hc1, h⟩ := bd2_some h
  refine x_ci (u := u) (out := (u1, v1)) hA hD hS (va_runV (As := [.ref (ad x1)]) (rest := []) ⟨hx, hb, hml, hown, hts⟩ (ct_Lk_countLibraries hal hN F u x0 x1 (u1, v1) hc1 q0 q1 _) ⟨callB_of 1 hts gdLk_countLibraries rfl rfl rfl (hts _ tw_3) (hts _ tw_594) hdLk_countLibraries ⟨Nat.le_of_ble_eq_true rfl, Nat.le_of_ble_eq_true rfl⟩, (hts _ tw_596), (hts _ tp_25)⟩ (x_preV hK hD hNx hP (hal _ (okk_al q0)) (okk_t q0) rfl rfl) rfl rfl hl.1 rfl (lv_room (Nat.le_of_ble_eq_true rfl)) dLk_writeImports_2 ⟨Nat.zero_le _, Nat.zero_le _⟩) (fun H locs hP hS => ?_)
  refine lv_istore (lv' := [(4, .int v1), (0, .ref (ad x0)), (1, .ref (ad x1)), (2, .ref (ad x2)), (3, .int x3)]) hx hb dLk_writeImports_5 hl (by decide) rfl (fun ls hl => ?_)
  refine lv_iload hx hb dLk_writeImports_7 (lv_at hl 0 rfl) ?_
  refine lv_if_ne (tgt := 14) hx hb dLk_writeImports_9 rfl (fun hc => ?_) (fun hc => ?_)
  · replace h := it_f h hc
    refine lv_iload_n hx hb dLk_writeImports_14 rfl (lv_at hl 4 rfl) ?_
    refine lv_istore (lv' := [(5, .int x3), (4, .int v1), (0, .ref (ad x0)), (1, .ref (ad x1)), (2, .ref (ad x2)), (3, .int x3)]) hx hb dLk_writeImports_15 hl (by decide) rfl (fun ls hl => ?_)
    refine lv_iload_n hx hb dLk_writeImports_17 rfl (lv_at hl 5 rfl) ?_
    refine lv_iload hx hb dLk_writeImports_18 (lv_at hl 1 rfl) ?_
    refine lv_iconst (v := 1) hx hb dLk_writeImports_20 (by decide) ?_
    refine lv_iadd hx hb dLk_writeImports_21 ?_
    refine lv_bipush (v := 8) hx hb dLk_writeImports_22 (by decide) ?_
    refine lv_imul hx hb dLk_writeImports_24 ?_
    refine lv_iadd hx hb dLk_writeImports_25 ?_
    refine lv_istore (lv' := [(6, .int (x3 + ((v1 + (1 : Int32)) * (8 : Int32)))), (5, .int x3), (4, .int v1), (0, .ref (ad x0)), (1, .ref (ad x1)), (2, .ref (ad x2)), (3, .int x3)]) hx hb dLk_writeImports_26 hl (by decide) rfl (fun ls hl => ?_)
    refine lv_iconst (v := 0) hx hb dLk_writeImports_28 (by decide) ?_
    refine lv_istore (lv' := [(7, .int (0 : Int32)), (6, .int (x3 + ((v1 + (1 : Int32)) * (8 : Int32)))), (5, .int x3), (4, .int v1), (0, .ref (ad x0)), (1, .ref (ad x1)), (2, .ref (ad x2)), (3, .int x3)]) hx hb dLk_writeImports_29 hl (by decide) rfl (fun ls hl => ?_)
    exact wk_Lk_writeImports_31 ⟨hx, hb, hml, hown, hts, hr, hlocks, hK, hA, hD, hN, hal, hNx⟩ F out F u1 x0 x1 x2 x3 (x3 + ((v1 + (1 : Int32)) * (8 : Int32))) (0 : Int32) h q0 q1 q2 _ _ _ (lv_sub hl [4, 5, 6, 2, 1, 0] rfl) hP hS
  · replace h := it_t h hc
    refine lv_iload_n hx hb dLk_writeImports_12 rfl (lv_at hl 4 rfl) ?_
    exact x_iret hx hb hr hlocks h hP hS dLk_writeImports_13
def fn_Lk_writeImports (F : Nat) (al : Nat → Bool) (u : Mr) (x0 : Nat) (x1 : Nat) (x2 : Nat) (x3 : Int32) : Option (Mr × Int32) := bk_Lk_writeImports_0 F al u x0 x1 x2 x3
set_option maxHeartbeats 4000000 in
set_option maxRecDepth 100000 in
theorem ct_Lk_writeImports {l : Launch} {D : va_G} {cA : Nat → ClassId} {ad : Nat → Nat} {L : List Nat} {rs : va_W} {al : Nat → Bool} (hal : ∀ k, al k = true → k ∈ L) (hN : L.Nodup) (F : Nat) (u : Mr) (x0 : Nat) (x1 : Nat) (x2 : Nat) (x3 : Int32) (out : Mr × Int32) (h : fn_Lk_writeImports F al u x0 x1 x2 x3 = some out) (q0 : okk al 8 x0 = true) (q1 : okk al 3 x1 = true) (q2 : okk al 6 x2 = true) : CtI l yLk_writeImports wsLk_writeImports rm_Lk_writeImports [.ref (ad x0), .ref (ad x1), .ref (ad x2), .int x3] D cA ad L rs u out := by
  intro sz
  refine Met.ofW (cc := cLk_writeImports) (maxL := 9) (ret := (some .int)) (by decide) rfl ?_
  intro p e s m args below meth c s₁ B hml hv
  obtain ⟨rfl, hsz, hP, hK, hD0, hNx⟩ := hv
  subst hsz
  have hD := hD0.self (sz := s.heap.size)
  generalize hAe : va_A (ww ad cA L rs u) s.heap.size = A at hD ⊢
  have hA : ∀ q, s.heap.size ≤ q → A q := fun q h => by rw [← hAe]; exact Or.inr h
  have hl := lv_entry ([.ref (ad x0), .ref (ad x1), .ref (ad x2), .int x3]) (n := 9) (Nat.le_of_ble_eq_true rfl)
  rw [lg_entry_eq]
  generalize (lg_sl ([.ref (ad x0), .ref (ad x1), .ref (ad x2), .int x3]) ++ List.replicate (9 - (lg_sl ([.ref (ad x0), .ref (ad x1), .ref (ad x2), .int x3])).length) Slot.unset).toArray = ls at hl ⊢
  exact wk_Lk_writeImports_0 ⟨B.exec, B.bytes, hml, findClass_of_methodNamed B.named, hts_bw (atoms_spec (ws := wsLk_writeImports) B.pre), B.returns, B.notSynchronized, hK, hA, fun v => ww_D hD, hN, hal, hNx⟩ F out u x0 x1 x2 x3 h q0 q1 q2 _ _ _ (lv_sub hl [0, 1, 2, 3] rfl) hP va_S.rf
abbrev rm_Lk_writeExports : Room := { frames := 1, cells := 0, slots := 0, locals := 23 }
def bk_Lk_writeExports_57 (F : Nat) (al : Nat → Bool) (k11 : Mr → Nat → Nat → Nat → Int32 → Int32 → Int32 → Int32 → Option (Mr × Int32)) (u : Mr) (x0 : Nat) (x1 : Nat) (x2 : Nat) (x3 : Int32) (x4 : Int32) (x5 : Int32) (x6 : Int32) : Option (Mr × Int32) := k11 u x0 x1 x2 x3 x4 x5 (x6 + (1 : Int32))
set_option maxHeartbeats 4000000 in
set_option maxRecDepth 100000 in
theorem wk_Lk_writeExports_57 (cx : Cx p l e s m args below meth c cLk_writeExports 7 bw "ImageForge$Linker" (some .int) D cA ad L rs al A) (F : Nat) (out : Mr × Int32) {k11 : Mr → Nat → Nat → Nat → Int32 → Int32 → Int32 → Int32 → Option (Mr × Int32)} (hk11 : ∀ (u : Mr) (x0 : Nat) (x1 : Nat) (x2 : Nat) (x3 : Int32) (x4 : Int32) (x5 : Int32) (x6 : Int32), k11 u x0 x1 x2 x3 x4 x5 x6 = some out → okk al 8 x0 = true → okk al 3 x1 = true → okk al 6 x2 = true → Wb p l e rm_Lk_writeExports s m args below meth c D cA ad L rs A (QI below args s D cA ad L rs A out) 7 11 [(0, .ref (ad x0)), (1, .ref (ad x1)), (2, .ref (ad x2)), (3, .int x3), (4, .int x4), (5, .int x5), (6, .int x6)] [] u) : ∀ (u : Mr) (x0 : Nat) (x1 : Nat) (x2 : Nat) (x3 : Int32) (x4 : Int32) (x5 : Int32) (x6 : Int32), bk_Lk_writeExports_57 F al k11 u x0 x1 x2 x3 x4 x5 x6 = some out → okk al 8 x0 = true → okk al 3 x1 = true → okk al 6 x2 = true → Wb p l e rm_Lk_writeExports s m args below meth c D cA ad L rs A (QI below args s D cA ad L rs A out) 7 57 [(0, .ref (ad x0)), (1, .ref (ad x1)), (2, .ref (ad x2)), (3, .int x3), (4, .int x4), (5, .int x5), (6, .int x6)] [] u := by
  obtain ⟨hx, hb, hml, hown, hts, hr, hlocks, hK, hA, hD, hN, hal, hNx⟩ := cx
  intro u x0 x1 x2 x3 x4 x5 x6 h q0 q1 q2 H locs ls hl hP hS
  unfold bk_Lk_writeExports_57 at h
  refine lv_iinc (k := 6) (v := x6 + (1 : Int32)) (lv' := [(6, .int (x6 + (1 : Int32))), (0, .ref (ad x0)), (1, .ref (ad x1)), (2, .ref (ad x2)), (3, .int x3), (4, .int x4), (5, .int x5)]) hx hb dLk_writeExports_57 hl rfl (congrArg (fun z => _ + z) (show Int32.ofInt 1 = 1 by decide)) (by decide) rfl (fun ls hl => ?_)
  refine lv_goto (tgt := 11) hx hb dLk_writeExports_60 rfl ?_
  exact hk11 u x0 x1 x2 x3 x4 x5 (x6 + (1 : Int32)) h q0 q1 q2 _ _ _ (lv_sub hl [1, 2, 3, 4, 5, 6, 0] rfl) hP hS
def bk_Lk_writeExports_11 (F : Nat) (al : Nat → Bool) : Nat → Mr → Nat → Nat → Nat → Int32 → Int32 → Int32 → Int32 → Option (Mr × Int32)
  | 0, _, _, _, _, _, _, _, _ => none
  | n + 1, u, x0, x1, x2, x3, x4, x5, x6 => if (16 : Int32) ≤ x6 then (if x4 = 0 then (some (u, x3)) else (bd2 (fn_Im_setWord F al u x2 x3 x4) fun u1 v1 => (some (u1, x5)))) else (ck (inb x6 16) (bd1 (rdR al u x1 x6 20) fun y3 => (if (u.1 y3 6) = 0 then (bk_Lk_writeExports_57 F al (bk_Lk_writeExports_11 F al n) u x0 x1 x2 x3 x4 x5 x6) else (bd2 (fn_Im_setWord F al u x2 x5 x6) fun u5 v5 => (bd1 (rdR al u5 x0 0 9) fun y6 => (ck (inb x6 16) (bd2 (fn_Im_setWord F al u5 x2 (x5 + (4 : Int32)) (u5.1 y6 x6)) fun u9 v9 => (bk_Lk_writeExports_57 F al (bk_Lk_writeExports_11 F al n) u9 x0 x1 x2 x3 (x4 + (1 : Int32)) (x5 + (8 : Int32)) x6))))))))
set_option maxHeartbeats 4000000 in
set_option maxRecDepth 100000 in
theorem wk_Lk_writeExports_11 (cx : Cx p l e s m args below meth c cLk_writeExports 7 bw "ImageForge$Linker" (some .int) D cA ad L rs al A) (F : Nat) (out : Mr × Int32) : ∀ n : Nat, ∀ (u : Mr) (x0 : Nat) (x1 : Nat) (x2 : Nat) (x3 : Int32) (x4 : Int32) (x5 : Int32) (x6 : Int32), bk_Lk_writeExports_11 F al n u x0 x1 x2 x3 x4 x5 x6 = some out → okk al 8 x0 = true → okk al 3 x1 = true → okk al 6 x2 = true → Wb p l e rm_Lk_writeExports s m args below meth c D cA ad L rs A (QI below args s D cA ad L rs A out) 7 11 [(0, .ref (ad x0)), (1, .ref (ad x1)), (2, .ref (ad x2)), (3, .int x3), (4, .int x4), (5, .int x5), (6, .int x6)] [] u := by
  obtain ⟨hx, hb, hml, hown, hts, hr, hlocks, hK, hA, hD, hN, hal, hNx⟩ := cx
  intro n
  induction n with
  | zero =>
    intro u x0 x1 x2 x3 x4 x5 x6 h
    cases h
  | succ n ih =>
    intro u x0 x1 x2 x3 x4 x5 x6 h q0 q1 q2 H locs ls hl hP hS
    rw [bk_Lk_writeExports_11] at h
    refine lv_iload hx hb dLk_writeExports_11 (lv_at hl 6 rfl) ?_
    refine lv_bipush (v := 16) hx hb dLk_writeExports_13 (by decide) ?_
    refine lv_icmp_ge (tgt := 63) hx hb dLk_writeExports_15 rfl (fun hc => ?_) (fun hc => ?_)
    · replace h := it_t h hc
      refine lv_iload hx hb dLk_writeExports_63 (lv_at hl 4 rfl) ?_
      refine lv_if_ne (tgt := 70) hx hb dLk_writeExports_65 rfl (fun hc => ?_) (fun hc => ?_)
      · replace h := it_f h hc
        refine lv_aload_n hx hb dLk_writeExports_70 rfl (lv_at hl 2 rfl) ?_
        refine lv_iload_n hx hb dLk_writeExports_71 rfl (lv_at hl 3 rfl) ?_
        refine lv_iload hx hb dLk_writeExports_72 (lv_at hl 4 rfl) ?_
        obtain ⟨u1, v1, hc1, h⟩ := bd2_some h
        refine x_cv (u := u) (out := (u1, v1)) hA hD hS (va_runVN (As := [.int x3, .int x4]) (rest := []) ⟨hx, hb, hml, hown, hts⟩ (ct_Im_setWord hal hN F u x2 x3 x4 (u1, v1) hc1 q2 _) ⟨va_cnB 2 hts gdIm_setWord rfl rfl rfl (nn_23 hNx) (hts _ tw_2) hdIm_setWord ⟨Nat.le_of_ble_eq_true rfl, Nat.le_of_ble_eq_true rfl⟩, (hts _ tw_584), (hts _ tp_22)⟩ (x_preV hK hD hNx hP (hal _ (okk_al q2)) (okk_t q2) rfl rfl) rfl rfl hl.1 rfl (lv_room (Nat.le_of_ble_eq_true rfl)) dLk_writeExports_74 ⟨Nat.zero_le _, Nat.zero_le _⟩) (fun H locs hP hS => ?_)
        refine lv_iload hx hb dLk_writeExports_77 (lv_at hl 5 rfl) ?_
        exact x_iret hx hb hr hlocks h hP hS dLk_writeExports_79
      · replace h := it_t h hc
        refine lv_iload_n hx hb dLk_writeExports_68 rfl (lv_at hl 3 rfl) ?_
        exact x_iret hx hb hr hlocks h hP hS dLk_writeExports_69
    · replace h := it_f h hc
      refine lv_aload_n hx hb dLk_writeExports_18 rfl (lv_at hl 1 rfl) ?_
      refine lv_iload hx hb dLk_writeExports_19 (lv_at hl 6 rfl) ?_
      obtain ⟨hi2, h⟩ := ck_some h
      obtain ⟨y3, hy4, h⟩ := bd1_some h
      obtain ⟨hy4a, hy4⟩ := rdR_some hy4
      refine x_aald hx hb hK hP (hal _ (okk_al q1)) (okk_t q1) 5 (fun _ _ _ => rfl) rfl rfl (inb_in hi2) hy4a dLk_writeExports_21 ?_
      refine x_getN hx hb hts in_Nm hown hK hP (hal _ (okk_al hy4)) (okk_t hy4) rfl rfl 6 (by decide) (nf_21 hNx) (fun _ h9 => h9) rfl dLk_writeExports_22 ?_
      refine lv_if_eq (tgt := 57) hx hb dLk_writeExports_25 rfl (fun hc => ?_) (fun hc => ?_)
      · replace h := it_t h hc
        exact wk_Lk_writeExports_57 ⟨hx, hb, hml, hown, hts, hr, hlocks, hK, hA, hD, hN, hal, hNx⟩ F out ih u x0 x1 x2 x3 x4 x5 x6 h q0 q1 q2 _ _ _ (lv_sub hl [0, 1, 2, 3, 4, 5, 6] rfl) hP hS
      · replace h := it_f h hc
        refine lv_aload_n hx hb dLk_writeExports_28 rfl (lv_at hl 2 rfl) ?_
        refine lv_iload hx hb dLk_writeExports_29 (lv_at hl 5 rfl) ?_
        refine lv_iload hx hb dLk_writeExports_31 (lv_at hl 6 rfl) ?_
        obtain ⟨u5, v5, hc5, h⟩ := bd2_some h
        refine x_cv (u := u) (out := (u5, v5)) hA hD hS (va_runVN (As := [.int x5, .int x6]) (rest := []) ⟨hx, hb, hml, hown, hts⟩ (ct_Im_setWord hal hN F u x2 x5 x6 (u5, v5) hc5 q2 _) ⟨va_cnB 2 hts gdIm_setWord rfl rfl rfl (nn_23 hNx) (hts _ tw_2) hdIm_setWord ⟨Nat.le_of_ble_eq_true rfl, Nat.le_of_ble_eq_true rfl⟩, (hts _ tw_584), (hts _ tp_22)⟩ (x_preV hK hD hNx hP (hal _ (okk_al q2)) (okk_t q2) rfl rfl) rfl rfl hl.1 rfl (lv_room (Nat.le_of_ble_eq_true rfl)) dLk_writeExports_33 ⟨Nat.zero_le _, Nat.zero_le _⟩) (fun H locs hP hS => ?_)
        refine lv_aload_n hx hb dLk_writeExports_36 rfl (lv_at hl 2 rfl) ?_
        refine lv_iload hx hb dLk_writeExports_37 (lv_at hl 5 rfl) ?_
        refine lv_iconst (v := 4) hx hb dLk_writeExports_39 (by decide) ?_
        refine lv_iadd hx hb dLk_writeExports_40 ?_
        refine lv_aload_n hx hb dLk_writeExports_41 rfl (lv_at hl 0 rfl) ?_
        obtain ⟨y6, hy7, h⟩ := bd1_some h
        obtain ⟨hy7a, hy7⟩ := rdR_some hy7
        refine x_get hx hb hts in_Lk hown hK hP (hal _ (okk_al q0)) (okk_t q0) rfl rfl 0 (by decide) (hts _ tw_67) (fun _ h9 => h9) (congrArg some (x_rf hy7a)) dLk_writeExports_42 ?_
        refine lv_iload hx hb dLk_writeExports_45 (lv_at hl 6 rfl) ?_
        obtain ⟨hi8, h⟩ := ck_some h
        refine x_iald hx hb hK hP (hal _ (okk_al hy7)) (okk_t hy7) 0 (fun _ _ _ => rfl) rfl (inb_in hi8) dLk_writeExports_47 ?_
        obtain ⟨u9, v9, hc9, h⟩ := bd2_some h
        refine x_cv (u := u5) (out := (u9, v9)) hA hD hS (va_runVN (As := [.int (x5 + (4 : Int32)), .int (u5.1 y6 x6)]) (rest := []) ⟨hx, hb, hml, hown, hts⟩ (ct_Im_setWord hal hN F u5 x2 (x5 + (4 : Int32)) (u5.1 y6 x6) (u9, v9) hc9 q2 _) ⟨va_cnB 2 hts gdIm_setWord rfl rfl rfl (nn_23 hNx) (hts _ tw_2) hdIm_setWord ⟨Nat.le_of_ble_eq_true rfl, Nat.le_of_ble_eq_true rfl⟩, (hts _ tw_584), (hts _ tp_22)⟩ (x_preV hK hD hNx hP (hal _ (okk_al q2)) (okk_t q2) rfl rfl) rfl rfl hl.1 rfl (lv_room (Nat.le_of_ble_eq_true rfl)) dLk_writeExports_48 ⟨Nat.zero_le _, Nat.zero_le _⟩) (fun H locs hP hS => ?_)
        refine lv_iinc (k := 5) (v := x5 + (8 : Int32)) (lv' := [(5, .int (x5 + (8 : Int32))), (0, .ref (ad x0)), (1, .ref (ad x1)), (2, .ref (ad x2)), (3, .int x3), (4, .int x4), (6, .int x6)]) hx hb dLk_writeExports_51 hl rfl (congrArg (fun z => _ + z) (show Int32.ofInt 8 = 8 by decide)) (by decide) rfl (fun ls hl => ?_)
        refine lv_iinc (k := 5) (v := x4 + (1 : Int32)) (lv' := [(4, .int (x4 + (1 : Int32))), (5, .int (x5 + (8 : Int32))), (0, .ref (ad x0)), (1, .ref (ad x1)), (2, .ref (ad x2)), (3, .int x3), (6, .int x6)]) hx hb dLk_writeExports_54 hl rfl (congrArg (fun z => _ + z) (show Int32.ofInt 1 = 1 by decide)) (by decide) rfl (fun ls hl => ?_)
        exact wk_Lk_writeExports_57 ⟨hx, hb, hml, hown, hts, hr, hlocks, hK, hA, hD, hN, hal, hNx⟩ F out ih u9 x0 x1 x2 x3 (x4 + (1 : Int32)) (x5 + (8 : Int32)) x6 h q0 q1 q2 _ _ _ (lv_sub hl [2, 3, 4, 5, 0, 1, 6] rfl) hP hS
def bk_Lk_writeExports_0 (F : Nat) (al : Nat → Bool) (u : Mr) (x0 : Nat) (x1 : Nat) (x2 : Nat) (x3 : Int32) : Option (Mr × Int32) := bk_Lk_writeExports_11 F al F u x0 x1 x2 x3 (0 : Int32) (x3 + (4 : Int32)) (0 : Int32)
set_option maxHeartbeats 4000000 in
set_option maxRecDepth 100000 in
theorem wk_Lk_writeExports_0 (cx : Cx p l e s m args below meth c cLk_writeExports 7 bw "ImageForge$Linker" (some .int) D cA ad L rs al A) (F : Nat) (out : Mr × Int32) : ∀ (u : Mr) (x0 : Nat) (x1 : Nat) (x2 : Nat) (x3 : Int32), bk_Lk_writeExports_0 F al u x0 x1 x2 x3 = some out → okk al 8 x0 = true → okk al 3 x1 = true → okk al 6 x2 = true → Wb p l e rm_Lk_writeExports s m args below meth c D cA ad L rs A (QI below args s D cA ad L rs A out) 7 0 [(0, .ref (ad x0)), (1, .ref (ad x1)), (2, .ref (ad x2)), (3, .int x3)] [] u := by
  obtain ⟨hx, hb, hml, hown, hts, hr, hlocks, hK, hA, hD, hN, hal, hNx⟩ := cx
  intro u x0 x1 x2 x3 h q0 q1 q2 H locs ls hl hP hS
  unfold bk_Lk_writeExports_0 at h
  refine lv_iconst (v := 0) hx hb dLk_writeExports_0 (by decide) ?_
  refine lv_istore (lv' := [(4, .int (0 : Int32)), (0, .ref (ad x0)), (1, .ref (ad x1)), (2, .ref (ad x2)), (3, .int x3)]) hx hb dLk_writeExports_1 hl (by decide) rfl (fun ls hl => ?_)
  refine lv_iload_n hx hb dLk_writeExports_3 rfl (lv_at hl 4 rfl) ?_
  refine lv_iconst (v := 4) hx hb dLk_writeExports_4 (by decide) ?_
  refine lv_iadd hx hb dLk_writeExports_5 ?_
  refine lv_istore (lv' := [(5, .int (x3 + (4 : Int32))), (4, .int (0 : Int32)), (0, .ref (ad x0)), (1, .ref (ad x1)), (2, .ref (ad x2)), (3, .int x3)]) hx hb dLk_writeExports_6 hl (by decide) rfl (fun ls hl => ?_)
  refine lv_iconst (v := 0) hx hb dLk_writeExports_8 (by decide) ?_
  refine lv_istore (lv' := [(6, .int (0 : Int32)), (5, .int (x3 + (4 : Int32))), (4, .int (0 : Int32)), (0, .ref (ad x0)), (1, .ref (ad x1)), (2, .ref (ad x2)), (3, .int x3)]) hx hb dLk_writeExports_9 hl (by decide) rfl (fun ls hl => ?_)
  exact wk_Lk_writeExports_11 ⟨hx, hb, hml, hown, hts, hr, hlocks, hK, hA, hD, hN, hal, hNx⟩ F out F u x0 x1 x2 x3 (0 : Int32) (x3 + (4 : Int32)) (0 : Int32) h q0 q1 q2 _ _ _ (lv_sub hl [3, 4, 5, 6, 2, 1, 0] rfl) hP hS
def fn_Lk_writeExports (F : Nat) (al : Nat → Bool) (u : Mr) (x0 : Nat) (x1 : Nat) (x2 : Nat) (x3 : Int32) : Option (Mr × Int32) := bk_Lk_writeExports_0 F al u x0 x1 x2 x3
set_option maxHeartbeats 4000000 in
set_option maxRecDepth 100000 in
theorem ct_Lk_writeExports {l : Launch} {D : va_G} {cA : Nat → ClassId} {ad : Nat → Nat} {L : List Nat} {rs : va_W} {al : Nat → Bool} (hal : ∀ k, al k = true → k ∈ L) (hN : L.Nodup) (F : Nat) (u : Mr) (x0 : Nat) (x1 : Nat) (x2 : Nat) (x3 : Int32) (out : Mr × Int32) (h : fn_Lk_writeExports F al u x0 x1 x2 x3 = some out) (q0 : okk al 8 x0 = true) (q1 : okk al 3 x1 = true) (q2 : okk al 6 x2 = true) : CtI l yLk_writeExports wsLk_writeExports rm_Lk_writeExports [.ref (ad x0), .ref (ad x1), .ref (ad x2), .int x3] D cA ad L rs u out := by
  intro sz
  refine Met.ofW (cc := cLk_writeExports) (maxL := 7) (ret := (some .int)) (by decide) rfl ?_
  intro p e s m args below meth c s₁ B hml hv
  obtain ⟨rfl, hsz, hP, hK, hD0, hNx⟩ := hv
  subst hsz
  have hD := hD0.self (sz := s.heap.size)
  generalize hAe : va_A (ww ad cA L rs u) s.heap.size = A at hD ⊢
  have hA : ∀ q, s.heap.size ≤ q → A q := fun q h => by rw [← hAe]; exact Or.inr h
  have hl := lv_entry ([.ref (ad x0), .ref (ad x1), .ref (ad x2), .int x3]) (n := 7) (Nat.le_of_ble_eq_true rfl)
  rw [lg_entry_eq]
  generalize (lg_sl ([.ref (ad x0), .ref (ad x1), .ref (ad x2), .int x3]) ++ List.replicate (7 - (lg_sl ([.ref (ad x0), .ref (ad x1), .ref (ad x2), .int x3])).length) Slot.unset).toArray = ls at hl ⊢
  exact wk_Lk_writeExports_0 ⟨B.exec, B.bytes, hml, findClass_of_methodNamed B.named, hts_bw (atoms_spec (ws := wsLk_writeExports) B.pre), B.returns, B.notSynchronized, hK, hA, fun v => ww_D hD, hN, hal, hNx⟩ F out u x0 x1 x2 x3 h q0 q1 q2 _ _ _ (lv_sub hl [0, 1, 2, 3] rfl) hP va_S.rf
abbrev rm_Lk_amountFor : Room := { frames := 1, cells := 0, slots := 0, locals := 20 }
def bk_Lk_amountFor_0 (F : Nat) (al : Nat → Bool) (u : Mr) (x0 : Nat) (x1 : Nat) (x2 : Int32) : Option (Mr × Int32) := bd1 (rdR al u x0 0 9) fun y1 => (bd2 (fn_Rf_name F al u x1) fun u3 v3 => (ck (inb v3 16) (bd2 (fn_Rf_kind F al u3 x1) fun u5 v5 => (if v5.toInt < 0 ∨ 2 < v5.toInt then (some (u5, u3.1 y1 v3)) else (if v5 = 0 then (some (u5, (4096 : Int32) + (u3.1 y1 v3))) else (if v5 = 1 then (some (u5, (u3.1 y1 v3) - (x2 + (4 : Int32)))) else (some (u5, u3.1 y1 v3))))))))
set_option maxHeartbeats 4000000 in
set_option maxRecDepth 100000 in
theorem wk_Lk_amountFor_0 (cx : Cx p l e s m args below meth c cLk_amountFor 4 bw "ImageForge$Linker" (some .int) D cA ad L rs al A) (F : Nat) (out : Mr × Int32) : ∀ (u : Mr) (x0 : Nat) (x1 : Nat) (x2 : Int32), bk_Lk_amountFor_0 F al u x0 x1 x2 = some out → okk al 8 x0 = true → okk al 21 x1 = true → Wb p l e rm_Lk_amountFor s m args below meth c D cA ad L rs A (QI below args s D cA ad L rs A out) 4 0 [(0, .ref (ad x0)), (1, .ref (ad x1)), (2, .int x2)] [] u := by
  obtain ⟨hx, hb, hml, hown, hts, hr, hlocks, hK, hA, hD, hN, hal, hNx⟩ := cx
  intro u x0 x1 x2 h q0 q1 H locs ls hl hP hS
  unfold bk_Lk_amountFor_0 at h
  refine lv_aload_n hx hb dLk_amountFor_0 rfl (lv_at hl 0 rfl) ?_
  obtain ⟨y1, hy2, h⟩ := bd1_some h
  obtain ⟨hy2a, hy2⟩ := rdR_some hy2
  refine x_get hx hb hts in_Lk hown hK hP (hal _ (okk_al q0)) (okk_t q0) rfl rfl 0 (by decide) (hts _ tw_67) (fun _ h9 => h9) (congrArg some (x_rf hy2a)) dLk_amountFor_1 ?_
  refine lv_aload_n hx hb dLk_amountFor_4 rfl (lv_at hl 1 rfl) ?_
  obtain ⟨u3, v3, hc3, h⟩ := bd2_some h
  refine x_ci (u := u) (out := (u3, v3)) hA hD hS (va_runV (As := []) (rest := [.ref (ad y1)]) ⟨hx, hb, hml, hown, hts⟩ (ct_Rf_name hal hN F u x1 (u3, v3) hc3 q1 _) ⟨callB_of 0 hts gdRf_name rfl rfl rfl (hts _ tw_21) (hts _ tw_628) hdRf_name ⟨Nat.le_of_ble_eq_true rfl, Nat.le_of_ble_eq_true rfl⟩, (hts _ tw_536), (hts _ tw_537)⟩ (x_preV hK hD hNx hP (hal _ (okk_al q1)) (okk_t q1) rfl rfl) rfl rfl hl.1 rfl (lv_room (Nat.le_of_ble_eq_true rfl)) dLk_amountFor_5 ⟨Nat.zero_le _, Nat.zero_le _⟩) (fun H locs hP hS => ?_)
  obtain ⟨hi4, h⟩ := ck_some h
  refine x_iald hx hb hK hP (hal _ (okk_al hy2)) (okk_t hy2) 0 (fun _ _ _ => rfl) rfl (inb_in hi4) dLk_amountFor_8 ?_
  refine lv_istore_n (lv' := [(3, .int (u3.1 y1 v3)), (0, .ref (ad x0)), (1, .ref (ad x1)), (2, .int x2)]) hx hb dLk_amountFor_9 rfl hl (by decide) rfl (fun ls hl => ?_)
  refine lv_aload_n hx hb dLk_amountFor_10 rfl (lv_at hl 2 rfl) ?_
  obtain ⟨u5, v5, hc5, h⟩ := bd2_some h
  refine x_ci (u := u3) (out := (u5, v5)) hA hD hS (va_runV (As := []) (rest := []) ⟨hx, hb, hml, hown, hts⟩ (ct_Rf_kind hal hN F u3 x1 (u5, v5) hc5 q1 _) ⟨callB_of 0 hts gdRf_kind rfl rfl rfl (hts _ tw_21) (hts _ tw_629) hdRf_kind ⟨Nat.le_of_ble_eq_true rfl, Nat.le_of_ble_eq_true rfl⟩, (hts _ tw_630), (hts _ tw_631)⟩ (x_preV hK hD hNx hP (hal _ (okk_al q1)) (okk_t q1) rfl rfl) rfl rfl hl.1 rfl (lv_room (Nat.le_of_ble_eq_true rfl)) dLk_amountFor_11 ⟨Nat.zero_le _, Nat.zero_le _⟩) (fun H locs hP hS => ?_)
  by_cases h9 : v5.toInt < 0 ∨ 2 < v5.toInt
  · refine lv_tableOut (tgt := 52) hx hb dLk_amountFor_14 h9 rfl ?_
    replace h := it_t h h9
    refine lv_iload_n hx hb dLk_amountFor_52 rfl (lv_at hl 0 rfl) ?_
    exact x_iret hx hb hr hlocks h hP hS dLk_amountFor_53
  replace h := it_f h h9
  by_cases g0 : v5 = 0
  · replace h := it_t h g0
    refine lv_tableIn (tgt := 40) hx hb dLk_amountFor_14 (fun q => h9 (Or.inl q)) (fun q => h9 (Or.inr q)) (by rw [g0]; rfl) rfl ?_
    refine lv_sipush (v := 4096) hx hb dLk_amountFor_40 (by decide) ?_
    refine lv_iload_n hx hb dLk_amountFor_43 rfl (lv_at hl 0 rfl) ?_
    refine lv_iadd hx hb dLk_amountFor_44 ?_
    exact x_iret hx hb hr hlocks h hP hS dLk_amountFor_45
  replace h := it_f h g0
  by_cases g1 : v5 = 1
  · replace h := it_t h g1
    refine lv_tableIn (tgt := 46) hx hb dLk_amountFor_14 (fun q => h9 (Or.inl q)) (fun q => h9 (Or.inr q)) (by rw [g1]; rfl) rfl ?_
    refine lv_iload_n hx hb dLk_amountFor_46 rfl (lv_at hl 0 rfl) ?_
    refine lv_iload_n hx hb dLk_amountFor_47 rfl (lv_at hl 3 rfl) ?_
    refine lv_iconst (v := 4) hx hb dLk_amountFor_48 (by decide) ?_
    refine lv_iadd hx hb dLk_amountFor_49 ?_
    refine lv_isub hx hb dLk_amountFor_50 ?_
    exact x_iret hx hb hr hlocks h hP hS dLk_amountFor_51
  replace h := it_f h g1
  have g2 : v5 = 2 := by
    have a0 := lv_neT g0 (show (0 : Int32).toInt = 0 from rfl)
    have a1 := lv_neT g1 (show (1 : Int32).toInt = 1 from rfl)
    apply Int32.toInt_inj.mp
    show v5.toInt = 2
    omega
  refine lv_tableIn (tgt := 52) hx hb dLk_amountFor_14 (fun q => h9 (Or.inl q)) (fun q => h9 (Or.inr q)) (by rw [g2]; rfl) rfl ?_
  refine lv_iload_n hx hb dLk_amountFor_52 rfl (lv_at hl 0 rfl) ?_
  exact x_iret hx hb hr hlocks h hP hS dLk_amountFor_53
def fn_Lk_amountFor (F : Nat) (al : Nat → Bool) (u : Mr) (x0 : Nat) (x1 : Nat) (x2 : Int32) : Option (Mr × Int32) := bk_Lk_amountFor_0 F al u x0 x1 x2
set_option maxHeartbeats 4000000 in
set_option maxRecDepth 100000 in
theorem ct_Lk_amountFor {l : Launch} {D : va_G} {cA : Nat → ClassId} {ad : Nat → Nat} {L : List Nat} {rs : va_W} {al : Nat → Bool} (hal : ∀ k, al k = true → k ∈ L) (hN : L.Nodup) (F : Nat) (u : Mr) (x0 : Nat) (x1 : Nat) (x2 : Int32) (out : Mr × Int32) (h : fn_Lk_amountFor F al u x0 x1 x2 = some out) (q0 : okk al 8 x0 = true) (q1 : okk al 21 x1 = true) : CtI l yLk_amountFor wsLk_amountFor rm_Lk_amountFor [.ref (ad x0), .ref (ad x1), .int x2] D cA ad L rs u out := by
  intro sz
  refine Met.ofW (cc := cLk_amountFor) (maxL := 4) (ret := (some .int)) (by decide) rfl ?_
  intro p e s m args below meth c s₁ B hml hv
  obtain ⟨rfl, hsz, hP, hK, hD0, hNx⟩ := hv
  subst hsz
  have hD := hD0.self (sz := s.heap.size)
  generalize hAe : va_A (ww ad cA L rs u) s.heap.size = A at hD ⊢
  have hA : ∀ q, s.heap.size ≤ q → A q := fun q h => by rw [← hAe]; exact Or.inr h
  have hl := lv_entry ([.ref (ad x0), .ref (ad x1), .int x2]) (n := 4) (Nat.le_of_ble_eq_true rfl)
  rw [lg_entry_eq]
  generalize (lg_sl ([.ref (ad x0), .ref (ad x1), .int x2]) ++ List.replicate (4 - (lg_sl ([.ref (ad x0), .ref (ad x1), .int x2])).length) Slot.unset).toArray = ls at hl ⊢
  exact wk_Lk_amountFor_0 ⟨B.exec, B.bytes, hml, findClass_of_methodNamed B.named, hts_bw (atoms_spec (ws := wsLk_amountFor) B.pre), B.returns, B.notSynchronized, hK, hA, fun v => ww_D hD, hN, hal, hNx⟩ F out u x0 x1 x2 h q0 q1 _ _ _ (lv_sub hl [0, 1, 2] rfl) hP va_S.rf
abbrev rm_Lk_writeReferences : Room := { frames := 3, cells := 0, slots := 0, locals := 64 }
def bk_Lk_writeReferences_115 (F : Nat) (al : Nat → Bool) (k24 : Mr → Nat → Nat → Nat → Int32 → Option (Mr × Int32)) (k40 : Mr → Nat → Nat → Nat → Int32 → Nat → Int32 → Option (Mr × Int32)) (u : Mr) (s0 : Nat) (s1 : Int32) (s2 : Int32) (x0 : Nat) (x1 : Nat) (x2 : Nat) (x3 : Int32) (x4 : Nat) (x5 : Int32) : Option (Mr × Int32) := ck (inb s1 896) (ck (isz s2) (k40 (stI u s0 s1 s2) x0 x1 x2 x3 x4 (x5 + (1 : Int32))))
set_option maxHeartbeats 4000000 in
set_option maxRecDepth 100000 in
theorem wk_Lk_writeReferences_115 (cx : Cx p l e s m args below meth c cLk_writeReferences 8 bw "ImageForge$Linker" none D cA ad L rs al A) (F : Nat) (out : Mr × Int32) {k24 : Mr → Nat → Nat → Nat → Int32 → Option (Mr × Int32)} {k40 : Mr → Nat → Nat → Nat → Int32 → Nat → Int32 → Option (Mr × Int32)} (hk24 : ∀ (u : Mr) (x0 : Nat) (x1 : Nat) (x2 : Nat) (x3 : Int32), k24 u x0 x1 x2 x3 = some out → okk al 8 x0 = true → okk al 2 x1 = true → okk al 6 x2 = true → Wb p l e rm_Lk_writeReferences s m args below meth c D cA ad L rs A (QV below args s D cA ad L rs A out) 8 24 [(0, .ref (ad x0)), (1, .ref (ad x1)), (2, .ref (ad x2)), (3, .int x3)] [] u) (hk40 : ∀ (u : Mr) (x0 : Nat) (x1 : Nat) (x2 : Nat) (x3 : Int32) (x4 : Nat) (x5 : Int32), k40 u x0 x1 x2 x3 x4 x5 = some out → okk al 8 x0 = true → okk al 2 x1 = true → okk al 6 x2 = true → okk al 18 x4 = true → Wb p l e rm_Lk_writeReferences s m args below meth c D cA ad L rs A (QV below args s D cA ad L rs A out) 8 40 [(0, .ref (ad x0)), (1, .ref (ad x1)), (2, .ref (ad x2)), (3, .int x3), (4, .ref (ad x4)), (5, .int x5)] [] u) : ∀ (u : Mr) (s0 : Nat) (s1 : Int32) (s2 : Int32) (x0 : Nat) (x1 : Nat) (x2 : Nat) (x3 : Int32) (x4 : Nat) (x5 : Int32), bk_Lk_writeReferences_115 F al k24 k40 u s0 s1 s2 x0 x1 x2 x3 x4 x5 = some out → okk al 8 x0 = true → okk al 2 x1 = true → okk al 6 x2 = true → okk al 18 x4 = true → okk al 12 s0 = true → Wb p l e rm_Lk_writeReferences s m args below meth c D cA ad L rs A (QV below args s D cA ad L rs A out) 8 115 [(0, .ref (ad x0)), (1, .ref (ad x1)), (2, .ref (ad x2)), (3, .int x3), (4, .ref (ad x4)), (5, .int x5)] [.int s2, .int s1, .ref (ad s0)] u := by
  obtain ⟨hx, hb, hml, hown, hts, hr, hlocks, hK, hA, hD, hN, hal, hNx⟩ := cx
  intro u s0 s1 s2 x0 x1 x2 x3 x4 x5 h q0 q1 q2 q4 qs0 H locs ls hl hP hS
  unfold bk_Lk_writeReferences_115 at h
  obtain ⟨hi1, h⟩ := ck_some h
  obtain ⟨hz2, h⟩ := ck_some h
  refine x_zast hx hb hK hD hN hP hS (hal _ (okk_al qs0)) (okk_t qs0) 2 (fun _ _ _ => rfl) rfl (by decide) (inb_in hi1) (isz_vp hz2) dLk_writeReferences_115 (fun H locs hP hS => ?_)
  refine lv_iinc (k := 5) (v := x5 + (1 : Int32)) (lv' := [(5, .int (x5 + (1 : Int32))), (0, .ref (ad x0)), (1, .ref (ad x1)), (2, .ref (ad x2)), (3, .int x3), (4, .ref (ad x4))]) hx hb dLk_writeReferences_116 hl rfl (congrArg (fun z => _ + z) (show Int32.ofInt 1 = 1 by decide)) (by decide) rfl (fun ls hl => ?_)
  refine lv_goto (tgt := 40) hx hb dLk_writeReferences_119 rfl ?_
  exact hk40 (stI u s0 s1 s2) x0 x1 x2 x3 x4 (x5 + (1 : Int32)) h q0 q1 q2 q4 _ _ _ (lv_sub hl [1, 2, 3, 4, 5, 0] rfl) hP hS
def bk_Lk_writeReferences_40 (F : Nat) (al : Nat → Bool) (k24 : Mr → Nat → Nat → Nat → Int32 → Option (Mr × Int32)) : Nat → Mr → Nat → Nat → Nat → Int32 → Nat → Int32 → Option (Mr × Int32)
  | 0, _, _, _, _, _, _, _ => none
  | n + 1, u, x0, x1, x2, x3, x4, x5 => bd2 (fn_Al_size F al u x4) fun u1 v1 => (if v1 ≤ x5 then (k24 u1 x0 x1 x2 (x3 + (1 : Int32))) else (bd2 (fn_Al_get F al u1 x4 x5) fun u2 v2 => (ck (okk al 21 v2) (bd1 (rdR al u2 x0 1 10) fun y4 => (bd2 (fn_Rf_part F al u2 v2) fun u6 v6 => (ck (inb v6 2) (bd1 (rdR al u6 y4 v6 11) fun y8 => (ck (inb x3 4) (bd2 (fn_Rf_place F al u6 v2) fun u11 v11 => (bd2 (fn_Lk_amountFor F al u11 x0 v2 ((u6.1 y8 x3) + v11)) fun u12 v12 => (bd2 (fn_Im_addToWord F al u12 x2 ((u6.1 y8 x3) + v11) v12) fun u13 v13 => (bd1 (rdR al u13 x0 2 12) fun y14 => (bd2 (fn_Rf_kind F al u13 v2) fun u16 v16 => (if v16 = 0 then (bk_Lk_writeReferences_115 F al k24 (bk_Lk_writeReferences_40 F al k24 n) u16 y14 ((u6.1 y8 x3) + v11) (1 : Int32) x0 x1 x2 x3 x4 x5) else (bk_Lk_writeReferences_115 F al k24 (bk_Lk_writeReferences_40 F al k24 n) u16 y14 ((u6.1 y8 x3) + v11) (0 : Int32) x0 x1 x2 x3 x4 x5)))))))))))))))
set_option maxHeartbeats 4000000 in
set_option maxRecDepth 100000 in
theorem wk_Lk_writeReferences_40 (cx : Cx p l e s m args below meth c cLk_writeReferences 8 bw "ImageForge$Linker" none D cA ad L rs al A) (F : Nat) (out : Mr × Int32) {k24 : Mr → Nat → Nat → Nat → Int32 → Option (Mr × Int32)} (hk24 : ∀ (u : Mr) (x0 : Nat) (x1 : Nat) (x2 : Nat) (x3 : Int32), k24 u x0 x1 x2 x3 = some out → okk al 8 x0 = true → okk al 2 x1 = true → okk al 6 x2 = true → Wb p l e rm_Lk_writeReferences s m args below meth c D cA ad L rs A (QV below args s D cA ad L rs A out) 8 24 [(0, .ref (ad x0)), (1, .ref (ad x1)), (2, .ref (ad x2)), (3, .int x3)] [] u) : ∀ n : Nat, ∀ (u : Mr) (x0 : Nat) (x1 : Nat) (x2 : Nat) (x3 : Int32) (x4 : Nat) (x5 : Int32), bk_Lk_writeReferences_40 F al k24 n u x0 x1 x2 x3 x4 x5 = some out → okk al 8 x0 = true → okk al 2 x1 = true → okk al 6 x2 = true → okk al 18 x4 = true → Wb p l e rm_Lk_writeReferences s m args below meth c D cA ad L rs A (QV below args s D cA ad L rs A out) 8 40 [(0, .ref (ad x0)), (1, .ref (ad x1)), (2, .ref (ad x2)), (3, .int x3), (4, .ref (ad x4)), (5, .int x5)] [] u := by
  obtain ⟨hx, hb, hml, hown, hts, hr, hlocks, hK, hA, hD, hN, hal, hNx⟩ := cx
  intro n
  induction n with
  | zero =>
    intro u x0 x1 x2 x3 x4 x5 h
    cases h
  | succ n ih =>
    intro u x0 x1 x2 x3 x4 x5 h q0 q1 q2 q4 H locs ls hl hP hS
    rw [bk_Lk_writeReferences_40] at h
    refine lv_iload hx hb dLk_writeReferences_40 (lv_at hl 5 rfl) ?_
    refine lv_aload hx hb dLk_writeReferences_42 (lv_at hl 4 rfl) ?_
    obtain ⟨u1, v1, hc1, h⟩ := bd2_some h
    refine x_ci (u := u) (out := (u1, v1)) hA hD hS (va_runV (As := []) (rest := [.int x5]) ⟨hx, hb, hml, hown, hts⟩ (ct_Al_size hal hN F u x4 (u1, v1) hc1 q4 _) ⟨callB_of 0 hts gdAl_size rfl rfl rfl (hts _ tw_9) (hts _ tw_619) hdAl_size ⟨Nat.le_of_ble_eq_true rfl, Nat.le_of_ble_eq_true rfl⟩, (hts _ tw_372), (hts _ tw_373)⟩ (x_preV hK hD hNx hP (hal _ (okk_al q4)) (okk_t q4) rfl rfl) rfl rfl hl.1 rfl (lv_room (Nat.le_of_ble_eq_true rfl)) dLk_writeReferences_44 ⟨Nat.zero_le _, Nat.zero_le _⟩) (fun H locs hP hS => ?_)
    refine lv_icmp_ge (tgt := 122) hx hb dLk_writeReferences_47 rfl (fun hc => ?_) (fun hc => ?_)
    · replace h := it_t h hc
      refine lv_iinc (k := 3) (v := x3 + (1 : Int32)) (lv' := [(3, .int (x3 + (1 : Int32))), (0, .ref (ad x0)), (1, .ref (ad x1)), (2, .ref (ad x2)), (4, .ref (ad x4)), (5, .int x5)]) hx hb dLk_writeReferences_122 hl rfl (congrArg (fun z => _ + z) (show Int32.ofInt 1 = 1 by decide)) (by decide) rfl (fun ls hl => ?_)
      refine lv_goto (tgt := 24) hx hb dLk_writeReferences_125 rfl ?_
      exact hk24 u1 x0 x1 x2 (x3 + (1 : Int32)) h q0 q1 q2 _ _ _ (lv_sub hl [1, 2, 3, 0] rfl) hP hS
    · replace h := it_f h hc
      refine lv_aload hx hb dLk_writeReferences_50 (lv_at hl 4 rfl) ?_
      refine lv_iload hx hb dLk_writeReferences_52 (lv_at hl 5 rfl) ?_
      obtain ⟨u2, v2, hc2, h⟩ := bd2_some h
      refine x_cr (u := u1) (out := (u2, v2)) hA hD hS (va_runV (As := [.int x5]) (rest := []) ⟨hx, hb, hml, hown, hts⟩ (ct_Al_get hal hN F u1 x4 x5 (u2, v2) hc2 q4 _) ⟨callB_of 1 hts gdAl_get rfl rfl rfl (hts _ tw_9) (hts _ tw_620) hdAl_get ⟨Nat.le_of_ble_eq_true rfl, Nat.le_of_ble_eq_true rfl⟩, (hts _ tw_376), (hts _ tw_377)⟩ (x_preV hK hD hNx hP (hal _ (okk_al q4)) (okk_t q4) rfl rfl) rfl rfl hl.1 rfl (lv_room (Nat.le_of_ble_eq_true rfl)) dLk_writeReferences_54 ⟨Nat.zero_le _, Nat.zero_le _⟩) (fun H locs hP hS => ?_)
      obtain ⟨hq3, h⟩ := ck_some h
      refine x_cast hx hb hown (hts _ tw_621) hK hP (hal _ (okk_al hq3)) (okk_t hq3) rfl rfl dLk_writeReferences_57 ?_
      refine lv_astore (lv' := [(6, .ref (ad v2)), (0, .ref (ad x0)), (1, .ref (ad x1)), (2, .ref (ad x2)), (3, .int x3), (4, .ref (ad x4)), (5, .int x5)]) hx hb dLk_writeReferences_60 hl (by decide) rfl (fun ls hl => ?_)
      refine lv_aload_n hx hb dLk_writeReferences_62 rfl (lv_at hl 1 rfl) ?_
      obtain ⟨y4, hy5, h⟩ := bd1_some h
      obtain ⟨hy5a, hy5⟩ := rdR_some hy5
      refine x_get hx hb hts in_Lk hown hK hP (hal _ (okk_al q0)) (okk_t q0) rfl rfl 1 (by decide) (hts _ tw_68) (fun _ h9 => h9) (congrArg some (x_rf hy5a)) dLk_writeReferences_63 ?_
      refine lv_aload hx hb dLk_writeReferences_66 (lv_at hl 0 rfl) ?_
      obtain ⟨u6, v6, hc6, h⟩ := bd2_some h
      refine x_ci (u := u2) (out := (u6, v6)) hA hD hS (va_runV (As := []) (rest := [.ref (ad y4)]) ⟨hx, hb, hml, hown, hts⟩ (ct_Rf_part hal hN F u2 v2 (u6, v6) hc6 hq3 _) ⟨callB_of 0 hts gdRf_part rfl rfl rfl (hts _ tw_21) (hts _ tw_622) hdRf_part ⟨Nat.le_of_ble_eq_true rfl, Nat.le_of_ble_eq_true rfl⟩, (hts _ tw_391), (hts _ tw_392)⟩ (x_preV hK hD hNx hP (hal _ (okk_al hq3)) (okk_t hq3) rfl rfl) rfl rfl hl.1 rfl (lv_room (Nat.le_of_ble_eq_true rfl)) dLk_writeReferences_68 ⟨Nat.zero_le _, Nat.zero_le _⟩) (fun H locs hP hS => ?_)
      obtain ⟨hi7, h⟩ := ck_some h
      obtain ⟨y8, hy9, h⟩ := bd1_some h
      obtain ⟨hy9a, hy9⟩ := rdR_some hy9
      refine x_aald hx hb hK hP (hal _ (okk_al hy5)) (okk_t hy5) 8 (fun _ _ _ => rfl) rfl rfl (inb_in hi7) hy9a dLk_writeReferences_71 ?_
      refine lv_iload_n hx hb dLk_writeReferences_72 rfl (lv_at hl 4 rfl) ?_
      obtain ⟨hi10, h⟩ := ck_some h
      refine x_iald hx hb hK hP (hal _ (okk_al hy9)) (okk_t hy9) 0 (fun _ _ _ => rfl) rfl (inb_in hi10) dLk_writeReferences_73 ?_
      refine lv_aload hx hb dLk_writeReferences_74 (lv_at hl 0 rfl) ?_
      obtain ⟨u11, v11, hc11, h⟩ := bd2_some h
      refine x_ci (u := u6) (out := (u11, v11)) hA hD hS (va_runV (As := []) (rest := [.int (u6.1 y8 x3)]) ⟨hx, hb, hml, hown, hts⟩ (ct_Rf_place hal hN F u6 v2 (u11, v11) hc11 hq3 _) ⟨callB_of 0 hts gdRf_place rfl rfl rfl (hts _ tw_21) (hts _ tw_623) hdRf_place ⟨Nat.le_of_ble_eq_true rfl, Nat.le_of_ble_eq_true rfl⟩, (hts _ tw_395), (hts _ tw_396)⟩ (x_preV hK hD hNx hP (hal _ (okk_al hq3)) (okk_t hq3) rfl rfl) rfl rfl hl.1 rfl (lv_room (Nat.le_of_ble_eq_true rfl)) dLk_writeReferences_76 ⟨Nat.zero_le _, Nat.zero_le _⟩) (fun H locs hP hS => ?_)
      refine lv_iadd hx hb dLk_writeReferences_79 ?_
      refine lv_istore (lv' := [(7, .int ((u6.1 y8 x3) + v11)), (6, .ref (ad v2)), (0, .ref (ad x0)), (1, .ref (ad x1)), (2, .ref (ad x2)), (3, .int x3), (4, .ref (ad x4)), (5, .int x5)]) hx hb dLk_writeReferences_80 hl (by decide) rfl (fun ls hl => ?_)
      refine lv_aload_n hx hb dLk_writeReferences_82 rfl (lv_at hl 4 rfl) ?_
      refine lv_iload hx hb dLk_writeReferences_83 (lv_at hl 0 rfl) ?_
      refine lv_aload_n hx hb dLk_writeReferences_85 rfl (lv_at hl 2 rfl) ?_
      refine lv_aload hx hb dLk_writeReferences_86 (lv_at hl 1 rfl) ?_
      refine lv_iload hx hb dLk_writeReferences_88 (lv_at hl 0 rfl) ?_
      obtain ⟨u12, v12, hc12, h⟩ := bd2_some h
      refine x_ci (u := u11) (out := (u12, v12)) hA hD hS (va_runV (As := [.ref (ad v2), .int ((u6.1 y8 x3) + v11)]) (rest := [.int ((u6.1 y8 x3) + v11), .ref (ad x2)]) ⟨hx, hb, hml, hown, hts⟩ (ct_Lk_amountFor hal hN F u11 x0 v2 ((u6.1 y8 x3) + v11) (u12, v12) hc12 q0 hq3 _) ⟨callB_of 2 hts gdLk_amountFor rfl rfl rfl (hts _ tw_3) (hts _ tw_624) hdLk_amountFor ⟨Nat.le_of_ble_eq_true rfl, Nat.le_of_ble_eq_true rfl⟩, (hts _ tw_626), (hts _ tp_29)⟩ (x_preV hK hD hNx hP (hal _ (okk_al q0)) (okk_t q0) rfl rfl) rfl rfl hl.1 rfl (lv_room (Nat.le_of_ble_eq_true rfl)) dLk_writeReferences_90 ⟨Nat.zero_le _, Nat.zero_le _⟩) (fun H locs hP hS => ?_)
      obtain ⟨u13, v13, hc13, h⟩ := bd2_some h
      refine x_cv (u := u12) (out := (u13, v13)) hA hD hS (va_runVN (As := [.int ((u6.1 y8 x3) + v11), .int v12]) (rest := []) ⟨hx, hb, hml, hown, hts⟩ (ct_Im_addToWord hal hN F u12 x2 ((u6.1 y8 x3) + v11) v12 (u13, v13) hc13 q2 _) ⟨va_cnB 2 hts gdIm_addToWord rfl rfl rfl (nn_24 hNx) (hts _ tw_2) hdIm_addToWord ⟨Nat.le_of_ble_eq_true rfl, Nat.le_of_ble_eq_true rfl⟩, (hts _ tw_635), (hts _ tp_30)⟩ (x_preV hK hD hNx hP (hal _ (okk_al q2)) (okk_t q2) rfl rfl) rfl rfl hl.1 rfl (lv_room (Nat.le_of_ble_eq_true rfl)) dLk_writeReferences_93 ⟨Nat.zero_le _, Nat.zero_le _⟩) (fun H locs hP hS => ?_)
      refine lv_aload_n hx hb dLk_writeReferences_96 rfl (lv_at hl 2 rfl) ?_
      obtain ⟨y14, hy15, h⟩ := bd1_some h
      obtain ⟨hy15a, hy15⟩ := rdR_some hy15
      refine x_get hx hb hts in_Lk hown hK hP (hal _ (okk_al q0)) (okk_t q0) rfl rfl 2 (by decide) (hts _ tw_69) (fun _ h9 => h9) (congrArg some (x_rf hy15a)) dLk_writeReferences_97 ?_
      refine lv_iload hx hb dLk_writeReferences_100 (lv_at hl 0 rfl) ?_
      refine lv_aload hx hb dLk_writeReferences_102 (lv_at hl 1 rfl) ?_
      obtain ⟨u16, v16, hc16, h⟩ := bd2_some h
      refine x_ci (u := u13) (out := (u16, v16)) hA hD hS (va_runV (As := []) (rest := [.int ((u6.1 y8 x3) + v11), .ref (ad y14)]) ⟨hx, hb, hml, hown, hts⟩ (ct_Rf_kind hal hN F u13 v2 (u16, v16) hc16 hq3 _) ⟨callB_of 0 hts gdRf_kind rfl rfl rfl (hts _ tw_21) (hts _ tw_629) hdRf_kind ⟨Nat.le_of_ble_eq_true rfl, Nat.le_of_ble_eq_true rfl⟩, (hts _ tw_630), (hts _ tw_631)⟩ (x_preV hK hD hNx hP (hal _ (okk_al hq3)) (okk_t hq3) rfl rfl) rfl rfl hl.1 rfl (lv_room (Nat.le_of_ble_eq_true rfl)) dLk_writeReferences_104 ⟨Nat.zero_le _, Nat.zero_le _⟩) (fun H locs hP hS => ?_)
      refine lv_if_ne (tgt := 114) hx hb dLk_writeReferences_107 rfl (fun hc => ?_) (fun hc => ?_)
      · replace h := it_f h hc
        refine lv_iconst (v := 0) hx hb dLk_writeReferences_114 (by decide) ?_
        exact wk_Lk_writeReferences_115 ⟨hx, hb, hml, hown, hts, hr, hlocks, hK, hA, hD, hN, hal, hNx⟩ F out hk24 ih u16 y14 ((u6.1 y8 x3) + v11) (0 : Int32) x0 x1 x2 x3 x4 x5 h q0 q1 q2 q4 hy15 _ _ _ (lv_sub hl [2, 3, 4, 5, 6, 7] rfl) hP hS
      · replace h := it_t h hc
        refine lv_iconst (v := 1) hx hb dLk_writeReferences_110 (by decide) ?_
        refine lv_goto (tgt := 115) hx hb dLk_writeReferences_111 rfl ?_
        exact wk_Lk_writeReferences_115 ⟨hx, hb, hml, hown, hts, hr, hlocks, hK, hA, hD, hN, hal, hNx⟩ F out hk24 ih u16 y14 ((u6.1 y8 x3) + v11) (1 : Int32) x0 x1 x2 x3 x4 x5 h q0 q1 q2 q4 hy15 _ _ _ (lv_sub hl [2, 3, 4, 5, 6, 7] rfl) hP hS
def bk_Lk_writeReferences_24 (F : Nat) (al : Nat → Bool) : Nat → Mr → Nat → Nat → Nat → Int32 → Option (Mr × Int32)
  | 0, _, _, _, _, _ => none
  | n + 1, u, x0, x1, x2, x3 => if (4 : Int32) ≤ x3 then (some (u, 0)) else (ck (inb x3 4) (bd1 (rdR al u x1 x3 14) fun y2 => (bd1 (rdR al u y2 1 18) fun y4 => (bk_Lk_writeReferences_40 F al (bk_Lk_writeReferences_24 F al n) F u x0 x1 x2 x3 y4 (0 : Int32)))))
set_option maxHeartbeats 4000000 in
set_option maxRecDepth 100000 in
theorem wk_Lk_writeReferences_24 (cx : Cx p l e s m args below meth c cLk_writeReferences 8 bw "ImageForge$Linker" none D cA ad L rs al A) (F : Nat) (out : Mr × Int32) : ∀ n : Nat, ∀ (u : Mr) (x0 : Nat) (x1 : Nat) (x2 : Nat) (x3 : Int32), bk_Lk_writeReferences_24 F al n u x0 x1 x2 x3 = some out → okk al 8 x0 = true → okk al 2 x1 = true → okk al 6 x2 = true → Wb p l e rm_Lk_writeReferences s m args below meth c D cA ad L rs A (QV below args s D cA ad L rs A out) 8 24 [(0, .ref (ad x0)), (1, .ref (ad x1)), (2, .ref (ad x2)), (3, .int x3)] [] u := by
  obtain ⟨hx, hb, hml, hown, hts, hr, hlocks, hK, hA, hD, hN, hal, hNx⟩ := cx
  intro n
  induction n with
  | zero =>
    intro u x0 x1 x2 x3 h
    cases h
  | succ n ih =>
    intro u x0 x1 x2 x3 h q0 q1 q2 H locs ls hl hP hS
    rw [bk_Lk_writeReferences_24] at h
    refine lv_iload_n hx hb dLk_writeReferences_24 rfl (lv_at hl 3 rfl) ?_
    refine lv_iconst (v := 4) hx hb dLk_writeReferences_25 (by decide) ?_
    refine lv_icmp_ge (tgt := 128) hx hb dLk_writeReferences_26 rfl (fun hc => ?_) (fun hc => ?_)
    · replace h := it_t h hc
      exact x_vret hx hb hr hlocks h hP hS dLk_writeReferences_128
    · replace h := it_f h hc
      refine lv_aload_n hx hb dLk_writeReferences_29 rfl (lv_at hl 1 rfl) ?_
      refine lv_iload_n hx hb dLk_writeReferences_30 rfl (lv_at hl 3 rfl) ?_
      obtain ⟨hi1, h⟩ := ck_some h
      obtain ⟨y2, hy3, h⟩ := bd1_some h
      obtain ⟨hy3a, hy3⟩ := rdR_some hy3
      refine x_aald hx hb hK hP (hal _ (okk_al q1)) (okk_t q1) 4 (fun _ _ _ => rfl) rfl rfl (inb_in hi1) hy3a dLk_writeReferences_31 ?_
      obtain ⟨y4, hy5, h⟩ := bd1_some h
      obtain ⟨hy5a, hy5⟩ := rdR_some hy5
      refine x_getN hx hb hts in_Ob hown hK hP (hal _ (okk_al hy3)) (okk_t hy3) rfl rfl 1 (by decide) (nf_10 hNx) (fun _ h9 => h9) (congrArg some (x_rf hy5a)) dLk_writeReferences_32 ?_
      refine lv_astore (lv' := [(4, .ref (ad y4)), (0, .ref (ad x0)), (1, .ref (ad x1)), (2, .ref (ad x2)), (3, .int x3)]) hx hb dLk_writeReferences_35 hl (by decide) rfl (fun ls hl => ?_)
      refine lv_iconst (v := 0) hx hb dLk_writeReferences_37 (by decide) ?_
      refine lv_istore (lv' := [(5, .int (0 : Int32)), (4, .ref (ad y4)), (0, .ref (ad x0)), (1, .ref (ad x1)), (2, .ref (ad x2)), (3, .int x3)]) hx hb dLk_writeReferences_38 hl (by decide) rfl (fun ls hl => ?_)
      exact wk_Lk_writeReferences_40 ⟨hx, hb, hml, hown, hts, hr, hlocks, hK, hA, hD, hN, hal, hNx⟩ F out ih F u x0 x1 x2 x3 y4 (0 : Int32) h q0 q1 q2 hy5 _ _ _ (lv_sub hl [2, 3, 4, 5, 1, 0] rfl) hP hS
def bk_Lk_writeReferences_2 (F : Nat) (al : Nat → Bool) : Nat → Mr → Nat → Nat → Nat → Int32 → Option (Mr × Int32)
  | 0, _, _, _, _, _ => none
  | n + 1, u, x0, x1, x2, x3 => if (896 : Int32) ≤ x3 then (bk_Lk_writeReferences_24 F al F u x0 x1 x2 (0 : Int32)) else (bd1 (rdR al u x0 2 12) fun y1 => (ck (inb x3 896) (bk_Lk_writeReferences_2 F al n (stI u y1 x3 (0 : Int32)) x0 x1 x2 (x3 + (1 : Int32)))))
set_option maxHeartbeats 4000000 in
set_option maxRecDepth 100000 in
theorem wk_Lk_writeReferences_2 (cx : Cx p l e s m args below meth c cLk_writeReferences 8 bw "ImageForge$Linker" none D cA ad L rs al A) (F : Nat) (out : Mr × Int32) : ∀ n : Nat, ∀ (u : Mr) (x0 : Nat) (x1 : Nat) (x2 : Nat) (x3 : Int32), bk_Lk_writeReferences_2 F al n u x0 x1 x2 x3 = some out → okk al 8 x0 = true → okk al 2 x1 = true → okk al 6 x2 = true → Wb p l e rm_Lk_writeReferences s m args below meth c D cA ad L rs A (QV below args s D cA ad L rs A out) 8 2 [(0, .ref (ad x0)), (1, .ref (ad x1)), (2, .ref (ad x2)), (3, .int x3)] [] u := by
  obtain ⟨hx, hb, hml, hown, hts, hr, hlocks, hK, hA, hD, hN, hal, hNx⟩ := cx
  intro n
  induction n with
  | zero =>
    intro u x0 x1 x2 x3 h
    cases h
  | succ n ih =>
    intro u x0 x1 x2 x3 h q0 q1 q2 H locs ls hl hP hS
    rw [bk_Lk_writeReferences_2] at h
    refine lv_iload_n hx hb dLk_writeReferences_2 rfl (lv_at hl 3 rfl) ?_
    refine lv_sipush (v := 896) hx hb dLk_writeReferences_3 (by decide) ?_
    refine lv_icmp_ge (tgt := 22) hx hb dLk_writeReferences_6 rfl (fun hc => ?_) (fun hc => ?_)
    · replace h := it_t h hc
      refine lv_iconst (v := 0) hx hb dLk_writeReferences_22 (by decide) ?_
      refine lv_istore_n (lv' := [(3, .int (0 : Int32)), (0, .ref (ad x0)), (1, .ref (ad x1)), (2, .ref (ad x2))]) hx hb dLk_writeReferences_23 rfl hl (by decide) rfl (fun ls hl => ?_)
      exact wk_Lk_writeReferences_24 ⟨hx, hb, hml, hown, hts, hr, hlocks, hK, hA, hD, hN, hal, hNx⟩ F out F u x0 x1 x2 (0 : Int32) h q0 q1 q2 _ _ _ (lv_sub hl [1, 2, 3, 0] rfl) hP hS
    · replace h := it_f h hc
      refine lv_aload_n hx hb dLk_writeReferences_9 rfl (lv_at hl 0 rfl) ?_
      obtain ⟨y1, hy2, h⟩ := bd1_some h
      obtain ⟨hy2a, hy2⟩ := rdR_some hy2
      refine x_get hx hb hts in_Lk hown hK hP (hal _ (okk_al q0)) (okk_t q0) rfl rfl 2 (by decide) (hts _ tw_69) (fun _ h9 => h9) (congrArg some (x_rf hy2a)) dLk_writeReferences_10 ?_
      refine lv_iload_n hx hb dLk_writeReferences_13 rfl (lv_at hl 3 rfl) ?_
      refine lv_iconst (v := 0) hx hb dLk_writeReferences_14 (by decide) ?_
      obtain ⟨hi3, h⟩ := ck_some h
      refine x_zast hx hb hK hD hN hP hS (hal _ (okk_al hy2)) (okk_t hy2) 2 (fun _ _ _ => rfl) rfl (by decide) (inb_in hi3) rfl dLk_writeReferences_15 (fun H locs hP hS => ?_)
      refine lv_iinc (k := 3) (v := x3 + (1 : Int32)) (lv' := [(3, .int (x3 + (1 : Int32))), (0, .ref (ad x0)), (1, .ref (ad x1)), (2, .ref (ad x2))]) hx hb dLk_writeReferences_16 hl rfl (congrArg (fun z => _ + z) (show Int32.ofInt 1 = 1 by decide)) (by decide) rfl (fun ls hl => ?_)
      refine lv_goto (tgt := 2) hx hb dLk_writeReferences_19 rfl ?_
      exact ih (stI u y1 x3 (0 : Int32)) x0 x1 x2 (x3 + (1 : Int32)) h q0 q1 q2 _ _ _ (lv_sub hl [1, 2, 3, 0] rfl) hP hS
def bk_Lk_writeReferences_0 (F : Nat) (al : Nat → Bool) (u : Mr) (x0 : Nat) (x1 : Nat) (x2 : Nat) : Option (Mr × Int32) := bk_Lk_writeReferences_2 F al F u x0 x1 x2 (0 : Int32)
set_option maxHeartbeats 4000000 in
set_option maxRecDepth 100000 in
theorem wk_Lk_writeReferences_0 (cx : Cx p l e s m args below meth c cLk_writeReferences 8 bw "ImageForge$Linker" none D cA ad L rs al A) (F : Nat) (out : Mr × Int32) : ∀ (u : Mr) (x0 : Nat) (x1 : Nat) (x2 : Nat), bk_Lk_writeReferences_0 F al u x0 x1 x2 = some out → okk al 8 x0 = true → okk al 2 x1 = true → okk al 6 x2 = true → Wb p l e rm_Lk_writeReferences s m args below meth c D cA ad L rs A (QV below args s D cA ad L rs A out) 8 0 [(0, .ref (ad x0)), (1, .ref (ad x1)), (2, .ref (ad x2))] [] u := by
  obtain ⟨hx, hb, hml, hown, hts, hr, hlocks, hK, hA, hD, hN, hal, hNx⟩ := cx
  intro u x0 x1 x2 h q0 q1 q2 H locs ls hl hP hS
  unfold bk_Lk_writeReferences_0 at h
  refine lv_iconst (v := 0) hx hb dLk_writeReferences_0 (by decide) ?_
  refine lv_istore_n (lv' := [(3, .int (0 : Int32)), (0, .ref (ad x0)), (1, .ref (ad x1)), (2, .ref (ad x2))]) hx hb dLk_writeReferences_1 rfl hl (by decide) rfl (fun ls hl => ?_)
  exact wk_Lk_writeReferences_2 ⟨hx, hb, hml, hown, hts, hr, hlocks, hK, hA, hD, hN, hal, hNx⟩ F out F u x0 x1 x2 (0 : Int32) h q0 q1 q2 _ _ _ (lv_sub hl [1, 2, 3, 0] rfl) hP hS
def fn_Lk_writeReferences (F : Nat) (al : Nat → Bool) (u : Mr) (x0 : Nat) (x1 : Nat) (x2 : Nat) : Option (Mr × Int32) := bk_Lk_writeReferences_0 F al u x0 x1 x2
set_option maxHeartbeats 4000000 in
set_option maxRecDepth 100000 in
theorem ct_Lk_writeReferences {l : Launch} {D : va_G} {cA : Nat → ClassId} {ad : Nat → Nat} {L : List Nat} {rs : va_W} {al : Nat → Bool} (hal : ∀ k, al k = true → k ∈ L) (hN : L.Nodup) (F : Nat) (u : Mr) (x0 : Nat) (x1 : Nat) (x2 : Nat) (out : Mr × Int32) (h : fn_Lk_writeReferences F al u x0 x1 x2 = some out) (q0 : okk al 8 x0 = true) (q1 : okk al 2 x1 = true) (q2 : okk al 6 x2 = true) : CtV l yLk_writeReferences wsLk_writeReferences rm_Lk_writeReferences [.ref (ad x0), .ref (ad x1), .ref (ad x2)] D cA ad L rs u out := by
  intro sz
  refine Met.ofW (cc := cLk_writeReferences) (maxL := 8) (ret := none) (by decide) rfl ?_
  intro p e s m args below meth c s₁ B hml hv
  obtain ⟨rfl, hsz, hP, hK, hD0, hNx⟩ := hv
  subst hsz
  have hD := hD0.self (sz := s.heap.size)
  generalize hAe : va_A (ww ad cA L rs u) s.heap.size = A at hD ⊢
  have hA : ∀ q, s.heap.size ≤ q → A q := fun q h => by rw [← hAe]; exact Or.inr h
  have hl := lv_entry ([.ref (ad x0), .ref (ad x1), .ref (ad x2)]) (n := 8) (Nat.le_of_ble_eq_true rfl)
  rw [lg_entry_eq]
  generalize (lg_sl ([.ref (ad x0), .ref (ad x1), .ref (ad x2)]) ++ List.replicate (8 - (lg_sl ([.ref (ad x0), .ref (ad x1), .ref (ad x2)])).length) Slot.unset).toArray = ls at hl ⊢
  exact wk_Lk_writeReferences_0 ⟨B.exec, B.bytes, hml, findClass_of_methodNamed B.named, hts_bw (atoms_spec (ws := wsLk_writeReferences) B.pre), B.returns, B.notSynchronized, hK, hA, fun v => ww_D hD, hN, hal, hNx⟩ F out u x0 x1 x2 h q0 q1 q2 _ _ _ (lv_sub hl [0, 1, 2] rfl) hP va_S.rf
abbrev rm_Lk_writeBlock : Room := { frames := 1, cells := 0, slots := 0, locals := 23 }
def bk_Lk_writeBlock_49 (F : Nat) (al : Nat → Bool) (k12 : Mr → Nat → Nat → Int32 → Int32 → Int32 → Int32 → Int32 → Option (Mr × Int32)) (u : Mr) (x0 : Nat) (x1 : Nat) (x2 : Int32) (x3 : Int32) (x4 : Int32) (x5 : Int32) (x6 : Int32) : Option (Mr × Int32) := k12 u x0 x1 x2 x3 x4 x5 (x6 + (1 : Int32))
set_option maxHeartbeats 4000000 in
set_option maxRecDepth 100000 in
theorem wk_Lk_writeBlock_49 (cx : Cx p l e s m args below meth c cLk_writeBlock 7 bw "ImageForge$Linker" (some .int) D cA ad L rs al A) (F : Nat) (out : Mr × Int32) {k12 : Mr → Nat → Nat → Int32 → Int32 → Int32 → Int32 → Int32 → Option (Mr × Int32)} (hk12 : ∀ (u : Mr) (x0 : Nat) (x1 : Nat) (x2 : Int32) (x3 : Int32) (x4 : Int32) (x5 : Int32) (x6 : Int32), k12 u x0 x1 x2 x3 x4 x5 x6 = some out → okk al 8 x0 = true → okk al 6 x1 = true → Wb p l e rm_Lk_writeBlock s m args below meth c D cA ad L rs A (QI below args s D cA ad L rs A out) 7 12 [(0, .ref (ad x0)), (1, .ref (ad x1)), (2, .int x2), (3, .int x3), (4, .int x4), (5, .int x5), (6, .int x6)] [] u) : ∀ (u : Mr) (x0 : Nat) (x1 : Nat) (x2 : Int32) (x3 : Int32) (x4 : Int32) (x5 : Int32) (x6 : Int32), bk_Lk_writeBlock_49 F al k12 u x0 x1 x2 x3 x4 x5 x6 = some out → okk al 8 x0 = true → okk al 6 x1 = true → Wb p l e rm_Lk_writeBlock s m args below meth c D cA ad L rs A (QI below args s D cA ad L rs A out) 7 49 [(0, .ref (ad x0)), (1, .ref (ad x1)), (2, .int x2), (3, .int x3), (4, .int x4), (5, .int x5), (6, .int x6)] [] u := by
  obtain ⟨hx, hb, hml, hown, hts, hr, hlocks, hK, hA, hD, hN, hal, hNx⟩ := cx
  intro u x0 x1 x2 x3 x4 x5 x6 h q0 q1 H locs ls hl hP hS
  unfold bk_Lk_writeBlock_49 at h
  refine lv_iinc (k := 6) (v := x6 + (1 : Int32)) (lv' := [(6, .int (x6 + (1 : Int32))), (0, .ref (ad x0)), (1, .ref (ad x1)), (2, .int x2), (3, .int x3), (4, .int x4), (5, .int x5)]) hx hb dLk_writeBlock_49 hl rfl (congrArg (fun z => _ + z) (show Int32.ofInt 1 = 1 by decide)) (by decide) rfl (fun ls hl => ?_)
  refine lv_goto (tgt := 12) hx hb dLk_writeBlock_52 rfl ?_
  exact hk12 u x0 x1 x2 x3 x4 x5 (x6 + (1 : Int32)) h q0 q1 _ _ _ (lv_sub hl [1, 2, 3, 4, 5, 6, 0] rfl) hP hS
def bk_Lk_writeBlock_12 (F : Nat) (al : Nat → Bool) : Nat → Mr → Nat → Nat → Int32 → Int32 → Int32 → Int32 → Int32 → Option (Mr × Int32)
  | 0, _, _, _, _, _, _, _, _ => none
  | n + 1, u, x0, x1, x2, x3, x4, x5, x6 => if (64 : Int32) ≤ x6 then (if x5 = 0 then (some (u, x3)) else (bd2 (fn_Im_setWord F al u x1 x3 x2) fun u1 v1 => (bd2 (fn_Im_setWord F al u1 x1 (x3 + (4 : Int32)) ((x4 + ((x5 - x5 / (2 : Int32) * (2 : Int32)) * (2 : Int32))) - x3)) fun u2 v2 => (some (u2, x4 + ((x5 - x5 / (2 : Int32) * (2 : Int32)) * (2 : Int32))))))) else (bd1 (rdR al u x0 2 12) fun y3 => (ck (inb (x2 + x6) 896) (if (u.1 y3 (x2 + x6)) = 0 then (bk_Lk_writeBlock_49 F al (bk_Lk_writeBlock_12 F al n) u x0 x1 x2 x3 x4 x5 x6) else (bd2 (fn_Im_setHalf F al u x1 x4 (x6 ||| (12288 : Int32))) fun u6 v6 => (bk_Lk_writeBlock_49 F al (bk_Lk_writeBlock_12 F al n) u6 x0 x1 x2 x3 (x4 + (2 : Int32)) (x5 + (1 : Int32)) x6)))))
set_option maxHeartbeats 4000000 in
set_option maxRecDepth 100000 in
theorem wk_Lk_writeBlock_12 (cx : Cx p l e s m args below meth c cLk_writeBlock 7 bw "ImageForge$Linker" (some .int) D cA ad L rs al A) (F : Nat) (out : Mr × Int32) : ∀ n : Nat, ∀ (u : Mr) (x0 : Nat) (x1 : Nat) (x2 : Int32) (x3 : Int32) (x4 : Int32) (x5 : Int32) (x6 : Int32), bk_Lk_writeBlock_12 F al n u x0 x1 x2 x3 x4 x5 x6 = some out → okk al 8 x0 = true → okk al 6 x1 = true → Wb p l e rm_Lk_writeBlock s m args below meth c D cA ad L rs A (QI below args s D cA ad L rs A out) 7 12 [(0, .ref (ad x0)), (1, .ref (ad x1)), (2, .int x2), (3, .int x3), (4, .int x4), (5, .int x5), (6, .int x6)] [] u := by
  obtain ⟨hx, hb, hml, hown, hts, hr, hlocks, hK, hA, hD, hN, hal, hNx⟩ := cx
  intro n
  induction n with
  | zero =>
    intro u x0 x1 x2 x3 x4 x5 x6 h
    cases h
  | succ n ih =>
    intro u x0 x1 x2 x3 x4 x5 x6 h q0 q1 H locs ls hl hP hS
    rw [bk_Lk_writeBlock_12] at h
    refine lv_iload hx hb dLk_writeBlock_12 (lv_at hl 6 rfl) ?_
    refine lv_bipush (v := 64) hx hb dLk_writeBlock_14 (by decide) ?_
    refine lv_icmp_ge (tgt := 55) hx hb dLk_writeBlock_16 rfl (fun hc => ?_) (fun hc => ?_)
    · replace h := it_t h hc
      refine lv_iload hx hb dLk_writeBlock_55 (lv_at hl 5 rfl) ?_
      refine lv_if_ne (tgt := 62) hx hb dLk_writeBlock_57 rfl (fun hc => ?_) (fun hc => ?_)
      · replace h := it_f h hc
        refine lv_iload hx hb dLk_writeBlock_62 (lv_at hl 4 rfl) ?_
        refine lv_iload hx hb dLk_writeBlock_64 (lv_at hl 5 rfl) ?_
        refine lv_iconst (v := 2) hx hb dLk_writeBlock_66 (by decide) ?_
        refine lv_irem hx hb dLk_writeBlock_67 (by decide) ?_
        refine lv_iconst (v := 2) hx hb dLk_writeBlock_68 (by decide) ?_
        refine lv_imul hx hb dLk_writeBlock_69 ?_
        refine lv_iadd hx hb dLk_writeBlock_70 ?_
        refine lv_istore (lv' := [(4, .int (x4 + ((x5 - x5 / (2 : Int32) * (2 : Int32)) * (2 : Int32)))), (0, .ref (ad x0)), (1, .ref (ad x1)), (2, .int x2), (3, .int x3), (5, .int x5), (6, .int x6)]) hx hb dLk_writeBlock_71 hl (by decide) rfl (fun ls hl => ?_)
        refine lv_aload_n hx hb dLk_writeBlock_73 rfl (lv_at hl 2 rfl) ?_
        refine lv_iload_n hx hb dLk_writeBlock_74 rfl (lv_at hl 4 rfl) ?_
        refine lv_iload_n hx hb dLk_writeBlock_75 rfl (lv_at hl 3 rfl) ?_
        obtain ⟨u1, v1, hc1, h⟩ := bd2_some h
        refine x_cv (u := u) (out := (u1, v1)) hA hD hS (va_runVN (As := [.int x3, .int x2]) (rest := []) ⟨hx, hb, hml, hown, hts⟩ (ct_Im_setWord hal hN F u x1 x3 x2 (u1, v1) hc1 q1 _) ⟨va_cnB 2 hts gdIm_setWord rfl rfl rfl (nn_23 hNx) (hts _ tw_2) hdIm_setWord ⟨Nat.le_of_ble_eq_true rfl, Nat.le_of_ble_eq_true rfl⟩, (hts _ tw_584), (hts _ tp_22)⟩ (x_preV hK hD hNx hP (hal _ (okk_al q1)) (okk_t q1) rfl rfl) rfl rfl hl.1 rfl (lv_room (Nat.le_of_ble_eq_true rfl)) dLk_writeBlock_76 ⟨Nat.zero_le _, Nat.zero_le _⟩) (fun H locs hP hS => ?_)
        refine lv_aload_n hx hb dLk_writeBlock_79 rfl (lv_at hl 2 rfl) ?_
        refine lv_iload_n hx hb dLk_writeBlock_80 rfl (lv_at hl 4 rfl) ?_
        refine lv_iconst (v := 4) hx hb dLk_writeBlock_81 (by decide) ?_
        refine lv_iadd hx hb dLk_writeBlock_82 ?_
        refine lv_iload hx hb dLk_writeBlock_83 (lv_at hl 0 rfl) ?_
        refine lv_iload_n hx hb dLk_writeBlock_85 rfl (lv_at hl 4 rfl) ?_
        refine lv_isub hx hb dLk_writeBlock_86 ?_
        obtain ⟨u2, v2, hc2, h⟩ := bd2_some h
        refine x_cv (u := u1) (out := (u2, v2)) hA hD hS (va_runVN (As := [.int (x3 + (4 : Int32)), .int ((x4 + ((x5 - x5 / (2 : Int32) * (2 : Int32)) * (2 : Int32))) - x3)]) (rest := []) ⟨hx, hb, hml, hown, hts⟩ (ct_Im_setWord hal hN F u1 x1 (x3 + (4 : Int32)) ((x4 + ((x5 - x5 / (2 : Int32) * (2 : Int32)) * (2 : Int32))) - x3) (u2, v2) hc2 q1 _) ⟨va_cnB 2 hts gdIm_setWord rfl rfl rfl (nn_23 hNx) (hts _ tw_2) hdIm_setWord ⟨Nat.le_of_ble_eq_true rfl, Nat.le_of_ble_eq_true rfl⟩, (hts _ tw_584), (hts _ tp_22)⟩ (x_preV hK hD hNx hP (hal _ (okk_al q1)) (okk_t q1) rfl rfl) rfl rfl hl.1 rfl (lv_room (Nat.le_of_ble_eq_true rfl)) dLk_writeBlock_87 ⟨Nat.zero_le _, Nat.zero_le _⟩) (fun H locs hP hS => ?_)
        refine lv_iload hx hb dLk_writeBlock_90 (lv_at hl 0 rfl) ?_
        exact x_iret hx hb hr hlocks h hP hS dLk_writeBlock_92
      · replace h := it_t h hc
        refine lv_iload_n hx hb dLk_writeBlock_60 rfl (lv_at hl 3 rfl) ?_
        exact x_iret hx hb hr hlocks h hP hS dLk_writeBlock_61
    · replace h := it_f h hc
      refine lv_aload_n hx hb dLk_writeBlock_19 rfl (lv_at hl 0 rfl) ?_
      obtain ⟨y3, hy4, h⟩ := bd1_some h
      obtain ⟨hy4a, hy4⟩ := rdR_some hy4
      refine x_get hx hb hts in_Lk hown hK hP (hal _ (okk_al q0)) (okk_t q0) rfl rfl 2 (by decide) (hts _ tw_69) (fun _ h9 => h9) (congrArg some (x_rf hy4a)) dLk_writeBlock_20 ?_
      refine lv_iload_n hx hb dLk_writeBlock_23 rfl (lv_at hl 2 rfl) ?_
      refine lv_iload hx hb dLk_writeBlock_24 (lv_at hl 6 rfl) ?_
      refine lv_iadd hx hb dLk_writeBlock_26 ?_
      obtain ⟨hi5, h⟩ := ck_some h
      refine x_zald hx hb hK hP (hal _ (okk_al hy4)) (okk_t hy4) 2 (fun _ _ _ => rfl) rfl (inb_in hi5) dLk_writeBlock_27 ?_
      refine lv_if_eq (tgt := 49) hx hb dLk_writeBlock_28 rfl (fun hc => ?_) (fun hc => ?_)
      · replace h := it_t h hc
        exact wk_Lk_writeBlock_49 ⟨hx, hb, hml, hown, hts, hr, hlocks, hK, hA, hD, hN, hal, hNx⟩ F out ih u x0 x1 x2 x3 x4 x5 x6 h q0 q1 _ _ _ (lv_sub hl [0, 1, 2, 3, 4, 5, 6] rfl) hP hS
      · replace h := it_f h hc
        refine lv_aload_n hx hb dLk_writeBlock_31 rfl (lv_at hl 1 rfl) ?_
        refine lv_iload hx hb dLk_writeBlock_32 (lv_at hl 4 rfl) ?_
        refine lv_iload hx hb dLk_writeBlock_34 (lv_at hl 6 rfl) ?_
        refine lv_sipush (v := 12288) hx hb dLk_writeBlock_36 (by decide) ?_
        refine lv_ior hx hb dLk_writeBlock_39 ?_
        obtain ⟨u6, v6, hc6, h⟩ := bd2_some h
        refine x_cv (u := u) (out := (u6, v6)) hA hD hS (va_runVN (As := [.int x4, .int (x6 ||| (12288 : Int32))]) (rest := []) ⟨hx, hb, hml, hown, hts⟩ (ct_Im_setHalf hal hN F u x1 x4 (x6 ||| (12288 : Int32)) (u6, v6) hc6 q1 _) ⟨va_cnB 2 hts gdIm_setHalf rfl rfl rfl (nn_25 hNx) (hts _ tw_2) hdIm_setHalf ⟨Nat.le_of_ble_eq_true rfl, Nat.le_of_ble_eq_true rfl⟩, (hts _ tw_648), (hts _ tp_33)⟩ (x_preV hK hD hNx hP (hal _ (okk_al q1)) (okk_t q1) rfl rfl) rfl rfl hl.1 rfl (lv_room (Nat.le_of_ble_eq_true rfl)) dLk_writeBlock_40 ⟨Nat.zero_le _, Nat.zero_le _⟩) (fun H locs hP hS => ?_)
        refine lv_iinc (k := 4) (v := x4 + (2 : Int32)) (lv' := [(4, .int (x4 + (2 : Int32))), (0, .ref (ad x0)), (1, .ref (ad x1)), (2, .int x2), (3, .int x3), (5, .int x5), (6, .int x6)]) hx hb dLk_writeBlock_43 hl rfl (congrArg (fun z => _ + z) (show Int32.ofInt 2 = 2 by decide)) (by decide) rfl (fun ls hl => ?_)
        refine lv_iinc (k := 5) (v := x5 + (1 : Int32)) (lv' := [(5, .int (x5 + (1 : Int32))), (4, .int (x4 + (2 : Int32))), (0, .ref (ad x0)), (1, .ref (ad x1)), (2, .int x2), (3, .int x3), (6, .int x6)]) hx hb dLk_writeBlock_46 hl rfl (congrArg (fun z => _ + z) (show Int32.ofInt 1 = 1 by decide)) (by decide) rfl (fun ls hl => ?_)
        exact wk_Lk_writeBlock_49 ⟨hx, hb, hml, hown, hts, hr, hlocks, hK, hA, hD, hN, hal, hNx⟩ F out ih u6 x0 x1 x2 x3 (x4 + (2 : Int32)) (x5 + (1 : Int32)) x6 h q0 q1 _ _ _ (lv_sub hl [2, 3, 4, 5, 1, 0, 6] rfl) hP hS
def bk_Lk_writeBlock_0 (F : Nat) (al : Nat → Bool) (u : Mr) (x0 : Nat) (x1 : Nat) (x2 : Int32) (x3 : Int32) : Option (Mr × Int32) := bk_Lk_writeBlock_12 F al F u x0 x1 x2 x3 (x3 + (8 : Int32)) (0 : Int32) (0 : Int32)
set_option maxHeartbeats 4000000 in
set_option maxRecDepth 100000 in
theorem wk_Lk_writeBlock_0 (cx : Cx p l e s m args below meth c cLk_writeBlock 7 bw "ImageForge$Linker" (some .int) D cA ad L rs al A) (F : Nat) (out : Mr × Int32) : ∀ (u : Mr) (x0 : Nat) (x1 : Nat) (x2 : Int32) (x3 : Int32), bk_Lk_writeBlock_0 F al u x0 x1 x2 x3 = some out → okk al 8 x0 = true → okk al 6 x1 = true → Wb p l e rm_Lk_writeBlock s m args below meth c D cA ad L rs A (QI below args s D cA ad L rs A out) 7 0 [(0, .ref (ad x0)), (1, .ref (ad x1)), (2, .int x2), (3, .int x3)] [] u := by
  obtain ⟨hx, hb, hml, hown, hts, hr, hlocks, hK, hA, hD, hN, hal, hNx⟩ := cx
  intro u x0 x1 x2 x3 h q0 q1 H locs ls hl hP hS
  unfold bk_Lk_writeBlock_0 at h
  refine lv_iload_n hx hb dLk_writeBlock_0 rfl (lv_at hl 3 rfl) ?_
  refine lv_bipush (v := 8) hx hb dLk_writeBlock_1 (by decide) ?_
  refine lv_iadd hx hb dLk_writeBlock_3 ?_
  refine lv_istore (lv' := [(4, .int (x3 + (8 : Int32))), (0, .ref (ad x0)), (1, .ref (ad x1)), (2, .int x2), (3, .int x3)]) hx hb dLk_writeBlock_4 hl (by decide) rfl (fun ls hl => ?_)
  refine lv_iconst (v := 0) hx hb dLk_writeBlock_6 (by decide) ?_
  refine lv_istore (lv' := [(5, .int (0 : Int32)), (4, .int (x3 + (8 : Int32))), (0, .ref (ad x0)), (1, .ref (ad x1)), (2, .int x2), (3, .int x3)]) hx hb dLk_writeBlock_7 hl (by decide) rfl (fun ls hl => ?_)
  refine lv_iconst (v := 0) hx hb dLk_writeBlock_9 (by decide) ?_
  refine lv_istore (lv' := [(6, .int (0 : Int32)), (5, .int (0 : Int32)), (4, .int (x3 + (8 : Int32))), (0, .ref (ad x0)), (1, .ref (ad x1)), (2, .int x2), (3, .int x3)]) hx hb dLk_writeBlock_10 hl (by decide) rfl (fun ls hl => ?_)
  exact wk_Lk_writeBlock_12 ⟨hx, hb, hml, hown, hts, hr, hlocks, hK, hA, hD, hN, hal, hNx⟩ F out F u x0 x1 x2 x3 (x3 + (8 : Int32)) (0 : Int32) (0 : Int32) h q0 q1 _ _ _ (lv_sub hl [3, 4, 5, 6, 2, 1, 0] rfl) hP hS
def fn_Lk_writeBlock (F : Nat) (al : Nat → Bool) (u : Mr) (x0 : Nat) (x1 : Nat) (x2 : Int32) (x3 : Int32) : Option (Mr × Int32) := bk_Lk_writeBlock_0 F al u x0 x1 x2 x3
set_option maxHeartbeats 4000000 in
set_option maxRecDepth 100000 in
theorem ct_Lk_writeBlock {l : Launch} {D : va_G} {cA : Nat → ClassId} {ad : Nat → Nat} {L : List Nat} {rs : va_W} {al : Nat → Bool} (hal : ∀ k, al k = true → k ∈ L) (hN : L.Nodup) (F : Nat) (u : Mr) (x0 : Nat) (x1 : Nat) (x2 : Int32) (x3 : Int32) (out : Mr × Int32) (h : fn_Lk_writeBlock F al u x0 x1 x2 x3 = some out) (q0 : okk al 8 x0 = true) (q1 : okk al 6 x1 = true) : CtI l yLk_writeBlock wsLk_writeBlock rm_Lk_writeBlock [.ref (ad x0), .ref (ad x1), .int x2, .int x3] D cA ad L rs u out := by
  intro sz
  refine Met.ofW (cc := cLk_writeBlock) (maxL := 7) (ret := (some .int)) (by decide) rfl ?_
  intro p e s m args below meth c s₁ B hml hv
  obtain ⟨rfl, hsz, hP, hK, hD0, hNx⟩ := hv
  subst hsz
  have hD := hD0.self (sz := s.heap.size)
  generalize hAe : va_A (ww ad cA L rs u) s.heap.size = A at hD ⊢
  have hA : ∀ q, s.heap.size ≤ q → A q := fun q h => by rw [← hAe]; exact Or.inr h
  have hl := lv_entry ([.ref (ad x0), .ref (ad x1), .int x2, .int x3]) (n := 7) (Nat.le_of_ble_eq_true rfl)
  rw [lg_entry_eq]
  generalize (lg_sl ([.ref (ad x0), .ref (ad x1), .int x2, .int x3]) ++ List.replicate (7 - (lg_sl ([.ref (ad x0), .ref (ad x1), .int x2, .int x3])).length) Slot.unset).toArray = ls at hl ⊢
  exact wk_Lk_writeBlock_0 ⟨B.exec, B.bytes, hml, findClass_of_methodNamed B.named, hts_bw (atoms_spec (ws := wsLk_writeBlock) B.pre), B.returns, B.notSynchronized, hK, hA, fun v => ww_D hD, hN, hal, hNx⟩ F out u x0 x1 x2 x3 h q0 q1 _ _ _ (lv_sub hl [0, 1, 2, 3] rfl) hP va_S.rf
abbrev rm_Lk_writeRelocations : Room := { frames := 2, cells := 0, slots := 0, locals := 49 }
def bk_Lk_writeRelocations_5 (F : Nat) (al : Nat → Bool) : Nat → Mr → Nat → Nat → Int32 → Int32 → Int32 → Option (Mr × Int32)
  | 0, _, _, _, _, _, _ => none
  | n + 1, u, x0, x1, x2, x3, x4 => if x2 ≤ x4 then (some (u, x3)) else (bd2 (fn_Lk_writeBlock F al u x0 x1 x4 x3) fun u1 v1 => (bk_Lk_writeRelocations_5 F al n u1 x0 x1 x2 v1 (x4 + (64 : Int32))))
set_option maxHeartbeats 4000000 in
set_option maxRecDepth 100000 in
theorem wk_Lk_writeRelocations_5 (cx : Cx p l e s m args below meth c cLk_writeRelocations 5 bw "ImageForge$Linker" (some .int) D cA ad L rs al A) (F : Nat) (out : Mr × Int32) : ∀ n : Nat, ∀ (u : Mr) (x0 : Nat) (x1 : Nat) (x2 : Int32) (x3 : Int32) (x4 : Int32), bk_Lk_writeRelocations_5 F al n u x0 x1 x2 x3 x4 = some out → okk al 8 x0 = true → okk al 6 x1 = true → Wb p l e rm_Lk_writeRelocations s m args below meth c D cA ad L rs A (QI below args s D cA ad L rs A out) 5 5 [(0, .ref (ad x0)), (1, .ref (ad x1)), (2, .int x2), (3, .int x3), (4, .int x4)] [] u := by
  obtain ⟨hx, hb, hml, hown, hts, hr, hlocks, hK, hA, hD, hN, hal, hNx⟩ := cx
  intro n
  induction n with
  | zero =>
    intro u x0 x1 x2 x3 x4 h
    cases h
  | succ n ih =>
    intro u x0 x1 x2 x3 x4 h q0 q1 H locs ls hl hP hS
    rw [bk_Lk_writeRelocations_5] at h
    refine lv_iload hx hb dLk_writeRelocations_5 (lv_at hl 4 rfl) ?_
    refine lv_iload_n hx hb dLk_writeRelocations_7 rfl (lv_at hl 2 rfl) ?_
    refine lv_icmp_ge (tgt := 26) hx hb dLk_writeRelocations_8 rfl (fun hc => ?_) (fun hc => ?_)
    · replace h := it_t h hc
      refine lv_iload_n hx hb dLk_writeRelocations_26 rfl (lv_at hl 3 rfl) ?_
      exact x_iret hx hb hr hlocks h hP hS dLk_writeRelocations_27
    · replace h := it_f h hc
      refine lv_aload_n hx hb dLk_writeRelocations_11 rfl (lv_at hl 0 rfl) ?_
      refine lv_aload_n hx hb dLk_writeRelocations_12 rfl (lv_at hl 1 rfl) ?_
      refine lv_iload hx hb dLk_writeRelocations_13 (lv_at hl 4 rfl) ?_
      refine lv_iload_n hx hb dLk_writeRelocations_15 rfl (lv_at hl 3 rfl) ?_
      obtain ⟨u1, v1, hc1, h⟩ := bd2_some h
      refine x_ci (u := u) (out := (u1, v1)) hA hD hS (va_runV (As := [.ref (ad x1), .int x4, .int x3]) (rest := []) ⟨hx, hb, hml, hown, hts⟩ (ct_Lk_writeBlock hal hN F u x0 x1 x4 x3 (u1, v1) hc1 q0 q1 _) ⟨callB_of 3 hts gdLk_writeBlock rfl rfl rfl (hts _ tw_3) (hts _ tw_642) hdLk_writeBlock ⟨Nat.le_of_ble_eq_true rfl, Nat.le_of_ble_eq_true rfl⟩, (hts _ tw_644), (hts _ tp_32)⟩ (x_preV hK hD hNx hP (hal _ (okk_al q0)) (okk_t q0) rfl rfl) rfl rfl hl.1 rfl (lv_room (Nat.le_of_ble_eq_true rfl)) dLk_writeRelocations_16 ⟨Nat.zero_le _, Nat.zero_le _⟩) (fun H locs hP hS => ?_)
      refine lv_istore_n (lv' := [(3, .int v1), (0, .ref (ad x0)), (1, .ref (ad x1)), (2, .int x2), (4, .int x4)]) hx hb dLk_writeRelocations_19 rfl hl (by decide) rfl (fun ls hl => ?_)
      refine lv_iinc (k := 4) (v := x4 + (64 : Int32)) (lv' := [(4, .int (x4 + (64 : Int32))), (3, .int v1), (0, .ref (ad x0)), (1, .ref (ad x1)), (2, .int x2)]) hx hb dLk_writeRelocations_20 hl rfl (congrArg (fun z => _ + z) (show Int32.ofInt 64 = 64 by decide)) (by decide) rfl (fun ls hl => ?_)
      refine lv_goto (tgt := 5) hx hb dLk_writeRelocations_23 rfl ?_
      exact ih u1 x0 x1 x2 v1 (x4 + (64 : Int32)) h q0 q1 _ _ _ (lv_sub hl [2, 3, 4, 1, 0] rfl) hP hS
def bk_Lk_writeRelocations_0 (F : Nat) (al : Nat → Bool) (u : Mr) (x0 : Nat) (x1 : Nat) (x2 : Int32) : Option (Mr × Int32) := bk_Lk_writeRelocations_5 F al F u x0 x1 x2 x2 (0 : Int32)
set_option maxHeartbeats 4000000 in
set_option maxRecDepth 100000 in
theorem wk_Lk_writeRelocations_0 (cx : Cx p l e s m args below meth c cLk_writeRelocations 5 bw "ImageForge$Linker" (some .int) D cA ad L rs al A) (F : Nat) (out : Mr × Int32) : ∀ (u : Mr) (x0 : Nat) (x1 : Nat) (x2 : Int32), bk_Lk_writeRelocations_0 F al u x0 x1 x2 = some out → okk al 8 x0 = true → okk al 6 x1 = true → Wb p l e rm_Lk_writeRelocations s m args below meth c D cA ad L rs A (QI below args s D cA ad L rs A out) 5 0 [(0, .ref (ad x0)), (1, .ref (ad x1)), (2, .int x2)] [] u := by
  obtain ⟨hx, hb, hml, hown, hts, hr, hlocks, hK, hA, hD, hN, hal, hNx⟩ := cx
  intro u x0 x1 x2 h q0 q1 H locs ls hl hP hS
  unfold bk_Lk_writeRelocations_0 at h
  refine lv_iload_n hx hb dLk_writeRelocations_0 rfl (lv_at hl 2 rfl) ?_
  refine lv_istore_n (lv' := [(3, .int x2), (0, .ref (ad x0)), (1, .ref (ad x1)), (2, .int x2)]) hx hb dLk_writeRelocations_1 rfl hl (by decide) rfl (fun ls hl => ?_)
  refine lv_iconst (v := 0) hx hb dLk_writeRelocations_2 (by decide) ?_
  refine lv_istore (lv' := [(4, .int (0 : Int32)), (3, .int x2), (0, .ref (ad x0)), (1, .ref (ad x1)), (2, .int x2)]) hx hb dLk_writeRelocations_3 hl (by decide) rfl (fun ls hl => ?_)
  exact wk_Lk_writeRelocations_5 ⟨hx, hb, hml, hown, hts, hr, hlocks, hK, hA, hD, hN, hal, hNx⟩ F out F u x0 x1 x2 x2 (0 : Int32) h q0 q1 _ _ _ (lv_sub hl [2, 3, 4, 1, 0] rfl) hP hS
def fn_Lk_writeRelocations (F : Nat) (al : Nat → Bool) (u : Mr) (x0 : Nat) (x1 : Nat) (x2 : Int32) : Option (Mr × Int32) := bk_Lk_writeRelocations_0 F al u x0 x1 x2
set_option maxHeartbeats 4000000 in
set_option maxRecDepth 100000 in
theorem ct_Lk_writeRelocations {l : Launch} {D : va_G} {cA : Nat → ClassId} {ad : Nat → Nat} {L : List Nat} {rs : va_W} {al : Nat → Bool} (hal : ∀ k, al k = true → k ∈ L) (hN : L.Nodup) (F : Nat) (u : Mr) (x0 : Nat) (x1 : Nat) (x2 : Int32) (out : Mr × Int32) (h : fn_Lk_writeRelocations F al u x0 x1 x2 = some out) (q0 : okk al 8 x0 = true) (q1 : okk al 6 x1 = true) : CtI l yLk_writeRelocations wsLk_writeRelocations rm_Lk_writeRelocations [.ref (ad x0), .ref (ad x1), .int x2] D cA ad L rs u out := by
  intro sz
  refine Met.ofW (cc := cLk_writeRelocations) (maxL := 5) (ret := (some .int)) (by decide) rfl ?_
  intro p e s m args below meth c s₁ B hml hv
  obtain ⟨rfl, hsz, hP, hK, hD0, hNx⟩ := hv
  subst hsz
  have hD := hD0.self (sz := s.heap.size)
  generalize hAe : va_A (ww ad cA L rs u) s.heap.size = A at hD ⊢
  have hA : ∀ q, s.heap.size ≤ q → A q := fun q h => by rw [← hAe]; exact Or.inr h
  have hl := lv_entry ([.ref (ad x0), .ref (ad x1), .int x2]) (n := 5) (Nat.le_of_ble_eq_true rfl)
  rw [lg_entry_eq]
  generalize (lg_sl ([.ref (ad x0), .ref (ad x1), .int x2]) ++ List.replicate (5 - (lg_sl ([.ref (ad x0), .ref (ad x1), .int x2])).length) Slot.unset).toArray = ls at hl ⊢
  exact wk_Lk_writeRelocations_0 ⟨B.exec, B.bytes, hml, findClass_of_methodNamed B.named, hts_bw (atoms_spec (ws := wsLk_writeRelocations) B.pre), B.returns, B.notSynchronized, hK, hA, fun v => ww_D hD, hN, hal, hNx⟩ F out u x0 x1 x2 h q0 q1 _ _ _ (lv_sub hl [0, 1, 2] rfl) hP va_S.rf
abbrev rm_Lk_writeHeader : Room := { frames := 2, cells := 0, slots := 0, locals := 43 }
def bk_Lk_writeHeader_55 (F : Nat) (al : Nat → Bool) (u : Mr) (s0 : Nat) (s1 : Int32) (s2 : Int32) (x2 : Nat) : Option (Mr × Int32) := bd2 (fn_Im_setWord F al u s0 s1 s2) fun u1 v1 => (bd2 (fn_Im_checksum F al u1 x2) fun u2 v2 => (bd2 (fn_Im_setWord F al u2 x2 (20 : Int32) v2) fun u3 v3 => (some (u3, 0))))
set_option maxHeartbeats 4000000 in
set_option maxRecDepth 100000 in
theorem wk_Lk_writeHeader_55 (cx : Cx p l e s m args below meth c cLk_writeHeader 3 bw "ImageForge$Linker" none D cA ad L rs al A) (F : Nat) (out : Mr × Int32) : ∀ (u : Mr) (s0 : Nat) (s1 : Int32) (s2 : Int32) (x2 : Nat), bk_Lk_writeHeader_55 F al u s0 s1 s2 x2 = some out → okk al 6 x2 = true → okk al 6 s0 = true → Wb p l e rm_Lk_writeHeader s m args below meth c D cA ad L rs A (QV below args s D cA ad L rs A out) 3 55 [(2, .ref (ad x2))] [.int s2, .int s1, .ref (ad s0)] u := by
  obtain ⟨hx, hb, hml, hown, hts, hr, hlocks, hK, hA, hD, hN, hal, hNx⟩ := cx
  intro u s0 s1 s2 x2 h q2 qs0 H locs ls hl hP hS
  unfold bk_Lk_writeHeader_55 at h
  obtain ⟨u1, v1, hc1, h⟩ := bd2_some h
  refine x_cv (u := u) (out := (u1, v1)) hA hD hS (va_runVN (As := [.int s1, .int s2]) (rest := []) ⟨hx, hb, hml, hown, hts⟩ (ct_Im_setWord hal hN F u s0 s1 s2 (u1, v1) hc1 qs0 _) ⟨va_cnB 2 hts gdIm_setWord rfl rfl rfl (nn_23 hNx) (hts _ tw_2) hdIm_setWord ⟨Nat.le_of_ble_eq_true rfl, Nat.le_of_ble_eq_true rfl⟩, (hts _ tw_584), (hts _ tp_22)⟩ (x_preV hK hD hNx hP (hal _ (okk_al qs0)) (okk_t qs0) rfl rfl) rfl rfl hl.1 rfl (lv_room (Nat.le_of_ble_eq_true rfl)) dLk_writeHeader_55 ⟨Nat.zero_le _, Nat.zero_le _⟩) (fun H locs hP hS => ?_)
  refine lv_aload_n hx hb dLk_writeHeader_58 rfl (lv_at hl 0 rfl) ?_
  refine lv_bipush (v := 20) hx hb dLk_writeHeader_59 (by decide) ?_
  refine lv_aload_n hx hb dLk_writeHeader_61 rfl (lv_at hl 0 rfl) ?_
  obtain ⟨u2, v2, hc2, h⟩ := bd2_some h
  refine x_ci (u := u1) (out := (u2, v2)) hA hD hS (va_runVN (As := []) (rest := [.int (20 : Int32), .ref (ad x2)]) ⟨hx, hb, hml, hown, hts⟩ (ct_Im_checksum hal hN F u1 x2 (u2, v2) hc2 q2 _) ⟨va_cnB 0 hts gdIm_checksum rfl rfl rfl (nn_27 hNx) (hts _ tw_2) hdIm_checksum ⟨Nat.le_of_ble_eq_true rfl, Nat.le_of_ble_eq_true rfl⟩, (hts _ tw_657), (hts _ tp_35)⟩ (x_preV hK hD hNx hP (hal _ (okk_al q2)) (okk_t q2) rfl rfl) rfl rfl hl.1 rfl (lv_room (Nat.le_of_ble_eq_true rfl)) dLk_writeHeader_62 ⟨Nat.zero_le _, Nat.zero_le _⟩) (fun H locs hP hS => ?_)
  obtain ⟨u3, v3, hc3, h⟩ := bd2_some h
  refine x_cv (u := u2) (out := (u3, v3)) hA hD hS (va_runVN (As := [.int (20 : Int32), .int v2]) (rest := []) ⟨hx, hb, hml, hown, hts⟩ (ct_Im_setWord hal hN F u2 x2 (20 : Int32) v2 (u3, v3) hc3 q2 _) ⟨va_cnB 2 hts gdIm_setWord rfl rfl rfl (nn_23 hNx) (hts _ tw_2) hdIm_setWord ⟨Nat.le_of_ble_eq_true rfl, Nat.le_of_ble_eq_true rfl⟩, (hts _ tw_584), (hts _ tp_22)⟩ (x_preV hK hD hNx hP (hal _ (okk_al q2)) (okk_t q2) rfl rfl) rfl rfl hl.1 rfl (lv_room (Nat.le_of_ble_eq_true rfl)) dLk_writeHeader_65 ⟨Nat.zero_le _, Nat.zero_le _⟩) (fun H locs hP hS => ?_)
  exact x_vret hx hb hr hlocks h hP hS dLk_writeHeader_68
def bk_Lk_writeHeader_0 (F : Nat) (al : Nat → Bool) (u : Mr) (x0 : Nat) (x1 : Nat) (x2 : Nat) : Option (Mr × Int32) := bd2 (fn_Im_setWord F al u x2 (0 : Int32) (23117 : Int32)) fun u1 v1 => (bd2 (fn_Im_setWord F al u1 x2 (4 : Int32) (5 : Int32)) fun u2 v2 => (bd2 (fn_Im_setWord F al u2 x2 (8 : Int32) (4096 : Int32)) fun u3 v3 => (bd2 (fn_Im_setWord F al u3 x2 (12 : Int32) (u3.1 x2 1)) fun u4 v4 => (bd1 (rdR al u4 x1 (0 : Int32) 20) fun y5 => (bd2 (fn_Nm_isDefined F al u4 y5) fun u7 v7 => (if v7 = 0 then (bk_Lk_writeHeader_55 F al u7 x2 (16 : Int32) (0 : Int32) x2) else (bd1 (rdR al u7 x0 0 9) fun y8 => (bk_Lk_writeHeader_55 F al u7 x2 (16 : Int32) (u7.1 y8 (0 : Int32)) x2))))))))
set_option maxHeartbeats 4000000 in
set_option maxRecDepth 100000 in
theorem wk_Lk_writeHeader_0 (cx : Cx p l e s m args below meth c cLk_writeHeader 3 bw "ImageForge$Linker" none D cA ad L rs al A) (F : Nat) (out : Mr × Int32) : ∀ (u : Mr) (x0 : Nat) (x1 : Nat) (x2 : Nat), bk_Lk_writeHeader_0 F al u x0 x1 x2 = some out → okk al 8 x0 = true → okk al 3 x1 = true → okk al 6 x2 = true → Wb p l e rm_Lk_writeHeader s m args below meth c D cA ad L rs A (QV below args s D cA ad L rs A out) 3 0 [(0, .ref (ad x0)), (1, .ref (ad x1)), (2, .ref (ad x2))] [] u := by
  obtain ⟨hx, hb, hml, hown, hts, hr, hlocks, hK, hA, hD, hN, hal, hNx⟩ := cx
  intro u x0 x1 x2 h q0 q1 q2 H locs ls hl hP hS
  unfold bk_Lk_writeHeader_0 at h
  refine lv_aload_n hx hb dLk_writeHeader_0 rfl (lv_at hl 2 rfl) ?_
  refine lv_iconst (v := 0) hx hb dLk_writeHeader_1 (by decide) ?_
  refine lv_sipush (v := 23117) hx hb dLk_writeHeader_2 (by decide) ?_
  obtain ⟨u1, v1, hc1, h⟩ := bd2_some h
  refine x_cv (u := u) (out := (u1, v1)) hA hD hS (va_runVN (As := [.int (0 : Int32), .int (23117 : Int32)]) (rest := []) ⟨hx, hb, hml, hown, hts⟩ (ct_Im_setWord hal hN F u x2 (0 : Int32) (23117 : Int32) (u1, v1) hc1 q2 _) ⟨va_cnB 2 hts gdIm_setWord rfl rfl rfl (nn_23 hNx) (hts _ tw_2) hdIm_setWord ⟨Nat.le_of_ble_eq_true rfl, Nat.le_of_ble_eq_true rfl⟩, (hts _ tw_584), (hts _ tp_22)⟩ (x_preV hK hD hNx hP (hal _ (okk_al q2)) (okk_t q2) rfl rfl) rfl rfl hl.1 rfl (lv_room (Nat.le_of_ble_eq_true rfl)) dLk_writeHeader_5 ⟨Nat.zero_le _, Nat.zero_le _⟩) (fun H locs hP hS => ?_)
  refine lv_aload_n hx hb dLk_writeHeader_8 rfl (lv_at hl 2 rfl) ?_
  refine lv_iconst (v := 4) hx hb dLk_writeHeader_9 (by decide) ?_
  refine lv_iconst (v := 5) hx hb dLk_writeHeader_10 (by decide) ?_
  obtain ⟨u2, v2, hc2, h⟩ := bd2_some h
  refine x_cv (u := u1) (out := (u2, v2)) hA hD hS (va_runVN (As := [.int (4 : Int32), .int (5 : Int32)]) (rest := []) ⟨hx, hb, hml, hown, hts⟩ (ct_Im_setWord hal hN F u1 x2 (4 : Int32) (5 : Int32) (u2, v2) hc2 q2 _) ⟨va_cnB 2 hts gdIm_setWord rfl rfl rfl (nn_23 hNx) (hts _ tw_2) hdIm_setWord ⟨Nat.le_of_ble_eq_true rfl, Nat.le_of_ble_eq_true rfl⟩, (hts _ tw_584), (hts _ tp_22)⟩ (x_preV hK hD hNx hP (hal _ (okk_al q2)) (okk_t q2) rfl rfl) rfl rfl hl.1 rfl (lv_room (Nat.le_of_ble_eq_true rfl)) dLk_writeHeader_11 ⟨Nat.zero_le _, Nat.zero_le _⟩) (fun H locs hP hS => ?_)
  refine lv_aload_n hx hb dLk_writeHeader_14 rfl (lv_at hl 2 rfl) ?_
  refine lv_bipush (v := 8) hx hb dLk_writeHeader_15 (by decide) ?_
  refine lv_sipush (v := 4096) hx hb dLk_writeHeader_17 (by decide) ?_
  obtain ⟨u3, v3, hc3, h⟩ := bd2_some h
  refine x_cv (u := u2) (out := (u3, v3)) hA hD hS (va_runVN (As := [.int (8 : Int32), .int (4096 : Int32)]) (rest := []) ⟨hx, hb, hml, hown, hts⟩ (ct_Im_setWord hal hN F u2 x2 (8 : Int32) (4096 : Int32) (u3, v3) hc3 q2 _) ⟨va_cnB 2 hts gdIm_setWord rfl rfl rfl (nn_23 hNx) (hts _ tw_2) hdIm_setWord ⟨Nat.le_of_ble_eq_true rfl, Nat.le_of_ble_eq_true rfl⟩, (hts _ tw_584), (hts _ tp_22)⟩ (x_preV hK hD hNx hP (hal _ (okk_al q2)) (okk_t q2) rfl rfl) rfl rfl hl.1 rfl (lv_room (Nat.le_of_ble_eq_true rfl)) dLk_writeHeader_20 ⟨Nat.zero_le _, Nat.zero_le _⟩) (fun H locs hP hS => ?_)
  refine lv_aload_n hx hb dLk_writeHeader_23 rfl (lv_at hl 2 rfl) ?_
  refine lv_bipush (v := 12) hx hb dLk_writeHeader_24 (by decide) ?_
  refine lv_aload_n hx hb dLk_writeHeader_26 rfl (lv_at hl 2 rfl) ?_
  refine x_getN hx hb hts in_Im hown hK hP (hal _ (okk_al q2)) (okk_t q2) rfl rfl 1 (by decide) (nf_1 hNx) (fun _ h9 => h9) rfl dLk_writeHeader_27 ?_
  obtain ⟨u4, v4, hc4, h⟩ := bd2_some h
  refine x_cv (u := u3) (out := (u4, v4)) hA hD hS (va_runVN (As := [.int (12 : Int32), .int (u3.1 x2 1)]) (rest := []) ⟨hx, hb, hml, hown, hts⟩ (ct_Im_setWord hal hN F u3 x2 (12 : Int32) (u3.1 x2 1) (u4, v4) hc4 q2 _) ⟨va_cnB 2 hts gdIm_setWord rfl rfl rfl (nn_23 hNx) (hts _ tw_2) hdIm_setWord ⟨Nat.le_of_ble_eq_true rfl, Nat.le_of_ble_eq_true rfl⟩, (hts _ tw_584), (hts _ tp_22)⟩ (x_preV hK hD hNx hP (hal _ (okk_al q2)) (okk_t q2) rfl rfl) rfl rfl hl.1 rfl (lv_room (Nat.le_of_ble_eq_true rfl)) dLk_writeHeader_30 ⟨Nat.zero_le _, Nat.zero_le _⟩) (fun H locs hP hS => ?_)
  refine lv_aload_n hx hb dLk_writeHeader_33 rfl (lv_at hl 2 rfl) ?_
  refine lv_bipush (v := 16) hx hb dLk_writeHeader_34 (by decide) ?_
  refine lv_aload_n hx hb dLk_writeHeader_36 rfl (lv_at hl 1 rfl) ?_
  refine lv_iconst (v := 0) hx hb dLk_writeHeader_37 (by decide) ?_
  obtain ⟨y5, hy6, h⟩ := bd1_some h
  obtain ⟨hy6a, hy6⟩ := rdR_some hy6
  refine x_aald hx hb hK hP (hal _ (okk_al q1)) (okk_t q1) 5 (fun _ _ _ => rfl) rfl rfl (inb_in (show inb (0 : Int32) 16 = true by decide)) hy6a dLk_writeHeader_38 ?_
  obtain ⟨u7, v7, hc7, h⟩ := bd2_some h
  refine x_ci (u := u4) (out := (u7, v7)) hA hD hS (va_runVN (As := []) (rest := [.int (16 : Int32), .ref (ad x2)]) ⟨hx, hb, hml, hown, hts⟩ (ct_Nm_isDefined hal hN F u4 y5 (u7, v7) hc7 hy6 _) ⟨va_cnB 0 hts gdNm_isDefined rfl rfl rfl (nn_26 hNx) (hts _ tw_10) hdNm_isDefined ⟨Nat.le_of_ble_eq_true rfl, Nat.le_of_ble_eq_true rfl⟩, (hts _ tw_519), (hts _ tp_13)⟩ (x_preV hK hD hNx hP (hal _ (okk_al hy6)) (okk_t hy6) rfl rfl) rfl rfl hl.1 rfl (lv_room (Nat.le_of_ble_eq_true rfl)) dLk_writeHeader_39 ⟨Nat.zero_le _, Nat.zero_le _⟩) (fun H locs hP hS => ?_)
  refine lv_if_eq (tgt := 54) hx hb dLk_writeHeader_42 rfl (fun hc => ?_) (fun hc => ?_)
  · replace h := it_t h hc
    refine lv_iconst (v := 0) hx hb dLk_writeHeader_54 (by decide) ?_
    exact wk_Lk_writeHeader_55 ⟨hx, hb, hml, hown, hts, hr, hlocks, hK, hA, hD, hN, hal, hNx⟩ F out u7 x2 (16 : Int32) (0 : Int32) x2 h q2 q2 _ _ _ (lv_sub hl [2] rfl) hP hS
  · replace h := it_f h hc
    refine lv_aload_n hx hb dLk_writeHeader_45 rfl (lv_at hl 0 rfl) ?_
    obtain ⟨y8, hy9, h⟩ := bd1_some h
    obtain ⟨hy9a, hy9⟩ := rdR_some hy9
    refine x_get hx hb hts in_Lk hown hK hP (hal _ (okk_al q0)) (okk_t q0) rfl rfl 0 (by decide) (hts _ tw_67) (fun _ h9 => h9) (congrArg some (x_rf hy9a)) dLk_writeHeader_46 ?_
    refine lv_iconst (v := 0) hx hb dLk_writeHeader_49 (by decide) ?_
    refine x_iald hx hb hK hP (hal _ (okk_al hy9)) (okk_t hy9) 0 (fun _ _ _ => rfl) rfl (inb_in (show inb (0 : Int32) 16 = true by decide)) dLk_writeHeader_50 ?_
    refine lv_goto (tgt := 55) hx hb dLk_writeHeader_51 rfl ?_
    exact wk_Lk_writeHeader_55 ⟨hx, hb, hml, hown, hts, hr, hlocks, hK, hA, hD, hN, hal, hNx⟩ F out u7 x2 (16 : Int32) (u7.1 y8 (0 : Int32)) x2 h q2 q2 _ _ _ (lv_sub hl [2] rfl) hP hS
def fn_Lk_writeHeader (F : Nat) (al : Nat → Bool) (u : Mr) (x0 : Nat) (x1 : Nat) (x2 : Nat) : Option (Mr × Int32) := bk_Lk_writeHeader_0 F al u x0 x1 x2
set_option maxHeartbeats 4000000 in
set_option maxRecDepth 100000 in
theorem ct_Lk_writeHeader {l : Launch} {D : va_G} {cA : Nat → ClassId} {ad : Nat → Nat} {L : List Nat} {rs : va_W} {al : Nat → Bool} (hal : ∀ k, al k = true → k ∈ L) (hN : L.Nodup) (F : Nat) (u : Mr) (x0 : Nat) (x1 : Nat) (x2 : Nat) (out : Mr × Int32) (h : fn_Lk_writeHeader F al u x0 x1 x2 = some out) (q0 : okk al 8 x0 = true) (q1 : okk al 3 x1 = true) (q2 : okk al 6 x2 = true) : CtV l yLk_writeHeader wsLk_writeHeader rm_Lk_writeHeader [.ref (ad x0), .ref (ad x1), .ref (ad x2)] D cA ad L rs u out := by
  intro sz
  refine Met.ofW (cc := cLk_writeHeader) (maxL := 3) (ret := none) (by decide) rfl ?_
  intro p e s m args below meth c s₁ B hml hv
  obtain ⟨rfl, hsz, hP, hK, hD0, hNx⟩ := hv
  subst hsz
  have hD := hD0.self (sz := s.heap.size)
  generalize hAe : va_A (ww ad cA L rs u) s.heap.size = A at hD ⊢
  have hA : ∀ q, s.heap.size ≤ q → A q := fun q h => by rw [← hAe]; exact Or.inr h
  have hl := lv_entry ([.ref (ad x0), .ref (ad x1), .ref (ad x2)]) (n := 3) (Nat.le_of_ble_eq_true rfl)
  rw [lg_entry_eq]
  generalize (lg_sl ([.ref (ad x0), .ref (ad x1), .ref (ad x2)]) ++ List.replicate (3 - (lg_sl ([.ref (ad x0), .ref (ad x1), .ref (ad x2)])).length) Slot.unset).toArray = ls at hl ⊢
  exact wk_Lk_writeHeader_0 ⟨B.exec, B.bytes, hml, findClass_of_methodNamed B.named, hts_bw (atoms_spec (ws := wsLk_writeHeader) B.pre), B.returns, B.notSynchronized, hK, hA, fun v => ww_D hD, hN, hal, hNx⟩ F out u x0 x1 x2 h q0 q1 q2 _ _ _ (lv_sub hl [0, 1, 2] rfl) hP va_S.rf
abbrev rm_Lk_build : Room := { frames := 4, cells := 0, slots := 0, locals := 91 }
def bk_Lk_build_0 (F : Nat) (al : Nat → Bool) (u : Mr) (x0 : Nat) (x1 : Nat) (x2 : Nat) (x3 : Nat) : Option (Mr × Int32) := bd2 (fn_Im_clear F al u x3) fun u1 v1 => (bd2 (fn_Lk_writeParts F al u1 x0 x1 (0 : Int32) x3 (64 : Int32)) fun u2 v2 => (bd2 (fn_Lk_endSection F al u2 x0 x3 (0 : Int32) (64 : Int32) v2) fun u3 v3 => (bd2 (fn_Lk_writeParts F al u3 x0 x1 (1 : Int32) x3 v3) fun u4 v4 => (bd2 (fn_Lk_endSection F al u4 x0 x3 (1 : Int32) v3 v4) fun u5 v5 => (bd2 (fn_Lk_placeDefinitions F al u5 x0 x2) fun u6 v6 => (bd2 (fn_Lk_writeImports F al u6 x0 x2 x3 v5) fun u7 v7 => (bd2 (fn_Lk_endSection F al u7 x0 x3 (2 : Int32) v5 v7) fun u8 v8 => (bd2 (fn_Lk_writeExports F al u8 x0 x2 x3 v8) fun u9 v9 => (bd2 (fn_Lk_endSection F al u9 x0 x3 (3 : Int32) v8 v9) fun u10 v10 => (bd2 (fn_Lk_writeReferences F al u10 x0 x1 x3) fun u11 v11 => (bd2 (fn_Lk_writeRelocations F al u11 x0 x3 v10) fun u12 v12 => (bd2 (fn_Lk_endSection F al u12 x0 x3 (4 : Int32) v10 v12) fun u13 v13 => (bd2 (fn_Lk_writeHeader F al (stI u13 x3 1 v13) x0 x2 x3) fun u14 v14 => (some (u14, 0)))))))))))))))
set_option maxHeartbeats 4000000 in
set_option maxRecDepth 100000 in
theorem wk_Lk_build_0 (cx : Cx p l e s m args below meth c cLk_build 5 bw "ImageForge$Linker" none D cA ad L rs al A) (F : Nat) (out : Mr × Int32) : ∀ (u : Mr) (x0 : Nat) (x1 : Nat) (x2 : Nat) (x3 : Nat), bk_Lk_build_0 F al u x0 x1 x2 x3 = some out → okk al 8 x0 = true → okk al 2 x1 = true → okk al 3 x2 = true → okk al 6 x3 = true → Wb p l e rm_Lk_build s m args below meth c D cA ad L rs A (QV below args s D cA ad L rs A out) 5 0 [(0, .ref (ad x0)), (1, .ref (ad x1)), (2, .ref (ad x2)), (3, .ref (ad x3))] [] u := by
  obtain ⟨hx, hb, hml, hown, hts, hr, hlocks, hK, hA, hD, hN, hal, hNx⟩ := cx
  intro u x0 x1 x2 x3 h q0 q1 q2 q3 H locs ls hl hP hS
  unfold bk_Lk_build_0 at h
  refine lv_aload_n hx hb dLk_build_0 rfl (lv_at hl 3 rfl) ?_
  obtain ⟨u1, v1, hc1, h⟩ := bd2_some h
  refine x_cv (u := u) (out := (u1, v1)) hA hD hS (va_runVN (As := []) (rest := []) ⟨hx, hb, hml, hown, hts⟩ (ct_Im_clear hal hN F u x3 (u1, v1) hc1 q3 _) ⟨va_cnB 0 hts gdIm_clear rfl rfl rfl (nn_19 hNx) (hts _ tw_2) hdIm_clear ⟨Nat.le_of_ble_eq_true rfl, Nat.le_of_ble_eq_true rfl⟩, (hts _ tw_561), (hts _ tp_18)⟩ (x_preV hK hD hNx hP (hal _ (okk_al q3)) (okk_t q3) rfl rfl) rfl rfl hl.1 rfl (lv_room (Nat.le_of_ble_eq_true rfl)) dLk_build_1 ⟨Nat.zero_le _, Nat.zero_le _⟩) (fun H locs hP hS => ?_)
  refine lv_bipush (v := 64) hx hb dLk_build_4 (by decide) ?_
  refine lv_istore (lv' := [(4, .int (64 : Int32)), (0, .ref (ad x0)), (1, .ref (ad x1)), (2, .ref (ad x2)), (3, .ref (ad x3))]) hx hb dLk_build_6 hl (by decide) rfl (fun ls hl => ?_)
  refine lv_aload_n hx hb dLk_build_8 rfl (lv_at hl 1 rfl) ?_
  refine lv_aload_n hx hb dLk_build_9 rfl (lv_at hl 4 rfl) ?_
  refine lv_iconst (v := 0) hx hb dLk_build_10 (by decide) ?_
  refine lv_iload hx hb dLk_build_11 (lv_at hl 0 rfl) ?_
  refine lv_aload_n hx hb dLk_build_13 rfl (lv_at hl 1 rfl) ?_
  refine lv_aload_n hx hb dLk_build_14 rfl (lv_at hl 2 rfl) ?_
  refine lv_iconst (v := 0) hx hb dLk_build_15 (by decide) ?_
  refine lv_aload_n hx hb dLk_build_16 rfl (lv_at hl 4 rfl) ?_
  refine lv_iload hx hb dLk_build_17 (lv_at hl 0 rfl) ?_
  obtain ⟨u2, v2, hc2, h⟩ := bd2_some h
  refine x_ci (u := u1) (out := (u2, v2)) hA hD hS (va_runV (As := [.ref (ad x1), .int (0 : Int32), .ref (ad x3), .int (64 : Int32)]) (rest := [.int (64 : Int32), .int (0 : Int32), .ref (ad x3), .ref (ad x0)]) ⟨hx, hb, hml, hown, hts⟩ (ct_Lk_writeParts hal hN F u1 x0 x1 (0 : Int32) x3 (64 : Int32) (u2, v2) hc2 q0 q1 q3 _) ⟨callB_of 4 hts gdLk_writeParts rfl rfl rfl (hts _ tw_3) (hts _ tw_566) hdLk_writeParts ⟨Nat.le_of_ble_eq_true rfl, Nat.le_of_ble_eq_true rfl⟩, (hts _ tw_568), (hts _ tp_19)⟩ (x_preV hK hD hNx hP (hal _ (okk_al q0)) (okk_t q0) rfl rfl) rfl rfl hl.1 rfl (lv_room (Nat.le_of_ble_eq_true rfl)) dLk_build_19 ⟨Nat.zero_le _, Nat.zero_le _⟩) (fun H locs hP hS => ?_)
  obtain ⟨u3, v3, hc3, h⟩ := bd2_some h
  refine x_ci (u := u2) (out := (u3, v3)) hA hD hS (va_runV (As := [.ref (ad x3), .int (0 : Int32), .int (64 : Int32), .int v2]) (rest := []) ⟨hx, hb, hml, hown, hts⟩ (ct_Lk_endSection hal hN F u2 x0 x3 (0 : Int32) (64 : Int32) v2 (u3, v3) hc3 q0 q3 _) ⟨callB_of 4 hts gdLk_endSection rfl rfl rfl (hts _ tw_3) (hts _ tw_574) hdLk_endSection ⟨Nat.le_of_ble_eq_true rfl, Nat.le_of_ble_eq_true rfl⟩, (hts _ tw_576), (hts _ tp_20)⟩ (x_preV hK hD hNx hP (hal _ (okk_al q0)) (okk_t q0) rfl rfl) rfl rfl hl.1 rfl (lv_room (Nat.le_of_ble_eq_true rfl)) dLk_build_22 ⟨Nat.zero_le _, Nat.zero_le _⟩) (fun H locs hP hS => ?_)
  refine lv_istore (lv' := [(4, .int v3), (0, .ref (ad x0)), (1, .ref (ad x1)), (2, .ref (ad x2)), (3, .ref (ad x3))]) hx hb dLk_build_25 hl (by decide) rfl (fun ls hl => ?_)
  refine lv_aload_n hx hb dLk_build_27 rfl (lv_at hl 1 rfl) ?_
  refine lv_aload_n hx hb dLk_build_28 rfl (lv_at hl 4 rfl) ?_
  refine lv_iconst (v := 1) hx hb dLk_build_29 (by decide) ?_
  refine lv_iload hx hb dLk_build_30 (lv_at hl 0 rfl) ?_
  refine lv_aload_n hx hb dLk_build_32 rfl (lv_at hl 1 rfl) ?_
  refine lv_aload_n hx hb dLk_build_33 rfl (lv_at hl 2 rfl) ?_
  refine lv_iconst (v := 1) hx hb dLk_build_34 (by decide) ?_
  refine lv_aload_n hx hb dLk_build_35 rfl (lv_at hl 4 rfl) ?_
  refine lv_iload hx hb dLk_build_36 (lv_at hl 0 rfl) ?_
  obtain ⟨u4, v4, hc4, h⟩ := bd2_some h
  refine x_ci (u := u3) (out := (u4, v4)) hA hD hS (va_runV (As := [.ref (ad x1), .int (1 : Int32), .ref (ad x3), .int v3]) (rest := [.int v3, .int (1 : Int32), .ref (ad x3), .ref (ad x0)]) ⟨hx, hb, hml, hown, hts⟩ (ct_Lk_writeParts hal hN F u3 x0 x1 (1 : Int32) x3 v3 (u4, v4) hc4 q0 q1 q3 _) ⟨callB_of 4 hts gdLk_writeParts rfl rfl rfl (hts _ tw_3) (hts _ tw_566) hdLk_writeParts ⟨Nat.le_of_ble_eq_true rfl, Nat.le_of_ble_eq_true rfl⟩, (hts _ tw_568), (hts _ tp_19)⟩ (x_preV hK hD hNx hP (hal _ (okk_al q0)) (okk_t q0) rfl rfl) rfl rfl hl.1 rfl (lv_room (Nat.le_of_ble_eq_true rfl)) dLk_build_38 ⟨Nat.zero_le _, Nat.zero_le _⟩) (fun H locs hP hS => ?_)
  obtain ⟨u5, v5, hc5, h⟩ := bd2_some h
  refine x_ci (u := u4) (out := (u5, v5)) hA hD hS (va_runV (As := [.ref (ad x3), .int (1 : Int32), .int v3, .int v4]) (rest := []) ⟨hx, hb, hml, hown, hts⟩ (ct_Lk_endSection hal hN F u4 x0 x3 (1 : Int32) v3 v4 (u5, v5) hc5 q0 q3 _) ⟨callB_of 4 hts gdLk_endSection rfl rfl rfl (hts _ tw_3) (hts _ tw_574) hdLk_endSection ⟨Nat.le_of_ble_eq_true rfl, Nat.le_of_ble_eq_true rfl⟩, (hts _ tw_576), (hts _ tp_20)⟩ (x_preV hK hD hNx hP (hal _ (okk_al q0)) (okk_t q0) rfl rfl) rfl rfl hl.1 rfl (lv_room (Nat.le_of_ble_eq_true rfl)) dLk_build_41 ⟨Nat.zero_le _, Nat.zero_le _⟩) (fun H locs hP hS => ?_)
  refine lv_istore (lv' := [(4, .int v5), (0, .ref (ad x0)), (1, .ref (ad x1)), (2, .ref (ad x2)), (3, .ref (ad x3))]) hx hb dLk_build_44 hl (by decide) rfl (fun ls hl => ?_)
  refine lv_aload_n hx hb dLk_build_46 rfl (lv_at hl 1 rfl) ?_
  refine lv_aload_n hx hb dLk_build_47 rfl (lv_at hl 3 rfl) ?_
  obtain ⟨u6, v6, hc6, h⟩ := bd2_some h
  refine x_cv (u := u5) (out := (u6, v6)) hA hD hS (va_runV (As := [.ref (ad x2)]) (rest := []) ⟨hx, hb, hml, hown, hts⟩ (ct_Lk_placeDefinitions hal hN F u5 x0 x2 (u6, v6) hc6 q0 q2 _) ⟨callB_of 1 hts gdLk_placeDefinitions rfl rfl rfl (hts _ tw_3) (hts _ tw_586) hdLk_placeDefinitions ⟨Nat.le_of_ble_eq_true rfl, Nat.le_of_ble_eq_true rfl⟩, (hts _ tw_588), (hts _ tp_23)⟩ (x_preV hK hD hNx hP (hal _ (okk_al q0)) (okk_t q0) rfl rfl) rfl rfl hl.1 rfl (lv_room (Nat.le_of_ble_eq_true rfl)) dLk_build_48 ⟨Nat.zero_le _, Nat.zero_le _⟩) (fun H locs hP hS => ?_)
  refine lv_aload_n hx hb dLk_build_51 rfl (lv_at hl 1 rfl) ?_
  refine lv_aload_n hx hb dLk_build_52 rfl (lv_at hl 4 rfl) ?_
  refine lv_iconst (v := 2) hx hb dLk_build_53 (by decide) ?_
  refine lv_iload hx hb dLk_build_54 (lv_at hl 0 rfl) ?_
  refine lv_aload_n hx hb dLk_build_56 rfl (lv_at hl 1 rfl) ?_
  refine lv_aload_n hx hb dLk_build_57 rfl (lv_at hl 3 rfl) ?_
  refine lv_aload_n hx hb dLk_build_58 rfl (lv_at hl 4 rfl) ?_
  refine lv_iload hx hb dLk_build_59 (lv_at hl 0 rfl) ?_
  obtain ⟨u7, v7, hc7, h⟩ := bd2_some h
  refine x_ci (u := u6) (out := (u7, v7)) hA hD hS (va_runV (As := [.ref (ad x2), .ref (ad x3), .int v5]) (rest := [.int v5, .int (2 : Int32), .ref (ad x3), .ref (ad x0)]) ⟨hx, hb, hml, hown, hts⟩ (ct_Lk_writeImports hal hN F u6 x0 x2 x3 v5 (u7, v7) hc7 q0 q2 q3 _) ⟨callB_of 3 hts gdLk_writeImports rfl rfl rfl (hts _ tw_3) (hts _ tw_590) hdLk_writeImports ⟨Nat.le_of_ble_eq_true rfl, Nat.le_of_ble_eq_true rfl⟩, (hts _ tw_592), (hts _ tp_24)⟩ (x_preV hK hD hNx hP (hal _ (okk_al q0)) (okk_t q0) rfl rfl) rfl rfl hl.1 rfl (lv_room (Nat.le_of_ble_eq_true rfl)) dLk_build_61 ⟨Nat.zero_le _, Nat.zero_le _⟩) (fun H locs hP hS => ?_)
  obtain ⟨u8, v8, hc8, h⟩ := bd2_some h
  refine x_ci (u := u7) (out := (u8, v8)) hA hD hS (va_runV (As := [.ref (ad x3), .int (2 : Int32), .int v5, .int v7]) (rest := []) ⟨hx, hb, hml, hown, hts⟩ (ct_Lk_endSection hal hN F u7 x0 x3 (2 : Int32) v5 v7 (u8, v8) hc8 q0 q3 _) ⟨callB_of 4 hts gdLk_endSection rfl rfl rfl (hts _ tw_3) (hts _ tw_574) hdLk_endSection ⟨Nat.le_of_ble_eq_true rfl, Nat.le_of_ble_eq_true rfl⟩, (hts _ tw_576), (hts _ tp_20)⟩ (x_preV hK hD hNx hP (hal _ (okk_al q0)) (okk_t q0) rfl rfl) rfl rfl hl.1 rfl (lv_room (Nat.le_of_ble_eq_true rfl)) dLk_build_64 ⟨Nat.zero_le _, Nat.zero_le _⟩) (fun H locs hP hS => ?_)
  refine lv_istore (lv' := [(4, .int v8), (0, .ref (ad x0)), (1, .ref (ad x1)), (2, .ref (ad x2)), (3, .ref (ad x3))]) hx hb dLk_build_67 hl (by decide) rfl (fun ls hl => ?_)
  refine lv_aload_n hx hb dLk_build_69 rfl (lv_at hl 1 rfl) ?_
  refine lv_aload_n hx hb dLk_build_70 rfl (lv_at hl 4 rfl) ?_
  refine lv_iconst (v := 3) hx hb dLk_build_71 (by decide) ?_
  refine lv_iload hx hb dLk_build_72 (lv_at hl 0 rfl) ?_
  refine lv_aload_n hx hb dLk_build_74 rfl (lv_at hl 1 rfl) ?_
  refine lv_aload_n hx hb dLk_build_75 rfl (lv_at hl 3 rfl) ?_
  refine lv_aload_n hx hb dLk_build_76 rfl (lv_at hl 4 rfl) ?_
  refine lv_iload hx hb dLk_build_77 (lv_at hl 0 rfl) ?_
  obtain ⟨u9, v9, hc9, h⟩ := bd2_some h
  refine x_ci (u := u8) (out := (u9, v9)) hA hD hS (va_runV (As := [.ref (ad x2), .ref (ad x3), .int v8]) (rest := [.int v8, .int (3 : Int32), .ref (ad x3), .ref (ad x0)]) ⟨hx, hb, hml, hown, hts⟩ (ct_Lk_writeExports hal hN F u8 x0 x2 x3 v8 (u9, v9) hc9 q0 q2 q3 _) ⟨callB_of 3 hts gdLk_writeExports rfl rfl rfl (hts _ tw_3) (hts _ tw_611) hdLk_writeExports ⟨Nat.le_of_ble_eq_true rfl, Nat.le_of_ble_eq_true rfl⟩, (hts _ tw_613), (hts _ tp_27)⟩ (x_preV hK hD hNx hP (hal _ (okk_al q0)) (okk_t q0) rfl rfl) rfl rfl hl.1 rfl (lv_room (Nat.le_of_ble_eq_true rfl)) dLk_build_79 ⟨Nat.zero_le _, Nat.zero_le _⟩) (fun H locs hP hS => ?_)
  obtain ⟨u10, v10, hc10, h⟩ := bd2_some h
  refine x_ci (u := u9) (out := (u10, v10)) hA hD hS (va_runV (As := [.ref (ad x3), .int (3 : Int32), .int v8, .int v9]) (rest := []) ⟨hx, hb, hml, hown, hts⟩ (ct_Lk_endSection hal hN F u9 x0 x3 (3 : Int32) v8 v9 (u10, v10) hc10 q0 q3 _) ⟨callB_of 4 hts gdLk_endSection rfl rfl rfl (hts _ tw_3) (hts _ tw_574) hdLk_endSection ⟨Nat.le_of_ble_eq_true rfl, Nat.le_of_ble_eq_true rfl⟩, (hts _ tw_576), (hts _ tp_20)⟩ (x_preV hK hD hNx hP (hal _ (okk_al q0)) (okk_t q0) rfl rfl) rfl rfl hl.1 rfl (lv_room (Nat.le_of_ble_eq_true rfl)) dLk_build_82 ⟨Nat.zero_le _, Nat.zero_le _⟩) (fun H locs hP hS => ?_)
  refine lv_istore (lv' := [(4, .int v10), (0, .ref (ad x0)), (1, .ref (ad x1)), (2, .ref (ad x2)), (3, .ref (ad x3))]) hx hb dLk_build_85 hl (by decide) rfl (fun ls hl => ?_)
  refine lv_aload_n hx hb dLk_build_87 rfl (lv_at hl 1 rfl) ?_
  refine lv_aload_n hx hb dLk_build_88 rfl (lv_at hl 2 rfl) ?_
  refine lv_aload_n hx hb dLk_build_89 rfl (lv_at hl 4 rfl) ?_
  obtain ⟨u11, v11, hc11, h⟩ := bd2_some h
  refine x_cv (u := u10) (out := (u11, v11)) hA hD hS (va_runV (As := [.ref (ad x1), .ref (ad x3)]) (rest := []) ⟨hx, hb, hml, hown, hts⟩ (ct_Lk_writeReferences hal hN F u10 x0 x1 x3 (u11, v11) hc11 q0 q1 q3 _) ⟨callB_of 2 hts gdLk_writeReferences rfl rfl rfl (hts _ tw_3) (hts _ tw_615) hdLk_writeReferences ⟨Nat.le_of_ble_eq_true rfl, Nat.le_of_ble_eq_true rfl⟩, (hts _ tw_617), (hts _ tp_28)⟩ (x_preV hK hD hNx hP (hal _ (okk_al q0)) (okk_t q0) rfl rfl) rfl rfl hl.1 rfl (lv_room (Nat.le_of_ble_eq_true rfl)) dLk_build_90 ⟨Nat.zero_le _, Nat.zero_le _⟩) (fun H locs hP hS => ?_)
  refine lv_aload_n hx hb dLk_build_93 rfl (lv_at hl 1 rfl) ?_
  refine lv_aload_n hx hb dLk_build_94 rfl (lv_at hl 4 rfl) ?_
  refine lv_iconst (v := 4) hx hb dLk_build_95 (by decide) ?_
  refine lv_iload hx hb dLk_build_96 (lv_at hl 0 rfl) ?_
  refine lv_aload_n hx hb dLk_build_98 rfl (lv_at hl 1 rfl) ?_
  refine lv_aload_n hx hb dLk_build_99 rfl (lv_at hl 4 rfl) ?_
  refine lv_iload hx hb dLk_build_100 (lv_at hl 0 rfl) ?_
  obtain ⟨u12, v12, hc12, h⟩ := bd2_some h
  refine x_ci (u := u11) (out := (u12, v12)) hA hD hS (va_runV (As := [.ref (ad x3), .int v10]) (rest := [.int v10, .int (4 : Int32), .ref (ad x3), .ref (ad x0)]) ⟨hx, hb, hml, hown, hts⟩ (ct_Lk_writeRelocations hal hN F u11 x0 x3 v10 (u12, v12) hc12 q0 q3 _) ⟨callB_of 2 hts gdLk_writeRelocations rfl rfl rfl (hts _ tw_3) (hts _ tw_638) hdLk_writeRelocations ⟨Nat.le_of_ble_eq_true rfl, Nat.le_of_ble_eq_true rfl⟩, (hts _ tw_640), (hts _ tp_31)⟩ (x_preV hK hD hNx hP (hal _ (okk_al q0)) (okk_t q0) rfl rfl) rfl rfl hl.1 rfl (lv_room (Nat.le_of_ble_eq_true rfl)) dLk_build_102 ⟨Nat.zero_le _, Nat.zero_le _⟩) (fun H locs hP hS => ?_)
  obtain ⟨u13, v13, hc13, h⟩ := bd2_some h
  refine x_ci (u := u12) (out := (u13, v13)) hA hD hS (va_runV (As := [.ref (ad x3), .int (4 : Int32), .int v10, .int v12]) (rest := []) ⟨hx, hb, hml, hown, hts⟩ (ct_Lk_endSection hal hN F u12 x0 x3 (4 : Int32) v10 v12 (u13, v13) hc13 q0 q3 _) ⟨callB_of 4 hts gdLk_endSection rfl rfl rfl (hts _ tw_3) (hts _ tw_574) hdLk_endSection ⟨Nat.le_of_ble_eq_true rfl, Nat.le_of_ble_eq_true rfl⟩, (hts _ tw_576), (hts _ tp_20)⟩ (x_preV hK hD hNx hP (hal _ (okk_al q0)) (okk_t q0) rfl rfl) rfl rfl hl.1 rfl (lv_room (Nat.le_of_ble_eq_true rfl)) dLk_build_105 ⟨Nat.zero_le _, Nat.zero_le _⟩) (fun H locs hP hS => ?_)
  refine lv_istore (lv' := [(4, .int v13), (0, .ref (ad x0)), (1, .ref (ad x1)), (2, .ref (ad x2)), (3, .ref (ad x3))]) hx hb dLk_build_108 hl (by decide) rfl (fun ls hl => ?_)
  refine lv_aload_n hx hb dLk_build_110 rfl (lv_at hl 4 rfl) ?_
  refine lv_iload hx hb dLk_build_111 (lv_at hl 0 rfl) ?_
  refine x_putN hx hb hts in_Im t_Im t_Im_ok nm_Im hown hK hD hN hP hS (hal _ (okk_al q3)) (okk_t q3) rfl rfl 1 (by decide) (nf_1 hNx) (fun _ h9 => h9) rfl (ty := .int) (by decide +kernel) rfl rfl (Nat.le_of_ble_eq_true rfl) (stI u13 x3 1 v13) stI_o (by rw [stI_up]; exact eg_6_1) dLk_build_113 (fun H locs hP hS => ?_)
  refine lv_aload_n hx hb dLk_build_116 rfl (lv_at hl 1 rfl) ?_
  refine lv_aload_n hx hb dLk_build_117 rfl (lv_at hl 3 rfl) ?_
  refine lv_aload_n hx hb dLk_build_118 rfl (lv_at hl 4 rfl) ?_
  obtain ⟨u14, v14, hc14, h⟩ := bd2_some h
  refine x_cv (u := stI u13 x3 1 v13) (out := (u14, v14)) hA hD hS (va_runV (As := [.ref (ad x2), .ref (ad x3)]) (rest := []) ⟨hx, hb, hml, hown, hts⟩ (ct_Lk_writeHeader hal hN F (stI u13 x3 1 v13) x0 x2 x3 (u14, v14) hc14 q0 q2 q3 _) ⟨callB_of 2 hts gdLk_writeHeader rfl rfl rfl (hts _ tw_3) (hts _ tw_650) hdLk_writeHeader ⟨Nat.le_of_ble_eq_true rfl, Nat.le_of_ble_eq_true rfl⟩, (hts _ tw_652), (hts _ tp_34)⟩ (x_preV hK hD hNx hP (hal _ (okk_al q0)) (okk_t q0) rfl rfl) rfl rfl hl.1 rfl (lv_room (Nat.le_of_ble_eq_true rfl)) dLk_build_119 ⟨Nat.zero_le _, Nat.zero_le _⟩) (fun H locs hP hS => ?_)
  exact x_vret hx hb hr hlocks h hP hS dLk_build_122
def fn_Lk_build (F : Nat) (al : Nat → Bool) (u : Mr) (x0 : Nat) (x1 : Nat) (x2 : Nat) (x3 : Nat) : Option (Mr × Int32) := bk_Lk_build_0 F al u x0 x1 x2 x3
set_option maxHeartbeats 4000000 in
set_option maxRecDepth 100000 in
theorem ct_Lk_build {l : Launch} {D : va_G} {cA : Nat → ClassId} {ad : Nat → Nat} {L : List Nat} {rs : va_W} {al : Nat → Bool} (hal : ∀ k, al k = true → k ∈ L) (hN : L.Nodup) (F : Nat) (u : Mr) (x0 : Nat) (x1 : Nat) (x2 : Nat) (x3 : Nat) (out : Mr × Int32) (h : fn_Lk_build F al u x0 x1 x2 x3 = some out) (q0 : okk al 8 x0 = true) (q1 : okk al 2 x1 = true) (q2 : okk al 3 x2 = true) (q3 : okk al 6 x3 = true) : CtV l yLk_build wsLk_build rm_Lk_build [.ref (ad x0), .ref (ad x1), .ref (ad x2), .ref (ad x3)] D cA ad L rs u out := by
  intro sz
  refine Met.ofW (cc := cLk_build) (maxL := 5) (ret := none) (by decide) rfl ?_
  intro p e s m args below meth c s₁ B hml hv
  obtain ⟨rfl, hsz, hP, hK, hD0, hNx⟩ := hv
  subst hsz
  have hD := hD0.self (sz := s.heap.size)
  generalize hAe : va_A (ww ad cA L rs u) s.heap.size = A at hD ⊢
  have hA : ∀ q, s.heap.size ≤ q → A q := fun q h => by rw [← hAe]; exact Or.inr h
  have hl := lv_entry ([.ref (ad x0), .ref (ad x1), .ref (ad x2), .ref (ad x3)]) (n := 5) (Nat.le_of_ble_eq_true rfl)
  rw [lg_entry_eq]
  generalize (lg_sl ([.ref (ad x0), .ref (ad x1), .ref (ad x2), .ref (ad x3)]) ++ List.replicate (5 - (lg_sl ([.ref (ad x0), .ref (ad x1), .ref (ad x2), .ref (ad x3)])).length) Slot.unset).toArray = ls at hl ⊢
  exact wk_Lk_build_0 ⟨B.exec, B.bytes, hml, findClass_of_methodNamed B.named, hts_bw (atoms_spec (ws := wsLk_build) B.pre), B.returns, B.notSynchronized, hK, hA, fun v => ww_D hD, hN, hal, hNx⟩ F out u x0 x1 x2 x3 h q0 q1 q2 q3 _ _ _ (lv_sub hl [0, 1, 2, 3] rfl) hP va_S.rf
end

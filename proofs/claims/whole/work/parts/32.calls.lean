abbrev yFg_put : MethodName := ⟨"ImageForge", "put", "(IIJI)I"⟩
abbrev cFg_put : ByteArray := prog_1_method_2_code
abbrev wsFg_put : List Cond := .code yFg_put cFg_put 7 (some .int) :: bw
theorem gdFg_put : GoodIn bw wsFg_put := gd_of tw_250
theorem hdFg_put : yFg_put.cls ≠ "java/lang/invoke/MethodHandle" ∧ yFg_put.cls ≠ "java/lang/invoke/VarHandle" ∧ (parseMethodDescriptor yFg_put.desc).map (fun d => d.parameters.length) = some 4 := by decide +kernel
theorem dFg_put_0 : decode cFg_put 0 = .ok (.iload_n 1, 1) := by decide +kernel
theorem dFg_put_1 : decode cFg_put 1 = .ok (.iconst 4, 1) := by decide +kernel
theorem dFg_put_2 : decode cFg_put 2 = .ok (.invokestatic 49, 3) := by decide +kernel
theorem dFg_put_5 : decode cFg_put 5 = .ok (.ifCond .eq 24, 3) := by decide +kernel
theorem dFg_put_8 : decode cFg_put 8 = .ok (.iload_n 2, 1) := by decide +kernel
theorem dFg_put_9 : decode cFg_put 9 = .ok (.iconst 2, 1) := by decide +kernel
theorem dFg_put_10 : decode cFg_put 10 = .ok (.invokestatic 49, 3) := by decide +kernel
theorem dFg_put_13 : decode cFg_put 13 = .ok (.ifCond .eq 16, 3) := by decide +kernel
theorem dFg_put_16 : decode cFg_put 16 = .ok (.iload 5, 2) := by decide +kernel
theorem dFg_put_18 : decode cFg_put 18 = .ok (.iconst 1, 1) := by decide +kernel
theorem dFg_put_19 : decode cFg_put 19 = .ok (.if_icmp .lt 10, 3) := by decide +kernel
theorem dFg_put_22 : decode cFg_put 22 = .ok (.iload 5, 2) := by decide +kernel
theorem dFg_put_24 : decode cFg_put 24 = .ok (.bipush 8, 2) := by decide +kernel
theorem dFg_put_26 : decode cFg_put 26 = .ok (.if_icmp .le 13, 3) := by decide +kernel
theorem dFg_put_29 : decode cFg_put 29 = .ok (.new 53, 3) := by decide +kernel
theorem dFg_put_32 : decode cFg_put 32 = .ok (.dup, 1) := by decide +kernel
theorem dFg_put_33 : decode cFg_put 33 = .ok (.ldc 55, 2) := by decide +kernel
theorem dFg_put_35 : decode cFg_put 35 = .ok (.invokespecial 57, 3) := by decide +kernel
theorem dFg_put_38 : decode cFg_put 38 = .ok (.athrow, 1) := by decide +kernel
theorem dFg_put_39 : decode cFg_put 39 = .ok (.aload_n 0, 1) := by decide +kernel
theorem dFg_put_40 : decode cFg_put 40 = .ok (.getfield 11, 3) := by decide +kernel
theorem dFg_put_43 : decode cFg_put 43 = .ok (.iload_n 1, 1) := by decide +kernel
theorem dFg_put_44 : decode cFg_put 44 = .ok (.aaload, 1) := by decide +kernel
theorem dFg_put_45 : decode cFg_put 45 = .ok (.getfield 60, 3) := by decide +kernel
theorem dFg_put_48 : decode cFg_put 48 = .ok (.iload_n 2, 1) := by decide +kernel
theorem dFg_put_49 : decode cFg_put 49 = .ok (.aaload, 1) := by decide +kernel
theorem dFg_put_50 : decode cFg_put 50 = .ok (.astore 6, 2) := by decide +kernel
theorem dFg_put_52 : decode cFg_put 52 = .ok (.aload 6, 2) := by decide +kernel
theorem dFg_put_54 : decode cFg_put 54 = .ok (.getfield 64, 3) := by decide +kernel
theorem dFg_put_57 : decode cFg_put 57 = .ok (.iload 5, 2) := by decide +kernel
theorem dFg_put_59 : decode cFg_put 59 = .ok (.iadd, 1) := by decide +kernel
theorem dFg_put_60 : decode cFg_put 60 = .ok (.bipush 40, 2) := by decide +kernel
theorem dFg_put_62 : decode cFg_put 62 = .ok (.if_icmp .le 13, 3) := by decide +kernel
theorem dFg_put_65 : decode cFg_put 65 = .ok (.new 70, 3) := by decide +kernel
theorem dFg_put_68 : decode cFg_put 68 = .ok (.dup, 1) := by decide +kernel
theorem dFg_put_69 : decode cFg_put 69 = .ok (.ldc 72, 2) := by decide +kernel
theorem dFg_put_71 : decode cFg_put 71 = .ok (.invokespecial 74, 3) := by decide +kernel
theorem dFg_put_74 : decode cFg_put 74 = .ok (.athrow, 1) := by decide +kernel
theorem dFg_put_75 : decode cFg_put 75 = .ok (.aload 6, 2) := by decide +kernel
theorem dFg_put_77 : decode cFg_put 77 = .ok (.lload_n 3, 1) := by decide +kernel
theorem dFg_put_78 : decode cFg_put 78 = .ok (.iload 5, 2) := by decide +kernel
theorem dFg_put_80 : decode cFg_put 80 = .ok (.invokevirtual 75, 3) := by decide +kernel
theorem dFg_put_83 : decode cFg_put 83 = .ok (.aload 6, 2) := by decide +kernel
theorem dFg_put_85 : decode cFg_put 85 = .ok (.getfield 64, 3) := by decide +kernel
theorem dFg_put_88 : decode cFg_put 88 = .ok (.ireturn, 1) := by decide +kernel
abbrev yFg_define : MethodName := ⟨"ImageForge", "define", "(IIII)V"⟩
abbrev cFg_define : ByteArray := prog_1_method_3_code
abbrev wsFg_define : List Cond := .code yFg_define cFg_define 6 none :: bw
theorem gdFg_define : GoodIn bw wsFg_define := gd_of tw_347
theorem hdFg_define : yFg_define.cls ≠ "java/lang/invoke/MethodHandle" ∧ yFg_define.cls ≠ "java/lang/invoke/VarHandle" ∧ (parseMethodDescriptor yFg_define.desc).map (fun d => d.parameters.length) = some 4 := by decide +kernel
theorem dFg_define_0 : decode cFg_define 0 = .ok (.iload_n 1, 1) := by decide +kernel
theorem dFg_define_1 : decode cFg_define 1 = .ok (.iconst 4, 1) := by decide +kernel
theorem dFg_define_2 : decode cFg_define 2 = .ok (.invokestatic 49, 3) := by decide +kernel
theorem dFg_define_5 : decode cFg_define 5 = .ok (.ifCond .eq 20, 3) := by decide +kernel
theorem dFg_define_8 : decode cFg_define 8 = .ok (.iload_n 2, 1) := by decide +kernel
theorem dFg_define_9 : decode cFg_define 9 = .ok (.bipush 16, 2) := by decide +kernel
theorem dFg_define_11 : decode cFg_define 11 = .ok (.invokestatic 49, 3) := by decide +kernel
theorem dFg_define_14 : decode cFg_define 14 = .ok (.ifCond .eq 11, 3) := by decide +kernel
theorem dFg_define_17 : decode cFg_define 17 = .ok (.iload_n 3, 1) := by decide +kernel
theorem dFg_define_18 : decode cFg_define 18 = .ok (.iconst 2, 1) := by decide +kernel
theorem dFg_define_19 : decode cFg_define 19 = .ok (.invokestatic 49, 3) := by decide +kernel
theorem dFg_define_22 : decode cFg_define 22 = .ok (.ifCond .ne 13, 3) := by decide +kernel
theorem dFg_define_25 : decode cFg_define 25 = .ok (.new 53, 3) := by decide +kernel
theorem dFg_define_28 : decode cFg_define 28 = .ok (.dup, 1) := by decide +kernel
theorem dFg_define_29 : decode cFg_define 29 = .ok (.ldc 79, 2) := by decide +kernel
theorem dFg_define_31 : decode cFg_define 31 = .ok (.invokespecial 57, 3) := by decide +kernel
theorem dFg_define_34 : decode cFg_define 34 = .ok (.athrow, 1) := by decide +kernel
theorem dFg_define_35 : decode cFg_define 35 = .ok (.aload_n 0, 1) := by decide +kernel
theorem dFg_define_36 : decode cFg_define 36 = .ok (.getfield 11, 3) := by decide +kernel
theorem dFg_define_39 : decode cFg_define 39 = .ok (.iload_n 1, 1) := by decide +kernel
theorem dFg_define_40 : decode cFg_define 40 = .ok (.aaload, 1) := by decide +kernel
theorem dFg_define_41 : decode cFg_define 41 = .ok (.astore 5, 2) := by decide +kernel
theorem dFg_define_43 : decode cFg_define 43 = .ok (.iload 4, 2) := by decide +kernel
theorem dFg_define_45 : decode cFg_define 45 = .ok (.ifCond .lt 18, 3) := by decide +kernel
theorem dFg_define_48 : decode cFg_define 48 = .ok (.iload 4, 2) := by decide +kernel
theorem dFg_define_50 : decode cFg_define 50 = .ok (.aload 5, 2) := by decide +kernel
theorem dFg_define_52 : decode cFg_define 52 = .ok (.getfield 60, 3) := by decide +kernel
theorem dFg_define_55 : decode cFg_define 55 = .ok (.iload_n 3, 1) := by decide +kernel
theorem dFg_define_56 : decode cFg_define 56 = .ok (.aaload, 1) := by decide +kernel
theorem dFg_define_57 : decode cFg_define 57 = .ok (.getfield 64, 3) := by decide +kernel
theorem dFg_define_60 : decode cFg_define 60 = .ok (.if_icmp .le 13, 3) := by decide +kernel
theorem dFg_define_63 : decode cFg_define 63 = .ok (.new 53, 3) := by decide +kernel
theorem dFg_define_66 : decode cFg_define 66 = .ok (.dup, 1) := by decide +kernel
theorem dFg_define_67 : decode cFg_define 67 = .ok (.ldc 81, 2) := by decide +kernel
theorem dFg_define_69 : decode cFg_define 69 = .ok (.invokespecial 57, 3) := by decide +kernel
theorem dFg_define_72 : decode cFg_define 72 = .ok (.athrow, 1) := by decide +kernel
theorem dFg_define_73 : decode cFg_define 73 = .ok (.aload 5, 2) := by decide +kernel
theorem dFg_define_75 : decode cFg_define 75 = .ok (.getfield 83, 3) := by decide +kernel
theorem dFg_define_78 : decode cFg_define 78 = .ok (.bipush 6, 2) := by decide +kernel
theorem dFg_define_80 : decode cFg_define 80 = .ok (.if_icmp .lt 13, 3) := by decide +kernel
theorem dFg_define_83 : decode cFg_define 83 = .ok (.new 70, 3) := by decide +kernel
theorem dFg_define_86 : decode cFg_define 86 = .ok (.dup, 1) := by decide +kernel
theorem dFg_define_87 : decode cFg_define 87 = .ok (.ldc 86, 2) := by decide +kernel
theorem dFg_define_89 : decode cFg_define 89 = .ok (.invokespecial 74, 3) := by decide +kernel
theorem dFg_define_92 : decode cFg_define 92 = .ok (.athrow, 1) := by decide +kernel
theorem dFg_define_93 : decode cFg_define 93 = .ok (.aload 5, 2) := by decide +kernel
theorem dFg_define_95 : decode cFg_define 95 = .ok (.dup, 1) := by decide +kernel
theorem dFg_define_96 : decode cFg_define 96 = .ok (.getfield 83, 3) := by decide +kernel
theorem dFg_define_99 : decode cFg_define 99 = .ok (.iconst 1, 1) := by decide +kernel
theorem dFg_define_100 : decode cFg_define 100 = .ok (.iadd, 1) := by decide +kernel
theorem dFg_define_101 : decode cFg_define 101 = .ok (.putfield 83, 3) := by decide +kernel
theorem dFg_define_104 : decode cFg_define 104 = .ok (.aload_n 0, 1) := by decide +kernel
theorem dFg_define_105 : decode cFg_define 105 = .ok (.getfield 17, 3) := by decide +kernel
theorem dFg_define_108 : decode cFg_define 108 = .ok (.iload_n 2, 1) := by decide +kernel
theorem dFg_define_109 : decode cFg_define 109 = .ok (.aaload, 1) := by decide +kernel
theorem dFg_define_110 : decode cFg_define 110 = .ok (.iload_n 1, 1) := by decide +kernel
theorem dFg_define_111 : decode cFg_define 111 = .ok (.iload_n 3, 1) := by decide +kernel
theorem dFg_define_112 : decode cFg_define 112 = .ok (.iload 4, 2) := by decide +kernel
theorem dFg_define_114 : decode cFg_define 114 = .ok (.invokevirtual 88, 3) := by decide +kernel
theorem dFg_define_117 : decode cFg_define 117 = .ok (.return_, 1) := by decide +kernel
abbrev yFg_imported : MethodName := ⟨"ImageForge", "imported", "(III)V"⟩
abbrev cFg_imported : ByteArray := prog_1_method_5_code
abbrev wsFg_imported : List Cond := .code yFg_imported cFg_imported 5 none :: bw
theorem gdFg_imported : GoodIn bw wsFg_imported := gd_of tw_492
theorem hdFg_imported : yFg_imported.cls ≠ "java/lang/invoke/MethodHandle" ∧ yFg_imported.cls ≠ "java/lang/invoke/VarHandle" ∧ (parseMethodDescriptor yFg_imported.desc).map (fun d => d.parameters.length) = some 3 := by decide +kernel
theorem dFg_imported_0 : decode cFg_imported 0 = .ok (.iload_n 2, 1) := by decide +kernel
theorem dFg_imported_1 : decode cFg_imported 1 = .ok (.iconst (-1), 1) := by decide +kernel
theorem dFg_imported_2 : decode cFg_imported 2 = .ok (.if_icmp .eq 7, 3) := by decide +kernel
theorem dFg_imported_5 : decode cFg_imported 5 = .ok (.iconst 1, 1) := by decide +kernel
theorem dFg_imported_6 : decode cFg_imported 6 = .ok (.goto 4, 3) := by decide +kernel
theorem dFg_imported_9 : decode cFg_imported 9 = .ok (.iconst 0, 1) := by decide +kernel
theorem dFg_imported_10 : decode cFg_imported 10 = .ok (.istore 4, 2) := by decide +kernel
theorem dFg_imported_12 : decode cFg_imported 12 = .ok (.iload_n 1, 1) := by decide +kernel
theorem dFg_imported_13 : decode cFg_imported 13 = .ok (.bipush 16, 2) := by decide +kernel
theorem dFg_imported_15 : decode cFg_imported 15 = .ok (.invokestatic 49, 3) := by decide +kernel
theorem dFg_imported_18 : decode cFg_imported 18 = .ok (.ifCond .eq 16, 3) := by decide +kernel
theorem dFg_imported_21 : decode cFg_imported 21 = .ok (.iload 4, 2) := by decide +kernel
theorem dFg_imported_23 : decode cFg_imported 23 = .ok (.ifCond .eq 21, 3) := by decide +kernel
theorem dFg_imported_26 : decode cFg_imported 26 = .ok (.iload_n 2, 1) := by decide +kernel
theorem dFg_imported_27 : decode cFg_imported 27 = .ok (.iload_n 3, 1) := by decide +kernel
theorem dFg_imported_28 : decode cFg_imported 28 = .ok (.invokestatic 123, 3) := by decide +kernel
theorem dFg_imported_31 : decode cFg_imported 31 = .ok (.ifCond .ne 13, 3) := by decide +kernel
theorem dFg_imported_34 : decode cFg_imported 34 = .ok (.new 53, 3) := by decide +kernel
theorem dFg_imported_37 : decode cFg_imported 37 = .ok (.dup, 1) := by decide +kernel
theorem dFg_imported_38 : decode cFg_imported 38 = .ok (.ldc 126, 2) := by decide +kernel
theorem dFg_imported_40 : decode cFg_imported 40 = .ok (.invokespecial 57, 3) := by decide +kernel
theorem dFg_imported_43 : decode cFg_imported 43 = .ok (.athrow, 1) := by decide +kernel
theorem dFg_imported_44 : decode cFg_imported 44 = .ok (.aload_n 0, 1) := by decide +kernel
theorem dFg_imported_45 : decode cFg_imported 45 = .ok (.getfield 17, 3) := by decide +kernel
theorem dFg_imported_48 : decode cFg_imported 48 = .ok (.iload_n 1, 1) := by decide +kernel
theorem dFg_imported_49 : decode cFg_imported 49 = .ok (.aaload, 1) := by decide +kernel
theorem dFg_imported_50 : decode cFg_imported 50 = .ok (.iload_n 2, 1) := by decide +kernel
theorem dFg_imported_51 : decode cFg_imported 51 = .ok (.putfield 128, 3) := by decide +kernel
theorem dFg_imported_54 : decode cFg_imported 54 = .ok (.aload_n 0, 1) := by decide +kernel
theorem dFg_imported_55 : decode cFg_imported 55 = .ok (.getfield 17, 3) := by decide +kernel
theorem dFg_imported_58 : decode cFg_imported 58 = .ok (.iload_n 1, 1) := by decide +kernel
theorem dFg_imported_59 : decode cFg_imported 59 = .ok (.aaload, 1) := by decide +kernel
theorem dFg_imported_60 : decode cFg_imported 60 = .ok (.iload_n 3, 1) := by decide +kernel
theorem dFg_imported_61 : decode cFg_imported 61 = .ok (.putfield 131, 3) := by decide +kernel
theorem dFg_imported_64 : decode cFg_imported 64 = .ok (.return_, 1) := by decide +kernel
abbrev yFg_exported : MethodName := ⟨"ImageForge", "exported", "(IZ)V"⟩
abbrev cFg_exported : ByteArray := prog_1_method_6_code
abbrev wsFg_exported : List Cond := .code yFg_exported cFg_exported 3 none :: bw
theorem gdFg_exported : GoodIn bw wsFg_exported := gd_of tw_503
theorem hdFg_exported : yFg_exported.cls ≠ "java/lang/invoke/MethodHandle" ∧ yFg_exported.cls ≠ "java/lang/invoke/VarHandle" ∧ (parseMethodDescriptor yFg_exported.desc).map (fun d => d.parameters.length) = some 2 := by decide +kernel
theorem dFg_exported_0 : decode cFg_exported 0 = .ok (.iload_n 1, 1) := by decide +kernel
theorem dFg_exported_1 : decode cFg_exported 1 = .ok (.bipush 16, 2) := by decide +kernel
theorem dFg_exported_3 : decode cFg_exported 3 = .ok (.invokestatic 49, 3) := by decide +kernel
theorem dFg_exported_6 : decode cFg_exported 6 = .ok (.ifCond .ne 13, 3) := by decide +kernel
theorem dFg_exported_9 : decode cFg_exported 9 = .ok (.new 53, 3) := by decide +kernel
theorem dFg_exported_12 : decode cFg_exported 12 = .ok (.dup, 1) := by decide +kernel
theorem dFg_exported_13 : decode cFg_exported 13 = .ok (.ldc 134, 2) := by decide +kernel
theorem dFg_exported_15 : decode cFg_exported 15 = .ok (.invokespecial 57, 3) := by decide +kernel
theorem dFg_exported_18 : decode cFg_exported 18 = .ok (.athrow, 1) := by decide +kernel
theorem dFg_exported_19 : decode cFg_exported 19 = .ok (.aload_n 0, 1) := by decide +kernel
theorem dFg_exported_20 : decode cFg_exported 20 = .ok (.getfield 17, 3) := by decide +kernel
theorem dFg_exported_23 : decode cFg_exported 23 = .ok (.iload_n 1, 1) := by decide +kernel
theorem dFg_exported_24 : decode cFg_exported 24 = .ok (.aaload, 1) := by decide +kernel
theorem dFg_exported_25 : decode cFg_exported 25 = .ok (.iload_n 2, 1) := by decide +kernel
theorem dFg_exported_26 : decode cFg_exported 26 = .ok (.putfield 136, 3) := by decide +kernel
theorem dFg_exported_29 : decode cFg_exported 29 = .ok (.return_, 1) := by decide +kernel
abbrev yFg_link : MethodName := ⟨"ImageForge", "link", "()I"⟩
abbrev cFg_link : ByteArray := prog_1_method_7_code
abbrev wsFg_link : List Cond := .code yFg_link cFg_link 1 (some .int) :: bw
theorem gdFg_link : GoodIn bw wsFg_link := gd_of tw_512
theorem hdFg_link : yFg_link.cls ≠ "java/lang/invoke/MethodHandle" ∧ yFg_link.cls ≠ "java/lang/invoke/VarHandle" ∧ (parseMethodDescriptor yFg_link.desc).map (fun d => d.parameters.length) = some 0 := by decide +kernel
theorem dFg_link_0 : decode cFg_link 0 = .ok (.aload_n 0, 1) := by decide +kernel
theorem dFg_link_1 : decode cFg_link 1 = .ok (.invokevirtual 140, 3) := by decide +kernel
theorem dFg_link_4 : decode cFg_link 4 = .ok (.ifCond .eq 13, 3) := by decide +kernel
theorem dFg_link_7 : decode cFg_link 7 = .ok (.new 70, 3) := by decide +kernel
theorem dFg_link_10 : decode cFg_link 10 = .ok (.dup, 1) := by decide +kernel
theorem dFg_link_11 : decode cFg_link 11 = .ok (.ldc 144, 2) := by decide +kernel
theorem dFg_link_13 : decode cFg_link 13 = .ok (.invokespecial 74, 3) := by decide +kernel
theorem dFg_link_16 : decode cFg_link 16 = .ok (.athrow, 1) := by decide +kernel
theorem dFg_link_17 : decode cFg_link 17 = .ok (.aload_n 0, 1) := by decide +kernel
theorem dFg_link_18 : decode cFg_link 18 = .ok (.invokevirtual 146, 3) := by decide +kernel
theorem dFg_link_21 : decode cFg_link 21 = .ok (.ifCond .ne 10, 3) := by decide +kernel
theorem dFg_link_24 : decode cFg_link 24 = .ok (.aload_n 0, 1) := by decide +kernel
theorem dFg_link_25 : decode cFg_link 25 = .ok (.invokevirtual 149, 3) := by decide +kernel
theorem dFg_link_28 : decode cFg_link 28 = .ok (.ifCond .eq 13, 3) := by decide +kernel
theorem dFg_link_31 : decode cFg_link 31 = .ok (.new 152, 3) := by decide +kernel
theorem dFg_link_34 : decode cFg_link 34 = .ok (.dup, 1) := by decide +kernel
theorem dFg_link_35 : decode cFg_link 35 = .ok (.ldc 154, 2) := by decide +kernel
theorem dFg_link_37 : decode cFg_link 37 = .ok (.invokespecial 156, 3) := by decide +kernel
theorem dFg_link_40 : decode cFg_link 40 = .ok (.athrow, 1) := by decide +kernel
theorem dFg_link_41 : decode cFg_link 41 = .ok (.aload_n 0, 1) := by decide +kernel
theorem dFg_link_42 : decode cFg_link 42 = .ok (.getfield 36, 3) := by decide +kernel
theorem dFg_link_45 : decode cFg_link 45 = .ok (.aload_n 0, 1) := by decide +kernel
theorem dFg_link_46 : decode cFg_link 46 = .ok (.getfield 11, 3) := by decide +kernel
theorem dFg_link_49 : decode cFg_link 49 = .ok (.aload_n 0, 1) := by decide +kernel
theorem dFg_link_50 : decode cFg_link 50 = .ok (.getfield 17, 3) := by decide +kernel
theorem dFg_link_53 : decode cFg_link 53 = .ok (.aload_n 0, 1) := by decide +kernel
theorem dFg_link_54 : decode cFg_link 54 = .ok (.getfield 29, 3) := by decide +kernel
theorem dFg_link_57 : decode cFg_link 57 = .ok (.invokevirtual 157, 3) := by decide +kernel
theorem dFg_link_60 : decode cFg_link 60 = .ok (.aload_n 0, 1) := by decide +kernel
theorem dFg_link_61 : decode cFg_link 61 = .ok (.getfield 29, 3) := by decide +kernel
theorem dFg_link_64 : decode cFg_link 64 = .ok (.getfield 161, 3) := by decide +kernel
theorem dFg_link_67 : decode cFg_link 67 = .ok (.ireturn, 1) := by decide +kernel
abbrev yFg_image : MethodName := ⟨"ImageForge", "image", "(I)I"⟩
abbrev cFg_image : ByteArray := prog_1_method_8_code
abbrev wsFg_image : List Cond := .code yFg_image cFg_image 2 (some .int) :: bw
theorem gdFg_image : GoodIn bw wsFg_image := gd_of tw_670
theorem hdFg_image : yFg_image.cls ≠ "java/lang/invoke/MethodHandle" ∧ yFg_image.cls ≠ "java/lang/invoke/VarHandle" ∧ (parseMethodDescriptor yFg_image.desc).map (fun d => d.parameters.length) = some 1 := by decide +kernel
theorem dFg_image_0 : decode cFg_image 0 = .ok (.iload_n 1, 1) := by decide +kernel
theorem dFg_image_1 : decode cFg_image 1 = .ok (.aload_n 0, 1) := by decide +kernel
theorem dFg_image_2 : decode cFg_image 2 = .ok (.getfield 29, 3) := by decide +kernel
theorem dFg_image_5 : decode cFg_image 5 = .ok (.getfield 161, 3) := by decide +kernel
theorem dFg_image_8 : decode cFg_image 8 = .ok (.invokestatic 49, 3) := by decide +kernel
theorem dFg_image_11 : decode cFg_image 11 = .ok (.ifCond .ne 13, 3) := by decide +kernel
theorem dFg_image_14 : decode cFg_image 14 = .ok (.new 152, 3) := by decide +kernel
theorem dFg_image_17 : decode cFg_image 17 = .ok (.dup, 1) := by decide +kernel
theorem dFg_image_18 : decode cFg_image 18 = .ok (.ldc 162, 2) := by decide +kernel
theorem dFg_image_20 : decode cFg_image 20 = .ok (.invokespecial 156, 3) := by decide +kernel
theorem dFg_image_23 : decode cFg_image 23 = .ok (.athrow, 1) := by decide +kernel
theorem dFg_image_24 : decode cFg_image 24 = .ok (.aload_n 0, 1) := by decide +kernel
theorem dFg_image_25 : decode cFg_image 25 = .ok (.getfield 29, 3) := by decide +kernel
theorem dFg_image_28 : decode cFg_image 28 = .ok (.iload_n 1, 1) := by decide +kernel
theorem dFg_image_29 : decode cFg_image 29 = .ok (.invokevirtual 164, 3) := by decide +kernel
theorem dFg_image_32 : decode cFg_image 32 = .ok (.ireturn, 1) := by decide +kernel
abbrev yFg_spoil : MethodName := ⟨"ImageForge", "spoil", "(II)V"⟩
abbrev cFg_spoil : ByteArray := prog_1_method_9_code
abbrev wsFg_spoil : List Cond := .code yFg_spoil cFg_spoil 3 none :: bw
theorem gdFg_spoil : GoodIn bw wsFg_spoil := gd_of tw_679
theorem hdFg_spoil : yFg_spoil.cls ≠ "java/lang/invoke/MethodHandle" ∧ yFg_spoil.cls ≠ "java/lang/invoke/VarHandle" ∧ (parseMethodDescriptor yFg_spoil.desc).map (fun d => d.parameters.length) = some 2 := by decide +kernel
theorem dFg_spoil_0 : decode cFg_spoil 0 = .ok (.iload_n 1, 1) := by decide +kernel
theorem dFg_spoil_1 : decode cFg_spoil 1 = .ok (.aload_n 0, 1) := by decide +kernel
theorem dFg_spoil_2 : decode cFg_spoil 2 = .ok (.getfield 29, 3) := by decide +kernel
theorem dFg_spoil_5 : decode cFg_spoil 5 = .ok (.getfield 161, 3) := by decide +kernel
theorem dFg_spoil_8 : decode cFg_spoil 8 = .ok (.invokestatic 49, 3) := by decide +kernel
theorem dFg_spoil_11 : decode cFg_spoil 11 = .ok (.ifCond .ne 13, 3) := by decide +kernel
theorem dFg_spoil_14 : decode cFg_spoil 14 = .ok (.new 152, 3) := by decide +kernel
theorem dFg_spoil_17 : decode cFg_spoil 17 = .ok (.dup, 1) := by decide +kernel
theorem dFg_spoil_18 : decode cFg_spoil 18 = .ok (.ldc 162, 2) := by decide +kernel
theorem dFg_spoil_20 : decode cFg_spoil 20 = .ok (.invokespecial 156, 3) := by decide +kernel
theorem dFg_spoil_23 : decode cFg_spoil 23 = .ok (.athrow, 1) := by decide +kernel
theorem dFg_spoil_24 : decode cFg_spoil 24 = .ok (.aload_n 0, 1) := by decide +kernel
theorem dFg_spoil_25 : decode cFg_spoil 25 = .ok (.getfield 29, 3) := by decide +kernel
theorem dFg_spoil_28 : decode cFg_spoil 28 = .ok (.iload_n 1, 1) := by decide +kernel
theorem dFg_spoil_29 : decode cFg_spoil 29 = .ok (.aload_n 0, 1) := by decide +kernel
theorem dFg_spoil_30 : decode cFg_spoil 30 = .ok (.getfield 29, 3) := by decide +kernel
theorem dFg_spoil_33 : decode cFg_spoil 33 = .ok (.iload_n 1, 1) := by decide +kernel
theorem dFg_spoil_34 : decode cFg_spoil 34 = .ok (.invokevirtual 164, 3) := by decide +kernel
theorem dFg_spoil_37 : decode cFg_spoil 37 = .ok (.iload_n 2, 1) := by decide +kernel
theorem dFg_spoil_38 : decode cFg_spoil 38 = .ok (.ixor, 1) := by decide +kernel
theorem dFg_spoil_39 : decode cFg_spoil 39 = .ok (.invokevirtual 168, 3) := by decide +kernel
theorem dFg_spoil_42 : decode cFg_spoil 42 = .ok (.return_, 1) := by decide +kernel
abbrev yFg_seal : MethodName := ⟨"ImageForge", "seal", "()I"⟩
abbrev cFg_seal : ByteArray := prog_1_method_10_code
abbrev wsFg_seal : List Cond := .code yFg_seal cFg_seal 2 (some .int) :: bw
theorem gdFg_seal : GoodIn bw wsFg_seal := gd_of tw_690
theorem hdFg_seal : yFg_seal.cls ≠ "java/lang/invoke/MethodHandle" ∧ yFg_seal.cls ≠ "java/lang/invoke/VarHandle" ∧ (parseMethodDescriptor yFg_seal.desc).map (fun d => d.parameters.length) = some 0 := by decide +kernel
theorem dFg_seal_0 : decode cFg_seal 0 = .ok (.aload_n 0, 1) := by decide +kernel
theorem dFg_seal_1 : decode cFg_seal 1 = .ok (.getfield 29, 3) := by decide +kernel
theorem dFg_seal_4 : decode cFg_seal 4 = .ok (.invokevirtual 172, 3) := by decide +kernel
theorem dFg_seal_7 : decode cFg_seal 7 = .ok (.ifCond .eq 13, 3) := by decide +kernel
theorem dFg_seal_10 : decode cFg_seal 10 = .ok (.new 70, 3) := by decide +kernel
theorem dFg_seal_13 : decode cFg_seal 13 = .ok (.dup, 1) := by decide +kernel
theorem dFg_seal_14 : decode cFg_seal 14 = .ok (.ldc 175, 2) := by decide +kernel
theorem dFg_seal_16 : decode cFg_seal 16 = .ok (.invokespecial 74, 3) := by decide +kernel
theorem dFg_seal_19 : decode cFg_seal 19 = .ok (.athrow, 1) := by decide +kernel
theorem dFg_seal_20 : decode cFg_seal 20 = .ok (.aload_n 0, 1) := by decide +kernel
theorem dFg_seal_21 : decode cFg_seal 21 = .ok (.getfield 29, 3) := by decide +kernel
theorem dFg_seal_24 : decode cFg_seal 24 = .ok (.invokevirtual 177, 3) := by decide +kernel
theorem dFg_seal_27 : decode cFg_seal 27 = .ok (.istore_n 1, 1) := by decide +kernel
theorem dFg_seal_28 : decode cFg_seal 28 = .ok (.aload_n 0, 1) := by decide +kernel
theorem dFg_seal_29 : decode cFg_seal 29 = .ok (.getfield 29, 3) := by decide +kernel
theorem dFg_seal_32 : decode cFg_seal 32 = .ok (.bipush 20, 2) := by decide +kernel
theorem dFg_seal_34 : decode cFg_seal 34 = .ok (.iload_n 1, 1) := by decide +kernel
theorem dFg_seal_35 : decode cFg_seal 35 = .ok (.invokevirtual 180, 3) := by decide +kernel
theorem dFg_seal_38 : decode cFg_seal 38 = .ok (.iload_n 1, 1) := by decide +kernel
theorem dFg_seal_39 : decode cFg_seal 39 = .ok (.ireturn, 1) := by decide +kernel
abbrev yFg_offer : MethodName := ⟨"ImageForge", "offer", "(III)V"⟩
abbrev cFg_offer : ByteArray := prog_1_method_11_code
abbrev wsFg_offer : List Cond := .code yFg_offer cFg_offer 4 none :: bw
theorem gdFg_offer : GoodIn bw wsFg_offer := gd_of tw_704
theorem hdFg_offer : yFg_offer.cls ≠ "java/lang/invoke/MethodHandle" ∧ yFg_offer.cls ≠ "java/lang/invoke/VarHandle" ∧ (parseMethodDescriptor yFg_offer.desc).map (fun d => d.parameters.length) = some 3 := by decide +kernel
theorem dFg_offer_0 : decode cFg_offer 0 = .ok (.iload_n 1, 1) := by decide +kernel
theorem dFg_offer_1 : decode cFg_offer 1 = .ok (.iload_n 2, 1) := by decide +kernel
theorem dFg_offer_2 : decode cFg_offer 2 = .ok (.invokestatic 123, 3) := by decide +kernel
theorem dFg_offer_5 : decode cFg_offer 5 = .ok (.ifCond .ne 13, 3) := by decide +kernel
theorem dFg_offer_8 : decode cFg_offer 8 = .ok (.new 53, 3) := by decide +kernel
theorem dFg_offer_11 : decode cFg_offer 11 = .ok (.dup, 1) := by decide +kernel
theorem dFg_offer_12 : decode cFg_offer 12 = .ok (.ldc 183, 2) := by decide +kernel
theorem dFg_offer_14 : decode cFg_offer 14 = .ok (.invokespecial 57, 3) := by decide +kernel
theorem dFg_offer_17 : decode cFg_offer 17 = .ok (.athrow, 1) := by decide +kernel
theorem dFg_offer_18 : decode cFg_offer 18 = .ok (.aload_n 0, 1) := by decide +kernel
theorem dFg_offer_19 : decode cFg_offer 19 = .ok (.getfield 23, 3) := by decide +kernel
theorem dFg_offer_22 : decode cFg_offer 22 = .ok (.iload_n 1, 1) := by decide +kernel
theorem dFg_offer_23 : decode cFg_offer 23 = .ok (.aaload, 1) := by decide +kernel
theorem dFg_offer_24 : decode cFg_offer 24 = .ok (.iload_n 2, 1) := by decide +kernel
theorem dFg_offer_25 : decode cFg_offer 25 = .ok (.iload_n 3, 1) := by decide +kernel
theorem dFg_offer_26 : decode cFg_offer 26 = .ok (.iastore, 1) := by decide +kernel
theorem dFg_offer_27 : decode cFg_offer 27 = .ok (.return_, 1) := by decide +kernel
abbrev yFg_load : MethodName := ⟨"ImageForge", "load", "(I)I"⟩
abbrev cFg_load : ByteArray := prog_1_method_12_code
abbrev wsFg_load : List Cond := .code yFg_load cFg_load 2 (some .int) :: bw
theorem gdFg_load : GoodIn bw wsFg_load := gd_of tw_712
theorem hdFg_load : yFg_load.cls ≠ "java/lang/invoke/MethodHandle" ∧ yFg_load.cls ≠ "java/lang/invoke/VarHandle" ∧ (parseMethodDescriptor yFg_load.desc).map (fun d => d.parameters.length) = some 1 := by decide +kernel
theorem dFg_load_0 : decode cFg_load 0 = .ok (.iload_n 1, 1) := by decide +kernel
theorem dFg_load_1 : decode cFg_load 1 = .ok (.ifCond .lt 16, 3) := by decide +kernel
theorem dFg_load_4 : decode cFg_load 4 = .ok (.iload_n 1, 1) := by decide +kernel
theorem dFg_load_5 : decode cFg_load 5 = .ok (.ldc 185, 2) := by decide +kernel
theorem dFg_load_7 : decode cFg_load 7 = .ok (.if_icmp .gt 10, 3) := by decide +kernel
theorem dFg_load_10 : decode cFg_load 10 = .ok (.iload_n 1, 1) := by decide +kernel
theorem dFg_load_11 : decode cFg_load 11 = .ok (.bipush 64, 2) := by decide +kernel
theorem dFg_load_13 : decode cFg_load 13 = .ok (.irem, 1) := by decide +kernel
theorem dFg_load_14 : decode cFg_load 14 = .ok (.ifCond .eq 13, 3) := by decide +kernel
theorem dFg_load_17 : decode cFg_load 17 = .ok (.new 53, 3) := by decide +kernel
theorem dFg_load_20 : decode cFg_load 20 = .ok (.dup, 1) := by decide +kernel
theorem dFg_load_21 : decode cFg_load 21 = .ok (.ldc 186, 2) := by decide +kernel
theorem dFg_load_23 : decode cFg_load 23 = .ok (.invokespecial 57, 3) := by decide +kernel
theorem dFg_load_26 : decode cFg_load 26 = .ok (.athrow, 1) := by decide +kernel
theorem dFg_load_27 : decode cFg_load 27 = .ok (.aload_n 0, 1) := by decide +kernel
theorem dFg_load_28 : decode cFg_load 28 = .ok (.getfield 29, 3) := by decide +kernel
theorem dFg_load_31 : decode cFg_load 31 = .ok (.invokevirtual 172, 3) := by decide +kernel
theorem dFg_load_34 : decode cFg_load 34 = .ok (.ifCond .eq 13, 3) := by decide +kernel
theorem dFg_load_37 : decode cFg_load 37 = .ok (.new 70, 3) := by decide +kernel
theorem dFg_load_40 : decode cFg_load 40 = .ok (.dup, 1) := by decide +kernel
theorem dFg_load_41 : decode cFg_load 41 = .ok (.ldc 175, 2) := by decide +kernel
theorem dFg_load_43 : decode cFg_load 43 = .ok (.invokespecial 74, 3) := by decide +kernel
theorem dFg_load_46 : decode cFg_load 46 = .ok (.athrow, 1) := by decide +kernel
theorem dFg_load_47 : decode cFg_load 47 = .ok (.aload_n 0, 1) := by decide +kernel
theorem dFg_load_48 : decode cFg_load 48 = .ok (.getfield 43, 3) := by decide +kernel
theorem dFg_load_51 : decode cFg_load 51 = .ok (.aload_n 0, 1) := by decide +kernel
theorem dFg_load_52 : decode cFg_load 52 = .ok (.getfield 29, 3) := by decide +kernel
theorem dFg_load_55 : decode cFg_load 55 = .ok (.aload_n 0, 1) := by decide +kernel
theorem dFg_load_56 : decode cFg_load 56 = .ok (.getfield 23, 3) := by decide +kernel
theorem dFg_load_59 : decode cFg_load 59 = .ok (.iload_n 1, 1) := by decide +kernel
theorem dFg_load_60 : decode cFg_load 60 = .ok (.invokevirtual 188, 3) := by decide +kernel
theorem dFg_load_63 : decode cFg_load 63 = .ok (.ireturn, 1) := by decide +kernel
section
variable {p : Program} {l : Launch} {e : Env} {s : State} {m : MethodId} {args : Array Value} {below : List Frame} {meth : Method} {c : Code} {D : va_G} {cA : Nat → ClassId} {ad : Nat → Nat} {L : List Nat} {rs : va_W} {al : Nat → Bool} {A : Nat → Prop}
abbrev rm_Fg_put : Room := { frames := 6, cells := 1, slots := 6, locals := 100 }
def bk_Fg_put_29 (F : Nat) (al : Nat → Bool) (u : Mr) : Option (Mr × (Nat × Int32)) := some (u, 1, 0)
set_option maxHeartbeats 4000000 in
set_option maxRecDepth 100000 in
theorem wk_Fg_put_29 (cx : Cx p l e s m args below meth c cFg_put 7 bw "ImageForge" (some .int) D cA ad L rs al A) (cy : Cy l c s A) (F : Nat) (out : Mr × (Nat × Int32)) : ∀ (u : Mr), bk_Fg_put_29 F al u = some out → Wb p l e rm_Fg_put s m args below meth c D cA ad L rs A (QX below s D cA ad L rs A (fun v => some (.int v)) out) 7 29 [] [] u := by
  obtain ⟨hx, hb, hml, hown, hts, hr, hlocks, hK, hA, hD, hN, hal, hNx⟩ := cx
  obtain ⟨hlt, hout, hz1, hz2, hny⟩ := cy
  intro u h H locs ls hl hP hS
  unfold bk_Fg_put_29 at h
  obtain ⟨sa, hs1⟩ := ns_0 hny
  exact x_throw (k := 1) (v := 0) hx hb (by rw [hml]; exact hl.1.symm) hlt hlocks hown (rx := rx_1) (by decide) (by decide) (by decide) (by decide) (by decide) rfl (by decide) hout (hts _ tw_254) (hts _ tw_15) (hts _ tw_255) hs1 (hat_1 hts hny) hz1 hz2 h hP hS (by decide) (by decide) (by decide) (by decide) dFg_put_29 dFg_put_32 dFg_put_33 dFg_put_35 dFg_put_38
def bk_Fg_put_0 (F : Nat) (al : Nat → Bool) (u : Mr) (x0 : Nat) (x1 : Int32) (x2 : Int32) (x3 : Int64) (x5 : Int32) : Option (Mr × (Nat × Int32)) := bd2 (fn_Fg_isBelow F al u x1 (4 : Int32)) fun u1 v1 => (if v1 = 0 then (bk_Fg_put_29 F al u1) else (bd2 (fn_Fg_isBelow F al u1 x2 (2 : Int32)) fun u2 v2 => (if v2 = 0 then (bk_Fg_put_29 F al u2) else (if x5 < (1 : Int32) then (bk_Fg_put_29 F al u2) else (if x5 ≤ (8 : Int32) then (bd1 (rdR al u2 x0 0 2) fun y3 => (ck (inb x1 4) (bd1 (rdR al u2 y3 x1 14) fun y6 => (bd1 (rdR al u2 y6 0 15) fun y8 => (ck (inb x2 2) (bd1 (rdR al u2 y8 x2 16) fun y11 => (if ((u2.1 y11 1) + x5) ≤ (40 : Int32) then (bd2 (fn_Pt_append F al u2 y11 x3 x5) fun u13 v13 => (some (u13, 0, u13.1 y11 1))) else (some (u2, 2, 0))))))))) else (bk_Fg_put_29 F al u2))))))
set_option maxHeartbeats 4000000 in
set_option maxRecDepth 100000 in
theorem wk_Fg_put_0 (cx : Cx p l e s m args below meth c cFg_put 7 bw "ImageForge" (some .int) D cA ad L rs al A) (cy : Cy l c s A) (F : Nat) (out : Mr × (Nat × Int32)) : ∀ (u : Mr) (x0 : Nat) (x1 : Int32) (x2 : Int32) (x3 : Int64) (x5 : Int32), bk_Fg_put_0 F al u x0 x1 x2 x3 x5 = some out → okk al 1 x0 = true → Wb p l e rm_Fg_put s m args below meth c D cA ad L rs A (QX below s D cA ad L rs A (fun v => some (.int v)) out) 7 0 [(0, .ref (ad x0)), (1, .int x1), (2, .int x2), (3, .long x3), (5, .int x5)] [] u := by
  obtain ⟨hx, hb, hml, hown, hts, hr, hlocks, hK, hA, hD, hN, hal, hNx⟩ := cx
  obtain ⟨hlt, hout, hz1, hz2, hny⟩ := cy
  intro u x0 x1 x2 x3 x5 h q0 H locs ls hl hP hS
  unfold bk_Fg_put_0 at h
  refine lv_iload_n hx hb dFg_put_0 rfl (lv_at hl 1 rfl) ?_
  refine lv_iconst (v := 4) hx hb dFg_put_1 (by decide) ?_
  obtain ⟨u1, v1, hc1, h⟩ := bd2_some h
  refine x_ci (u := u) (out := (u1, v1)) hA hD hS (va_runS (As := [.int x1, .int (4 : Int32)]) (rest := []) ⟨hx, hb, hml, hown, hts⟩ (ct_Fg_isBelow hal hN F u x1 (4 : Int32) (u1, v1) hc1  _) ⟨callB_of 2 hts gdFg_isBelow rfl rfl rfl (hts _ tw_1) (hts _ tw_251) hdFg_isBelow ⟨Nat.le_of_ble_eq_true rfl, Nat.le_of_ble_eq_true rfl⟩, (hts _ tw_252)⟩ (x_preS hK hD hNx hP) rfl rfl hl.1 rfl (lv_room (Nat.le_of_ble_eq_true rfl)) dFg_put_2 ⟨Nat.zero_le _, Nat.zero_le _⟩) (fun H locs hP hS => ?_)
  refine lv_if_eq (tgt := 29) hx hb dFg_put_5 rfl (fun hc => ?_) (fun hc => ?_)
  · replace h := it_t h hc
    exact wk_Fg_put_29 ⟨hx, hb, hml, hown, hts, hr, hlocks, hK, hA, hD, hN, hal, hNx⟩ ⟨hlt, hout, hz1, hz2, hny⟩ F out u1 h _ _ _ (lv_sub hl [] rfl) hP hS
  · replace h := it_f h hc
    refine lv_iload_n hx hb dFg_put_8 rfl (lv_at hl 2 rfl) ?_
    refine lv_iconst (v := 2) hx hb dFg_put_9 (by decide) ?_
    obtain ⟨u2, v2, hc2, h⟩ := bd2_some h
    refine x_ci (u := u1) (out := (u2, v2)) hA hD hS (va_runS (As := [.int x2, .int (2 : Int32)]) (rest := []) ⟨hx, hb, hml, hown, hts⟩ (ct_Fg_isBelow hal hN F u1 x2 (2 : Int32) (u2, v2) hc2  _) ⟨callB_of 2 hts gdFg_isBelow rfl rfl rfl (hts _ tw_1) (hts _ tw_251) hdFg_isBelow ⟨Nat.le_of_ble_eq_true rfl, Nat.le_of_ble_eq_true rfl⟩, (hts _ tw_252)⟩ (x_preS hK hD hNx hP) rfl rfl hl.1 rfl (lv_room (Nat.le_of_ble_eq_true rfl)) dFg_put_10 ⟨Nat.zero_le _, Nat.zero_le _⟩) (fun H locs hP hS => ?_)
    refine lv_if_eq (tgt := 29) hx hb dFg_put_13 rfl (fun hc => ?_) (fun hc => ?_)
    · replace h := it_t h hc
      exact wk_Fg_put_29 ⟨hx, hb, hml, hown, hts, hr, hlocks, hK, hA, hD, hN, hal, hNx⟩ ⟨hlt, hout, hz1, hz2, hny⟩ F out u2 h _ _ _ (lv_sub hl [] rfl) hP hS
    · replace h := it_f h hc
      refine lv_iload hx hb dFg_put_16 (lv_at hl 4 rfl) ?_
      refine lv_iconst (v := 1) hx hb dFg_put_18 (by decide) ?_
      refine lv_icmp_lt (tgt := 29) hx hb dFg_put_19 rfl (fun hc => ?_) (fun hc => ?_)
      · replace h := it_t h hc
        exact wk_Fg_put_29 ⟨hx, hb, hml, hown, hts, hr, hlocks, hK, hA, hD, hN, hal, hNx⟩ ⟨hlt, hout, hz1, hz2, hny⟩ F out u2 h _ _ _ (lv_sub hl [] rfl) hP hS
      · replace h := it_f h hc
        refine lv_iload hx hb dFg_put_22 (lv_at hl 4 rfl) ?_
        refine lv_bipush (v := 8) hx hb dFg_put_24 (by decide) ?_
        refine lv_icmp_le (tgt := 39) hx hb dFg_put_26 rfl (fun hc => ?_) (fun hc => ?_)
        · replace h := it_t h hc
          refine lv_aload_n hx hb dFg_put_39 rfl (lv_at hl 0 rfl) ?_
          obtain ⟨y3, hy4, h⟩ := bd1_some h
          obtain ⟨hy4a, hy4⟩ := rdR_some hy4
          refine x_get hx hb hts in_Fg hown hK hP (hal _ (okk_al q0)) (okk_t q0) rfl rfl 0 (by decide) (hts _ tw_199) (fun _ h9 => h9) (congrArg some (x_rf hy4a)) dFg_put_40 ?_
          refine lv_iload_n hx hb dFg_put_43 rfl (lv_at hl 1 rfl) ?_
          obtain ⟨hi5, h⟩ := ck_some h
          obtain ⟨y6, hy7, h⟩ := bd1_some h
          obtain ⟨hy7a, hy7⟩ := rdR_some hy7
          refine x_aald hx hb hK hP (hal _ (okk_al hy4)) (okk_t hy4) 4 (fun _ _ _ => rfl) rfl rfl (inb_in hi5) hy7a dFg_put_44 ?_
          obtain ⟨y8, hy9, h⟩ := bd1_some h
          obtain ⟨hy9a, hy9⟩ := rdR_some hy9
          refine x_getN hx hb hts in_Ob hown hK hP (hal _ (okk_al hy7)) (okk_t hy7) rfl rfl 0 (by decide) (nf_7 hNx) (fun _ h9 => h9) (congrArg some (x_rf hy9a)) dFg_put_45 ?_
          refine lv_iload_n hx hb dFg_put_48 rfl (lv_at hl 2 rfl) ?_
          obtain ⟨hi10, h⟩ := ck_some h
          obtain ⟨y11, hy12, h⟩ := bd1_some h
          obtain ⟨hy12a, hy12⟩ := rdR_some hy12
          refine x_aald hx hb hK hP (hal _ (okk_al hy9)) (okk_t hy9) 6 (fun _ _ _ => rfl) rfl rfl (inb_in hi10) hy12a dFg_put_49 ?_
          refine lv_astore (lv' := [(6, .ref (ad y11)), (0, .ref (ad x0)), (1, .int x1), (2, .int x2), (3, .long x3), (5, .int x5)]) hx hb dFg_put_50 hl (by decide) rfl (fun ls hl => ?_)
          refine lv_aload hx hb dFg_put_52 (lv_at hl 0 rfl) ?_
          refine x_getN hx hb hts in_Pt hown hK hP (hal _ (okk_al hy12)) (okk_t hy12) rfl rfl 1 (by decide) (nf_5 hNx) (fun _ h9 => h9) rfl dFg_put_54 ?_
          refine lv_iload hx hb dFg_put_57 (lv_at hl 5 rfl) ?_
          refine lv_iadd hx hb dFg_put_59 ?_
          refine lv_bipush (v := 40) hx hb dFg_put_60 (by decide) ?_
          refine lv_icmp_le (tgt := 75) hx hb dFg_put_62 rfl (fun hc => ?_) (fun hc => ?_)
          · replace h := it_t h hc
            refine lv_aload hx hb dFg_put_75 (lv_at hl 0 rfl) ?_
            refine lv_lload_n hx hb dFg_put_77 rfl (lv_at hl 4 rfl) ?_
            refine lv_iload hx hb dFg_put_78 (lv_at hl 5 rfl) ?_
            obtain ⟨u13, v13, hc13, h⟩ := bd2_some h
            refine x_cv (u := u2) (out := (u13, v13)) hA hD hS (va_runVN (As := [.long x3, .int x5]) (rest := []) ⟨hx, hb, hml, hown, hts⟩ (ct_Pt_append hal hN F u2 y11 x3 x5 (u13, v13) hc13 hy12 _) ⟨va_cnB 2 hts gdPt_append rfl rfl rfl (nn_11 hNx) (hts _ tw_6) hdPt_append ⟨Nat.le_of_ble_eq_true rfl, Nat.le_of_ble_eq_true rfl⟩, (hts _ tw_339), (hts _ tp_5)⟩ (x_preV hK hD hNx hP (hal _ (okk_al hy12)) (okk_t hy12) rfl rfl) rfl rfl hl.1 rfl (lv_room (Nat.le_of_ble_eq_true rfl)) dFg_put_80 ⟨Nat.zero_le _, Nat.zero_le _⟩) (fun H locs hP hS => ?_)
            refine lv_aload hx hb dFg_put_83 (lv_at hl 0 rfl) ?_
            refine x_getN hx hb hts in_Pt hown hK hP (hal _ (okk_al hy12)) (okk_t hy12) rfl rfl 1 (by decide) (nf_5 hNx) (fun _ h9 => h9) rfl dFg_put_85 ?_
            exact x_iretX hx hb hr hlocks h hP hS dFg_put_88
          · replace h := it_f h hc
            obtain ⟨sa, hs14⟩ := ns_1 hny
            exact x_throw (k := 2) (v := 0) hx hb (by rw [hml]; exact hl.1.symm) hlt hlocks hown (rx := rx_2) (by decide) (by decide) (by decide) (by decide) (by decide) rfl (by decide) hout (hts _ tw_321) (hts _ tw_16) (hts _ tw_322) hs14 (hat_2 hts hny) hz1 hz2 h hP hS (by decide) (by decide) (by decide) (by decide) dFg_put_65 dFg_put_68 dFg_put_69 dFg_put_71 dFg_put_74
        · replace h := it_f h hc
          exact wk_Fg_put_29 ⟨hx, hb, hml, hown, hts, hr, hlocks, hK, hA, hD, hN, hal, hNx⟩ ⟨hlt, hout, hz1, hz2, hny⟩ F out u2 h _ _ _ (lv_sub hl [] rfl) hP hS
def fn_Fg_put (F : Nat) (al : Nat → Bool) (u : Mr) (x0 : Nat) (x1 : Int32) (x2 : Int32) (x3 : Int64) (x5 : Int32) : Option (Mr × (Nat × Int32)) := bk_Fg_put_0 F al u x0 x1 x2 x3 x5
set_option maxHeartbeats 4000000 in
set_option maxRecDepth 100000 in
theorem ct_Fg_put {l : Launch} (hlt : l.stackTraces = false) {D : va_G} {cA : Nat → ClassId} {ad : Nat → Nat} {L : List Nat} {rs : va_W} {al : Nat → Bool} (hal : ∀ k, al k = true → k ∈ L) (hN : L.Nodup) (F : Nat) (u : Mr) (x0 : Nat) (x1 : Int32) (x2 : Int32) (x3 : Int64) (x5 : Int32) (out : Mr × (Nat × Int32)) (h : fn_Fg_put F al u x0 x1 x2 x3 x5 = some out) (q0 : okk al 1 x0 = true) : CtX l yFg_put wsFg_put rm_Fg_put [.ref (ad x0), .int x1, .int x2, .long x3, .int x5] D cA ad L rs u (fun v => some (.int v)) out := by
  intro sz
  refine MetX_ofW (cc := cFg_put) (maxL := 7) (ret := (some .int)) (by decide) rfl ?_
  intro p e s m args below meth c s₁ B hml hv
  obtain ⟨rfl, ⟨hsz, hP, hK, hD0, hNx⟩, hz1, hz2, hny⟩ := hv
  subst hsz
  have hD := hD0.self (sz := s.heap.size)
  generalize hAe : va_A (ww ad cA L rs u) s.heap.size = A at hD hz1 hz2 ⊢
  have hA : ∀ q, s.heap.size ≤ q → A q := fun q h => by rw [← hAe]; exact Or.inr h
  have hl := lv_entry ([.ref (ad x0), .int x1, .int x2, .long x3, .int x5]) (n := 7) (Nat.le_of_ble_eq_true rfl)
  rw [lg_entry_eq]
  generalize (lg_sl ([.ref (ad x0), .int x1, .int x2, .long x3, .int x5]) ++ List.replicate (7 - (lg_sl ([.ref (ad x0), .int x1, .int x2, .long x3, .int x5])).length) Slot.unset).toArray = ls at hl ⊢
  have hpre := atoms_spec (ws := wsFg_put) B.pre
  exact wk_Fg_put_0 ⟨B.exec, B.bytes, hml, findClass_of_methodNamed B.named, hts_bw hpre, B.returns, B.notSynchronized, hK, hA, fun v => ww_D hD, hN, hal, hNx⟩ ⟨hlt, B.noHandlers (hpre _ List.mem_cons_self), hz1, hz2, hny⟩ F out u x0 x1 x2 x3 x5 h q0 _ _ _ (lv_sub hl [0, 1, 2, 3, 4] rfl) hP va_S.rf
abbrev rm_Fg_define : Room := { frames := 6, cells := 1, slots := 6, locals := 100 }
def bk_Fg_define_25 (F : Nat) (al : Nat → Bool) (u : Mr) : Option (Mr × (Nat × Int32)) := some (u, 1, 0)
set_option maxHeartbeats 4000000 in
set_option maxRecDepth 100000 in
theorem wk_Fg_define_25 (cx : Cx p l e s m args below meth c cFg_define 6 bw "ImageForge" none D cA ad L rs al A) (cy : Cy l c s A) (F : Nat) (out : Mr × (Nat × Int32)) : ∀ (u : Mr), bk_Fg_define_25 F al u = some out → Wb p l e rm_Fg_define s m args below meth c D cA ad L rs A (QX below s D cA ad L rs A (fun _ => none) out) 6 25 [] [] u := by
  obtain ⟨hx, hb, hml, hown, hts, hr, hlocks, hK, hA, hD, hN, hal, hNx⟩ := cx
  obtain ⟨hlt, hout, hz1, hz2, hny⟩ := cy
  intro u h H locs ls hl hP hS
  unfold bk_Fg_define_25 at h
  obtain ⟨sa, hs1⟩ := ns_2 hny
  exact x_throw (k := 1) (v := 0) hx hb (by rw [hml]; exact hl.1.symm) hlt hlocks hown (rx := rx_1) (by decide) (by decide) (by decide) (by decide) (by decide) rfl (by decide) hout (hts _ tw_254) (hts _ tw_15) (hts _ tw_255) hs1 (hat_1 hts hny) hz1 hz2 h hP hS (by decide) (by decide) (by decide) (by decide) dFg_define_25 dFg_define_28 dFg_define_29 dFg_define_31 dFg_define_34
def bk_Fg_define_63 (F : Nat) (al : Nat → Bool) (u : Mr) : Option (Mr × (Nat × Int32)) := some (u, 1, 0)
set_option maxHeartbeats 4000000 in
set_option maxRecDepth 100000 in
theorem wk_Fg_define_63 (cx : Cx p l e s m args below meth c cFg_define 6 bw "ImageForge" none D cA ad L rs al A) (cy : Cy l c s A) (F : Nat) (out : Mr × (Nat × Int32)) : ∀ (u : Mr), bk_Fg_define_63 F al u = some out → Wb p l e rm_Fg_define s m args below meth c D cA ad L rs A (QX below s D cA ad L rs A (fun _ => none) out) 6 63 [] [] u := by
  obtain ⟨hx, hb, hml, hown, hts, hr, hlocks, hK, hA, hD, hN, hal, hNx⟩ := cx
  obtain ⟨hlt, hout, hz1, hz2, hny⟩ := cy
  intro u h H locs ls hl hP hS
  unfold bk_Fg_define_63 at h
  obtain ⟨sa, hs1⟩ := ns_3 hny
  exact x_throw (k := 1) (v := 0) hx hb (by rw [hml]; exact hl.1.symm) hlt hlocks hown (rx := rx_1) (by decide) (by decide) (by decide) (by decide) (by decide) rfl (by decide) hout (hts _ tw_254) (hts _ tw_15) (hts _ tw_255) hs1 (hat_1 hts hny) hz1 hz2 h hP hS (by decide) (by decide) (by decide) (by decide) dFg_define_63 dFg_define_66 dFg_define_67 dFg_define_69 dFg_define_72
def bk_Fg_define_0 (F : Nat) (al : Nat → Bool) (u : Mr) (x0 : Nat) (x1 : Int32) (x2 : Int32) (x3 : Int32) (x4 : Int32) : Option (Mr × (Nat × Int32)) := bd2 (fn_Fg_isBelow F al u x1 (4 : Int32)) fun u1 v1 => (if v1 = 0 then (bk_Fg_define_25 F al u1) else (bd2 (fn_Fg_isBelow F al u1 x2 (16 : Int32)) fun u2 v2 => (if v2 = 0 then (bk_Fg_define_25 F al u2) else (bd2 (fn_Fg_isBelow F al u2 x3 (2 : Int32)) fun u3 v3 => (if v3 = 0 then (bk_Fg_define_25 F al u3) else (bd1 (rdR al u3 x0 0 2) fun y4 => (ck (inb x1 4) (bd1 (rdR al u3 y4 x1 14) fun y7 => (if x4 < 0 then (bk_Fg_define_63 F al u3) else (bd1 (rdR al u3 y7 0 15) fun y9 => (ck (inb x3 2) (bd1 (rdR al u3 y9 x3 16) fun y12 => (if x4 ≤ (u3.1 y12 1) then (if (u3.1 y7 2) < (6 : Int32) then (bd1 (rdR al (stI u3 y7 2 ((u3.1 y7 2) + (1 : Int32))) x0 1 3) fun y14 => (ck (inb x2 16) (bd1 (rdR al (stI u3 y7 2 ((u3.1 y7 2) + (1 : Int32))) y14 x2 20) fun y17 => (bd2 (fn_Nm_defineAt F al (stI u3 y7 2 ((u3.1 y7 2) + (1 : Int32))) y17 x1 x3 x4) fun u19 v19 => (some (u19, 0, 0)))))) else (some (u3, 2, 0))) else (bk_Fg_define_63 F al u3))))))))))))))
set_option maxHeartbeats 4000000 in
set_option maxRecDepth 100000 in
theorem wk_Fg_define_0 (cx : Cx p l e s m args below meth c cFg_define 6 bw "ImageForge" none D cA ad L rs al A) (cy : Cy l c s A) (F : Nat) (out : Mr × (Nat × Int32)) : ∀ (u : Mr) (x0 : Nat) (x1 : Int32) (x2 : Int32) (x3 : Int32) (x4 : Int32), bk_Fg_define_0 F al u x0 x1 x2 x3 x4 = some out → okk al 1 x0 = true → Wb p l e rm_Fg_define s m args below meth c D cA ad L rs A (QX below s D cA ad L rs A (fun _ => none) out) 6 0 [(0, .ref (ad x0)), (1, .int x1), (2, .int x2), (3, .int x3), (4, .int x4)] [] u := by
  obtain ⟨hx, hb, hml, hown, hts, hr, hlocks, hK, hA, hD, hN, hal, hNx⟩ := cx
  obtain ⟨hlt, hout, hz1, hz2, hny⟩ := cy
  intro u x0 x1 x2 x3 x4 h q0 H locs ls hl hP hS
  unfold bk_Fg_define_0 at h
  refine lv_iload_n hx hb dFg_define_0 rfl (lv_at hl 1 rfl) ?_
  refine lv_iconst (v := 4) hx hb dFg_define_1 (by decide) ?_
  obtain ⟨u1, v1, hc1, h⟩ := bd2_some h
  refine x_ci (u := u) (out := (u1, v1)) hA hD hS (va_runS (As := [.int x1, .int (4 : Int32)]) (rest := []) ⟨hx, hb, hml, hown, hts⟩ (ct_Fg_isBelow hal hN F u x1 (4 : Int32) (u1, v1) hc1  _) ⟨callB_of 2 hts gdFg_isBelow rfl rfl rfl (hts _ tw_1) (hts _ tw_251) hdFg_isBelow ⟨Nat.le_of_ble_eq_true rfl, Nat.le_of_ble_eq_true rfl⟩, (hts _ tw_252)⟩ (x_preS hK hD hNx hP) rfl rfl hl.1 rfl (lv_room (Nat.le_of_ble_eq_true rfl)) dFg_define_2 ⟨Nat.zero_le _, Nat.zero_le _⟩) (fun H locs hP hS => ?_)
  refine lv_if_eq (tgt := 25) hx hb dFg_define_5 rfl (fun hc => ?_) (fun hc => ?_)
  · replace h := it_t h hc
    exact wk_Fg_define_25 ⟨hx, hb, hml, hown, hts, hr, hlocks, hK, hA, hD, hN, hal, hNx⟩ ⟨hlt, hout, hz1, hz2, hny⟩ F out u1 h _ _ _ (lv_sub hl [] rfl) hP hS
  · replace h := it_f h hc
    refine lv_iload_n hx hb dFg_define_8 rfl (lv_at hl 2 rfl) ?_
    refine lv_bipush (v := 16) hx hb dFg_define_9 (by decide) ?_
    obtain ⟨u2, v2, hc2, h⟩ := bd2_some h
    refine x_ci (u := u1) (out := (u2, v2)) hA hD hS (va_runS (As := [.int x2, .int (16 : Int32)]) (rest := []) ⟨hx, hb, hml, hown, hts⟩ (ct_Fg_isBelow hal hN F u1 x2 (16 : Int32) (u2, v2) hc2  _) ⟨callB_of 2 hts gdFg_isBelow rfl rfl rfl (hts _ tw_1) (hts _ tw_251) hdFg_isBelow ⟨Nat.le_of_ble_eq_true rfl, Nat.le_of_ble_eq_true rfl⟩, (hts _ tw_252)⟩ (x_preS hK hD hNx hP) rfl rfl hl.1 rfl (lv_room (Nat.le_of_ble_eq_true rfl)) dFg_define_11 ⟨Nat.zero_le _, Nat.zero_le _⟩) (fun H locs hP hS => ?_)
    refine lv_if_eq (tgt := 25) hx hb dFg_define_14 rfl (fun hc => ?_) (fun hc => ?_)
    · replace h := it_t h hc
      exact wk_Fg_define_25 ⟨hx, hb, hml, hown, hts, hr, hlocks, hK, hA, hD, hN, hal, hNx⟩ ⟨hlt, hout, hz1, hz2, hny⟩ F out u2 h _ _ _ (lv_sub hl [] rfl) hP hS
    · replace h := it_f h hc
      refine lv_iload_n hx hb dFg_define_17 rfl (lv_at hl 3 rfl) ?_
      refine lv_iconst (v := 2) hx hb dFg_define_18 (by decide) ?_
      obtain ⟨u3, v3, hc3, h⟩ := bd2_some h
      refine x_ci (u := u2) (out := (u3, v3)) hA hD hS (va_runS (As := [.int x3, .int (2 : Int32)]) (rest := []) ⟨hx, hb, hml, hown, hts⟩ (ct_Fg_isBelow hal hN F u2 x3 (2 : Int32) (u3, v3) hc3  _) ⟨callB_of 2 hts gdFg_isBelow rfl rfl rfl (hts _ tw_1) (hts _ tw_251) hdFg_isBelow ⟨Nat.le_of_ble_eq_true rfl, Nat.le_of_ble_eq_true rfl⟩, (hts _ tw_252)⟩ (x_preS hK hD hNx hP) rfl rfl hl.1 rfl (lv_room (Nat.le_of_ble_eq_true rfl)) dFg_define_19 ⟨Nat.zero_le _, Nat.zero_le _⟩) (fun H locs hP hS => ?_)
      refine lv_if_ne (tgt := 35) hx hb dFg_define_22 rfl (fun hc => ?_) (fun hc => ?_)
      · replace h := it_f h hc
        refine lv_aload_n hx hb dFg_define_35 rfl (lv_at hl 0 rfl) ?_
        obtain ⟨y4, hy5, h⟩ := bd1_some h
        obtain ⟨hy5a, hy5⟩ := rdR_some hy5
        refine x_get hx hb hts in_Fg hown hK hP (hal _ (okk_al q0)) (okk_t q0) rfl rfl 0 (by decide) (hts _ tw_199) (fun _ h9 => h9) (congrArg some (x_rf hy5a)) dFg_define_36 ?_
        refine lv_iload_n hx hb dFg_define_39 rfl (lv_at hl 1 rfl) ?_
        obtain ⟨hi6, h⟩ := ck_some h
        obtain ⟨y7, hy8, h⟩ := bd1_some h
        obtain ⟨hy8a, hy8⟩ := rdR_some hy8
        refine x_aald hx hb hK hP (hal _ (okk_al hy5)) (okk_t hy5) 4 (fun _ _ _ => rfl) rfl rfl (inb_in hi6) hy8a dFg_define_40 ?_
        refine lv_astore (lv' := [(5, .ref (ad y7)), (0, .ref (ad x0)), (1, .int x1), (2, .int x2), (3, .int x3), (4, .int x4)]) hx hb dFg_define_41 hl (by decide) rfl (fun ls hl => ?_)
        refine lv_iload hx hb dFg_define_43 (lv_at hl 5 rfl) ?_
        refine lv_if_lt (tgt := 63) hx hb dFg_define_45 rfl (fun hc => ?_) (fun hc => ?_)
        · replace h := it_t h hc
          exact wk_Fg_define_63 ⟨hx, hb, hml, hown, hts, hr, hlocks, hK, hA, hD, hN, hal, hNx⟩ ⟨hlt, hout, hz1, hz2, hny⟩ F out u3 h _ _ _ (lv_sub hl [] rfl) hP hS
        · replace h := it_f h hc
          refine lv_iload hx hb dFg_define_48 (lv_at hl 5 rfl) ?_
          refine lv_aload hx hb dFg_define_50 (lv_at hl 0 rfl) ?_
          obtain ⟨y9, hy10, h⟩ := bd1_some h
          obtain ⟨hy10a, hy10⟩ := rdR_some hy10
          refine x_getN hx hb hts in_Ob hown hK hP (hal _ (okk_al hy8)) (okk_t hy8) rfl rfl 0 (by decide) (nf_7 hNx) (fun _ h9 => h9) (congrArg some (x_rf hy10a)) dFg_define_52 ?_
          refine lv_iload_n hx hb dFg_define_55 rfl (lv_at hl 4 rfl) ?_
          obtain ⟨hi11, h⟩ := ck_some h
          obtain ⟨y12, hy13, h⟩ := bd1_some h
          obtain ⟨hy13a, hy13⟩ := rdR_some hy13
          refine x_aald hx hb hK hP (hal _ (okk_al hy10)) (okk_t hy10) 6 (fun _ _ _ => rfl) rfl rfl (inb_in hi11) hy13a dFg_define_56 ?_
          refine x_getN hx hb hts in_Pt hown hK hP (hal _ (okk_al hy13)) (okk_t hy13) rfl rfl 1 (by decide) (nf_5 hNx) (fun _ h9 => h9) rfl dFg_define_57 ?_
          refine lv_icmp_le (tgt := 73) hx hb dFg_define_60 rfl (fun hc => ?_) (fun hc => ?_)
          · replace h := it_t h hc
            refine lv_aload hx hb dFg_define_73 (lv_at hl 0 rfl) ?_
            refine x_getN hx hb hts in_Ob hown hK hP (hal _ (okk_al hy8)) (okk_t hy8) rfl rfl 2 (by decide) (nf_11 hNx) (fun _ h9 => h9) rfl dFg_define_75 ?_
            refine lv_bipush (v := 6) hx hb dFg_define_78 (by decide) ?_
            refine lv_icmp_lt (tgt := 93) hx hb dFg_define_80 rfl (fun hc => ?_) (fun hc => ?_)
            · replace h := it_t h hc
              refine lv_aload hx hb dFg_define_93 (lv_at hl 0 rfl) ?_
              refine lv_dup hx hb dFg_define_95 rfl ?_
              refine x_getN hx hb hts in_Ob hown hK hP (hal _ (okk_al hy8)) (okk_t hy8) rfl rfl 2 (by decide) (nf_11 hNx) (fun _ h9 => h9) rfl dFg_define_96 ?_
              refine lv_iconst (v := 1) hx hb dFg_define_99 (by decide) ?_
              refine lv_iadd hx hb dFg_define_100 ?_
              refine x_putN hx hb hts in_Ob t_Ob t_Ob_ok nm_Ob hown hK hD hN hP hS (hal _ (okk_al hy8)) (okk_t hy8) rfl rfl 2 (by decide) (nf_11 hNx) (fun _ h9 => h9) rfl (ty := .int) (by decide +kernel) rfl rfl (Nat.le_of_ble_eq_true rfl) (stI u3 y7 2 ((u3.1 y7 2) + (1 : Int32))) stI_o (by rw [stI_up]; exact eg_14_2) dFg_define_101 (fun H locs hP hS => ?_)
              refine lv_aload_n hx hb dFg_define_104 rfl (lv_at hl 1 rfl) ?_
              obtain ⟨y14, hy15, h⟩ := bd1_some h
              obtain ⟨hy15a, hy15⟩ := rdR_some hy15
              refine x_get hx hb hts in_Fg hown hK hP (hal _ (okk_al q0)) (okk_t q0) rfl rfl 1 (by decide) (hts _ tw_200) (fun _ h9 => h9) (congrArg some (x_rf hy15a)) dFg_define_105 ?_
              refine lv_iload_n hx hb dFg_define_108 rfl (lv_at hl 3 rfl) ?_
              obtain ⟨hi16, h⟩ := ck_some h
              obtain ⟨y17, hy18, h⟩ := bd1_some h
              obtain ⟨hy18a, hy18⟩ := rdR_some hy18
              refine x_aald hx hb hK hP (hal _ (okk_al hy15)) (okk_t hy15) 5 (fun _ _ _ => rfl) rfl rfl (inb_in hi16) hy18a dFg_define_109 ?_
              refine lv_iload_n hx hb dFg_define_110 rfl (lv_at hl 2 rfl) ?_
              refine lv_iload_n hx hb dFg_define_111 rfl (lv_at hl 4 rfl) ?_
              refine lv_iload hx hb dFg_define_112 (lv_at hl 5 rfl) ?_
              obtain ⟨u19, v19, hc19, h⟩ := bd2_some h
              refine x_cv (u := stI u3 y7 2 ((u3.1 y7 2) + (1 : Int32))) (out := (u19, v19)) hA hD hS (va_runVN (As := [.int x1, .int x3, .int x4]) (rest := []) ⟨hx, hb, hml, hown, hts⟩ (ct_Nm_defineAt hal hN F (stI u3 y7 2 ((u3.1 y7 2) + (1 : Int32))) y17 x1 x3 x4 (u19, v19) hc19 hy18 _) ⟨va_cnB 3 hts gdNm_defineAt rfl rfl rfl (nn_12 hNx) (hts _ tw_10) hdNm_defineAt ⟨Nat.le_of_ble_eq_true rfl, Nat.le_of_ble_eq_true rfl⟩, (hts _ tw_353), (hts _ tp_6)⟩ (x_preV hK hD hNx hP (hal _ (okk_al hy18)) (okk_t hy18) rfl rfl) rfl rfl hl.1 rfl (lv_room (Nat.le_of_ble_eq_true rfl)) dFg_define_114 ⟨Nat.zero_le _, Nat.zero_le _⟩) (fun H locs hP hS => ?_)
              exact x_vretX hx hb hr hlocks h hP hS dFg_define_117
            · replace h := it_f h hc
              obtain ⟨sa, hs20⟩ := ns_4 hny
              exact x_throw (k := 2) (v := 0) hx hb (by rw [hml]; exact hl.1.symm) hlt hlocks hown (rx := rx_2) (by decide) (by decide) (by decide) (by decide) (by decide) rfl (by decide) hout (hts _ tw_321) (hts _ tw_16) (hts _ tw_322) hs20 (hat_2 hts hny) hz1 hz2 h hP hS (by decide) (by decide) (by decide) (by decide) dFg_define_83 dFg_define_86 dFg_define_87 dFg_define_89 dFg_define_92
          · replace h := it_f h hc
            exact wk_Fg_define_63 ⟨hx, hb, hml, hown, hts, hr, hlocks, hK, hA, hD, hN, hal, hNx⟩ ⟨hlt, hout, hz1, hz2, hny⟩ F out u3 h _ _ _ (lv_sub hl [] rfl) hP hS
      · replace h := it_t h hc
        exact wk_Fg_define_25 ⟨hx, hb, hml, hown, hts, hr, hlocks, hK, hA, hD, hN, hal, hNx⟩ ⟨hlt, hout, hz1, hz2, hny⟩ F out u3 h _ _ _ (lv_sub hl [] rfl) hP hS
def fn_Fg_define (F : Nat) (al : Nat → Bool) (u : Mr) (x0 : Nat) (x1 : Int32) (x2 : Int32) (x3 : Int32) (x4 : Int32) : Option (Mr × (Nat × Int32)) := bk_Fg_define_0 F al u x0 x1 x2 x3 x4
set_option maxHeartbeats 4000000 in
set_option maxRecDepth 100000 in
theorem ct_Fg_define {l : Launch} (hlt : l.stackTraces = false) {D : va_G} {cA : Nat → ClassId} {ad : Nat → Nat} {L : List Nat} {rs : va_W} {al : Nat → Bool} (hal : ∀ k, al k = true → k ∈ L) (hN : L.Nodup) (F : Nat) (u : Mr) (x0 : Nat) (x1 : Int32) (x2 : Int32) (x3 : Int32) (x4 : Int32) (out : Mr × (Nat × Int32)) (h : fn_Fg_define F al u x0 x1 x2 x3 x4 = some out) (q0 : okk al 1 x0 = true) : CtX l yFg_define wsFg_define rm_Fg_define [.ref (ad x0), .int x1, .int x2, .int x3, .int x4] D cA ad L rs u (fun _ => none) out := by
  intro sz
  refine MetX_ofW (cc := cFg_define) (maxL := 6) (ret := none) (by decide) rfl ?_
  intro p e s m args below meth c s₁ B hml hv
  obtain ⟨rfl, ⟨hsz, hP, hK, hD0, hNx⟩, hz1, hz2, hny⟩ := hv
  subst hsz
  have hD := hD0.self (sz := s.heap.size)
  generalize hAe : va_A (ww ad cA L rs u) s.heap.size = A at hD hz1 hz2 ⊢
  have hA : ∀ q, s.heap.size ≤ q → A q := fun q h => by rw [← hAe]; exact Or.inr h
  have hl := lv_entry ([.ref (ad x0), .int x1, .int x2, .int x3, .int x4]) (n := 6) (Nat.le_of_ble_eq_true rfl)
  rw [lg_entry_eq]
  generalize (lg_sl ([.ref (ad x0), .int x1, .int x2, .int x3, .int x4]) ++ List.replicate (6 - (lg_sl ([.ref (ad x0), .int x1, .int x2, .int x3, .int x4])).length) Slot.unset).toArray = ls at hl ⊢
  have hpre := atoms_spec (ws := wsFg_define) B.pre
  exact wk_Fg_define_0 ⟨B.exec, B.bytes, hml, findClass_of_methodNamed B.named, hts_bw hpre, B.returns, B.notSynchronized, hK, hA, fun v => ww_D hD, hN, hal, hNx⟩ ⟨hlt, B.noHandlers (hpre _ List.mem_cons_self), hz1, hz2, hny⟩ F out u x0 x1 x2 x3 x4 h q0 _ _ _ (lv_sub hl [0, 1, 2, 3, 4] rfl) hP va_S.rf
abbrev rm_Fg_imported : Room := { frames := 6, cells := 1, slots := 6, locals := 100 }
def bk_Fg_imported_34 (F : Nat) (al : Nat → Bool) (u : Mr) : Option (Mr × (Nat × Int32)) := some (u, 1, 0)
set_option maxHeartbeats 4000000 in
set_option maxRecDepth 100000 in
theorem wk_Fg_imported_34 (cx : Cx p l e s m args below meth c cFg_imported 5 bw "ImageForge" none D cA ad L rs al A) (cy : Cy l c s A) (F : Nat) (out : Mr × (Nat × Int32)) : ∀ (u : Mr), bk_Fg_imported_34 F al u = some out → Wb p l e rm_Fg_imported s m args below meth c D cA ad L rs A (QX below s D cA ad L rs A (fun _ => none) out) 5 34 [] [] u := by
  obtain ⟨hx, hb, hml, hown, hts, hr, hlocks, hK, hA, hD, hN, hal, hNx⟩ := cx
  obtain ⟨hlt, hout, hz1, hz2, hny⟩ := cy
  intro u h H locs ls hl hP hS
  unfold bk_Fg_imported_34 at h
  obtain ⟨sa, hs1⟩ := ns_8 hny
  exact x_throw (k := 1) (v := 0) hx hb (by rw [hml]; exact hl.1.symm) hlt hlocks hown (rx := rx_1) (by decide) (by decide) (by decide) (by decide) (by decide) rfl (by decide) hout (hts _ tw_254) (hts _ tw_15) (hts _ tw_255) hs1 (hat_1 hts hny) hz1 hz2 h hP hS (by decide) (by decide) (by decide) (by decide) dFg_imported_34 dFg_imported_37 dFg_imported_38 dFg_imported_40 dFg_imported_43
def bk_Fg_imported_44 (F : Nat) (al : Nat → Bool) (u : Mr) (x0 : Nat) (x1 : Int32) (x2 : Int32) (x3 : Int32) : Option (Mr × (Nat × Int32)) := bd1 (rdR al u x0 1 3) fun y1 => (ck (inb x1 16) (bd1 (rdR al u y1 x1 20) fun y4 => (bd1 (rdR al (stI u y4 4 x2) x0 1 3) fun y6 => (ck (inb x1 16) (bd1 (rdR al (stI u y4 4 x2) y6 x1 20) fun y9 => (some (stI (stI u y4 4 x2) y9 5 x3, 0, 0)))))))
set_option maxHeartbeats 4000000 in
set_option maxRecDepth 100000 in
theorem wk_Fg_imported_44 (cx : Cx p l e s m args below meth c cFg_imported 5 bw "ImageForge" none D cA ad L rs al A) (cy : Cy l c s A) (F : Nat) (out : Mr × (Nat × Int32)) : ∀ (u : Mr) (x0 : Nat) (x1 : Int32) (x2 : Int32) (x3 : Int32), bk_Fg_imported_44 F al u x0 x1 x2 x3 = some out → okk al 1 x0 = true → Wb p l e rm_Fg_imported s m args below meth c D cA ad L rs A (QX below s D cA ad L rs A (fun _ => none) out) 5 44 [(0, .ref (ad x0)), (1, .int x1), (2, .int x2), (3, .int x3)] [] u := by
  obtain ⟨hx, hb, hml, hown, hts, hr, hlocks, hK, hA, hD, hN, hal, hNx⟩ := cx
  obtain ⟨hlt, hout, hz1, hz2, hny⟩ := cy
  intro u x0 x1 x2 x3 h q0 H locs ls hl hP hS
  unfold bk_Fg_imported_44 at h
  refine lv_aload_n hx hb dFg_imported_44 rfl (lv_at hl 0 rfl) ?_
  obtain ⟨y1, hy2, h⟩ := bd1_some h
  obtain ⟨hy2a, hy2⟩ := rdR_some hy2
  refine x_get hx hb hts in_Fg hown hK hP (hal _ (okk_al q0)) (okk_t q0) rfl rfl 1 (by decide) (hts _ tw_200) (fun _ h9 => h9) (congrArg some (x_rf hy2a)) dFg_imported_45 ?_
  refine lv_iload_n hx hb dFg_imported_48 rfl (lv_at hl 1 rfl) ?_
  obtain ⟨hi3, h⟩ := ck_some h
  obtain ⟨y4, hy5, h⟩ := bd1_some h
  obtain ⟨hy5a, hy5⟩ := rdR_some hy5
  refine x_aald hx hb hK hP (hal _ (okk_al hy2)) (okk_t hy2) 5 (fun _ _ _ => rfl) rfl rfl (inb_in hi3) hy5a dFg_imported_49 ?_
  refine lv_iload_n hx hb dFg_imported_50 rfl (lv_at hl 2 rfl) ?_
  refine x_putN hx hb hts in_Nm t_Nm t_Nm_ok nm_Nm hown hK hD hN hP hS (hal _ (okk_al hy5)) (okk_t hy5) rfl rfl 4 (by decide) (nf_16 hNx) (fun _ h9 => h9) rfl (ty := .int) (by decide +kernel) rfl rfl (Nat.le_of_ble_eq_true rfl) (stI u y4 4 x2) stI_o (by rw [stI_up]; exact eg_20_4) dFg_imported_51 (fun H locs hP hS => ?_)
  refine lv_aload_n hx hb dFg_imported_54 rfl (lv_at hl 0 rfl) ?_
  obtain ⟨y6, hy7, h⟩ := bd1_some h
  obtain ⟨hy7a, hy7⟩ := rdR_some hy7
  refine x_get hx hb hts in_Fg hown hK hP (hal _ (okk_al q0)) (okk_t q0) rfl rfl 1 (by decide) (hts _ tw_200) (fun _ h9 => h9) (congrArg some (x_rf hy7a)) dFg_imported_55 ?_
  refine lv_iload_n hx hb dFg_imported_58 rfl (lv_at hl 1 rfl) ?_
  obtain ⟨hi8, h⟩ := ck_some h
  obtain ⟨y9, hy10, h⟩ := bd1_some h
  obtain ⟨hy10a, hy10⟩ := rdR_some hy10
  refine x_aald hx hb hK hP (hal _ (okk_al hy7)) (okk_t hy7) 5 (fun _ _ _ => rfl) rfl rfl (inb_in hi8) hy10a dFg_imported_59 ?_
  refine lv_iload_n hx hb dFg_imported_60 rfl (lv_at hl 3 rfl) ?_
  refine x_putN hx hb hts in_Nm t_Nm t_Nm_ok nm_Nm hown hK hD hN hP hS (hal _ (okk_al hy10)) (okk_t hy10) rfl rfl 5 (by decide) (nf_18 hNx) (fun _ h9 => h9) rfl (ty := .int) (by decide +kernel) rfl rfl (Nat.le_of_ble_eq_true rfl) (stI (stI u y4 4 x2) y9 5 x3) stI_o (by rw [stI_up]; exact eg_20_5) dFg_imported_61 (fun H locs hP hS => ?_)
  exact x_vretX hx hb hr hlocks h hP hS dFg_imported_64
def bk_Fg_imported_10 (F : Nat) (al : Nat → Bool) (u : Mr) (s0 : Int32) (x0 : Nat) (x1 : Int32) (x2 : Int32) (x3 : Int32) : Option (Mr × (Nat × Int32)) := bd2 (fn_Fg_isBelow F al u x1 (16 : Int32)) fun u1 v1 => (if v1 = 0 then (bk_Fg_imported_34 F al u1) else (if s0 = 0 then (bk_Fg_imported_44 F al u1 x0 x1 x2 x3) else (bd2 (fn_Fg_isSlot F al u1 x2 x3) fun u2 v2 => (if v2 = 0 then (bk_Fg_imported_34 F al u2) else (bk_Fg_imported_44 F al u2 x0 x1 x2 x3)))))
set_option maxHeartbeats 4000000 in
set_option maxRecDepth 100000 in
theorem wk_Fg_imported_10 (cx : Cx p l e s m args below meth c cFg_imported 5 bw "ImageForge" none D cA ad L rs al A) (cy : Cy l c s A) (F : Nat) (out : Mr × (Nat × Int32)) : ∀ (u : Mr) (s0 : Int32) (x0 : Nat) (x1 : Int32) (x2 : Int32) (x3 : Int32), bk_Fg_imported_10 F al u s0 x0 x1 x2 x3 = some out → okk al 1 x0 = true → Wb p l e rm_Fg_imported s m args below meth c D cA ad L rs A (QX below s D cA ad L rs A (fun _ => none) out) 5 10 [(0, .ref (ad x0)), (1, .int x1), (2, .int x2), (3, .int x3)] [.int s0] u := by
  obtain ⟨hx, hb, hml, hown, hts, hr, hlocks, hK, hA, hD, hN, hal, hNx⟩ := cx
  obtain ⟨hlt, hout, hz1, hz2, hny⟩ := cy
  intro u s0 x0 x1 x2 x3 h q0 H locs ls hl hP hS
  unfold bk_Fg_imported_10 at h
  refine lv_istore (lv' := [(4, .int s0), (0, .ref (ad x0)), (1, .int x1), (2, .int x2), (3, .int x3)]) hx hb dFg_imported_10 hl (by decide) rfl (fun ls hl => ?_)
  refine lv_iload_n hx hb dFg_imported_12 rfl (lv_at hl 2 rfl) ?_
  refine lv_bipush (v := 16) hx hb dFg_imported_13 (by decide) ?_
  obtain ⟨u1, v1, hc1, h⟩ := bd2_some h
  refine x_ci (u := u) (out := (u1, v1)) hA hD hS (va_runS (As := [.int x1, .int (16 : Int32)]) (rest := []) ⟨hx, hb, hml, hown, hts⟩ (ct_Fg_isBelow hal hN F u x1 (16 : Int32) (u1, v1) hc1  _) ⟨callB_of 2 hts gdFg_isBelow rfl rfl rfl (hts _ tw_1) (hts _ tw_251) hdFg_isBelow ⟨Nat.le_of_ble_eq_true rfl, Nat.le_of_ble_eq_true rfl⟩, (hts _ tw_252)⟩ (x_preS hK hD hNx hP) rfl rfl hl.1 rfl (lv_room (Nat.le_of_ble_eq_true rfl)) dFg_imported_15 ⟨Nat.zero_le _, Nat.zero_le _⟩) (fun H locs hP hS => ?_)
  refine lv_if_eq (tgt := 34) hx hb dFg_imported_18 rfl (fun hc => ?_) (fun hc => ?_)
  · replace h := it_t h hc
    exact wk_Fg_imported_34 ⟨hx, hb, hml, hown, hts, hr, hlocks, hK, hA, hD, hN, hal, hNx⟩ ⟨hlt, hout, hz1, hz2, hny⟩ F out u1 h _ _ _ (lv_sub hl [] rfl) hP hS
  · replace h := it_f h hc
    refine lv_iload hx hb dFg_imported_21 (lv_at hl 0 rfl) ?_
    refine lv_if_eq (tgt := 44) hx hb dFg_imported_23 rfl (fun hc => ?_) (fun hc => ?_)
    · replace h := it_t h hc
      exact wk_Fg_imported_44 ⟨hx, hb, hml, hown, hts, hr, hlocks, hK, hA, hD, hN, hal, hNx⟩ ⟨hlt, hout, hz1, hz2, hny⟩ F out u1 x0 x1 x2 x3 h q0 _ _ _ (lv_sub hl [1, 2, 3, 4] rfl) hP hS
    · replace h := it_f h hc
      refine lv_iload_n hx hb dFg_imported_26 rfl (lv_at hl 3 rfl) ?_
      refine lv_iload_n hx hb dFg_imported_27 rfl (lv_at hl 4 rfl) ?_
      obtain ⟨u2, v2, hc2, h⟩ := bd2_some h
      refine x_ci (u := u1) (out := (u2, v2)) hA hD hS (va_runS (As := [.int x2, .int x3]) (rest := []) ⟨hx, hb, hml, hown, hts⟩ (ct_Fg_isSlot hal hN F u1 x2 x3 (u2, v2) hc2  _) ⟨callB_of 2 hts gdFg_isSlot rfl rfl rfl (hts _ tw_1) (hts _ tw_493) hdFg_isSlot ⟨Nat.le_of_ble_eq_true rfl, Nat.le_of_ble_eq_true rfl⟩, (hts _ tw_494)⟩ (x_preS hK hD hNx hP) rfl rfl hl.1 rfl (lv_room (Nat.le_of_ble_eq_true rfl)) dFg_imported_28 ⟨Nat.zero_le _, Nat.zero_le _⟩) (fun H locs hP hS => ?_)
      refine lv_if_ne (tgt := 44) hx hb dFg_imported_31 rfl (fun hc => ?_) (fun hc => ?_)
      · replace h := it_f h hc
        exact wk_Fg_imported_44 ⟨hx, hb, hml, hown, hts, hr, hlocks, hK, hA, hD, hN, hal, hNx⟩ ⟨hlt, hout, hz1, hz2, hny⟩ F out u2 x0 x1 x2 x3 h q0 _ _ _ (lv_sub hl [1, 2, 3, 4] rfl) hP hS
      · replace h := it_t h hc
        exact wk_Fg_imported_34 ⟨hx, hb, hml, hown, hts, hr, hlocks, hK, hA, hD, hN, hal, hNx⟩ ⟨hlt, hout, hz1, hz2, hny⟩ F out u2 h _ _ _ (lv_sub hl [] rfl) hP hS
def bk_Fg_imported_0 (F : Nat) (al : Nat → Bool) (u : Mr) (x0 : Nat) (x1 : Int32) (x2 : Int32) (x3 : Int32) : Option (Mr × (Nat × Int32)) := if x2 = (-1 : Int32) then (bk_Fg_imported_10 F al u (0 : Int32) x0 x1 x2 x3) else (bk_Fg_imported_10 F al u (1 : Int32) x0 x1 x2 x3)
set_option maxHeartbeats 4000000 in
set_option maxRecDepth 100000 in
theorem wk_Fg_imported_0 (cx : Cx p l e s m args below meth c cFg_imported 5 bw "ImageForge" none D cA ad L rs al A) (cy : Cy l c s A) (F : Nat) (out : Mr × (Nat × Int32)) : ∀ (u : Mr) (x0 : Nat) (x1 : Int32) (x2 : Int32) (x3 : Int32), bk_Fg_imported_0 F al u x0 x1 x2 x3 = some out → okk al 1 x0 = true → Wb p l e rm_Fg_imported s m args below meth c D cA ad L rs A (QX below s D cA ad L rs A (fun _ => none) out) 5 0 [(0, .ref (ad x0)), (1, .int x1), (2, .int x2), (3, .int x3)] [] u := by
  obtain ⟨hx, hb, hml, hown, hts, hr, hlocks, hK, hA, hD, hN, hal, hNx⟩ := cx
  obtain ⟨hlt, hout, hz1, hz2, hny⟩ := cy
  intro u x0 x1 x2 x3 h q0 H locs ls hl hP hS
  unfold bk_Fg_imported_0 at h
  refine lv_iload_n hx hb dFg_imported_0 rfl (lv_at hl 2 rfl) ?_
  refine lv_iconst (v := (-1)) hx hb dFg_imported_1 (by decide) ?_
  refine lv_icmp_eq (tgt := 9) hx hb dFg_imported_2 rfl (fun hc => ?_) (fun hc => ?_)
  · replace h := it_t h hc
    refine lv_iconst (v := 0) hx hb dFg_imported_9 (by decide) ?_
    exact wk_Fg_imported_10 ⟨hx, hb, hml, hown, hts, hr, hlocks, hK, hA, hD, hN, hal, hNx⟩ ⟨hlt, hout, hz1, hz2, hny⟩ F out u (0 : Int32) x0 x1 x2 x3 h q0 _ _ _ (lv_sub hl [0, 1, 2, 3] rfl) hP hS
  · replace h := it_f h hc
    refine lv_iconst (v := 1) hx hb dFg_imported_5 (by decide) ?_
    refine lv_goto (tgt := 10) hx hb dFg_imported_6 rfl ?_
    exact wk_Fg_imported_10 ⟨hx, hb, hml, hown, hts, hr, hlocks, hK, hA, hD, hN, hal, hNx⟩ ⟨hlt, hout, hz1, hz2, hny⟩ F out u (1 : Int32) x0 x1 x2 x3 h q0 _ _ _ (lv_sub hl [0, 1, 2, 3] rfl) hP hS
def fn_Fg_imported (F : Nat) (al : Nat → Bool) (u : Mr) (x0 : Nat) (x1 : Int32) (x2 : Int32) (x3 : Int32) : Option (Mr × (Nat × Int32)) := bk_Fg_imported_0 F al u x0 x1 x2 x3
set_option maxHeartbeats 4000000 in
set_option maxRecDepth 100000 in
theorem ct_Fg_imported {l : Launch} (hlt : l.stackTraces = false) {D : va_G} {cA : Nat → ClassId} {ad : Nat → Nat} {L : List Nat} {rs : va_W} {al : Nat → Bool} (hal : ∀ k, al k = true → k ∈ L) (hN : L.Nodup) (F : Nat) (u : Mr) (x0 : Nat) (x1 : Int32) (x2 : Int32) (x3 : Int32) (out : Mr × (Nat × Int32)) (h : fn_Fg_imported F al u x0 x1 x2 x3 = some out) (q0 : okk al 1 x0 = true) : CtX l yFg_imported wsFg_imported rm_Fg_imported [.ref (ad x0), .int x1, .int x2, .int x3] D cA ad L rs u (fun _ => none) out := by
  intro sz
  refine MetX_ofW (cc := cFg_imported) (maxL := 5) (ret := none) (by decide) rfl ?_
  intro p e s m args below meth c s₁ B hml hv
  obtain ⟨rfl, ⟨hsz, hP, hK, hD0, hNx⟩, hz1, hz2, hny⟩ := hv
  subst hsz
  have hD := hD0.self (sz := s.heap.size)
  generalize hAe : va_A (ww ad cA L rs u) s.heap.size = A at hD hz1 hz2 ⊢
  have hA : ∀ q, s.heap.size ≤ q → A q := fun q h => by rw [← hAe]; exact Or.inr h
  have hl := lv_entry ([.ref (ad x0), .int x1, .int x2, .int x3]) (n := 5) (Nat.le_of_ble_eq_true rfl)
  rw [lg_entry_eq]
  generalize (lg_sl ([.ref (ad x0), .int x1, .int x2, .int x3]) ++ List.replicate (5 - (lg_sl ([.ref (ad x0), .int x1, .int x2, .int x3])).length) Slot.unset).toArray = ls at hl ⊢
  have hpre := atoms_spec (ws := wsFg_imported) B.pre
  exact wk_Fg_imported_0 ⟨B.exec, B.bytes, hml, findClass_of_methodNamed B.named, hts_bw hpre, B.returns, B.notSynchronized, hK, hA, fun v => ww_D hD, hN, hal, hNx⟩ ⟨hlt, B.noHandlers (hpre _ List.mem_cons_self), hz1, hz2, hny⟩ F out u x0 x1 x2 x3 h q0 _ _ _ (lv_sub hl [0, 1, 2, 3] rfl) hP va_S.rf
abbrev rm_Fg_exported : Room := { frames := 6, cells := 1, slots := 6, locals := 100 }
def bk_Fg_exported_0 (F : Nat) (al : Nat → Bool) (u : Mr) (x0 : Nat) (x1 : Int32) (x2 : Int32) : Option (Mr × (Nat × Int32)) := bd2 (fn_Fg_isBelow F al u x1 (16 : Int32)) fun u1 v1 => (if v1 = 0 then (some (u1, 1, 0)) else (bd1 (rdR al u1 x0 1 3) fun y2 => (ck (inb x1 16) (bd1 (rdR al u1 y2 x1 20) fun y5 => (ck (isz x2) (some (stI u1 y5 6 x2, 0, 0)))))))
set_option maxHeartbeats 4000000 in
set_option maxRecDepth 100000 in
theorem wk_Fg_exported_0 (cx : Cx p l e s m args below meth c cFg_exported 3 bw "ImageForge" none D cA ad L rs al A) (cy : Cy l c s A) (F : Nat) (out : Mr × (Nat × Int32)) : ∀ (u : Mr) (x0 : Nat) (x1 : Int32) (x2 : Int32), bk_Fg_exported_0 F al u x0 x1 x2 = some out → okk al 1 x0 = true → Wb p l e rm_Fg_exported s m args below meth c D cA ad L rs A (QX below s D cA ad L rs A (fun _ => none) out) 3 0 [(0, .ref (ad x0)), (1, .int x1), (2, .int x2)] [] u := by
  obtain ⟨hx, hb, hml, hown, hts, hr, hlocks, hK, hA, hD, hN, hal, hNx⟩ := cx
  obtain ⟨hlt, hout, hz1, hz2, hny⟩ := cy
  intro u x0 x1 x2 h q0 H locs ls hl hP hS
  unfold bk_Fg_exported_0 at h
  refine lv_iload_n hx hb dFg_exported_0 rfl (lv_at hl 1 rfl) ?_
  refine lv_bipush (v := 16) hx hb dFg_exported_1 (by decide) ?_
  obtain ⟨u1, v1, hc1, h⟩ := bd2_some h
  refine x_ci (u := u) (out := (u1, v1)) hA hD hS (va_runS (As := [.int x1, .int (16 : Int32)]) (rest := []) ⟨hx, hb, hml, hown, hts⟩ (ct_Fg_isBelow hal hN F u x1 (16 : Int32) (u1, v1) hc1  _) ⟨callB_of 2 hts gdFg_isBelow rfl rfl rfl (hts _ tw_1) (hts _ tw_251) hdFg_isBelow ⟨Nat.le_of_ble_eq_true rfl, Nat.le_of_ble_eq_true rfl⟩, (hts _ tw_252)⟩ (x_preS hK hD hNx hP) rfl rfl hl.1 rfl (lv_room (Nat.le_of_ble_eq_true rfl)) dFg_exported_3 ⟨Nat.zero_le _, Nat.zero_le _⟩) (fun H locs hP hS => ?_)
  refine lv_if_ne (tgt := 19) hx hb dFg_exported_6 rfl (fun hc => ?_) (fun hc => ?_)
  · replace h := it_f h hc
    refine lv_aload_n hx hb dFg_exported_19 rfl (lv_at hl 0 rfl) ?_
    obtain ⟨y2, hy3, h⟩ := bd1_some h
    obtain ⟨hy3a, hy3⟩ := rdR_some hy3
    refine x_get hx hb hts in_Fg hown hK hP (hal _ (okk_al q0)) (okk_t q0) rfl rfl 1 (by decide) (hts _ tw_200) (fun _ h9 => h9) (congrArg some (x_rf hy3a)) dFg_exported_20 ?_
    refine lv_iload_n hx hb dFg_exported_23 rfl (lv_at hl 1 rfl) ?_
    obtain ⟨hi4, h⟩ := ck_some h
    obtain ⟨y5, hy6, h⟩ := bd1_some h
    obtain ⟨hy6a, hy6⟩ := rdR_some hy6
    refine x_aald hx hb hK hP (hal _ (okk_al hy3)) (okk_t hy3) 5 (fun _ _ _ => rfl) rfl rfl (inb_in hi4) hy6a dFg_exported_24 ?_
    refine lv_iload_n hx hb dFg_exported_25 rfl (lv_at hl 2 rfl) ?_
    obtain ⟨hz7, h⟩ := ck_some h
    refine x_putN hx hb hts in_Nm t_Nm t_Nm_ok nm_Nm hown hK hD hN hP hS (hal _ (okk_al hy6)) (okk_t hy6) rfl rfl 6 (by decide) (nf_20 hNx) (fun _ h9 => h9) rfl (ty := .boolean) (by decide +kernel) (isz_nar hz7) (isz_fit hz7) (Nat.le_of_ble_eq_true rfl) (stI u1 y5 6 x2) stI_o (by rw [stI_up]; exact eg_20_6) dFg_exported_26 (fun H locs hP hS => ?_)
    exact x_vretX hx hb hr hlocks h hP hS dFg_exported_29
  · replace h := it_t h hc
    obtain ⟨sa, hs8⟩ := ns_9 hny
    exact x_throw (k := 1) (v := 0) hx hb (by rw [hml]; exact hl.1.symm) hlt hlocks hown (rx := rx_1) (by decide) (by decide) (by decide) (by decide) (by decide) rfl (by decide) hout (hts _ tw_254) (hts _ tw_15) (hts _ tw_255) hs8 (hat_1 hts hny) hz1 hz2 h hP hS (by decide) (by decide) (by decide) (by decide) dFg_exported_9 dFg_exported_12 dFg_exported_13 dFg_exported_15 dFg_exported_18
def fn_Fg_exported (F : Nat) (al : Nat → Bool) (u : Mr) (x0 : Nat) (x1 : Int32) (x2 : Int32) : Option (Mr × (Nat × Int32)) := bk_Fg_exported_0 F al u x0 x1 x2
set_option maxHeartbeats 4000000 in
set_option maxRecDepth 100000 in
theorem ct_Fg_exported {l : Launch} (hlt : l.stackTraces = false) {D : va_G} {cA : Nat → ClassId} {ad : Nat → Nat} {L : List Nat} {rs : va_W} {al : Nat → Bool} (hal : ∀ k, al k = true → k ∈ L) (hN : L.Nodup) (F : Nat) (u : Mr) (x0 : Nat) (x1 : Int32) (x2 : Int32) (out : Mr × (Nat × Int32)) (h : fn_Fg_exported F al u x0 x1 x2 = some out) (q0 : okk al 1 x0 = true) : CtX l yFg_exported wsFg_exported rm_Fg_exported [.ref (ad x0), .int x1, .int x2] D cA ad L rs u (fun _ => none) out := by
  intro sz
  refine MetX_ofW (cc := cFg_exported) (maxL := 3) (ret := none) (by decide) rfl ?_
  intro p e s m args below meth c s₁ B hml hv
  obtain ⟨rfl, ⟨hsz, hP, hK, hD0, hNx⟩, hz1, hz2, hny⟩ := hv
  subst hsz
  have hD := hD0.self (sz := s.heap.size)
  generalize hAe : va_A (ww ad cA L rs u) s.heap.size = A at hD hz1 hz2 ⊢
  have hA : ∀ q, s.heap.size ≤ q → A q := fun q h => by rw [← hAe]; exact Or.inr h
  have hl := lv_entry ([.ref (ad x0), .int x1, .int x2]) (n := 3) (Nat.le_of_ble_eq_true rfl)
  rw [lg_entry_eq]
  generalize (lg_sl ([.ref (ad x0), .int x1, .int x2]) ++ List.replicate (3 - (lg_sl ([.ref (ad x0), .int x1, .int x2])).length) Slot.unset).toArray = ls at hl ⊢
  have hpre := atoms_spec (ws := wsFg_exported) B.pre
  exact wk_Fg_exported_0 ⟨B.exec, B.bytes, hml, findClass_of_methodNamed B.named, hts_bw hpre, B.returns, B.notSynchronized, hK, hA, fun v => ww_D hD, hN, hal, hNx⟩ ⟨hlt, B.noHandlers (hpre _ List.mem_cons_self), hz1, hz2, hny⟩ F out u x0 x1 x2 h q0 _ _ _ (lv_sub hl [0, 1, 2] rfl) hP va_S.rf
abbrev rm_Fg_link : Room := { frames := 6, cells := 1, slots := 6, locals := 115 }
def bk_Fg_link_31 (F : Nat) (al : Nat → Bool) (u : Mr) : Option (Mr × (Nat × Int32)) := some (u, 3, 0)
set_option maxHeartbeats 4000000 in
set_option maxRecDepth 100000 in
theorem wk_Fg_link_31 (cx : Cx p l e s m args below meth c cFg_link 1 bw "ImageForge" (some .int) D cA ad L rs al A) (cy : Cy l c s A) (F : Nat) (out : Mr × (Nat × Int32)) : ∀ (u : Mr), bk_Fg_link_31 F al u = some out → Wb p l e rm_Fg_link s m args below meth c D cA ad L rs A (QX below s D cA ad L rs A (fun v => some (.int v)) out) 1 31 [] [] u := by
  obtain ⟨hx, hb, hml, hown, hts, hr, hlocks, hK, hA, hD, hN, hal, hNx⟩ := cx
  obtain ⟨hlt, hout, hz1, hz2, hny⟩ := cy
  intro u h H locs ls hl hP hS
  unfold bk_Fg_link_31 at h
  obtain ⟨sa, hs1⟩ := ns_11 hny
  exact x_throw (k := 3) (v := 0) hx hb (by rw [hml]; exact hl.1.symm) hlt hlocks hown (rx := rx_3) (by decide) (by decide) (by decide) (by decide) (by decide) rfl (by decide) hout (hts _ tw_539) (hts _ tw_25) (hts _ tw_540) hs1 (hat_3 hts hny) hz1 hz2 h hP hS (by decide) (by decide) (by decide) (by decide) dFg_link_31 dFg_link_34 dFg_link_35 dFg_link_37 dFg_link_40
def bk_Fg_link_0 (F : Nat) (al : Nat → Bool) (u : Mr) (x0 : Nat) : Option (Mr × (Nat × Int32)) := bd2 (fn_Fg_someNameClashes F al u x0) fun u1 v1 => (if v1 = 0 then (bd2 (fn_Fg_someExportLacks F al u1 x0) fun u2 v2 => (if v2 = 0 then (bd2 (fn_Fg_someReferenceLacks F al u2 x0) fun u3 v3 => (if v3 = 0 then (bd1 (rdR al u3 x0 4 8) fun y4 => (bd1 (rdR al u3 x0 0 2) fun y6 => (bd1 (rdR al u3 x0 1 3) fun y8 => (bd1 (rdR al u3 x0 3 6) fun y10 => (bd2 (fn_Lk_build F al u3 y4 y6 y8 y10) fun u12 v12 => (bd1 (rdR al u12 x0 3 6) fun y13 => (some (u12, 0, u12.1 y13 1)))))))) else (bk_Fg_link_31 F al u3))) else (bk_Fg_link_31 F al u2))) else (some (u1, 2, 0)))
set_option maxHeartbeats 4000000 in
set_option maxRecDepth 100000 in
theorem wk_Fg_link_0 (cx : Cx p l e s m args below meth c cFg_link 1 bw "ImageForge" (some .int) D cA ad L rs al A) (cy : Cy l c s A) (F : Nat) (out : Mr × (Nat × Int32)) : ∀ (u : Mr) (x0 : Nat), bk_Fg_link_0 F al u x0 = some out → okk al 1 x0 = true → Wb p l e rm_Fg_link s m args below meth c D cA ad L rs A (QX below s D cA ad L rs A (fun v => some (.int v)) out) 1 0 [(0, .ref (ad x0))] [] u := by
  obtain ⟨hx, hb, hml, hown, hts, hr, hlocks, hK, hA, hD, hN, hal, hNx⟩ := cx
  obtain ⟨hlt, hout, hz1, hz2, hny⟩ := cy
  intro u x0 h q0 H locs ls hl hP hS
  unfold bk_Fg_link_0 at h
  refine lv_aload_n hx hb dFg_link_0 rfl (lv_at hl 0 rfl) ?_
  obtain ⟨u1, v1, hc1, h⟩ := bd2_some h
  refine x_ci (u := u) (out := (u1, v1)) hA hD hS (va_runV (As := []) (rest := []) ⟨hx, hb, hml, hown, hts⟩ (ct_Fg_someNameClashes hal hN F u x0 (u1, v1) hc1 q0 _) ⟨callB_of 0 hts gdFg_someNameClashes rfl rfl rfl (hts _ tw_1) (hts _ tw_513) hdFg_someNameClashes ⟨Nat.le_of_ble_eq_true rfl, Nat.le_of_ble_eq_true rfl⟩, (hts _ tw_515), (hts _ tp_12)⟩ (x_preV hK hD hNx hP (hal _ (okk_al q0)) (okk_t q0) rfl rfl) rfl rfl hl.1 rfl (lv_room (Nat.le_of_ble_eq_true rfl)) dFg_link_1 ⟨Nat.zero_le _, Nat.zero_le _⟩) (fun H locs hP hS => ?_)
  refine lv_if_eq (tgt := 17) hx hb dFg_link_4 rfl (fun hc => ?_) (fun hc => ?_)
  · replace h := it_t h hc
    refine lv_aload_n hx hb dFg_link_17 rfl (lv_at hl 0 rfl) ?_
    obtain ⟨u2, v2, hc2, h⟩ := bd2_some h
    refine x_ci (u := u1) (out := (u2, v2)) hA hD hS (va_runV (As := []) (rest := []) ⟨hx, hb, hml, hown, hts⟩ (ct_Fg_someExportLacks hal hN F u1 x0 (u2, v2) hc2 q0 _) ⟨callB_of 0 hts gdFg_someExportLacks rfl rfl rfl (hts _ tw_1) (hts _ tw_526) hdFg_someExportLacks ⟨Nat.le_of_ble_eq_true rfl, Nat.le_of_ble_eq_true rfl⟩, (hts _ tw_528), (hts _ tp_15)⟩ (x_preV hK hD hNx hP (hal _ (okk_al q0)) (okk_t q0) rfl rfl) rfl rfl hl.1 rfl (lv_room (Nat.le_of_ble_eq_true rfl)) dFg_link_18 ⟨Nat.zero_le _, Nat.zero_le _⟩) (fun H locs hP hS => ?_)
    refine lv_if_ne (tgt := 31) hx hb dFg_link_21 rfl (fun hc => ?_) (fun hc => ?_)
    · replace h := it_f h hc
      exact wk_Fg_link_31 ⟨hx, hb, hml, hown, hts, hr, hlocks, hK, hA, hD, hN, hal, hNx⟩ ⟨hlt, hout, hz1, hz2, hny⟩ F out u2 h _ _ _ (lv_sub hl [] rfl) hP hS
    · replace h := it_t h hc
      refine lv_aload_n hx hb dFg_link_24 rfl (lv_at hl 0 rfl) ?_
      obtain ⟨u3, v3, hc3, h⟩ := bd2_some h
      refine x_ci (u := u2) (out := (u3, v3)) hA hD hS (va_runV (As := []) (rest := []) ⟨hx, hb, hml, hown, hts⟩ (ct_Fg_someReferenceLacks hal hN F u2 x0 (u3, v3) hc3 q0 _) ⟨callB_of 0 hts gdFg_someReferenceLacks rfl rfl rfl (hts _ tw_1) (hts _ tw_530) hdFg_someReferenceLacks ⟨Nat.le_of_ble_eq_true rfl, Nat.le_of_ble_eq_true rfl⟩, (hts _ tw_532), (hts _ tp_16)⟩ (x_preV hK hD hNx hP (hal _ (okk_al q0)) (okk_t q0) rfl rfl) rfl rfl hl.1 rfl (lv_room (Nat.le_of_ble_eq_true rfl)) dFg_link_25 ⟨Nat.zero_le _, Nat.zero_le _⟩) (fun H locs hP hS => ?_)
      refine lv_if_eq (tgt := 41) hx hb dFg_link_28 rfl (fun hc => ?_) (fun hc => ?_)
      · replace h := it_t h hc
        refine lv_aload_n hx hb dFg_link_41 rfl (lv_at hl 0 rfl) ?_
        obtain ⟨y4, hy5, h⟩ := bd1_some h
        obtain ⟨hy5a, hy5⟩ := rdR_some hy5
        refine x_get hx hb hts in_Fg hown hK hP (hal _ (okk_al q0)) (okk_t q0) rfl rfl 4 (by decide) (hts _ tw_203) (fun _ h9 => h9) (congrArg some (x_rf hy5a)) dFg_link_42 ?_
        refine lv_aload_n hx hb dFg_link_45 rfl (lv_at hl 0 rfl) ?_
        obtain ⟨y6, hy7, h⟩ := bd1_some h
        obtain ⟨hy7a, hy7⟩ := rdR_some hy7
        refine x_get hx hb hts in_Fg hown hK hP (hal _ (okk_al q0)) (okk_t q0) rfl rfl 0 (by decide) (hts _ tw_199) (fun _ h9 => h9) (congrArg some (x_rf hy7a)) dFg_link_46 ?_
        refine lv_aload_n hx hb dFg_link_49 rfl (lv_at hl 0 rfl) ?_
        obtain ⟨y8, hy9, h⟩ := bd1_some h
        obtain ⟨hy9a, hy9⟩ := rdR_some hy9
        refine x_get hx hb hts in_Fg hown hK hP (hal _ (okk_al q0)) (okk_t q0) rfl rfl 1 (by decide) (hts _ tw_200) (fun _ h9 => h9) (congrArg some (x_rf hy9a)) dFg_link_50 ?_
        refine lv_aload_n hx hb dFg_link_53 rfl (lv_at hl 0 rfl) ?_
        obtain ⟨y10, hy11, h⟩ := bd1_some h
        obtain ⟨hy11a, hy11⟩ := rdR_some hy11
        refine x_get hx hb hts in_Fg hown hK hP (hal _ (okk_al q0)) (okk_t q0) rfl rfl 3 (by decide) (hts _ tw_202) (fun _ h9 => h9) (congrArg some (x_rf hy11a)) dFg_link_54 ?_
        obtain ⟨u12, v12, hc12, h⟩ := bd2_some h
        refine x_cv (u := u3) (out := (u12, v12)) hA hD hS (va_runVN (As := [.ref (ad y6), .ref (ad y8), .ref (ad y10)]) (rest := []) ⟨hx, hb, hml, hown, hts⟩ (ct_Lk_build hal hN F u3 y4 y6 y8 y10 (u12, v12) hc12 hy5 hy7 hy9 hy11 _) ⟨va_cnB 3 hts gdLk_build rfl rfl rfl (nn_18 hNx) (hts _ tw_3) hdLk_build ⟨Nat.le_of_ble_eq_true rfl, Nat.le_of_ble_eq_true rfl⟩, (hts _ tw_557), (hts _ tp_17)⟩ (x_preV hK hD hNx hP (hal _ (okk_al hy5)) (okk_t hy5) rfl rfl) rfl rfl hl.1 rfl (lv_room (Nat.le_of_ble_eq_true rfl)) dFg_link_57 ⟨Nat.zero_le _, Nat.zero_le _⟩) (fun H locs hP hS => ?_)
        refine lv_aload_n hx hb dFg_link_60 rfl (lv_at hl 0 rfl) ?_
        obtain ⟨y13, hy14, h⟩ := bd1_some h
        obtain ⟨hy14a, hy14⟩ := rdR_some hy14
        refine x_get hx hb hts in_Fg hown hK hP (hal _ (okk_al q0)) (okk_t q0) rfl rfl 3 (by decide) (hts _ tw_202) (fun _ h9 => h9) (congrArg some (x_rf hy14a)) dFg_link_61 ?_
        refine x_getN hx hb hts in_Im hown hK hP (hal _ (okk_al hy14)) (okk_t hy14) rfl rfl 1 (by decide) (nf_3 hNx) (fun _ h9 => h9) rfl dFg_link_64 ?_
        exact x_iretX hx hb hr hlocks h hP hS dFg_link_67
      · replace h := it_f h hc
        exact wk_Fg_link_31 ⟨hx, hb, hml, hown, hts, hr, hlocks, hK, hA, hD, hN, hal, hNx⟩ ⟨hlt, hout, hz1, hz2, hny⟩ F out u3 h _ _ _ (lv_sub hl [] rfl) hP hS
  · replace h := it_f h hc
    obtain ⟨sa, hs15⟩ := ns_10 hny
    exact x_throw (k := 2) (v := 0) hx hb (by rw [hml]; exact hl.1.symm) hlt hlocks hown (rx := rx_2) (by decide) (by decide) (by decide) (by decide) (by decide) rfl (by decide) hout (hts _ tw_321) (hts _ tw_16) (hts _ tw_322) hs15 (hat_2 hts hny) hz1 hz2 h hP hS (by decide) (by decide) (by decide) (by decide) dFg_link_7 dFg_link_10 dFg_link_11 dFg_link_13 dFg_link_16
def fn_Fg_link (F : Nat) (al : Nat → Bool) (u : Mr) (x0 : Nat) : Option (Mr × (Nat × Int32)) := bk_Fg_link_0 F al u x0
set_option maxHeartbeats 4000000 in
set_option maxRecDepth 100000 in
theorem ct_Fg_link {l : Launch} (hlt : l.stackTraces = false) {D : va_G} {cA : Nat → ClassId} {ad : Nat → Nat} {L : List Nat} {rs : va_W} {al : Nat → Bool} (hal : ∀ k, al k = true → k ∈ L) (hN : L.Nodup) (F : Nat) (u : Mr) (x0 : Nat) (out : Mr × (Nat × Int32)) (h : fn_Fg_link F al u x0 = some out) (q0 : okk al 1 x0 = true) : CtX l yFg_link wsFg_link rm_Fg_link [.ref (ad x0)] D cA ad L rs u (fun v => some (.int v)) out := by
  intro sz
  refine MetX_ofW (cc := cFg_link) (maxL := 1) (ret := (some .int)) (by decide) rfl ?_
  intro p e s m args below meth c s₁ B hml hv
  obtain ⟨rfl, ⟨hsz, hP, hK, hD0, hNx⟩, hz1, hz2, hny⟩ := hv
  subst hsz
  have hD := hD0.self (sz := s.heap.size)
  generalize hAe : va_A (ww ad cA L rs u) s.heap.size = A at hD hz1 hz2 ⊢
  have hA : ∀ q, s.heap.size ≤ q → A q := fun q h => by rw [← hAe]; exact Or.inr h
  have hl := lv_entry ([.ref (ad x0)]) (n := 1) (Nat.le_of_ble_eq_true rfl)
  rw [lg_entry_eq]
  generalize (lg_sl ([.ref (ad x0)]) ++ List.replicate (1 - (lg_sl ([.ref (ad x0)])).length) Slot.unset).toArray = ls at hl ⊢
  have hpre := atoms_spec (ws := wsFg_link) B.pre
  exact wk_Fg_link_0 ⟨B.exec, B.bytes, hml, findClass_of_methodNamed B.named, hts_bw hpre, B.returns, B.notSynchronized, hK, hA, fun v => ww_D hD, hN, hal, hNx⟩ ⟨hlt, B.noHandlers (hpre _ List.mem_cons_self), hz1, hz2, hny⟩ F out u x0 h q0 _ _ _ (lv_sub hl [0] rfl) hP va_S.rf
abbrev rm_Fg_image : Room := { frames := 6, cells := 1, slots := 6, locals := 100 }
def bk_Fg_image_0 (F : Nat) (al : Nat → Bool) (u : Mr) (x0 : Nat) (x1 : Int32) : Option (Mr × (Nat × Int32)) := bd1 (rdR al u x0 3 6) fun y1 => (bd2 (fn_Fg_isBelow F al u x1 (u.1 y1 1)) fun u3 v3 => (if v3 = 0 then (some (u3, 3, 0)) else (bd1 (rdR al u3 x0 3 6) fun y4 => (bd2 (fn_Im_byteAt F al u3 y4 x1) fun u6 v6 => (some (u6, 0, v6))))))
set_option maxHeartbeats 4000000 in
set_option maxRecDepth 100000 in
theorem wk_Fg_image_0 (cx : Cx p l e s m args below meth c cFg_image 2 bw "ImageForge" (some .int) D cA ad L rs al A) (cy : Cy l c s A) (F : Nat) (out : Mr × (Nat × Int32)) : ∀ (u : Mr) (x0 : Nat) (x1 : Int32), bk_Fg_image_0 F al u x0 x1 = some out → okk al 1 x0 = true → Wb p l e rm_Fg_image s m args below meth c D cA ad L rs A (QX below s D cA ad L rs A (fun v => some (.int v)) out) 2 0 [(0, .ref (ad x0)), (1, .int x1)] [] u := by
  obtain ⟨hx, hb, hml, hown, hts, hr, hlocks, hK, hA, hD, hN, hal, hNx⟩ := cx
  obtain ⟨hlt, hout, hz1, hz2, hny⟩ := cy
  intro u x0 x1 h q0 H locs ls hl hP hS
  unfold bk_Fg_image_0 at h
  refine lv_iload_n hx hb dFg_image_0 rfl (lv_at hl 1 rfl) ?_
  refine lv_aload_n hx hb dFg_image_1 rfl (lv_at hl 0 rfl) ?_
  obtain ⟨y1, hy2, h⟩ := bd1_some h
  obtain ⟨hy2a, hy2⟩ := rdR_some hy2
  refine x_get hx hb hts in_Fg hown hK hP (hal _ (okk_al q0)) (okk_t q0) rfl rfl 3 (by decide) (hts _ tw_202) (fun _ h9 => h9) (congrArg some (x_rf hy2a)) dFg_image_2 ?_
  refine x_getN hx hb hts in_Im hown hK hP (hal _ (okk_al hy2)) (okk_t hy2) rfl rfl 1 (by decide) (nf_3 hNx) (fun _ h9 => h9) rfl dFg_image_5 ?_
  obtain ⟨u3, v3, hc3, h⟩ := bd2_some h
  refine x_ci (u := u) (out := (u3, v3)) hA hD hS (va_runS (As := [.int x1, .int (u.1 y1 1)]) (rest := []) ⟨hx, hb, hml, hown, hts⟩ (ct_Fg_isBelow hal hN F u x1 (u.1 y1 1) (u3, v3) hc3  _) ⟨callB_of 2 hts gdFg_isBelow rfl rfl rfl (hts _ tw_1) (hts _ tw_251) hdFg_isBelow ⟨Nat.le_of_ble_eq_true rfl, Nat.le_of_ble_eq_true rfl⟩, (hts _ tw_252)⟩ (x_preS hK hD hNx hP) rfl rfl hl.1 rfl (lv_room (Nat.le_of_ble_eq_true rfl)) dFg_image_8 ⟨Nat.zero_le _, Nat.zero_le _⟩) (fun H locs hP hS => ?_)
  refine lv_if_ne (tgt := 24) hx hb dFg_image_11 rfl (fun hc => ?_) (fun hc => ?_)
  · replace h := it_f h hc
    refine lv_aload_n hx hb dFg_image_24 rfl (lv_at hl 0 rfl) ?_
    obtain ⟨y4, hy5, h⟩ := bd1_some h
    obtain ⟨hy5a, hy5⟩ := rdR_some hy5
    refine x_get hx hb hts in_Fg hown hK hP (hal _ (okk_al q0)) (okk_t q0) rfl rfl 3 (by decide) (hts _ tw_202) (fun _ h9 => h9) (congrArg some (x_rf hy5a)) dFg_image_25 ?_
    refine lv_iload_n hx hb dFg_image_28 rfl (lv_at hl 1 rfl) ?_
    obtain ⟨u6, v6, hc6, h⟩ := bd2_some h
    refine x_ci (u := u3) (out := (u6, v6)) hA hD hS (va_runVN (As := [.int x1]) (rest := []) ⟨hx, hb, hml, hown, hts⟩ (ct_Im_byteAt hal hN F u3 y4 x1 (u6, v6) hc6 hy5 _) ⟨va_cnB 1 hts gdIm_byteAt rfl rfl rfl (nn_28 hNx) (hts _ tw_2) hdIm_byteAt ⟨Nat.le_of_ble_eq_true rfl, Nat.le_of_ble_eq_true rfl⟩, (hts _ tw_228), (hts _ tp_1)⟩ (x_preV hK hD hNx hP (hal _ (okk_al hy5)) (okk_t hy5) rfl rfl) rfl rfl hl.1 rfl (lv_room (Nat.le_of_ble_eq_true rfl)) dFg_image_29 ⟨Nat.zero_le _, Nat.zero_le _⟩) (fun H locs hP hS => ?_)
    exact x_iretX hx hb hr hlocks h hP hS dFg_image_32
  · replace h := it_t h hc
    obtain ⟨sa, hs7⟩ := ns_12 hny
    exact x_throw (k := 3) (v := 0) hx hb (by rw [hml]; exact hl.1.symm) hlt hlocks hown (rx := rx_3) (by decide) (by decide) (by decide) (by decide) (by decide) rfl (by decide) hout (hts _ tw_539) (hts _ tw_25) (hts _ tw_540) hs7 (hat_3 hts hny) hz1 hz2 h hP hS (by decide) (by decide) (by decide) (by decide) dFg_image_14 dFg_image_17 dFg_image_18 dFg_image_20 dFg_image_23
def fn_Fg_image (F : Nat) (al : Nat → Bool) (u : Mr) (x0 : Nat) (x1 : Int32) : Option (Mr × (Nat × Int32)) := bk_Fg_image_0 F al u x0 x1
set_option maxHeartbeats 4000000 in
set_option maxRecDepth 100000 in
theorem ct_Fg_image {l : Launch} (hlt : l.stackTraces = false) {D : va_G} {cA : Nat → ClassId} {ad : Nat → Nat} {L : List Nat} {rs : va_W} {al : Nat → Bool} (hal : ∀ k, al k = true → k ∈ L) (hN : L.Nodup) (F : Nat) (u : Mr) (x0 : Nat) (x1 : Int32) (out : Mr × (Nat × Int32)) (h : fn_Fg_image F al u x0 x1 = some out) (q0 : okk al 1 x0 = true) : CtX l yFg_image wsFg_image rm_Fg_image [.ref (ad x0), .int x1] D cA ad L rs u (fun v => some (.int v)) out := by
  intro sz
  refine MetX_ofW (cc := cFg_image) (maxL := 2) (ret := (some .int)) (by decide) rfl ?_
  intro p e s m args below meth c s₁ B hml hv
  obtain ⟨rfl, ⟨hsz, hP, hK, hD0, hNx⟩, hz1, hz2, hny⟩ := hv
  subst hsz
  have hD := hD0.self (sz := s.heap.size)
  generalize hAe : va_A (ww ad cA L rs u) s.heap.size = A at hD hz1 hz2 ⊢
  have hA : ∀ q, s.heap.size ≤ q → A q := fun q h => by rw [← hAe]; exact Or.inr h
  have hl := lv_entry ([.ref (ad x0), .int x1]) (n := 2) (Nat.le_of_ble_eq_true rfl)
  rw [lg_entry_eq]
  generalize (lg_sl ([.ref (ad x0), .int x1]) ++ List.replicate (2 - (lg_sl ([.ref (ad x0), .int x1])).length) Slot.unset).toArray = ls at hl ⊢
  have hpre := atoms_spec (ws := wsFg_image) B.pre
  exact wk_Fg_image_0 ⟨B.exec, B.bytes, hml, findClass_of_methodNamed B.named, hts_bw hpre, B.returns, B.notSynchronized, hK, hA, fun v => ww_D hD, hN, hal, hNx⟩ ⟨hlt, B.noHandlers (hpre _ List.mem_cons_self), hz1, hz2, hny⟩ F out u x0 x1 h q0 _ _ _ (lv_sub hl [0, 1] rfl) hP va_S.rf
abbrev rm_Fg_spoil : Room := { frames := 6, cells := 1, slots := 6, locals := 100 }
def bk_Fg_spoil_0 (F : Nat) (al : Nat → Bool) (u : Mr) (x0 : Nat) (x1 : Int32) (x2 : Int32) : Option (Mr × (Nat × Int32)) := bd1 (rdR al u x0 3 6) fun y1 => (bd2 (fn_Fg_isBelow F al u x1 (u.1 y1 1)) fun u3 v3 => (if v3 = 0 then (some (u3, 3, 0)) else (bd1 (rdR al u3 x0 3 6) fun y4 => (bd1 (rdR al u3 x0 3 6) fun y6 => (bd2 (fn_Im_byteAt F al u3 y6 x1) fun u8 v8 => (bd2 (fn_Im_setByte F al u8 y4 x1 (v8 ^^^ x2)) fun u9 v9 => (some (u9, 0, 0))))))))
set_option maxHeartbeats 4000000 in
set_option maxRecDepth 100000 in
theorem wk_Fg_spoil_0 (cx : Cx p l e s m args below meth c cFg_spoil 3 bw "ImageForge" none D cA ad L rs al A) (cy : Cy l c s A) (F : Nat) (out : Mr × (Nat × Int32)) : ∀ (u : Mr) (x0 : Nat) (x1 : Int32) (x2 : Int32), bk_Fg_spoil_0 F al u x0 x1 x2 = some out → okk al 1 x0 = true → Wb p l e rm_Fg_spoil s m args below meth c D cA ad L rs A (QX below s D cA ad L rs A (fun _ => none) out) 3 0 [(0, .ref (ad x0)), (1, .int x1), (2, .int x2)] [] u := by
  obtain ⟨hx, hb, hml, hown, hts, hr, hlocks, hK, hA, hD, hN, hal, hNx⟩ := cx
  obtain ⟨hlt, hout, hz1, hz2, hny⟩ := cy
  intro u x0 x1 x2 h q0 H locs ls hl hP hS
  unfold bk_Fg_spoil_0 at h
  refine lv_iload_n hx hb dFg_spoil_0 rfl (lv_at hl 1 rfl) ?_
  refine lv_aload_n hx hb dFg_spoil_1 rfl (lv_at hl 0 rfl) ?_
  obtain ⟨y1, hy2, h⟩ := bd1_some h
  obtain ⟨hy2a, hy2⟩ := rdR_some hy2
  refine x_get hx hb hts in_Fg hown hK hP (hal _ (okk_al q0)) (okk_t q0) rfl rfl 3 (by decide) (hts _ tw_202) (fun _ h9 => h9) (congrArg some (x_rf hy2a)) dFg_spoil_2 ?_
  refine x_getN hx hb hts in_Im hown hK hP (hal _ (okk_al hy2)) (okk_t hy2) rfl rfl 1 (by decide) (nf_3 hNx) (fun _ h9 => h9) rfl dFg_spoil_5 ?_
  obtain ⟨u3, v3, hc3, h⟩ := bd2_some h
  refine x_ci (u := u) (out := (u3, v3)) hA hD hS (va_runS (As := [.int x1, .int (u.1 y1 1)]) (rest := []) ⟨hx, hb, hml, hown, hts⟩ (ct_Fg_isBelow hal hN F u x1 (u.1 y1 1) (u3, v3) hc3  _) ⟨callB_of 2 hts gdFg_isBelow rfl rfl rfl (hts _ tw_1) (hts _ tw_251) hdFg_isBelow ⟨Nat.le_of_ble_eq_true rfl, Nat.le_of_ble_eq_true rfl⟩, (hts _ tw_252)⟩ (x_preS hK hD hNx hP) rfl rfl hl.1 rfl (lv_room (Nat.le_of_ble_eq_true rfl)) dFg_spoil_8 ⟨Nat.zero_le _, Nat.zero_le _⟩) (fun H locs hP hS => ?_)
  refine lv_if_ne (tgt := 24) hx hb dFg_spoil_11 rfl (fun hc => ?_) (fun hc => ?_)
  · replace h := it_f h hc
    refine lv_aload_n hx hb dFg_spoil_24 rfl (lv_at hl 0 rfl) ?_
    obtain ⟨y4, hy5, h⟩ := bd1_some h
    obtain ⟨hy5a, hy5⟩ := rdR_some hy5
    refine x_get hx hb hts in_Fg hown hK hP (hal _ (okk_al q0)) (okk_t q0) rfl rfl 3 (by decide) (hts _ tw_202) (fun _ h9 => h9) (congrArg some (x_rf hy5a)) dFg_spoil_25 ?_
    refine lv_iload_n hx hb dFg_spoil_28 rfl (lv_at hl 1 rfl) ?_
    refine lv_aload_n hx hb dFg_spoil_29 rfl (lv_at hl 0 rfl) ?_
    obtain ⟨y6, hy7, h⟩ := bd1_some h
    obtain ⟨hy7a, hy7⟩ := rdR_some hy7
    refine x_get hx hb hts in_Fg hown hK hP (hal _ (okk_al q0)) (okk_t q0) rfl rfl 3 (by decide) (hts _ tw_202) (fun _ h9 => h9) (congrArg some (x_rf hy7a)) dFg_spoil_30 ?_
    refine lv_iload_n hx hb dFg_spoil_33 rfl (lv_at hl 1 rfl) ?_
    obtain ⟨u8, v8, hc8, h⟩ := bd2_some h
    refine x_ci (u := u3) (out := (u8, v8)) hA hD hS (va_runVN (As := [.int x1]) (rest := [.int x1, .ref (ad y4)]) ⟨hx, hb, hml, hown, hts⟩ (ct_Im_byteAt hal hN F u3 y6 x1 (u8, v8) hc8 hy7 _) ⟨va_cnB 1 hts gdIm_byteAt rfl rfl rfl (nn_28 hNx) (hts _ tw_2) hdIm_byteAt ⟨Nat.le_of_ble_eq_true rfl, Nat.le_of_ble_eq_true rfl⟩, (hts _ tw_228), (hts _ tp_1)⟩ (x_preV hK hD hNx hP (hal _ (okk_al hy7)) (okk_t hy7) rfl rfl) rfl rfl hl.1 rfl (lv_room (Nat.le_of_ble_eq_true rfl)) dFg_spoil_34 ⟨Nat.zero_le _, Nat.zero_le _⟩) (fun H locs hP hS => ?_)
    refine lv_iload_n hx hb dFg_spoil_37 rfl (lv_at hl 2 rfl) ?_
    refine lv_ixor hx hb dFg_spoil_38 ?_
    obtain ⟨u9, v9, hc9, h⟩ := bd2_some h
    refine x_cv (u := u8) (out := (u9, v9)) hA hD hS (va_runVN (As := [.int x1, .int (v8 ^^^ x2)]) (rest := []) ⟨hx, hb, hml, hown, hts⟩ (ct_Im_setByte hal hN F u8 y4 x1 (v8 ^^^ x2) (u9, v9) hc9 hy5 _) ⟨va_cnB 2 hts gdIm_setByte rfl rfl rfl (nn_29 hNx) (hts _ tw_2) hdIm_setByte ⟨Nat.le_of_ble_eq_true rfl, Nat.le_of_ble_eq_true rfl⟩, (hts _ tw_682), (hts _ tp_37)⟩ (x_preV hK hD hNx hP (hal _ (okk_al hy5)) (okk_t hy5) rfl rfl) rfl rfl hl.1 rfl (lv_room (Nat.le_of_ble_eq_true rfl)) dFg_spoil_39 ⟨Nat.zero_le _, Nat.zero_le _⟩) (fun H locs hP hS => ?_)
    exact x_vretX hx hb hr hlocks h hP hS dFg_spoil_42
  · replace h := it_t h hc
    obtain ⟨sa, hs10⟩ := ns_12 hny
    exact x_throw (k := 3) (v := 0) hx hb (by rw [hml]; exact hl.1.symm) hlt hlocks hown (rx := rx_3) (by decide) (by decide) (by decide) (by decide) (by decide) rfl (by decide) hout (hts _ tw_539) (hts _ tw_25) (hts _ tw_540) hs10 (hat_3 hts hny) hz1 hz2 h hP hS (by decide) (by decide) (by decide) (by decide) dFg_spoil_14 dFg_spoil_17 dFg_spoil_18 dFg_spoil_20 dFg_spoil_23
def fn_Fg_spoil (F : Nat) (al : Nat → Bool) (u : Mr) (x0 : Nat) (x1 : Int32) (x2 : Int32) : Option (Mr × (Nat × Int32)) := bk_Fg_spoil_0 F al u x0 x1 x2
set_option maxHeartbeats 4000000 in
set_option maxRecDepth 100000 in
theorem ct_Fg_spoil {l : Launch} (hlt : l.stackTraces = false) {D : va_G} {cA : Nat → ClassId} {ad : Nat → Nat} {L : List Nat} {rs : va_W} {al : Nat → Bool} (hal : ∀ k, al k = true → k ∈ L) (hN : L.Nodup) (F : Nat) (u : Mr) (x0 : Nat) (x1 : Int32) (x2 : Int32) (out : Mr × (Nat × Int32)) (h : fn_Fg_spoil F al u x0 x1 x2 = some out) (q0 : okk al 1 x0 = true) : CtX l yFg_spoil wsFg_spoil rm_Fg_spoil [.ref (ad x0), .int x1, .int x2] D cA ad L rs u (fun _ => none) out := by
  intro sz
  refine MetX_ofW (cc := cFg_spoil) (maxL := 3) (ret := none) (by decide) rfl ?_
  intro p e s m args below meth c s₁ B hml hv
  obtain ⟨rfl, ⟨hsz, hP, hK, hD0, hNx⟩, hz1, hz2, hny⟩ := hv
  subst hsz
  have hD := hD0.self (sz := s.heap.size)
  generalize hAe : va_A (ww ad cA L rs u) s.heap.size = A at hD hz1 hz2 ⊢
  have hA : ∀ q, s.heap.size ≤ q → A q := fun q h => by rw [← hAe]; exact Or.inr h
  have hl := lv_entry ([.ref (ad x0), .int x1, .int x2]) (n := 3) (Nat.le_of_ble_eq_true rfl)
  rw [lg_entry_eq]
  generalize (lg_sl ([.ref (ad x0), .int x1, .int x2]) ++ List.replicate (3 - (lg_sl ([.ref (ad x0), .int x1, .int x2])).length) Slot.unset).toArray = ls at hl ⊢
  have hpre := atoms_spec (ws := wsFg_spoil) B.pre
  exact wk_Fg_spoil_0 ⟨B.exec, B.bytes, hml, findClass_of_methodNamed B.named, hts_bw hpre, B.returns, B.notSynchronized, hK, hA, fun v => ww_D hD, hN, hal, hNx⟩ ⟨hlt, B.noHandlers (hpre _ List.mem_cons_self), hz1, hz2, hny⟩ F out u x0 x1 x2 h q0 _ _ _ (lv_sub hl [0, 1, 2] rfl) hP va_S.rf
abbrev rm_Fg_seal : Room := { frames := 6, cells := 1, slots := 6, locals := 100 }
def bk_Fg_seal_0 (F : Nat) (al : Nat → Bool) (u : Mr) (x0 : Nat) : Option (Mr × (Nat × Int32)) := bd1 (rdR al u x0 3 6) fun y1 => (bd2 (fn_Im_isNone F al u y1) fun u3 v3 => (if v3 = 0 then (bd1 (rdR al u3 x0 3 6) fun y4 => (bd2 (fn_Im_checksum F al u3 y4) fun u6 v6 => (bd1 (rdR al u6 x0 3 6) fun y7 => (bd2 (fn_Im_setWord F al u6 y7 (20 : Int32) v6) fun u9 v9 => (some (u9, 0, v6)))))) else (some (u3, 2, 0))))
set_option maxHeartbeats 4000000 in
set_option maxRecDepth 100000 in
theorem wk_Fg_seal_0 (cx : Cx p l e s m args below meth c cFg_seal 2 bw "ImageForge" (some .int) D cA ad L rs al A) (cy : Cy l c s A) (F : Nat) (out : Mr × (Nat × Int32)) : ∀ (u : Mr) (x0 : Nat), bk_Fg_seal_0 F al u x0 = some out → okk al 1 x0 = true → Wb p l e rm_Fg_seal s m args below meth c D cA ad L rs A (QX below s D cA ad L rs A (fun v => some (.int v)) out) 2 0 [(0, .ref (ad x0))] [] u := by
  obtain ⟨hx, hb, hml, hown, hts, hr, hlocks, hK, hA, hD, hN, hal, hNx⟩ := cx
  obtain ⟨hlt, hout, hz1, hz2, hny⟩ := cy
  intro u x0 h q0 H locs ls hl hP hS
  unfold bk_Fg_seal_0 at h
  refine lv_aload_n hx hb dFg_seal_0 rfl (lv_at hl 0 rfl) ?_
  obtain ⟨y1, hy2, h⟩ := bd1_some h
  obtain ⟨hy2a, hy2⟩ := rdR_some hy2
  refine x_get hx hb hts in_Fg hown hK hP (hal _ (okk_al q0)) (okk_t q0) rfl rfl 3 (by decide) (hts _ tw_202) (fun _ h9 => h9) (congrArg some (x_rf hy2a)) dFg_seal_1 ?_
  obtain ⟨u3, v3, hc3, h⟩ := bd2_some h
  refine x_ci (u := u) (out := (u3, v3)) hA hD hS (va_runVN (As := []) (rest := []) ⟨hx, hb, hml, hown, hts⟩ (ct_Im_isNone hal hN F u y1 (u3, v3) hc3 hy2 _) ⟨va_cnB 0 hts gdIm_isNone rfl rfl rfl (nn_30 hNx) (hts _ tw_2) hdIm_isNone ⟨Nat.le_of_ble_eq_true rfl, Nat.le_of_ble_eq_true rfl⟩, (hts _ tw_693), (hts _ tp_38)⟩ (x_preV hK hD hNx hP (hal _ (okk_al hy2)) (okk_t hy2) rfl rfl) rfl rfl hl.1 rfl (lv_room (Nat.le_of_ble_eq_true rfl)) dFg_seal_4 ⟨Nat.zero_le _, Nat.zero_le _⟩) (fun H locs hP hS => ?_)
  refine lv_if_eq (tgt := 20) hx hb dFg_seal_7 rfl (fun hc => ?_) (fun hc => ?_)
  · replace h := it_t h hc
    refine lv_aload_n hx hb dFg_seal_20 rfl (lv_at hl 0 rfl) ?_
    obtain ⟨y4, hy5, h⟩ := bd1_some h
    obtain ⟨hy5a, hy5⟩ := rdR_some hy5
    refine x_get hx hb hts in_Fg hown hK hP (hal _ (okk_al q0)) (okk_t q0) rfl rfl 3 (by decide) (hts _ tw_202) (fun _ h9 => h9) (congrArg some (x_rf hy5a)) dFg_seal_21 ?_
    obtain ⟨u6, v6, hc6, h⟩ := bd2_some h
    refine x_ci (u := u3) (out := (u6, v6)) hA hD hS (va_runVN (As := []) (rest := []) ⟨hx, hb, hml, hown, hts⟩ (ct_Im_checksum hal hN F u3 y4 (u6, v6) hc6 hy5 _) ⟨va_cnB 0 hts gdIm_checksum rfl rfl rfl (nn_31 hNx) (hts _ tw_2) hdIm_checksum ⟨Nat.le_of_ble_eq_true rfl, Nat.le_of_ble_eq_true rfl⟩, (hts _ tw_657), (hts _ tp_35)⟩ (x_preV hK hD hNx hP (hal _ (okk_al hy5)) (okk_t hy5) rfl rfl) rfl rfl hl.1 rfl (lv_room (Nat.le_of_ble_eq_true rfl)) dFg_seal_24 ⟨Nat.zero_le _, Nat.zero_le _⟩) (fun H locs hP hS => ?_)
    refine lv_istore_n (lv' := [(1, .int v6), (0, .ref (ad x0))]) hx hb dFg_seal_27 rfl hl (by decide) rfl (fun ls hl => ?_)
    refine lv_aload_n hx hb dFg_seal_28 rfl (lv_at hl 1 rfl) ?_
    obtain ⟨y7, hy8, h⟩ := bd1_some h
    obtain ⟨hy8a, hy8⟩ := rdR_some hy8
    refine x_get hx hb hts in_Fg hown hK hP (hal _ (okk_al q0)) (okk_t q0) rfl rfl 3 (by decide) (hts _ tw_202) (fun _ h9 => h9) (congrArg some (x_rf hy8a)) dFg_seal_29 ?_
    refine lv_bipush (v := 20) hx hb dFg_seal_32 (by decide) ?_
    refine lv_iload_n hx hb dFg_seal_34 rfl (lv_at hl 0 rfl) ?_
    obtain ⟨u9, v9, hc9, h⟩ := bd2_some h
    refine x_cv (u := u6) (out := (u9, v9)) hA hD hS (va_runVN (As := [.int (20 : Int32), .int v6]) (rest := []) ⟨hx, hb, hml, hown, hts⟩ (ct_Im_setWord hal hN F u6 y7 (20 : Int32) v6 (u9, v9) hc9 hy8 _) ⟨va_cnB 2 hts gdIm_setWord rfl rfl rfl (nn_32 hNx) (hts _ tw_2) hdIm_setWord ⟨Nat.le_of_ble_eq_true rfl, Nat.le_of_ble_eq_true rfl⟩, (hts _ tw_584), (hts _ tp_22)⟩ (x_preV hK hD hNx hP (hal _ (okk_al hy8)) (okk_t hy8) rfl rfl) rfl rfl hl.1 rfl (lv_room (Nat.le_of_ble_eq_true rfl)) dFg_seal_35 ⟨Nat.zero_le _, Nat.zero_le _⟩) (fun H locs hP hS => ?_)
    refine lv_iload_n hx hb dFg_seal_38 rfl (lv_at hl 0 rfl) ?_
    exact x_iretX hx hb hr hlocks h hP hS dFg_seal_39
  · replace h := it_f h hc
    obtain ⟨sa, hs10⟩ := ns_13 hny
    exact x_throw (k := 2) (v := 0) hx hb (by rw [hml]; exact hl.1.symm) hlt hlocks hown (rx := rx_2) (by decide) (by decide) (by decide) (by decide) (by decide) rfl (by decide) hout (hts _ tw_321) (hts _ tw_16) (hts _ tw_322) hs10 (hat_2 hts hny) hz1 hz2 h hP hS (by decide) (by decide) (by decide) (by decide) dFg_seal_10 dFg_seal_13 dFg_seal_14 dFg_seal_16 dFg_seal_19
def fn_Fg_seal (F : Nat) (al : Nat → Bool) (u : Mr) (x0 : Nat) : Option (Mr × (Nat × Int32)) := bk_Fg_seal_0 F al u x0
set_option maxHeartbeats 4000000 in
set_option maxRecDepth 100000 in
theorem ct_Fg_seal {l : Launch} (hlt : l.stackTraces = false) {D : va_G} {cA : Nat → ClassId} {ad : Nat → Nat} {L : List Nat} {rs : va_W} {al : Nat → Bool} (hal : ∀ k, al k = true → k ∈ L) (hN : L.Nodup) (F : Nat) (u : Mr) (x0 : Nat) (out : Mr × (Nat × Int32)) (h : fn_Fg_seal F al u x0 = some out) (q0 : okk al 1 x0 = true) : CtX l yFg_seal wsFg_seal rm_Fg_seal [.ref (ad x0)] D cA ad L rs u (fun v => some (.int v)) out := by
  intro sz
  refine MetX_ofW (cc := cFg_seal) (maxL := 2) (ret := (some .int)) (by decide) rfl ?_
  intro p e s m args below meth c s₁ B hml hv
  obtain ⟨rfl, ⟨hsz, hP, hK, hD0, hNx⟩, hz1, hz2, hny⟩ := hv
  subst hsz
  have hD := hD0.self (sz := s.heap.size)
  generalize hAe : va_A (ww ad cA L rs u) s.heap.size = A at hD hz1 hz2 ⊢
  have hA : ∀ q, s.heap.size ≤ q → A q := fun q h => by rw [← hAe]; exact Or.inr h
  have hl := lv_entry ([.ref (ad x0)]) (n := 2) (Nat.le_of_ble_eq_true rfl)
  rw [lg_entry_eq]
  generalize (lg_sl ([.ref (ad x0)]) ++ List.replicate (2 - (lg_sl ([.ref (ad x0)])).length) Slot.unset).toArray = ls at hl ⊢
  have hpre := atoms_spec (ws := wsFg_seal) B.pre
  exact wk_Fg_seal_0 ⟨B.exec, B.bytes, hml, findClass_of_methodNamed B.named, hts_bw hpre, B.returns, B.notSynchronized, hK, hA, fun v => ww_D hD, hN, hal, hNx⟩ ⟨hlt, B.noHandlers (hpre _ List.mem_cons_self), hz1, hz2, hny⟩ F out u x0 h q0 _ _ _ (lv_sub hl [0] rfl) hP va_S.rf
abbrev rm_Fg_offer : Room := { frames := 6, cells := 1, slots := 6, locals := 100 }
def bk_Fg_offer_0 (F : Nat) (al : Nat → Bool) (u : Mr) (x0 : Nat) (x1 : Int32) (x2 : Int32) (x3 : Int32) : Option (Mr × (Nat × Int32)) := bd2 (fn_Fg_isSlot F al u x1 x2) fun u1 v1 => (if v1 = 0 then (some (u1, 1, 0)) else (bd1 (rdR al u1 x0 2 4) fun y2 => (ck (inb x1 4) (bd1 (rdR al u1 y2 x1 5) fun y5 => (ck (inb x2 100) (some (stI u1 y5 x2 x3, 0, 0)))))))
set_option maxHeartbeats 4000000 in
set_option maxRecDepth 100000 in
theorem wk_Fg_offer_0 (cx : Cx p l e s m args below meth c cFg_offer 4 bw "ImageForge" none D cA ad L rs al A) (cy : Cy l c s A) (F : Nat) (out : Mr × (Nat × Int32)) : ∀ (u : Mr) (x0 : Nat) (x1 : Int32) (x2 : Int32) (x3 : Int32), bk_Fg_offer_0 F al u x0 x1 x2 x3 = some out → okk al 1 x0 = true → Wb p l e rm_Fg_offer s m args below meth c D cA ad L rs A (QX below s D cA ad L rs A (fun _ => none) out) 4 0 [(0, .ref (ad x0)), (1, .int x1), (2, .int x2), (3, .int x3)] [] u := by
  obtain ⟨hx, hb, hml, hown, hts, hr, hlocks, hK, hA, hD, hN, hal, hNx⟩ := cx
  obtain ⟨hlt, hout, hz1, hz2, hny⟩ := cy
  intro u x0 x1 x2 x3 h q0 H locs ls hl hP hS
  unfold bk_Fg_offer_0 at h
  refine lv_iload_n hx hb dFg_offer_0 rfl (lv_at hl 1 rfl) ?_
  refine lv_iload_n hx hb dFg_offer_1 rfl (lv_at hl 2 rfl) ?_
  obtain ⟨u1, v1, hc1, h⟩ := bd2_some h
  refine x_ci (u := u) (out := (u1, v1)) hA hD hS (va_runS (As := [.int x1, .int x2]) (rest := []) ⟨hx, hb, hml, hown, hts⟩ (ct_Fg_isSlot hal hN F u x1 x2 (u1, v1) hc1  _) ⟨callB_of 2 hts gdFg_isSlot rfl rfl rfl (hts _ tw_1) (hts _ tw_493) hdFg_isSlot ⟨Nat.le_of_ble_eq_true rfl, Nat.le_of_ble_eq_true rfl⟩, (hts _ tw_494)⟩ (x_preS hK hD hNx hP) rfl rfl hl.1 rfl (lv_room (Nat.le_of_ble_eq_true rfl)) dFg_offer_2 ⟨Nat.zero_le _, Nat.zero_le _⟩) (fun H locs hP hS => ?_)
  refine lv_if_ne (tgt := 18) hx hb dFg_offer_5 rfl (fun hc => ?_) (fun hc => ?_)
  · replace h := it_f h hc
    refine lv_aload_n hx hb dFg_offer_18 rfl (lv_at hl 0 rfl) ?_
    obtain ⟨y2, hy3, h⟩ := bd1_some h
    obtain ⟨hy3a, hy3⟩ := rdR_some hy3
    refine x_get hx hb hts in_Fg hown hK hP (hal _ (okk_al q0)) (okk_t q0) rfl rfl 2 (by decide) (hts _ tw_201) (fun _ h9 => h9) (congrArg some (x_rf hy3a)) dFg_offer_19 ?_
    refine lv_iload_n hx hb dFg_offer_22 rfl (lv_at hl 1 rfl) ?_
    obtain ⟨hi4, h⟩ := ck_some h
    obtain ⟨y5, hy6, h⟩ := bd1_some h
    obtain ⟨hy6a, hy6⟩ := rdR_some hy6
    refine x_aald hx hb hK hP (hal _ (okk_al hy3)) (okk_t hy3) 8 (fun _ _ _ => rfl) rfl rfl (inb_in hi4) hy6a dFg_offer_23 ?_
    refine lv_iload_n hx hb dFg_offer_24 rfl (lv_at hl 2 rfl) ?_
    refine lv_iload_n hx hb dFg_offer_25 rfl (lv_at hl 3 rfl) ?_
    obtain ⟨hi7, h⟩ := ck_some h
    refine x_iast hx hb hK hD hN hP hS (hal _ (okk_al hy6)) (okk_t hy6) 0 (fun _ _ _ => rfl) rfl (by decide) (inb_in hi7) dFg_offer_26 (fun H locs hP hS => ?_)
    exact x_vretX hx hb hr hlocks h hP hS dFg_offer_27
  · replace h := it_t h hc
    obtain ⟨sa, hs8⟩ := ns_14 hny
    exact x_throw (k := 1) (v := 0) hx hb (by rw [hml]; exact hl.1.symm) hlt hlocks hown (rx := rx_1) (by decide) (by decide) (by decide) (by decide) (by decide) rfl (by decide) hout (hts _ tw_254) (hts _ tw_15) (hts _ tw_255) hs8 (hat_1 hts hny) hz1 hz2 h hP hS (by decide) (by decide) (by decide) (by decide) dFg_offer_8 dFg_offer_11 dFg_offer_12 dFg_offer_14 dFg_offer_17
def fn_Fg_offer (F : Nat) (al : Nat → Bool) (u : Mr) (x0 : Nat) (x1 : Int32) (x2 : Int32) (x3 : Int32) : Option (Mr × (Nat × Int32)) := bk_Fg_offer_0 F al u x0 x1 x2 x3
set_option maxHeartbeats 4000000 in
set_option maxRecDepth 100000 in
theorem ct_Fg_offer {l : Launch} (hlt : l.stackTraces = false) {D : va_G} {cA : Nat → ClassId} {ad : Nat → Nat} {L : List Nat} {rs : va_W} {al : Nat → Bool} (hal : ∀ k, al k = true → k ∈ L) (hN : L.Nodup) (F : Nat) (u : Mr) (x0 : Nat) (x1 : Int32) (x2 : Int32) (x3 : Int32) (out : Mr × (Nat × Int32)) (h : fn_Fg_offer F al u x0 x1 x2 x3 = some out) (q0 : okk al 1 x0 = true) : CtX l yFg_offer wsFg_offer rm_Fg_offer [.ref (ad x0), .int x1, .int x2, .int x3] D cA ad L rs u (fun _ => none) out := by
  intro sz
  refine MetX_ofW (cc := cFg_offer) (maxL := 4) (ret := none) (by decide) rfl ?_
  intro p e s m args below meth c s₁ B hml hv
  obtain ⟨rfl, ⟨hsz, hP, hK, hD0, hNx⟩, hz1, hz2, hny⟩ := hv
  subst hsz
  have hD := hD0.self (sz := s.heap.size)
  generalize hAe : va_A (ww ad cA L rs u) s.heap.size = A at hD hz1 hz2 ⊢
  have hA : ∀ q, s.heap.size ≤ q → A q := fun q h => by rw [← hAe]; exact Or.inr h
  have hl := lv_entry ([.ref (ad x0), .int x1, .int x2, .int x3]) (n := 4) (Nat.le_of_ble_eq_true rfl)
  rw [lg_entry_eq]
  generalize (lg_sl ([.ref (ad x0), .int x1, .int x2, .int x3]) ++ List.replicate (4 - (lg_sl ([.ref (ad x0), .int x1, .int x2, .int x3])).length) Slot.unset).toArray = ls at hl ⊢
  have hpre := atoms_spec (ws := wsFg_offer) B.pre
  exact wk_Fg_offer_0 ⟨B.exec, B.bytes, hml, findClass_of_methodNamed B.named, hts_bw hpre, B.returns, B.notSynchronized, hK, hA, fun v => ww_D hD, hN, hal, hNx⟩ ⟨hlt, B.noHandlers (hpre _ List.mem_cons_self), hz1, hz2, hny⟩ F out u x0 x1 x2 x3 h q0 _ _ _ (lv_sub hl [0, 1, 2, 3] rfl) hP va_S.rf
abbrev rm_Fg_load : Room := { frames := 6, cells := 1, slots := 6, locals := 148 }
def bk_Fg_load_17 (F : Nat) (al : Nat → Bool) (u : Mr) : Option (Mr × (Nat × Int32)) := some (u, 1, 0)
set_option maxHeartbeats 4000000 in
set_option maxRecDepth 100000 in
theorem wk_Fg_load_17 (cx : Cx p l e s m args below meth c cFg_load 2 bw "ImageForge" (some .int) D cA ad L rs al A) (cy : Cy l c s A) (F : Nat) (out : Mr × (Nat × Int32)) : ∀ (u : Mr), bk_Fg_load_17 F al u = some out → Wb p l e rm_Fg_load s m args below meth c D cA ad L rs A (QX below s D cA ad L rs A (fun v => some (.int v)) out) 2 17 [] [] u := by
  obtain ⟨hx, hb, hml, hown, hts, hr, hlocks, hK, hA, hD, hN, hal, hNx⟩ := cx
  obtain ⟨hlt, hout, hz1, hz2, hny⟩ := cy
  intro u h H locs ls hl hP hS
  unfold bk_Fg_load_17 at h
  obtain ⟨sa, hs1⟩ := ns_15 hny
  exact x_throw (k := 1) (v := 0) hx hb (by rw [hml]; exact hl.1.symm) hlt hlocks hown (rx := rx_1) (by decide) (by decide) (by decide) (by decide) (by decide) rfl (by decide) hout (hts _ tw_254) (hts _ tw_15) (hts _ tw_255) hs1 (hat_1 hts hny) hz1 hz2 h hP hS (by decide) (by decide) (by decide) (by decide) dFg_load_17 dFg_load_20 dFg_load_21 dFg_load_23 dFg_load_26
def bk_Fg_load_0 (F : Nat) (al : Nat → Bool) (u : Mr) (x0 : Nat) (x1 : Int32) : Option (Mr × (Nat × Int32)) := if x1 < 0 then (bk_Fg_load_17 F al u) else (if (1073741824 : Int32) < x1 then (bk_Fg_load_17 F al u) else (if (x1 - x1 / (64 : Int32) * (64 : Int32)) = 0 then (bd1 (rdR al u x0 3 6) fun y1 => (bd2 (fn_Im_isNone F al u y1) fun u3 v3 => (if v3 = 0 then (bd1 (rdR al u3 x0 5 13) fun y4 => (bd1 (rdR al u3 x0 3 6) fun y6 => (bd1 (rdR al u3 x0 2 4) fun y8 => (bd2 (fn_Ld_bring F al u3 y4 y6 y8 x1) fun u10 v10 => (some (u10, 0, v10)))))) else (some (u3, 2, 0))))) else (bk_Fg_load_17 F al u)))
set_option maxHeartbeats 4000000 in
set_option maxRecDepth 100000 in
theorem wk_Fg_load_0 (cx : Cx p l e s m args below meth c cFg_load 2 bw "ImageForge" (some .int) D cA ad L rs al A) (cy : Cy l c s A) (F : Nat) (out : Mr × (Nat × Int32)) : ∀ (u : Mr) (x0 : Nat) (x1 : Int32), bk_Fg_load_0 F al u x0 x1 = some out → okk al 1 x0 = true → Wb p l e rm_Fg_load s m args below meth c D cA ad L rs A (QX below s D cA ad L rs A (fun v => some (.int v)) out) 2 0 [(0, .ref (ad x0)), (1, .int x1)] [] u := by
  obtain ⟨hx, hb, hml, hown, hts, hr, hlocks, hK, hA, hD, hN, hal, hNx⟩ := cx
  obtain ⟨hlt, hout, hz1, hz2, hny⟩ := cy
  intro u x0 x1 h q0 H locs ls hl hP hS
  unfold bk_Fg_load_0 at h
  refine lv_iload_n hx hb dFg_load_0 rfl (lv_at hl 1 rfl) ?_
  refine lv_if_lt (tgt := 17) hx hb dFg_load_1 rfl (fun hc => ?_) (fun hc => ?_)
  · replace h := it_t h hc
    exact wk_Fg_load_17 ⟨hx, hb, hml, hown, hts, hr, hlocks, hK, hA, hD, hN, hal, hNx⟩ ⟨hlt, hout, hz1, hz2, hny⟩ F out u h _ _ _ (lv_sub hl [] rfl) hP hS
  · replace h := it_f h hc
    refine lv_iload_n hx hb dFg_load_4 rfl (lv_at hl 1 rfl) ?_
    refine lv_ldc (v := 1073741824) hx hb hown (hts _ tw_713) dFg_load_5 ?_
    refine lv_icmp_gt (tgt := 17) hx hb dFg_load_7 rfl (fun hc => ?_) (fun hc => ?_)
    · replace h := it_t h hc
      exact wk_Fg_load_17 ⟨hx, hb, hml, hown, hts, hr, hlocks, hK, hA, hD, hN, hal, hNx⟩ ⟨hlt, hout, hz1, hz2, hny⟩ F out u h _ _ _ (lv_sub hl [] rfl) hP hS
    · replace h := it_f h hc
      refine lv_iload_n hx hb dFg_load_10 rfl (lv_at hl 1 rfl) ?_
      refine lv_bipush (v := 64) hx hb dFg_load_11 (by decide) ?_
      refine lv_irem hx hb dFg_load_13 (by decide) ?_
      refine lv_if_eq (tgt := 27) hx hb dFg_load_14 rfl (fun hc => ?_) (fun hc => ?_)
      · replace h := it_t h hc
        refine lv_aload_n hx hb dFg_load_27 rfl (lv_at hl 0 rfl) ?_
        obtain ⟨y1, hy2, h⟩ := bd1_some h
        obtain ⟨hy2a, hy2⟩ := rdR_some hy2
        refine x_get hx hb hts in_Fg hown hK hP (hal _ (okk_al q0)) (okk_t q0) rfl rfl 3 (by decide) (hts _ tw_202) (fun _ h9 => h9) (congrArg some (x_rf hy2a)) dFg_load_28 ?_
        obtain ⟨u3, v3, hc3, h⟩ := bd2_some h
        refine x_ci (u := u) (out := (u3, v3)) hA hD hS (va_runVN (As := []) (rest := []) ⟨hx, hb, hml, hown, hts⟩ (ct_Im_isNone hal hN F u y1 (u3, v3) hc3 hy2 _) ⟨va_cnB 0 hts gdIm_isNone rfl rfl rfl (nn_30 hNx) (hts _ tw_2) hdIm_isNone ⟨Nat.le_of_ble_eq_true rfl, Nat.le_of_ble_eq_true rfl⟩, (hts _ tw_693), (hts _ tp_38)⟩ (x_preV hK hD hNx hP (hal _ (okk_al hy2)) (okk_t hy2) rfl rfl) rfl rfl hl.1 rfl (lv_room (Nat.le_of_ble_eq_true rfl)) dFg_load_31 ⟨Nat.zero_le _, Nat.zero_le _⟩) (fun H locs hP hS => ?_)
        refine lv_if_eq (tgt := 47) hx hb dFg_load_34 rfl (fun hc => ?_) (fun hc => ?_)
        · replace h := it_t h hc
          refine lv_aload_n hx hb dFg_load_47 rfl (lv_at hl 0 rfl) ?_
          obtain ⟨y4, hy5, h⟩ := bd1_some h
          obtain ⟨hy5a, hy5⟩ := rdR_some hy5
          refine x_get hx hb hts in_Fg hown hK hP (hal _ (okk_al q0)) (okk_t q0) rfl rfl 5 (by decide) (hts _ tw_204) (fun _ h9 => h9) (congrArg some (x_rf hy5a)) dFg_load_48 ?_
          refine lv_aload_n hx hb dFg_load_51 rfl (lv_at hl 0 rfl) ?_
          obtain ⟨y6, hy7, h⟩ := bd1_some h
          obtain ⟨hy7a, hy7⟩ := rdR_some hy7
          refine x_get hx hb hts in_Fg hown hK hP (hal _ (okk_al q0)) (okk_t q0) rfl rfl 3 (by decide) (hts _ tw_202) (fun _ h9 => h9) (congrArg some (x_rf hy7a)) dFg_load_52 ?_
          refine lv_aload_n hx hb dFg_load_55 rfl (lv_at hl 0 rfl) ?_
          obtain ⟨y8, hy9, h⟩ := bd1_some h
          obtain ⟨hy9a, hy9⟩ := rdR_some hy9
          refine x_get hx hb hts in_Fg hown hK hP (hal _ (okk_al q0)) (okk_t q0) rfl rfl 2 (by decide) (hts _ tw_201) (fun _ h9 => h9) (congrArg some (x_rf hy9a)) dFg_load_56 ?_
          refine lv_iload_n hx hb dFg_load_59 rfl (lv_at hl 1 rfl) ?_
          obtain ⟨u10, v10, hc10, h⟩ := bd2_some h
          refine x_ci (u := u3) (out := (u10, v10)) hA hD hS (va_runVN (As := [.ref (ad y6), .ref (ad y8), .int x1]) (rest := []) ⟨hx, hb, hml, hown, hts⟩ (ct_Ld_bring hal hN F u3 y4 y6 y8 x1 (u10, v10) hc10 hy5 hy7 hy9 _) ⟨va_cnB 3 hts gdLd_bring rfl rfl rfl (nn_33 hNx) (hts _ tw_4) hdLd_bring ⟨Nat.le_of_ble_eq_true rfl, Nat.le_of_ble_eq_true rfl⟩, (hts _ tw_717), (hts _ tp_39)⟩ (x_preV hK hD hNx hP (hal _ (okk_al hy5)) (okk_t hy5) rfl rfl) rfl rfl hl.1 rfl (lv_room (Nat.le_of_ble_eq_true rfl)) dFg_load_60 ⟨Nat.zero_le _, Nat.zero_le _⟩) (fun H locs hP hS => ?_)
          exact x_iretX hx hb hr hlocks h hP hS dFg_load_63
        · replace h := it_f h hc
          obtain ⟨sa, hs11⟩ := ns_13 hny
          exact x_throw (k := 2) (v := 0) hx hb (by rw [hml]; exact hl.1.symm) hlt hlocks hown (rx := rx_2) (by decide) (by decide) (by decide) (by decide) (by decide) rfl (by decide) hout (hts _ tw_321) (hts _ tw_16) (hts _ tw_322) hs11 (hat_2 hts hny) hz1 hz2 h hP hS (by decide) (by decide) (by decide) (by decide) dFg_load_37 dFg_load_40 dFg_load_41 dFg_load_43 dFg_load_46
      · replace h := it_f h hc
        exact wk_Fg_load_17 ⟨hx, hb, hml, hown, hts, hr, hlocks, hK, hA, hD, hN, hal, hNx⟩ ⟨hlt, hout, hz1, hz2, hny⟩ F out u h _ _ _ (lv_sub hl [] rfl) hP hS
def fn_Fg_load (F : Nat) (al : Nat → Bool) (u : Mr) (x0 : Nat) (x1 : Int32) : Option (Mr × (Nat × Int32)) := bk_Fg_load_0 F al u x0 x1
set_option maxHeartbeats 4000000 in
set_option maxRecDepth 100000 in
theorem ct_Fg_load {l : Launch} (hlt : l.stackTraces = false) {D : va_G} {cA : Nat → ClassId} {ad : Nat → Nat} {L : List Nat} {rs : va_W} {al : Nat → Bool} (hal : ∀ k, al k = true → k ∈ L) (hN : L.Nodup) (F : Nat) (u : Mr) (x0 : Nat) (x1 : Int32) (out : Mr × (Nat × Int32)) (h : fn_Fg_load F al u x0 x1 = some out) (q0 : okk al 1 x0 = true) : CtX l yFg_load wsFg_load rm_Fg_load [.ref (ad x0), .int x1] D cA ad L rs u (fun v => some (.int v)) out := by
  intro sz
  refine MetX_ofW (cc := cFg_load) (maxL := 2) (ret := (some .int)) (by decide) rfl ?_
  intro p e s m args below meth c s₁ B hml hv
  obtain ⟨rfl, ⟨hsz, hP, hK, hD0, hNx⟩, hz1, hz2, hny⟩ := hv
  subst hsz
  have hD := hD0.self (sz := s.heap.size)
  generalize hAe : va_A (ww ad cA L rs u) s.heap.size = A at hD hz1 hz2 ⊢
  have hA : ∀ q, s.heap.size ≤ q → A q := fun q h => by rw [← hAe]; exact Or.inr h
  have hl := lv_entry ([.ref (ad x0), .int x1]) (n := 2) (Nat.le_of_ble_eq_true rfl)
  rw [lg_entry_eq]
  generalize (lg_sl ([.ref (ad x0), .int x1]) ++ List.replicate (2 - (lg_sl ([.ref (ad x0), .int x1])).length) Slot.unset).toArray = ls at hl ⊢
  have hpre := atoms_spec (ws := wsFg_load) B.pre
  exact wk_Fg_load_0 ⟨B.exec, B.bytes, hml, findClass_of_methodNamed B.named, hts_bw hpre, B.returns, B.notSynchronized, hK, hA, fun v => ww_D hD, hN, hal, hNx⟩ ⟨hlt, B.noHandlers (hpre _ List.mem_cons_self), hz1, hz2, hny⟩ F out u x0 x1 h q0 _ _ _ (lv_sub hl [0, 1] rfl) hP va_S.rf
end

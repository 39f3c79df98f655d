abbrev yMd_refuse : MethodName := ⟨"ImageForgeModel", "refuse", "(I)V"⟩
abbrev cMd_refuse : ByteArray := prog_10_method_34_code
abbrev wsMd_refuse : List Cond := .code yMd_refuse cMd_refuse 2 none :: bw
theorem gdMd_refuse : GoodIn bw wsMd_refuse := gd_of tw_1019
theorem hdMd_refuse : yMd_refuse.cls ≠ "java/lang/invoke/MethodHandle" ∧ yMd_refuse.cls ≠ "java/lang/invoke/VarHandle" ∧ (parseMethodDescriptor yMd_refuse.desc).map (fun d => d.parameters.length) = some 1 := by decide +kernel
theorem dMd_refuse_0 : decode cMd_refuse 0 = .ok (.aload_n 0, 1) := by decide +kernel
theorem dMd_refuse_1 : decode cMd_refuse 1 = .ok (.getfield 166, 3) := by decide +kernel
theorem dMd_refuse_4 : decode cMd_refuse 4 = .ok (.ifCond .ne 8, 3) := by decide +kernel
theorem dMd_refuse_7 : decode cMd_refuse 7 = .ok (.aload_n 0, 1) := by decide +kernel
theorem dMd_refuse_8 : decode cMd_refuse 8 = .ok (.iload_n 1, 1) := by decide +kernel
theorem dMd_refuse_9 : decode cMd_refuse 9 = .ok (.putfield 166, 3) := by decide +kernel
theorem dMd_refuse_12 : decode cMd_refuse 12 = .ok (.return_, 1) := by decide +kernel
abbrev yMd_lies : MethodName := ⟨"ImageForgeModel", "lies", "(JJJ)Z"⟩
abbrev cMd_lies : ByteArray := prog_10_method_35_code
abbrev wsMd_lies : List Cond := .code yMd_lies cMd_lies 6 (some .boolean) :: bw
theorem gdMd_lies : GoodIn bw wsMd_lies := gd_of tw_1022
theorem hdMd_lies : yMd_lies.cls ≠ "java/lang/invoke/MethodHandle" ∧ yMd_lies.cls ≠ "java/lang/invoke/VarHandle" ∧ (parseMethodDescriptor yMd_lies.desc).map (fun d => d.parameters.length) = some 3 := by decide +kernel
theorem dMd_lies_0 : decode cMd_lies 0 = .ok (.lload_n 0, 1) := by decide +kernel
theorem dMd_lies_1 : decode cMd_lies 1 = .ok (.lconst 0, 1) := by decide +kernel
theorem dMd_lies_2 : decode cMd_lies 2 = .ok (.lcmp, 1) := by decide +kernel
theorem dMd_lies_3 : decode cMd_lies 3 = .ok (.ifCond .lt 22, 3) := by decide +kernel
theorem dMd_lies_6 : decode cMd_lies 6 = .ok (.lload_n 2, 1) := by decide +kernel
theorem dMd_lies_7 : decode cMd_lies 7 = .ok (.lconst 0, 1) := by decide +kernel
theorem dMd_lies_8 : decode cMd_lies 8 = .ok (.lcmp, 1) := by decide +kernel
theorem dMd_lies_9 : decode cMd_lies 9 = .ok (.ifCond .lt 16, 3) := by decide +kernel
theorem dMd_lies_12 : decode cMd_lies 12 = .ok (.lload_n 0, 1) := by decide +kernel
theorem dMd_lies_13 : decode cMd_lies 13 = .ok (.lload_n 2, 1) := by decide +kernel
theorem dMd_lies_14 : decode cMd_lies 14 = .ok (.ladd, 1) := by decide +kernel
theorem dMd_lies_15 : decode cMd_lies 15 = .ok (.lload 4, 2) := by decide +kernel
theorem dMd_lies_17 : decode cMd_lies 17 = .ok (.lcmp, 1) := by decide +kernel
theorem dMd_lies_18 : decode cMd_lies 18 = .ok (.ifCond .gt 7, 3) := by decide +kernel
theorem dMd_lies_21 : decode cMd_lies 21 = .ok (.iconst 1, 1) := by decide +kernel
theorem dMd_lies_22 : decode cMd_lies 22 = .ok (.goto 4, 3) := by decide +kernel
theorem dMd_lies_25 : decode cMd_lies 25 = .ok (.iconst 0, 1) := by decide +kernel
theorem dMd_lies_26 : decode cMd_lies 26 = .ok (.ireturn, 1) := by decide +kernel
abbrev yMd_change : MethodName := ⟨"ImageForgeModel", "change", "(II)V"⟩
abbrev cMd_change : ByteArray := prog_10_method_36_code
abbrev wsMd_change : List Cond := .code yMd_change cMd_change 4 none :: bw
theorem gdMd_change : GoodIn bw wsMd_change := gd_of tw_1035
theorem hdMd_change : yMd_change.cls ≠ "java/lang/invoke/MethodHandle" ∧ yMd_change.cls ≠ "java/lang/invoke/VarHandle" ∧ (parseMethodDescriptor yMd_change.desc).map (fun d => d.parameters.length) = some 2 := by decide +kernel
theorem dMd_change_0 : decode cMd_change 0 = .ok (.iconst 0, 1) := by decide +kernel
theorem dMd_change_1 : decode cMd_change 1 = .ok (.istore_n 3, 1) := by decide +kernel
theorem dMd_change_2 : decode cMd_change 2 = .ok (.iload_n 3, 1) := by decide +kernel
theorem dMd_change_3 : decode cMd_change 3 = .ok (.iconst 4, 1) := by decide +kernel
theorem dMd_change_4 : decode cMd_change 4 = .ok (.if_icmp .ge 27, 3) := by decide +kernel
theorem dMd_change_7 : decode cMd_change 7 = .ok (.aload_n 0, 1) := by decide +kernel
theorem dMd_change_8 : decode cMd_change 8 = .ok (.getfield 77, 3) := by decide +kernel
theorem dMd_change_11 : decode cMd_change 11 = .ok (.iload_n 1, 1) := by decide +kernel
theorem dMd_change_12 : decode cMd_change 12 = .ok (.iload_n 3, 1) := by decide +kernel
theorem dMd_change_13 : decode cMd_change 13 = .ok (.iadd, 1) := by decide +kernel
theorem dMd_change_14 : decode cMd_change 14 = .ok (.iload_n 2, 1) := by decide +kernel
theorem dMd_change_15 : decode cMd_change 15 = .ok (.bipush 8, 2) := by decide +kernel
theorem dMd_change_17 : decode cMd_change 17 = .ok (.iload_n 3, 1) := by decide +kernel
theorem dMd_change_18 : decode cMd_change 18 = .ok (.imul, 1) := by decide +kernel
theorem dMd_change_19 : decode cMd_change 19 = .ok (.ishr, 1) := by decide +kernel
theorem dMd_change_20 : decode cMd_change 20 = .ok (.sipush 255, 3) := by decide +kernel
theorem dMd_change_23 : decode cMd_change 23 = .ok (.iand, 1) := by decide +kernel
theorem dMd_change_24 : decode cMd_change 24 = .ok (.iastore, 1) := by decide +kernel
theorem dMd_change_25 : decode cMd_change 25 = .ok (.iinc 3 1, 3) := by decide +kernel
theorem dMd_change_28 : decode cMd_change 28 = .ok (.goto (-26), 3) := by decide +kernel
theorem dMd_change_31 : decode cMd_change 31 = .ok (.return_, 1) := by decide +kernel
abbrev yMd_checkHeader : MethodName := ⟨"ImageForgeModel", "checkHeader", "()V"⟩
abbrev cMd_checkHeader : ByteArray := prog_10_method_37_code
abbrev wsMd_checkHeader : List Cond := .code yMd_checkHeader cMd_checkHeader 2 none :: bw
theorem gdMd_checkHeader : GoodIn bw wsMd_checkHeader := gd_of tw_1015
theorem hdMd_checkHeader : yMd_checkHeader.cls ≠ "java/lang/invoke/MethodHandle" ∧ yMd_checkHeader.cls ≠ "java/lang/invoke/VarHandle" ∧ (parseMethodDescriptor yMd_checkHeader.desc).map (fun d => d.parameters.length) = some 0 := by decide +kernel
theorem dMd_checkHeader_0 : decode cMd_checkHeader 0 = .ok (.aload_n 0, 1) := by decide +kernel
theorem dMd_checkHeader_1 : decode cMd_checkHeader 1 = .ok (.getfield 56, 3) := by decide +kernel
theorem dMd_checkHeader_4 : decode cMd_checkHeader 4 = .ok (.iconst 0, 1) := by decide +kernel
theorem dMd_checkHeader_5 : decode cMd_checkHeader 5 = .ok (.invokestatic 128, 3) := by decide +kernel
theorem dMd_checkHeader_8 : decode cMd_checkHeader 8 = .ok (.sipush 23117, 3) := by decide +kernel
theorem dMd_checkHeader_11 : decode cMd_checkHeader 11 = .ok (.if_icmp .ne 31, 3) := by decide +kernel
theorem dMd_checkHeader_14 : decode cMd_checkHeader 14 = .ok (.aload_n 0, 1) := by decide +kernel
theorem dMd_checkHeader_15 : decode cMd_checkHeader 15 = .ok (.getfield 56, 3) := by decide +kernel
theorem dMd_checkHeader_18 : decode cMd_checkHeader 18 = .ok (.iconst 4, 1) := by decide +kernel
theorem dMd_checkHeader_19 : decode cMd_checkHeader 19 = .ok (.invokestatic 128, 3) := by decide +kernel
theorem dMd_checkHeader_22 : decode cMd_checkHeader 22 = .ok (.iconst 5, 1) := by decide +kernel
theorem dMd_checkHeader_23 : decode cMd_checkHeader 23 = .ok (.if_icmp .ne 19, 3) := by decide +kernel
theorem dMd_checkHeader_26 : decode cMd_checkHeader 26 = .ok (.aload_n 0, 1) := by decide +kernel
theorem dMd_checkHeader_27 : decode cMd_checkHeader 27 = .ok (.getfield 56, 3) := by decide +kernel
theorem dMd_checkHeader_30 : decode cMd_checkHeader 30 = .ok (.bipush 12, 2) := by decide +kernel
theorem dMd_checkHeader_32 : decode cMd_checkHeader 32 = .ok (.invokestatic 128, 3) := by decide +kernel
theorem dMd_checkHeader_35 : decode cMd_checkHeader 35 = .ok (.aload_n 0, 1) := by decide +kernel
theorem dMd_checkHeader_36 : decode cMd_checkHeader 36 = .ok (.getfield 163, 3) := by decide +kernel
theorem dMd_checkHeader_39 : decode cMd_checkHeader 39 = .ok (.if_icmp .eq 8, 3) := by decide +kernel
theorem dMd_checkHeader_42 : decode cMd_checkHeader 42 = .ok (.aload_n 0, 1) := by decide +kernel
theorem dMd_checkHeader_43 : decode cMd_checkHeader 43 = .ok (.iconst 1, 1) := by decide +kernel
theorem dMd_checkHeader_44 : decode cMd_checkHeader 44 = .ok (.invokevirtual 169, 3) := by decide +kernel
theorem dMd_checkHeader_47 : decode cMd_checkHeader 47 = .ok (.aload_n 0, 1) := by decide +kernel
theorem dMd_checkHeader_48 : decode cMd_checkHeader 48 = .ok (.getfield 56, 3) := by decide +kernel
theorem dMd_checkHeader_51 : decode cMd_checkHeader 51 = .ok (.bipush 20, 2) := by decide +kernel
theorem dMd_checkHeader_53 : decode cMd_checkHeader 53 = .ok (.invokestatic 128, 3) := by decide +kernel
theorem dMd_checkHeader_56 : decode cMd_checkHeader 56 = .ok (.aload_n 0, 1) := by decide +kernel
theorem dMd_checkHeader_57 : decode cMd_checkHeader 57 = .ok (.aload_n 0, 1) := by decide +kernel
theorem dMd_checkHeader_58 : decode cMd_checkHeader 58 = .ok (.getfield 56, 3) := by decide +kernel
theorem dMd_checkHeader_61 : decode cMd_checkHeader 61 = .ok (.aload_n 0, 1) := by decide +kernel
theorem dMd_checkHeader_62 : decode cMd_checkHeader 62 = .ok (.getfield 163, 3) := by decide +kernel
theorem dMd_checkHeader_65 : decode cMd_checkHeader 65 = .ok (.invokevirtual 136, 3) := by decide +kernel
theorem dMd_checkHeader_68 : decode cMd_checkHeader 68 = .ok (.if_icmp .eq 8, 3) := by decide +kernel
theorem dMd_checkHeader_71 : decode cMd_checkHeader 71 = .ok (.aload_n 0, 1) := by decide +kernel
theorem dMd_checkHeader_72 : decode cMd_checkHeader 72 = .ok (.iconst 2, 1) := by decide +kernel
theorem dMd_checkHeader_73 : decode cMd_checkHeader 73 = .ok (.invokevirtual 169, 3) := by decide +kernel
theorem dMd_checkHeader_76 : decode cMd_checkHeader 76 = .ok (.iconst 0, 1) := by decide +kernel
theorem dMd_checkHeader_77 : decode cMd_checkHeader 77 = .ok (.istore_n 1, 1) := by decide +kernel
theorem dMd_checkHeader_78 : decode cMd_checkHeader 78 = .ok (.iload_n 1, 1) := by decide +kernel
theorem dMd_checkHeader_79 : decode cMd_checkHeader 79 = .ok (.iconst 5, 1) := by decide +kernel
theorem dMd_checkHeader_80 : decode cMd_checkHeader 80 = .ok (.if_icmp .ge 55, 3) := by decide +kernel
theorem dMd_checkHeader_83 : decode cMd_checkHeader 83 = .ok (.aload_n 0, 1) := by decide +kernel
theorem dMd_checkHeader_84 : decode cMd_checkHeader 84 = .ok (.getfield 56, 3) := by decide +kernel
theorem dMd_checkHeader_87 : decode cMd_checkHeader 87 = .ok (.bipush 24, 2) := by decide +kernel
theorem dMd_checkHeader_89 : decode cMd_checkHeader 89 = .ok (.bipush 8, 2) := by decide +kernel
theorem dMd_checkHeader_91 : decode cMd_checkHeader 91 = .ok (.iload_n 1, 1) := by decide +kernel
theorem dMd_checkHeader_92 : decode cMd_checkHeader 92 = .ok (.imul, 1) := by decide +kernel
theorem dMd_checkHeader_93 : decode cMd_checkHeader 93 = .ok (.iadd, 1) := by decide +kernel
theorem dMd_checkHeader_94 : decode cMd_checkHeader 94 = .ok (.invokestatic 128, 3) := by decide +kernel
theorem dMd_checkHeader_97 : decode cMd_checkHeader 97 = .ok (.i2l, 1) := by decide +kernel
theorem dMd_checkHeader_98 : decode cMd_checkHeader 98 = .ok (.aload_n 0, 1) := by decide +kernel
theorem dMd_checkHeader_99 : decode cMd_checkHeader 99 = .ok (.getfield 56, 3) := by decide +kernel
theorem dMd_checkHeader_102 : decode cMd_checkHeader 102 = .ok (.bipush 28, 2) := by decide +kernel
theorem dMd_checkHeader_104 : decode cMd_checkHeader 104 = .ok (.bipush 8, 2) := by decide +kernel
theorem dMd_checkHeader_106 : decode cMd_checkHeader 106 = .ok (.iload_n 1, 1) := by decide +kernel
theorem dMd_checkHeader_107 : decode cMd_checkHeader 107 = .ok (.imul, 1) := by decide +kernel
theorem dMd_checkHeader_108 : decode cMd_checkHeader 108 = .ok (.iadd, 1) := by decide +kernel
theorem dMd_checkHeader_109 : decode cMd_checkHeader 109 = .ok (.invokestatic 128, 3) := by decide +kernel
theorem dMd_checkHeader_112 : decode cMd_checkHeader 112 = .ok (.i2l, 1) := by decide +kernel
theorem dMd_checkHeader_113 : decode cMd_checkHeader 113 = .ok (.aload_n 0, 1) := by decide +kernel
theorem dMd_checkHeader_114 : decode cMd_checkHeader 114 = .ok (.getfield 163, 3) := by decide +kernel
theorem dMd_checkHeader_117 : decode cMd_checkHeader 117 = .ok (.i2l, 1) := by decide +kernel
theorem dMd_checkHeader_118 : decode cMd_checkHeader 118 = .ok (.invokestatic 172, 3) := by decide +kernel
theorem dMd_checkHeader_121 : decode cMd_checkHeader 121 = .ok (.ifCond .ne 8, 3) := by decide +kernel
theorem dMd_checkHeader_124 : decode cMd_checkHeader 124 = .ok (.aload_n 0, 1) := by decide +kernel
theorem dMd_checkHeader_125 : decode cMd_checkHeader 125 = .ok (.iconst 3, 1) := by decide +kernel
theorem dMd_checkHeader_126 : decode cMd_checkHeader 126 = .ok (.invokevirtual 169, 3) := by decide +kernel
theorem dMd_checkHeader_129 : decode cMd_checkHeader 129 = .ok (.iinc 1 1, 3) := by decide +kernel
theorem dMd_checkHeader_132 : decode cMd_checkHeader 132 = .ok (.goto (-54), 3) := by decide +kernel
theorem dMd_checkHeader_135 : decode cMd_checkHeader 135 = .ok (.return_, 1) := by decide +kernel
abbrev yMd_entry : MethodName := ⟨"ImageForgeModel", "entry", "(III)V"⟩
abbrev cMd_entry : ByteArray := prog_10_method_38_code
abbrev wsMd_entry : List Cond := .code yMd_entry cMd_entry 7 none :: bw
theorem gdMd_entry : GoodIn bw wsMd_entry := gd_of tw_1030
theorem hdMd_entry : yMd_entry.cls ≠ "java/lang/invoke/MethodHandle" ∧ yMd_entry.cls ≠ "java/lang/invoke/VarHandle" ∧ (parseMethodDescriptor yMd_entry.desc).map (fun d => d.parameters.length) = some 3 := by decide +kernel
theorem dMd_entry_0 : decode cMd_entry 0 = .ok (.iload_n 1, 1) := by decide +kernel
theorem dMd_entry_1 : decode cMd_entry 1 = .ok (.i2l, 1) := by decide +kernel
theorem dMd_entry_2 : decode cMd_entry 2 = .ok (.iload_n 2, 1) := by decide +kernel
theorem dMd_entry_3 : decode cMd_entry 3 = .ok (.sipush 4095, 3) := by decide +kernel
theorem dMd_entry_6 : decode cMd_entry 6 = .ok (.iand, 1) := by decide +kernel
theorem dMd_entry_7 : decode cMd_entry 7 = .ok (.i2l, 1) := by decide +kernel
theorem dMd_entry_8 : decode cMd_entry 8 = .ok (.ladd, 1) := by decide +kernel
theorem dMd_entry_9 : decode cMd_entry 9 = .ok (.lstore 4, 2) := by decide +kernel
theorem dMd_entry_11 : decode cMd_entry 11 = .ok (.iload_n 2, 1) := by decide +kernel
theorem dMd_entry_12 : decode cMd_entry 12 = .ok (.bipush 12, 2) := by decide +kernel
theorem dMd_entry_14 : decode cMd_entry 14 = .ok (.ishr, 1) := by decide +kernel
theorem dMd_entry_15 : decode cMd_entry 15 = .ok (.istore 6, 2) := by decide +kernel
theorem dMd_entry_17 : decode cMd_entry 17 = .ok (.iload 6, 2) := by decide +kernel
theorem dMd_entry_19 : decode cMd_entry 19 = .ok (.ifCond .eq 9, 3) := by decide +kernel
theorem dMd_entry_22 : decode cMd_entry 22 = .ok (.iload 6, 2) := by decide +kernel
theorem dMd_entry_24 : decode cMd_entry 24 = .ok (.iconst 3, 1) := by decide +kernel
theorem dMd_entry_25 : decode cMd_entry 25 = .ok (.if_icmp .ne 25, 3) := by decide +kernel
theorem dMd_entry_28 : decode cMd_entry 28 = .ok (.iload 6, 2) := by decide +kernel
theorem dMd_entry_30 : decode cMd_entry 30 = .ok (.iconst 3, 1) := by decide +kernel
theorem dMd_entry_31 : decode cMd_entry 31 = .ok (.if_icmp .ne 25, 3) := by decide +kernel
theorem dMd_entry_34 : decode cMd_entry 34 = .ok (.lload 4, 2) := by decide +kernel
theorem dMd_entry_36 : decode cMd_entry 36 = .ok (.ldc2_w 176, 3) := by decide +kernel
theorem dMd_entry_39 : decode cMd_entry 39 = .ok (.aload_n 0, 1) := by decide +kernel
theorem dMd_entry_40 : decode cMd_entry 40 = .ok (.getfield 163, 3) := by decide +kernel
theorem dMd_entry_43 : decode cMd_entry 43 = .ok (.i2l, 1) := by decide +kernel
theorem dMd_entry_44 : decode cMd_entry 44 = .ok (.invokestatic 172, 3) := by decide +kernel
theorem dMd_entry_47 : decode cMd_entry 47 = .ok (.ifCond .ne 9, 3) := by decide +kernel
theorem dMd_entry_50 : decode cMd_entry 50 = .ok (.aload_n 0, 1) := by decide +kernel
theorem dMd_entry_51 : decode cMd_entry 51 = .ok (.iconst 3, 1) := by decide +kernel
theorem dMd_entry_52 : decode cMd_entry 52 = .ok (.invokevirtual 169, 3) := by decide +kernel
theorem dMd_entry_55 : decode cMd_entry 55 = .ok (.return_, 1) := by decide +kernel
theorem dMd_entry_56 : decode cMd_entry 56 = .ok (.iload 6, 2) := by decide +kernel
theorem dMd_entry_58 : decode cMd_entry 58 = .ok (.iconst 3, 1) := by decide +kernel
theorem dMd_entry_59 : decode cMd_entry 59 = .ok (.if_icmp .ne 22, 3) := by decide +kernel
theorem dMd_entry_62 : decode cMd_entry 62 = .ok (.aload_n 0, 1) := by decide +kernel
theorem dMd_entry_63 : decode cMd_entry 63 = .ok (.lload 4, 2) := by decide +kernel
theorem dMd_entry_65 : decode cMd_entry 65 = .ok (.l2i, 1) := by decide +kernel
theorem dMd_entry_66 : decode cMd_entry 66 = .ok (.aload_n 0, 1) := by decide +kernel
theorem dMd_entry_67 : decode cMd_entry 67 = .ok (.getfield 77, 3) := by decide +kernel
theorem dMd_entry_70 : decode cMd_entry 70 = .ok (.lload 4, 2) := by decide +kernel
theorem dMd_entry_72 : decode cMd_entry 72 = .ok (.l2i, 1) := by decide +kernel
theorem dMd_entry_73 : decode cMd_entry 73 = .ok (.invokestatic 128, 3) := by decide +kernel
theorem dMd_entry_76 : decode cMd_entry 76 = .ok (.iload_n 3, 1) := by decide +kernel
theorem dMd_entry_77 : decode cMd_entry 77 = .ok (.iadd, 1) := by decide +kernel
theorem dMd_entry_78 : decode cMd_entry 78 = .ok (.invokevirtual 178, 3) := by decide +kernel
theorem dMd_entry_81 : decode cMd_entry 81 = .ok (.return_, 1) := by decide +kernel
abbrev yMd_relocate : MethodName := ⟨"ImageForgeModel", "relocate", "(I)V"⟩
abbrev cMd_relocate : ByteArray := prog_10_method_39_code
abbrev wsMd_relocate : List Cond := .code yMd_relocate cMd_relocate 7 none :: bw
theorem gdMd_relocate : GoodIn bw wsMd_relocate := gd_of tw_1026
theorem hdMd_relocate : yMd_relocate.cls ≠ "java/lang/invoke/MethodHandle" ∧ yMd_relocate.cls ≠ "java/lang/invoke/VarHandle" ∧ (parseMethodDescriptor yMd_relocate.desc).map (fun d => d.parameters.length) = some 1 := by decide +kernel
theorem dMd_relocate_0 : decode cMd_relocate 0 = .ok (.aload_n 0, 1) := by decide +kernel
theorem dMd_relocate_1 : decode cMd_relocate 1 = .ok (.getfield 56, 3) := by decide +kernel
theorem dMd_relocate_4 : decode cMd_relocate 4 = .ok (.bipush 56, 2) := by decide +kernel
theorem dMd_relocate_6 : decode cMd_relocate 6 = .ok (.invokestatic 128, 3) := by decide +kernel
theorem dMd_relocate_9 : decode cMd_relocate 9 = .ok (.istore_n 2, 1) := by decide +kernel
theorem dMd_relocate_10 : decode cMd_relocate 10 = .ok (.iload_n 2, 1) := by decide +kernel
theorem dMd_relocate_11 : decode cMd_relocate 11 = .ok (.aload_n 0, 1) := by decide +kernel
theorem dMd_relocate_12 : decode cMd_relocate 12 = .ok (.getfield 56, 3) := by decide +kernel
theorem dMd_relocate_15 : decode cMd_relocate 15 = .ok (.bipush 60, 2) := by decide +kernel
theorem dMd_relocate_17 : decode cMd_relocate 17 = .ok (.invokestatic 128, 3) := by decide +kernel
theorem dMd_relocate_20 : decode cMd_relocate 20 = .ok (.iadd, 1) := by decide +kernel
theorem dMd_relocate_21 : decode cMd_relocate 21 = .ok (.istore_n 3, 1) := by decide +kernel
theorem dMd_relocate_22 : decode cMd_relocate 22 = .ok (.aload_n 0, 1) := by decide +kernel
theorem dMd_relocate_23 : decode cMd_relocate 23 = .ok (.getfield 166, 3) := by decide +kernel
theorem dMd_relocate_26 : decode cMd_relocate 26 = .ok (.ifCond .ne 149, 3) := by decide +kernel
theorem dMd_relocate_29 : decode cMd_relocate 29 = .ok (.iload_n 2, 1) := by decide +kernel
theorem dMd_relocate_30 : decode cMd_relocate 30 = .ok (.iload_n 3, 1) := by decide +kernel
theorem dMd_relocate_31 : decode cMd_relocate 31 = .ok (.if_icmp .ge 144, 3) := by decide +kernel
theorem dMd_relocate_34 : decode cMd_relocate 34 = .ok (.iload_n 3, 1) := by decide +kernel
theorem dMd_relocate_35 : decode cMd_relocate 35 = .ok (.iload_n 2, 1) := by decide +kernel
theorem dMd_relocate_36 : decode cMd_relocate 36 = .ok (.isub, 1) := by decide +kernel
theorem dMd_relocate_37 : decode cMd_relocate 37 = .ok (.bipush 8, 2) := by decide +kernel
theorem dMd_relocate_39 : decode cMd_relocate 39 = .ok (.if_icmp .ge 9, 3) := by decide +kernel
theorem dMd_relocate_42 : decode cMd_relocate 42 = .ok (.aload_n 0, 1) := by decide +kernel
theorem dMd_relocate_43 : decode cMd_relocate 43 = .ok (.iconst 3, 1) := by decide +kernel
theorem dMd_relocate_44 : decode cMd_relocate 44 = .ok (.invokevirtual 169, 3) := by decide +kernel
theorem dMd_relocate_47 : decode cMd_relocate 47 = .ok (.return_, 1) := by decide +kernel
theorem dMd_relocate_48 : decode cMd_relocate 48 = .ok (.aload_n 0, 1) := by decide +kernel
theorem dMd_relocate_49 : decode cMd_relocate 49 = .ok (.getfield 56, 3) := by decide +kernel
theorem dMd_relocate_52 : decode cMd_relocate 52 = .ok (.iload_n 2, 1) := by decide +kernel
theorem dMd_relocate_53 : decode cMd_relocate 53 = .ok (.invokestatic 128, 3) := by decide +kernel
theorem dMd_relocate_56 : decode cMd_relocate 56 = .ok (.istore 4, 2) := by decide +kernel
theorem dMd_relocate_58 : decode cMd_relocate 58 = .ok (.aload_n 0, 1) := by decide +kernel
theorem dMd_relocate_59 : decode cMd_relocate 59 = .ok (.getfield 56, 3) := by decide +kernel
theorem dMd_relocate_62 : decode cMd_relocate 62 = .ok (.iload_n 2, 1) := by decide +kernel
theorem dMd_relocate_63 : decode cMd_relocate 63 = .ok (.iconst 4, 1) := by decide +kernel
theorem dMd_relocate_64 : decode cMd_relocate 64 = .ok (.iadd, 1) := by decide +kernel
theorem dMd_relocate_65 : decode cMd_relocate 65 = .ok (.invokestatic 128, 3) := by decide +kernel
theorem dMd_relocate_68 : decode cMd_relocate 68 = .ok (.istore 5, 2) := by decide +kernel
theorem dMd_relocate_70 : decode cMd_relocate 70 = .ok (.iload 5, 2) := by decide +kernel
theorem dMd_relocate_72 : decode cMd_relocate 72 = .ok (.bipush 8, 2) := by decide +kernel
theorem dMd_relocate_74 : decode cMd_relocate 74 = .ok (.if_icmp .lt 32, 3) := by decide +kernel
theorem dMd_relocate_77 : decode cMd_relocate 77 = .ok (.iload 5, 2) := by decide +kernel
theorem dMd_relocate_79 : decode cMd_relocate 79 = .ok (.iconst 2, 1) := by decide +kernel
theorem dMd_relocate_80 : decode cMd_relocate 80 = .ok (.irem, 1) := by decide +kernel
theorem dMd_relocate_81 : decode cMd_relocate 81 = .ok (.iconst 1, 1) := by decide +kernel
theorem dMd_relocate_82 : decode cMd_relocate 82 = .ok (.if_icmp .eq 24, 3) := by decide +kernel
theorem dMd_relocate_85 : decode cMd_relocate 85 = .ok (.iload 5, 2) := by decide +kernel
theorem dMd_relocate_87 : decode cMd_relocate 87 = .ok (.iload_n 3, 1) := by decide +kernel
theorem dMd_relocate_88 : decode cMd_relocate 88 = .ok (.iload_n 2, 1) := by decide +kernel
theorem dMd_relocate_89 : decode cMd_relocate 89 = .ok (.isub, 1) := by decide +kernel
theorem dMd_relocate_90 : decode cMd_relocate 90 = .ok (.if_icmp .gt 16, 3) := by decide +kernel
theorem dMd_relocate_93 : decode cMd_relocate 93 = .ok (.iload 4, 2) := by decide +kernel
theorem dMd_relocate_95 : decode cMd_relocate 95 = .ok (.ifCond .lt 11, 3) := by decide +kernel
theorem dMd_relocate_98 : decode cMd_relocate 98 = .ok (.iload 4, 2) := by decide +kernel
theorem dMd_relocate_100 : decode cMd_relocate 100 = .ok (.bipush 64, 2) := by decide +kernel
theorem dMd_relocate_102 : decode cMd_relocate 102 = .ok (.irem, 1) := by decide +kernel
theorem dMd_relocate_103 : decode cMd_relocate 103 = .ok (.ifCond .eq 9, 3) := by decide +kernel
theorem dMd_relocate_106 : decode cMd_relocate 106 = .ok (.aload_n 0, 1) := by decide +kernel
theorem dMd_relocate_107 : decode cMd_relocate 107 = .ok (.iconst 3, 1) := by decide +kernel
theorem dMd_relocate_108 : decode cMd_relocate 108 = .ok (.invokevirtual 169, 3) := by decide +kernel
theorem dMd_relocate_111 : decode cMd_relocate 111 = .ok (.return_, 1) := by decide +kernel
theorem dMd_relocate_112 : decode cMd_relocate 112 = .ok (.iload_n 2, 1) := by decide +kernel
theorem dMd_relocate_113 : decode cMd_relocate 113 = .ok (.bipush 8, 2) := by decide +kernel
theorem dMd_relocate_115 : decode cMd_relocate 115 = .ok (.iadd, 1) := by decide +kernel
theorem dMd_relocate_116 : decode cMd_relocate 116 = .ok (.istore 6, 2) := by decide +kernel
theorem dMd_relocate_118 : decode cMd_relocate 118 = .ok (.iload 6, 2) := by decide +kernel
theorem dMd_relocate_120 : decode cMd_relocate 120 = .ok (.iload_n 2, 1) := by decide +kernel
theorem dMd_relocate_121 : decode cMd_relocate 121 = .ok (.iload 5, 2) := by decide +kernel
theorem dMd_relocate_123 : decode cMd_relocate 123 = .ok (.iadd, 1) := by decide +kernel
theorem dMd_relocate_124 : decode cMd_relocate 124 = .ok (.if_icmp .ge 43, 3) := by decide +kernel
theorem dMd_relocate_127 : decode cMd_relocate 127 = .ok (.aload_n 0, 1) := by decide +kernel
theorem dMd_relocate_128 : decode cMd_relocate 128 = .ok (.getfield 166, 3) := by decide +kernel
theorem dMd_relocate_131 : decode cMd_relocate 131 = .ok (.ifCond .ne 36, 3) := by decide +kernel
theorem dMd_relocate_134 : decode cMd_relocate 134 = .ok (.aload_n 0, 1) := by decide +kernel
theorem dMd_relocate_135 : decode cMd_relocate 135 = .ok (.iload 4, 2) := by decide +kernel
theorem dMd_relocate_137 : decode cMd_relocate 137 = .ok (.aload_n 0, 1) := by decide +kernel
theorem dMd_relocate_138 : decode cMd_relocate 138 = .ok (.getfield 56, 3) := by decide +kernel
theorem dMd_relocate_141 : decode cMd_relocate 141 = .ok (.iload 6, 2) := by decide +kernel
theorem dMd_relocate_143 : decode cMd_relocate 143 = .ok (.iaload, 1) := by decide +kernel
theorem dMd_relocate_144 : decode cMd_relocate 144 = .ok (.aload_n 0, 1) := by decide +kernel
theorem dMd_relocate_145 : decode cMd_relocate 145 = .ok (.getfield 56, 3) := by decide +kernel
theorem dMd_relocate_148 : decode cMd_relocate 148 = .ok (.iload 6, 2) := by decide +kernel
theorem dMd_relocate_150 : decode cMd_relocate 150 = .ok (.iconst 1, 1) := by decide +kernel
theorem dMd_relocate_151 : decode cMd_relocate 151 = .ok (.iadd, 1) := by decide +kernel
theorem dMd_relocate_152 : decode cMd_relocate 152 = .ok (.iaload, 1) := by decide +kernel
theorem dMd_relocate_153 : decode cMd_relocate 153 = .ok (.bipush 8, 2) := by decide +kernel
theorem dMd_relocate_155 : decode cMd_relocate 155 = .ok (.ishl, 1) := by decide +kernel
theorem dMd_relocate_156 : decode cMd_relocate 156 = .ok (.ior, 1) := by decide +kernel
theorem dMd_relocate_157 : decode cMd_relocate 157 = .ok (.iload_n 1, 1) := by decide +kernel
theorem dMd_relocate_158 : decode cMd_relocate 158 = .ok (.invokevirtual 181, 3) := by decide +kernel
theorem dMd_relocate_161 : decode cMd_relocate 161 = .ok (.iinc 6 2, 3) := by decide +kernel
theorem dMd_relocate_164 : decode cMd_relocate 164 = .ok (.goto (-46), 3) := by decide +kernel
theorem dMd_relocate_167 : decode cMd_relocate 167 = .ok (.iload_n 2, 1) := by decide +kernel
theorem dMd_relocate_168 : decode cMd_relocate 168 = .ok (.iload 5, 2) := by decide +kernel
theorem dMd_relocate_170 : decode cMd_relocate 170 = .ok (.iadd, 1) := by decide +kernel
theorem dMd_relocate_171 : decode cMd_relocate 171 = .ok (.istore_n 2, 1) := by decide +kernel
theorem dMd_relocate_172 : decode cMd_relocate 172 = .ok (.goto (-150), 3) := by decide +kernel
theorem dMd_relocate_175 : decode cMd_relocate 175 = .ok (.return_, 1) := by decide +kernel
abbrev yMd_bindSlots : MethodName := ⟨"ImageForgeModel", "bindSlots", "(II)V"⟩
abbrev cMd_bindSlots : ByteArray := prog_10_method_40_code
abbrev wsMd_bindSlots : List Cond := .code yMd_bindSlots cMd_bindSlots 8 none :: bw
theorem gdMd_bindSlots : GoodIn bw wsMd_bindSlots := gd_of tw_1043
theorem hdMd_bindSlots : yMd_bindSlots.cls ≠ "java/lang/invoke/MethodHandle" ∧ yMd_bindSlots.cls ≠ "java/lang/invoke/VarHandle" ∧ (parseMethodDescriptor yMd_bindSlots.desc).map (fun d => d.parameters.length) = some 2 := by decide +kernel
theorem dMd_bindSlots_0 : decode cMd_bindSlots 0 = .ok (.iload_n 2, 1) := by decide +kernel
theorem dMd_bindSlots_1 : decode cMd_bindSlots 1 = .ok (.i2l, 1) := by decide +kernel
theorem dMd_bindSlots_2 : decode cMd_bindSlots 2 = .ok (.lstore_n 3, 1) := by decide +kernel
theorem dMd_bindSlots_3 : decode cMd_bindSlots 3 = .ok (.iconst 1, 1) := by decide +kernel
theorem dMd_bindSlots_4 : decode cMd_bindSlots 4 = .ok (.istore 5, 2) := by decide +kernel
theorem dMd_bindSlots_6 : decode cMd_bindSlots 6 = .ok (.iload 5, 2) := by decide +kernel
theorem dMd_bindSlots_8 : decode cMd_bindSlots 8 = .ok (.ifCond .eq 146, 3) := by decide +kernel
theorem dMd_bindSlots_11 : decode cMd_bindSlots 11 = .ok (.aload_n 0, 1) := by decide +kernel
theorem dMd_bindSlots_12 : decode cMd_bindSlots 12 = .ok (.getfield 166, 3) := by decide +kernel
theorem dMd_bindSlots_15 : decode cMd_bindSlots 15 = .ok (.ifCond .ne 139, 3) := by decide +kernel
theorem dMd_bindSlots_18 : decode cMd_bindSlots 18 = .ok (.lload_n 3, 1) := by decide +kernel
theorem dMd_bindSlots_19 : decode cMd_bindSlots 19 = .ok (.ldc2_w 176, 3) := by decide +kernel
theorem dMd_bindSlots_22 : decode cMd_bindSlots 22 = .ok (.aload_n 0, 1) := by decide +kernel
theorem dMd_bindSlots_23 : decode cMd_bindSlots 23 = .ok (.getfield 163, 3) := by decide +kernel
theorem dMd_bindSlots_26 : decode cMd_bindSlots 26 = .ok (.i2l, 1) := by decide +kernel
theorem dMd_bindSlots_27 : decode cMd_bindSlots 27 = .ok (.invokestatic 172, 3) := by decide +kernel
theorem dMd_bindSlots_30 : decode cMd_bindSlots 30 = .ok (.ifCond .ne 9, 3) := by decide +kernel
theorem dMd_bindSlots_33 : decode cMd_bindSlots 33 = .ok (.aload_n 0, 1) := by decide +kernel
theorem dMd_bindSlots_34 : decode cMd_bindSlots 34 = .ok (.iconst 3, 1) := by decide +kernel
theorem dMd_bindSlots_35 : decode cMd_bindSlots 35 = .ok (.invokevirtual 169, 3) := by decide +kernel
theorem dMd_bindSlots_38 : decode cMd_bindSlots 38 = .ok (.return_, 1) := by decide +kernel
theorem dMd_bindSlots_39 : decode cMd_bindSlots 39 = .ok (.aload_n 0, 1) := by decide +kernel
theorem dMd_bindSlots_40 : decode cMd_bindSlots 40 = .ok (.getfield 56, 3) := by decide +kernel
theorem dMd_bindSlots_43 : decode cMd_bindSlots 43 = .ok (.lload_n 3, 1) := by decide +kernel
theorem dMd_bindSlots_44 : decode cMd_bindSlots 44 = .ok (.l2i, 1) := by decide +kernel
theorem dMd_bindSlots_45 : decode cMd_bindSlots 45 = .ok (.invokestatic 128, 3) := by decide +kernel
theorem dMd_bindSlots_48 : decode cMd_bindSlots 48 = .ok (.istore 6, 2) := by decide +kernel
theorem dMd_bindSlots_50 : decode cMd_bindSlots 50 = .ok (.iload 6, 2) := by decide +kernel
theorem dMd_bindSlots_52 : decode cMd_bindSlots 52 = .ok (.ifCond .eq 7, 3) := by decide +kernel
theorem dMd_bindSlots_55 : decode cMd_bindSlots 55 = .ok (.iconst 1, 1) := by decide +kernel
theorem dMd_bindSlots_56 : decode cMd_bindSlots 56 = .ok (.goto 4, 3) := by decide +kernel
theorem dMd_bindSlots_59 : decode cMd_bindSlots 59 = .ok (.iconst 0, 1) := by decide +kernel
theorem dMd_bindSlots_60 : decode cMd_bindSlots 60 = .ok (.istore 5, 2) := by decide +kernel
theorem dMd_bindSlots_62 : decode cMd_bindSlots 62 = .ok (.iload 6, 2) := by decide +kernel
theorem dMd_bindSlots_64 : decode cMd_bindSlots 64 = .ok (.ldc 185, 2) := by decide +kernel
theorem dMd_bindSlots_66 : decode cMd_bindSlots 66 = .ok (.iand, 1) := by decide +kernel
theorem dMd_bindSlots_67 : decode cMd_bindSlots 67 = .ok (.istore 7, 2) := by decide +kernel
theorem dMd_bindSlots_69 : decode cMd_bindSlots 69 = .ok (.iload 5, 2) := by decide +kernel
theorem dMd_bindSlots_71 : decode cMd_bindSlots 71 = .ok (.ifCond .eq 23, 3) := by decide +kernel
theorem dMd_bindSlots_74 : decode cMd_bindSlots 74 = .ok (.iload 6, 2) := by decide +kernel
theorem dMd_bindSlots_76 : decode cMd_bindSlots 76 = .ok (.ifCond .gt 10, 3) := by decide +kernel
theorem dMd_bindSlots_79 : decode cMd_bindSlots 79 = .ok (.iload 7, 2) := by decide +kernel
theorem dMd_bindSlots_81 : decode cMd_bindSlots 81 = .ok (.bipush 99, 2) := by decide +kernel
theorem dMd_bindSlots_83 : decode cMd_bindSlots 83 = .ok (.if_icmp .le 11, 3) := by decide +kernel
theorem dMd_bindSlots_86 : decode cMd_bindSlots 86 = .ok (.aload_n 0, 1) := by decide +kernel
theorem dMd_bindSlots_87 : decode cMd_bindSlots 87 = .ok (.iconst 3, 1) := by decide +kernel
theorem dMd_bindSlots_88 : decode cMd_bindSlots 88 = .ok (.invokevirtual 169, 3) := by decide +kernel
theorem dMd_bindSlots_91 : decode cMd_bindSlots 91 = .ok (.goto 54, 3) := by decide +kernel
theorem dMd_bindSlots_94 : decode cMd_bindSlots 94 = .ok (.iload 5, 2) := by decide +kernel
theorem dMd_bindSlots_96 : decode cMd_bindSlots 96 = .ok (.ifCond .eq 26, 3) := by decide +kernel
theorem dMd_bindSlots_99 : decode cMd_bindSlots 99 = .ok (.aload_n 0, 1) := by decide +kernel
theorem dMd_bindSlots_100 : decode cMd_bindSlots 100 = .ok (.getfield 53, 3) := by decide +kernel
theorem dMd_bindSlots_103 : decode cMd_bindSlots 103 = .ok (.bipush 100, 2) := by decide +kernel
theorem dMd_bindSlots_105 : decode cMd_bindSlots 105 = .ok (.iload_n 1, 1) := by decide +kernel
theorem dMd_bindSlots_106 : decode cMd_bindSlots 106 = .ok (.imul, 1) := by decide +kernel
theorem dMd_bindSlots_107 : decode cMd_bindSlots 107 = .ok (.iload 7, 2) := by decide +kernel
theorem dMd_bindSlots_109 : decode cMd_bindSlots 109 = .ok (.iadd, 1) := by decide +kernel
theorem dMd_bindSlots_110 : decode cMd_bindSlots 110 = .ok (.iaload, 1) := by decide +kernel
theorem dMd_bindSlots_111 : decode cMd_bindSlots 111 = .ok (.ifCond .ne 11, 3) := by decide +kernel
theorem dMd_bindSlots_114 : decode cMd_bindSlots 114 = .ok (.aload_n 0, 1) := by decide +kernel
theorem dMd_bindSlots_115 : decode cMd_bindSlots 115 = .ok (.iconst 4, 1) := by decide +kernel
theorem dMd_bindSlots_116 : decode cMd_bindSlots 116 = .ok (.invokevirtual 169, 3) := by decide +kernel
theorem dMd_bindSlots_119 : decode cMd_bindSlots 119 = .ok (.goto 26, 3) := by decide +kernel
theorem dMd_bindSlots_122 : decode cMd_bindSlots 122 = .ok (.iload 5, 2) := by decide +kernel
theorem dMd_bindSlots_124 : decode cMd_bindSlots 124 = .ok (.ifCond .eq 21, 3) := by decide +kernel
theorem dMd_bindSlots_127 : decode cMd_bindSlots 127 = .ok (.aload_n 0, 1) := by decide +kernel
theorem dMd_bindSlots_128 : decode cMd_bindSlots 128 = .ok (.lload_n 3, 1) := by decide +kernel
theorem dMd_bindSlots_129 : decode cMd_bindSlots 129 = .ok (.l2i, 1) := by decide +kernel
theorem dMd_bindSlots_130 : decode cMd_bindSlots 130 = .ok (.aload_n 0, 1) := by decide +kernel
theorem dMd_bindSlots_131 : decode cMd_bindSlots 131 = .ok (.getfield 53, 3) := by decide +kernel
theorem dMd_bindSlots_134 : decode cMd_bindSlots 134 = .ok (.bipush 100, 2) := by decide +kernel
theorem dMd_bindSlots_136 : decode cMd_bindSlots 136 = .ok (.iload_n 1, 1) := by decide +kernel
theorem dMd_bindSlots_137 : decode cMd_bindSlots 137 = .ok (.imul, 1) := by decide +kernel
theorem dMd_bindSlots_138 : decode cMd_bindSlots 138 = .ok (.iload 7, 2) := by decide +kernel
theorem dMd_bindSlots_140 : decode cMd_bindSlots 140 = .ok (.iadd, 1) := by decide +kernel
theorem dMd_bindSlots_141 : decode cMd_bindSlots 141 = .ok (.iaload, 1) := by decide +kernel
theorem dMd_bindSlots_142 : decode cMd_bindSlots 142 = .ok (.invokevirtual 178, 3) := by decide +kernel
theorem dMd_bindSlots_145 : decode cMd_bindSlots 145 = .ok (.lload_n 3, 1) := by decide +kernel
theorem dMd_bindSlots_146 : decode cMd_bindSlots 146 = .ok (.ldc2_w 176, 3) := by decide +kernel
theorem dMd_bindSlots_149 : decode cMd_bindSlots 149 = .ok (.ladd, 1) := by decide +kernel
theorem dMd_bindSlots_150 : decode cMd_bindSlots 150 = .ok (.lstore_n 3, 1) := by decide +kernel
theorem dMd_bindSlots_151 : decode cMd_bindSlots 151 = .ok (.goto (-145), 3) := by decide +kernel
theorem dMd_bindSlots_154 : decode cMd_bindSlots 154 = .ok (.return_, 1) := by decide +kernel
abbrev yMd_bind : MethodName := ⟨"ImageForgeModel", "bind", "()V"⟩
abbrev cMd_bind : ByteArray := prog_10_method_41_code
abbrev wsMd_bind : List Cond := .code yMd_bind cMd_bind 5 none :: bw
theorem gdMd_bind : GoodIn bw wsMd_bind := gd_of tw_1039
theorem hdMd_bind : yMd_bind.cls ≠ "java/lang/invoke/MethodHandle" ∧ yMd_bind.cls ≠ "java/lang/invoke/VarHandle" ∧ (parseMethodDescriptor yMd_bind.desc).map (fun d => d.parameters.length) = some 0 := by decide +kernel
theorem dMd_bind_0 : decode cMd_bind 0 = .ok (.aload_n 0, 1) := by decide +kernel
theorem dMd_bind_1 : decode cMd_bind 1 = .ok (.getfield 56, 3) := by decide +kernel
theorem dMd_bind_4 : decode cMd_bind 4 = .ok (.bipush 40, 2) := by decide +kernel
theorem dMd_bind_6 : decode cMd_bind 6 = .ok (.invokestatic 128, 3) := by decide +kernel
theorem dMd_bind_9 : decode cMd_bind 9 = .ok (.istore_n 1, 1) := by decide +kernel
theorem dMd_bind_10 : decode cMd_bind 10 = .ok (.iload_n 1, 1) := by decide +kernel
theorem dMd_bind_11 : decode cMd_bind 11 = .ok (.aload_n 0, 1) := by decide +kernel
theorem dMd_bind_12 : decode cMd_bind 12 = .ok (.getfield 56, 3) := by decide +kernel
theorem dMd_bind_15 : decode cMd_bind 15 = .ok (.bipush 44, 2) := by decide +kernel
theorem dMd_bind_17 : decode cMd_bind 17 = .ok (.invokestatic 128, 3) := by decide +kernel
theorem dMd_bind_20 : decode cMd_bind 20 = .ok (.iadd, 1) := by decide +kernel
theorem dMd_bind_21 : decode cMd_bind 21 = .ok (.istore_n 2, 1) := by decide +kernel
theorem dMd_bind_22 : decode cMd_bind 22 = .ok (.iload_n 2, 1) := by decide +kernel
theorem dMd_bind_23 : decode cMd_bind 23 = .ok (.iload_n 1, 1) := by decide +kernel
theorem dMd_bind_24 : decode cMd_bind 24 = .ok (.if_icmp .le 7, 3) := by decide +kernel
theorem dMd_bind_27 : decode cMd_bind 27 = .ok (.iconst 1, 1) := by decide +kernel
theorem dMd_bind_28 : decode cMd_bind 28 = .ok (.goto 4, 3) := by decide +kernel
theorem dMd_bind_31 : decode cMd_bind 31 = .ok (.iconst 0, 1) := by decide +kernel
theorem dMd_bind_32 : decode cMd_bind 32 = .ok (.istore_n 3, 1) := by decide +kernel
theorem dMd_bind_33 : decode cMd_bind 33 = .ok (.iload_n 3, 1) := by decide +kernel
theorem dMd_bind_34 : decode cMd_bind 34 = .ok (.ifCond .eq 95, 3) := by decide +kernel
theorem dMd_bind_37 : decode cMd_bind 37 = .ok (.aload_n 0, 1) := by decide +kernel
theorem dMd_bind_38 : decode cMd_bind 38 = .ok (.getfield 166, 3) := by decide +kernel
theorem dMd_bind_41 : decode cMd_bind 41 = .ok (.ifCond .ne 88, 3) := by decide +kernel
theorem dMd_bind_44 : decode cMd_bind 44 = .ok (.iload_n 1, 1) := by decide +kernel
theorem dMd_bind_45 : decode cMd_bind 45 = .ok (.bipush 8, 2) := by decide +kernel
theorem dMd_bind_47 : decode cMd_bind 47 = .ok (.iadd, 1) := by decide +kernel
theorem dMd_bind_48 : decode cMd_bind 48 = .ok (.iload_n 2, 1) := by decide +kernel
theorem dMd_bind_49 : decode cMd_bind 49 = .ok (.if_icmp .le 9, 3) := by decide +kernel
theorem dMd_bind_52 : decode cMd_bind 52 = .ok (.aload_n 0, 1) := by decide +kernel
theorem dMd_bind_53 : decode cMd_bind 53 = .ok (.iconst 3, 1) := by decide +kernel
theorem dMd_bind_54 : decode cMd_bind 54 = .ok (.invokevirtual 169, 3) := by decide +kernel
theorem dMd_bind_57 : decode cMd_bind 57 = .ok (.return_, 1) := by decide +kernel
theorem dMd_bind_58 : decode cMd_bind 58 = .ok (.aload_n 0, 1) := by decide +kernel
theorem dMd_bind_59 : decode cMd_bind 59 = .ok (.getfield 56, 3) := by decide +kernel
theorem dMd_bind_62 : decode cMd_bind 62 = .ok (.iload_n 1, 1) := by decide +kernel
theorem dMd_bind_63 : decode cMd_bind 63 = .ok (.invokestatic 128, 3) := by decide +kernel
theorem dMd_bind_66 : decode cMd_bind 66 = .ok (.iconst 1, 1) := by decide +kernel
theorem dMd_bind_67 : decode cMd_bind 67 = .ok (.isub, 1) := by decide +kernel
theorem dMd_bind_68 : decode cMd_bind 68 = .ok (.istore 4, 2) := by decide +kernel
theorem dMd_bind_70 : decode cMd_bind 70 = .ok (.iload 4, 2) := by decide +kernel
theorem dMd_bind_72 : decode cMd_bind 72 = .ok (.iconst (-1), 1) := by decide +kernel
theorem dMd_bind_73 : decode cMd_bind 73 = .ok (.if_icmp .eq 7, 3) := by decide +kernel
theorem dMd_bind_76 : decode cMd_bind 76 = .ok (.iconst 1, 1) := by decide +kernel
theorem dMd_bind_77 : decode cMd_bind 77 = .ok (.goto 4, 3) := by decide +kernel
theorem dMd_bind_80 : decode cMd_bind 80 = .ok (.iconst 0, 1) := by decide +kernel
theorem dMd_bind_81 : decode cMd_bind 81 = .ok (.istore_n 3, 1) := by decide +kernel
theorem dMd_bind_82 : decode cMd_bind 82 = .ok (.iload_n 3, 1) := by decide +kernel
theorem dMd_bind_83 : decode cMd_bind 83 = .ok (.ifCond .eq 20, 3) := by decide +kernel
theorem dMd_bind_86 : decode cMd_bind 86 = .ok (.iload 4, 2) := by decide +kernel
theorem dMd_bind_88 : decode cMd_bind 88 = .ok (.iconst 4, 1) := by decide +kernel
theorem dMd_bind_89 : decode cMd_bind 89 = .ok (.invokestatic 84, 3) := by decide +kernel
theorem dMd_bind_92 : decode cMd_bind 92 = .ok (.ifCond .eq 11, 3) := by decide +kernel
theorem dMd_bind_95 : decode cMd_bind 95 = .ok (.aload_n 0, 1) := by decide +kernel
theorem dMd_bind_96 : decode cMd_bind 96 = .ok (.iconst 3, 1) := by decide +kernel
theorem dMd_bind_97 : decode cMd_bind 97 = .ok (.invokevirtual 169, 3) := by decide +kernel
theorem dMd_bind_100 : decode cMd_bind 100 = .ok (.goto 23, 3) := by decide +kernel
theorem dMd_bind_103 : decode cMd_bind 103 = .ok (.iload_n 3, 1) := by decide +kernel
theorem dMd_bind_104 : decode cMd_bind 104 = .ok (.ifCond .eq 19, 3) := by decide +kernel
theorem dMd_bind_107 : decode cMd_bind 107 = .ok (.aload_n 0, 1) := by decide +kernel
theorem dMd_bind_108 : decode cMd_bind 108 = .ok (.iload 4, 2) := by decide +kernel
theorem dMd_bind_110 : decode cMd_bind 110 = .ok (.aload_n 0, 1) := by decide +kernel
theorem dMd_bind_111 : decode cMd_bind 111 = .ok (.getfield 56, 3) := by decide +kernel
theorem dMd_bind_114 : decode cMd_bind 114 = .ok (.iload_n 1, 1) := by decide +kernel
theorem dMd_bind_115 : decode cMd_bind 115 = .ok (.iconst 4, 1) := by decide +kernel
theorem dMd_bind_116 : decode cMd_bind 116 = .ok (.iadd, 1) := by decide +kernel
theorem dMd_bind_117 : decode cMd_bind 117 = .ok (.invokestatic 128, 3) := by decide +kernel
theorem dMd_bind_120 : decode cMd_bind 120 = .ok (.invokevirtual 186, 3) := by decide +kernel
theorem dMd_bind_123 : decode cMd_bind 123 = .ok (.iinc 1 8, 3) := by decide +kernel
theorem dMd_bind_126 : decode cMd_bind 126 = .ok (.goto (-93), 3) := by decide +kernel
theorem dMd_bind_129 : decode cMd_bind 129 = .ok (.return_, 1) := by decide +kernel
abbrev yMd_load : MethodName := ⟨"ImageForgeModel", "load", "(I)I"⟩
abbrev cMd_load : ByteArray := prog_10_method_42_code
abbrev wsMd_load : List Cond := .code yMd_load cMd_load 3 (some .int) :: bw
theorem gdMd_load : GoodIn bw wsMd_load := gd_of tw_1010
theorem hdMd_load : yMd_load.cls ≠ "java/lang/invoke/MethodHandle" ∧ yMd_load.cls ≠ "java/lang/invoke/VarHandle" ∧ (parseMethodDescriptor yMd_load.desc).map (fun d => d.parameters.length) = some 1 := by decide +kernel
theorem dMd_load_0 : decode cMd_load 0 = .ok (.aload_n 0, 1) := by decide +kernel
theorem dMd_load_1 : decode cMd_load 1 = .ok (.iload_n 1, 1) := by decide +kernel
theorem dMd_load_2 : decode cMd_load 2 = .ok (.ifCond .lt 16, 3) := by decide +kernel
theorem dMd_load_5 : decode cMd_load 5 = .ok (.iload_n 1, 1) := by decide +kernel
theorem dMd_load_6 : decode cMd_load 6 = .ok (.ldc 189, 2) := by decide +kernel
theorem dMd_load_8 : decode cMd_load 8 = .ok (.if_icmp .gt 10, 3) := by decide +kernel
theorem dMd_load_11 : decode cMd_load 11 = .ok (.iload_n 1, 1) := by decide +kernel
theorem dMd_load_12 : decode cMd_load 12 = .ok (.bipush 64, 2) := by decide +kernel
theorem dMd_load_14 : decode cMd_load 14 = .ok (.irem, 1) := by decide +kernel
theorem dMd_load_15 : decode cMd_load 15 = .ok (.ifCond .eq 7, 3) := by decide +kernel
theorem dMd_load_18 : decode cMd_load 18 = .ok (.iconst 1, 1) := by decide +kernel
theorem dMd_load_19 : decode cMd_load 19 = .ok (.goto 4, 3) := by decide +kernel
theorem dMd_load_22 : decode cMd_load 22 = .ok (.iconst 0, 1) := by decide +kernel
theorem dMd_load_23 : decode cMd_load 23 = .ok (.iconst 1, 1) := by decide +kernel
theorem dMd_load_24 : decode cMd_load 24 = .ok (.invokevirtual 88, 3) := by decide +kernel
theorem dMd_load_27 : decode cMd_load 27 = .ok (.ifCond .ne 23, 3) := by decide +kernel
theorem dMd_load_30 : decode cMd_load 30 = .ok (.aload_n 0, 1) := by decide +kernel
theorem dMd_load_31 : decode cMd_load 31 = .ok (.aload_n 0, 1) := by decide +kernel
theorem dMd_load_32 : decode cMd_load 32 = .ok (.getfield 163, 3) := by decide +kernel
theorem dMd_load_35 : decode cMd_load 35 = .ok (.ifCond .ne 7, 3) := by decide +kernel
theorem dMd_load_38 : decode cMd_load 38 = .ok (.iconst 1, 1) := by decide +kernel
theorem dMd_load_39 : decode cMd_load 39 = .ok (.goto 4, 3) := by decide +kernel
theorem dMd_load_42 : decode cMd_load 42 = .ok (.iconst 0, 1) := by decide +kernel
theorem dMd_load_43 : decode cMd_load 43 = .ok (.iconst 2, 1) := by decide +kernel
theorem dMd_load_44 : decode cMd_load 44 = .ok (.invokevirtual 88, 3) := by decide +kernel
theorem dMd_load_47 : decode cMd_load 47 = .ok (.ifCond .eq 5, 3) := by decide +kernel
theorem dMd_load_50 : decode cMd_load 50 = .ok (.iconst 0, 1) := by decide +kernel
theorem dMd_load_51 : decode cMd_load 51 = .ok (.ireturn, 1) := by decide +kernel
theorem dMd_load_52 : decode cMd_load 52 = .ok (.aload_n 0, 1) := by decide +kernel
theorem dMd_load_53 : decode cMd_load 53 = .ok (.iconst 0, 1) := by decide +kernel
theorem dMd_load_54 : decode cMd_load 54 = .ok (.putfield 166, 3) := by decide +kernel
theorem dMd_load_57 : decode cMd_load 57 = .ok (.aload_n 0, 1) := by decide +kernel
theorem dMd_load_58 : decode cMd_load 58 = .ok (.invokevirtual 190, 3) := by decide +kernel
theorem dMd_load_61 : decode cMd_load 61 = .ok (.iconst 0, 1) := by decide +kernel
theorem dMd_load_62 : decode cMd_load 62 = .ok (.istore_n 2, 1) := by decide +kernel
theorem dMd_load_63 : decode cMd_load 63 = .ok (.iload_n 2, 1) := by decide +kernel
theorem dMd_load_64 : decode cMd_load 64 = .ok (.aload_n 0, 1) := by decide +kernel
theorem dMd_load_65 : decode cMd_load 65 = .ok (.getfield 163, 3) := by decide +kernel
theorem dMd_load_68 : decode cMd_load 68 = .ok (.if_icmp .ge 21, 3) := by decide +kernel
theorem dMd_load_71 : decode cMd_load 71 = .ok (.aload_n 0, 1) := by decide +kernel
theorem dMd_load_72 : decode cMd_load 72 = .ok (.getfield 77, 3) := by decide +kernel
theorem dMd_load_75 : decode cMd_load 75 = .ok (.iload_n 2, 1) := by decide +kernel
theorem dMd_load_76 : decode cMd_load 76 = .ok (.aload_n 0, 1) := by decide +kernel
theorem dMd_load_77 : decode cMd_load 77 = .ok (.getfield 56, 3) := by decide +kernel
theorem dMd_load_80 : decode cMd_load 80 = .ok (.iload_n 2, 1) := by decide +kernel
theorem dMd_load_81 : decode cMd_load 81 = .ok (.iaload, 1) := by decide +kernel
theorem dMd_load_82 : decode cMd_load 82 = .ok (.iastore, 1) := by decide +kernel
theorem dMd_load_83 : decode cMd_load 83 = .ok (.iinc 2 1, 3) := by decide +kernel
theorem dMd_load_86 : decode cMd_load 86 = .ok (.goto (-23), 3) := by decide +kernel
theorem dMd_load_89 : decode cMd_load 89 = .ok (.aload_n 0, 1) := by decide +kernel
theorem dMd_load_90 : decode cMd_load 90 = .ok (.getfield 166, 3) := by decide +kernel
theorem dMd_load_93 : decode cMd_load 93 = .ok (.ifCond .ne 18, 3) := by decide +kernel
theorem dMd_load_96 : decode cMd_load 96 = .ok (.aload_n 0, 1) := by decide +kernel
theorem dMd_load_97 : decode cMd_load 97 = .ok (.iload_n 1, 1) := by decide +kernel
theorem dMd_load_98 : decode cMd_load 98 = .ok (.aload_n 0, 1) := by decide +kernel
theorem dMd_load_99 : decode cMd_load 99 = .ok (.getfield 56, 3) := by decide +kernel
theorem dMd_load_102 : decode cMd_load 102 = .ok (.bipush 8, 2) := by decide +kernel
theorem dMd_load_104 : decode cMd_load 104 = .ok (.invokestatic 128, 3) := by decide +kernel
theorem dMd_load_107 : decode cMd_load 107 = .ok (.isub, 1) := by decide +kernel
theorem dMd_load_108 : decode cMd_load 108 = .ok (.invokevirtual 193, 3) := by decide +kernel
theorem dMd_load_111 : decode cMd_load 111 = .ok (.aload_n 0, 1) := by decide +kernel
theorem dMd_load_112 : decode cMd_load 112 = .ok (.getfield 166, 3) := by decide +kernel
theorem dMd_load_115 : decode cMd_load 115 = .ok (.ifCond .ne 7, 3) := by decide +kernel
theorem dMd_load_118 : decode cMd_load 118 = .ok (.aload_n 0, 1) := by decide +kernel
theorem dMd_load_119 : decode cMd_load 119 = .ok (.invokevirtual 196, 3) := by decide +kernel
theorem dMd_load_122 : decode cMd_load 122 = .ok (.aload_n 0, 1) := by decide +kernel
theorem dMd_load_123 : decode cMd_load 123 = .ok (.getfield 166, 3) := by decide +kernel
theorem dMd_load_126 : decode cMd_load 126 = .ok (.ifCond .le 8, 3) := by decide +kernel
theorem dMd_load_129 : decode cMd_load 129 = .ok (.aload_n 0, 1) := by decide +kernel
theorem dMd_load_130 : decode cMd_load 130 = .ok (.getfield 166, 3) := by decide +kernel
theorem dMd_load_133 : decode cMd_load 133 = .ok (.ireturn, 1) := by decide +kernel
theorem dMd_load_134 : decode cMd_load 134 = .ok (.aload_n 0, 1) := by decide +kernel
theorem dMd_load_135 : decode cMd_load 135 = .ok (.iconst 1, 1) := by decide +kernel
theorem dMd_load_136 : decode cMd_load 136 = .ok (.putfield 199, 3) := by decide +kernel
theorem dMd_load_139 : decode cMd_load 139 = .ok (.aload_n 0, 1) := by decide +kernel
theorem dMd_load_140 : decode cMd_load 140 = .ok (.iload_n 1, 1) := by decide +kernel
theorem dMd_load_141 : decode cMd_load 141 = .ok (.putfield 203, 3) := by decide +kernel
theorem dMd_load_144 : decode cMd_load 144 = .ok (.aload_n 0, 1) := by decide +kernel
theorem dMd_load_145 : decode cMd_load 145 = .ok (.aload_n 0, 1) := by decide +kernel
theorem dMd_load_146 : decode cMd_load 146 = .ok (.getfield 163, 3) := by decide +kernel
theorem dMd_load_149 : decode cMd_load 149 = .ok (.putfield 206, 3) := by decide +kernel
theorem dMd_load_152 : decode cMd_load 152 = .ok (.aload_n 0, 1) := by decide +kernel
theorem dMd_load_153 : decode cMd_load 153 = .ok (.aload_n 0, 1) := by decide +kernel
theorem dMd_load_154 : decode cMd_load 154 = .ok (.getfield 56, 3) := by decide +kernel
theorem dMd_load_157 : decode cMd_load 157 = .ok (.bipush 48, 2) := by decide +kernel
theorem dMd_load_159 : decode cMd_load 159 = .ok (.invokestatic 128, 3) := by decide +kernel
theorem dMd_load_162 : decode cMd_load 162 = .ok (.putfield 209, 3) := by decide +kernel
theorem dMd_load_165 : decode cMd_load 165 = .ok (.aload_n 0, 1) := by decide +kernel
theorem dMd_load_166 : decode cMd_load 166 = .ok (.aload_n 0, 1) := by decide +kernel
theorem dMd_load_167 : decode cMd_load 167 = .ok (.getfield 56, 3) := by decide +kernel
theorem dMd_load_170 : decode cMd_load 170 = .ok (.bipush 52, 2) := by decide +kernel
theorem dMd_load_172 : decode cMd_load 172 = .ok (.invokestatic 128, 3) := by decide +kernel
theorem dMd_load_175 : decode cMd_load 175 = .ok (.putfield 212, 3) := by decide +kernel
theorem dMd_load_178 : decode cMd_load 178 = .ok (.iconst 0, 1) := by decide +kernel
theorem dMd_load_179 : decode cMd_load 179 = .ok (.istore_n 2, 1) := by decide +kernel
theorem dMd_load_180 : decode cMd_load 180 = .ok (.iload_n 2, 1) := by decide +kernel
theorem dMd_load_181 : decode cMd_load 181 = .ok (.aload_n 0, 1) := by decide +kernel
theorem dMd_load_182 : decode cMd_load 182 = .ok (.getfield 163, 3) := by decide +kernel
theorem dMd_load_185 : decode cMd_load 185 = .ok (.if_icmp .ge 21, 3) := by decide +kernel
theorem dMd_load_188 : decode cMd_load 188 = .ok (.aload_n 0, 1) := by decide +kernel
theorem dMd_load_189 : decode cMd_load 189 = .ok (.getfield 74, 3) := by decide +kernel
theorem dMd_load_192 : decode cMd_load 192 = .ok (.iload_n 2, 1) := by decide +kernel
theorem dMd_load_193 : decode cMd_load 193 = .ok (.aload_n 0, 1) := by decide +kernel
theorem dMd_load_194 : decode cMd_load 194 = .ok (.getfield 77, 3) := by decide +kernel
theorem dMd_load_197 : decode cMd_load 197 = .ok (.iload_n 2, 1) := by decide +kernel
theorem dMd_load_198 : decode cMd_load 198 = .ok (.iaload, 1) := by decide +kernel
theorem dMd_load_199 : decode cMd_load 199 = .ok (.iastore, 1) := by decide +kernel
theorem dMd_load_200 : decode cMd_load 200 = .ok (.iinc 2 1, 3) := by decide +kernel
theorem dMd_load_203 : decode cMd_load 203 = .ok (.goto (-23), 3) := by decide +kernel
theorem dMd_load_206 : decode cMd_load 206 = .ok (.iconst 0, 1) := by decide +kernel
theorem dMd_load_207 : decode cMd_load 207 = .ok (.ireturn, 1) := by decide +kernel
abbrev yMd_at : MethodName := ⟨"ImageForgeModel", "at", "(I)I"⟩
abbrev cMd_at : ByteArray := prog_10_method_43_code
abbrev wsMd_at : List Cond := .code yMd_at cMd_at 4 (some .int) :: bw
theorem gdMd_at : GoodIn bw wsMd_at := gd_of tw_1048
theorem hdMd_at : yMd_at.cls ≠ "java/lang/invoke/MethodHandle" ∧ yMd_at.cls ≠ "java/lang/invoke/VarHandle" ∧ (parseMethodDescriptor yMd_at.desc).map (fun d => d.parameters.length) = some 1 := by decide +kernel
theorem dMd_at_0 : decode cMd_at 0 = .ok (.aload_n 0, 1) := by decide +kernel
theorem dMd_at_1 : decode cMd_at 1 = .ok (.iconst 0, 1) := by decide +kernel
theorem dMd_at_2 : decode cMd_at 2 = .ok (.putfield 80, 3) := by decide +kernel
theorem dMd_at_5 : decode cMd_at 5 = .ok (.iload_n 1, 1) := by decide +kernel
theorem dMd_at_6 : decode cMd_at 6 = .ok (.i2l, 1) := by decide +kernel
theorem dMd_at_7 : decode cMd_at 7 = .ok (.aload_n 0, 1) := by decide +kernel
theorem dMd_at_8 : decode cMd_at 8 = .ok (.getfield 203, 3) := by decide +kernel
theorem dMd_at_11 : decode cMd_at 11 = .ok (.i2l, 1) := by decide +kernel
theorem dMd_at_12 : decode cMd_at 12 = .ok (.lsub, 1) := by decide +kernel
theorem dMd_at_13 : decode cMd_at 13 = .ok (.lstore_n 2, 1) := by decide +kernel
theorem dMd_at_14 : decode cMd_at 14 = .ok (.aload_n 0, 1) := by decide +kernel
theorem dMd_at_15 : decode cMd_at 15 = .ok (.getfield 199, 3) := by decide +kernel
theorem dMd_at_18 : decode cMd_at 18 = .ok (.ifCond .eq 19, 3) := by decide +kernel
theorem dMd_at_21 : decode cMd_at 21 = .ok (.lload_n 2, 1) := by decide +kernel
theorem dMd_at_22 : decode cMd_at 22 = .ok (.lconst 0, 1) := by decide +kernel
theorem dMd_at_23 : decode cMd_at 23 = .ok (.lcmp, 1) := by decide +kernel
theorem dMd_at_24 : decode cMd_at 24 = .ok (.ifCond .lt 13, 3) := by decide +kernel
theorem dMd_at_27 : decode cMd_at 27 = .ok (.lload_n 2, 1) := by decide +kernel
theorem dMd_at_28 : decode cMd_at 28 = .ok (.aload_n 0, 1) := by decide +kernel
theorem dMd_at_29 : decode cMd_at 29 = .ok (.getfield 206, 3) := by decide +kernel
theorem dMd_at_32 : decode cMd_at 32 = .ok (.i2l, 1) := by decide +kernel
theorem dMd_at_33 : decode cMd_at 33 = .ok (.lcmp, 1) := by decide +kernel
theorem dMd_at_34 : decode cMd_at 34 = .ok (.ifCond .lt 7, 3) := by decide +kernel
theorem dMd_at_37 : decode cMd_at 37 = .ok (.iconst (-1), 1) := by decide +kernel
theorem dMd_at_38 : decode cMd_at 38 = .ok (.goto 10, 3) := by decide +kernel
theorem dMd_at_41 : decode cMd_at 41 = .ok (.aload_n 0, 1) := by decide +kernel
theorem dMd_at_42 : decode cMd_at 42 = .ok (.getfield 74, 3) := by decide +kernel
theorem dMd_at_45 : decode cMd_at 45 = .ok (.lload_n 2, 1) := by decide +kernel
theorem dMd_at_46 : decode cMd_at 46 = .ok (.l2i, 1) := by decide +kernel
theorem dMd_at_47 : decode cMd_at 47 = .ok (.iaload, 1) := by decide +kernel
theorem dMd_at_48 : decode cMd_at 48 = .ok (.ireturn, 1) := by decide +kernel
abbrev yMd_find : MethodName := ⟨"ImageForgeModel", "find", "(I)I"⟩
abbrev cMd_find : ByteArray := prog_10_method_44_code
abbrev wsMd_find : List Cond := .code yMd_find cMd_find 5 (some .int) :: bw
theorem gdMd_find : GoodIn bw wsMd_find := gd_of tw_1052
theorem hdMd_find : yMd_find.cls ≠ "java/lang/invoke/MethodHandle" ∧ yMd_find.cls ≠ "java/lang/invoke/VarHandle" ∧ (parseMethodDescriptor yMd_find.desc).map (fun d => d.parameters.length) = some 1 := by decide +kernel
theorem dMd_find_0 : decode cMd_find 0 = .ok (.aload_n 0, 1) := by decide +kernel
theorem dMd_find_1 : decode cMd_find 1 = .ok (.iconst 0, 1) := by decide +kernel
theorem dMd_find_2 : decode cMd_find 2 = .ok (.putfield 80, 3) := by decide +kernel
theorem dMd_find_5 : decode cMd_find 5 = .ok (.aload_n 0, 1) := by decide +kernel
theorem dMd_find_6 : decode cMd_find 6 = .ok (.getfield 199, 3) := by decide +kernel
theorem dMd_find_9 : decode cMd_find 9 = .ok (.ifCond .eq 11, 3) := by decide +kernel
theorem dMd_find_12 : decode cMd_find 12 = .ok (.aload_n 0, 1) := by decide +kernel
theorem dMd_find_13 : decode cMd_find 13 = .ok (.getfield 212, 3) := by decide +kernel
theorem dMd_find_16 : decode cMd_find 16 = .ok (.iconst 4, 1) := by decide +kernel
theorem dMd_find_17 : decode cMd_find 17 = .ok (.if_icmp .ge 5, 3) := by decide +kernel
theorem dMd_find_20 : decode cMd_find 20 = .ok (.iconst 0, 1) := by decide +kernel
theorem dMd_find_21 : decode cMd_find 21 = .ok (.ireturn, 1) := by decide +kernel
theorem dMd_find_22 : decode cMd_find 22 = .ok (.aload_n 0, 1) := by decide +kernel
theorem dMd_find_23 : decode cMd_find 23 = .ok (.getfield 74, 3) := by decide +kernel
theorem dMd_find_26 : decode cMd_find 26 = .ok (.aload_n 0, 1) := by decide +kernel
theorem dMd_find_27 : decode cMd_find 27 = .ok (.getfield 209, 3) := by decide +kernel
theorem dMd_find_30 : decode cMd_find 30 = .ok (.invokestatic 128, 3) := by decide +kernel
theorem dMd_find_33 : decode cMd_find 33 = .ok (.istore_n 2, 1) := by decide +kernel
theorem dMd_find_34 : decode cMd_find 34 = .ok (.iconst 0, 1) := by decide +kernel
theorem dMd_find_35 : decode cMd_find 35 = .ok (.istore_n 3, 1) := by decide +kernel
theorem dMd_find_36 : decode cMd_find 36 = .ok (.iload_n 3, 1) := by decide +kernel
theorem dMd_find_37 : decode cMd_find 37 = .ok (.iload_n 2, 1) := by decide +kernel
theorem dMd_find_38 : decode cMd_find 38 = .ok (.if_icmp .ge 66, 3) := by decide +kernel
theorem dMd_find_41 : decode cMd_find 41 = .ok (.bipush 12, 2) := by decide +kernel
theorem dMd_find_43 : decode cMd_find 43 = .ok (.bipush 8, 2) := by decide +kernel
theorem dMd_find_45 : decode cMd_find 45 = .ok (.iload_n 3, 1) := by decide +kernel
theorem dMd_find_46 : decode cMd_find 46 = .ok (.imul, 1) := by decide +kernel
theorem dMd_find_47 : decode cMd_find 47 = .ok (.iadd, 1) := by decide +kernel
theorem dMd_find_48 : decode cMd_find 48 = .ok (.aload_n 0, 1) := by decide +kernel
theorem dMd_find_49 : decode cMd_find 49 = .ok (.getfield 212, 3) := by decide +kernel
theorem dMd_find_52 : decode cMd_find 52 = .ok (.if_icmp .gt 52, 3) := by decide +kernel
theorem dMd_find_55 : decode cMd_find 55 = .ok (.aload_n 0, 1) := by decide +kernel
theorem dMd_find_56 : decode cMd_find 56 = .ok (.getfield 209, 3) := by decide +kernel
theorem dMd_find_59 : decode cMd_find 59 = .ok (.iconst 4, 1) := by decide +kernel
theorem dMd_find_60 : decode cMd_find 60 = .ok (.iadd, 1) := by decide +kernel
theorem dMd_find_61 : decode cMd_find 61 = .ok (.bipush 8, 2) := by decide +kernel
theorem dMd_find_63 : decode cMd_find 63 = .ok (.iload_n 3, 1) := by decide +kernel
theorem dMd_find_64 : decode cMd_find 64 = .ok (.imul, 1) := by decide +kernel
theorem dMd_find_65 : decode cMd_find 65 = .ok (.iadd, 1) := by decide +kernel
theorem dMd_find_66 : decode cMd_find 66 = .ok (.istore 4, 2) := by decide +kernel
theorem dMd_find_68 : decode cMd_find 68 = .ok (.aload_n 0, 1) := by decide +kernel
theorem dMd_find_69 : decode cMd_find 69 = .ok (.getfield 74, 3) := by decide +kernel
theorem dMd_find_72 : decode cMd_find 72 = .ok (.iload 4, 2) := by decide +kernel
theorem dMd_find_74 : decode cMd_find 74 = .ok (.invokestatic 128, 3) := by decide +kernel
theorem dMd_find_77 : decode cMd_find 77 = .ok (.iload_n 1, 1) := by decide +kernel
theorem dMd_find_78 : decode cMd_find 78 = .ok (.if_icmp .ne 20, 3) := by decide +kernel
theorem dMd_find_81 : decode cMd_find 81 = .ok (.aload_n 0, 1) := by decide +kernel
theorem dMd_find_82 : decode cMd_find 82 = .ok (.getfield 203, 3) := by decide +kernel
theorem dMd_find_85 : decode cMd_find 85 = .ok (.aload_n 0, 1) := by decide +kernel
theorem dMd_find_86 : decode cMd_find 86 = .ok (.getfield 74, 3) := by decide +kernel
theorem dMd_find_89 : decode cMd_find 89 = .ok (.iload 4, 2) := by decide +kernel
theorem dMd_find_91 : decode cMd_find 91 = .ok (.iconst 4, 1) := by decide +kernel
theorem dMd_find_92 : decode cMd_find 92 = .ok (.iadd, 1) := by decide +kernel
theorem dMd_find_93 : decode cMd_find 93 = .ok (.invokestatic 128, 3) := by decide +kernel
theorem dMd_find_96 : decode cMd_find 96 = .ok (.iadd, 1) := by decide +kernel
theorem dMd_find_97 : decode cMd_find 97 = .ok (.ireturn, 1) := by decide +kernel
theorem dMd_find_98 : decode cMd_find 98 = .ok (.iinc 3 1, 3) := by decide +kernel
theorem dMd_find_101 : decode cMd_find 101 = .ok (.goto (-65), 3) := by decide +kernel
theorem dMd_find_104 : decode cMd_find 104 = .ok (.iconst 0, 1) := by decide +kernel
theorem dMd_find_105 : decode cMd_find 105 = .ok (.ireturn, 1) := by decide +kernel
section
variable {p : Program} {l : Launch} {e : Env} {s : State} {m : MethodId} {args : Array Value} {below : List Frame} {meth : Method} {c : Code} {D : va_G} {cA : Nat → ClassId} {ad : Nat → Nat} {L : List Nat} {rs : va_W} {al : Nat → Bool} {A : Nat → Prop}
abbrev rm_Md_refuse : Room := { frames := 0, cells := 0, slots := 0, locals := 0 }
def bk_Md_refuse_0 (F : Nat) (al : Nat → Bool) (u : Mr) (x0 : Nat) (x1 : Int32) : Option (Mr × Int32) := if (u.1 x0 31) = 0 then (some (stI u x0 31 x1, 0)) else (some (u, 0))
set_option maxHeartbeats 4000000 in
set_option maxRecDepth 100000 in
theorem wk_Md_refuse_0 (cx : Cx p l e s m args below meth c cMd_refuse 2 bw "ImageForgeModel" none D cA ad L rs al A) (F : Nat) (out : Mr × Int32) : ∀ (u : Mr) (x0 : Nat) (x1 : Int32), bk_Md_refuse_0 F al u x0 x1 = some out → okk al 32 x0 = true → Wb p l e rm_Md_refuse s m args below meth c D cA ad L rs A (QV below args s D cA ad L rs A out) 2 0 [(0, .ref (ad x0)), (1, .int x1)] [] u := by
  obtain ⟨hx, hb, hml, hown, hts, hr, hlocks, hK, hA, hD, hN, hal, hNx⟩ := cx
  intro u x0 x1 h q0 H locs ls hl hP hS
  unfold bk_Md_refuse_0 at h
  refine lv_aload_n hx hb dMd_refuse_0 rfl (lv_at hl 0 rfl) ?_
  refine x_get hx hb hts in_Md hown hK hP (hal _ (okk_al q0)) (okk_t q0) rfl rfl 31 (by decide) (hts _ tw_813) (fun _ h9 => h9) rfl dMd_refuse_1 ?_
  refine lv_if_ne (tgt := 12) hx hb dMd_refuse_4 rfl (fun hc => ?_) (fun hc => ?_)
  · replace h := it_f h hc
    exact x_vret hx hb hr hlocks h hP hS dMd_refuse_12
  · replace h := it_t h hc
    refine lv_aload_n hx hb dMd_refuse_7 rfl (lv_at hl 0 rfl) ?_
    refine lv_iload_n hx hb dMd_refuse_8 rfl (lv_at hl 1 rfl) ?_
    refine x_put hx hb hts in_Md t_Md t_Md_ok nm_Md hown hK hD hN hP hS (hal _ (okk_al q0)) (okk_t q0) rfl rfl 31 (by decide) (hts _ tw_813) (fun _ h9 => h9) rfl (ty := .int) (by decide +kernel) rfl rfl (Nat.le_of_ble_eq_true rfl) (stI u x0 31 x1) stI_o (by rw [stI_up]; exact eg_32_31) dMd_refuse_9 (fun H locs hP hS => ?_)
    exact x_vret hx hb hr hlocks h hP hS dMd_refuse_12
def fn_Md_refuse (F : Nat) (al : Nat → Bool) (u : Mr) (x0 : Nat) (x1 : Int32) : Option (Mr × Int32) := bk_Md_refuse_0 F al u x0 x1
set_option maxHeartbeats 4000000 in
set_option maxRecDepth 100000 in
theorem ct_Md_refuse {l : Launch} {D : va_G} {cA : Nat → ClassId} {ad : Nat → Nat} {L : List Nat} {rs : va_W} {al : Nat → Bool} (hal : ∀ k, al k = true → k ∈ L) (hN : L.Nodup) (F : Nat) (u : Mr) (x0 : Nat) (x1 : Int32) (out : Mr × Int32) (h : fn_Md_refuse F al u x0 x1 = some out) (q0 : okk al 32 x0 = true) : CtV l yMd_refuse wsMd_refuse rm_Md_refuse [.ref (ad x0), .int x1] D cA ad L rs u out := by
  intro sz
  refine Met.ofW (cc := cMd_refuse) (maxL := 2) (ret := none) (by decide) rfl ?_
  intro p e s m args below meth c s₁ B hml hv
  obtain ⟨rfl, hsz, hP, hK, hD0, hNx⟩ := hv
  subst hsz
  have hD := hD0.self (sz := s.heap.size)
  generalize hAe : va_A (ww ad cA L rs u) s.heap.size = A at hD ⊢
  have hA : ∀ q, s.heap.size ≤ q → A q := fun q h => by rw [← hAe]; exact Or.inr h
  have hl := lv_entry ([.ref (ad x0), .int x1]) (n := 2) (Nat.le_of_ble_eq_true rfl)
  rw [lg_entry_eq]
  generalize (lg_sl ([.ref (ad x0), .int x1]) ++ List.replicate (2 - (lg_sl ([.ref (ad x0), .int x1])).length) Slot.unset).toArray = ls at hl ⊢
  exact wk_Md_refuse_0 ⟨B.exec, B.bytes, hml, findClass_of_methodNamed B.named, hts_bw (atoms_spec (ws := wsMd_refuse) B.pre), B.returns, B.notSynchronized, hK, hA, fun v => ww_D hD, hN, hal, hNx⟩ F out u x0 x1 h q0 _ _ _ (lv_sub hl [0, 1] rfl) hP va_S.rf
abbrev rm_Md_lies : Room := { frames := 0, cells := 0, slots := 0, locals := 0 }
def bk_Md_lies_0 (F : Nat) (al : Nat → Bool) (u : Mr) (x0 : Int64) (x2 : Int64) (x4 : Int64) : Option (Mr × Int32) := if (lg_cmp x0 (0 : Int64)) < 0 then (some (u, (0 : Int32))) else (if (lg_cmp x2 (0 : Int64)) < 0 then (some (u, (0 : Int32))) else (if 0 < (lg_cmp (x0 + x2) x4) then (some (u, (0 : Int32))) else (some (u, (1 : Int32)))))
set_option maxHeartbeats 4000000 in
set_option maxRecDepth 100000 in
theorem wk_Md_lies_0 (cx : Cx p l e s m args below meth c cMd_lies 6 bw "ImageForgeModel" (some .boolean) D cA ad L rs al A) (F : Nat) (out : Mr × Int32) : ∀ (u : Mr) (x0 : Int64) (x2 : Int64) (x4 : Int64), bk_Md_lies_0 F al u x0 x2 x4 = some out → Wb p l e rm_Md_lies s m args below meth c D cA ad L rs A (QI below args s D cA ad L rs A out) 6 0 [(0, .long x0), (2, .long x2), (4, .long x4)] [] u := by
  obtain ⟨hx, hb, hml, hown, hts, hr, hlocks, hK, hA, hD, hN, hal, hNx⟩ := cx
  intro u x0 x2 x4 h H locs ls hl hP hS
  unfold bk_Md_lies_0 at h
  refine lv_lload_n hx hb dMd_lies_0 rfl (lv_at hl 0 rfl) ?_
  refine lv_lconst (v := 0) hx hb dMd_lies_1 rfl ?_
  refine W.lcmp hx hb dMd_lies_2 ?_
  refine lv_if_lt (tgt := 25) hx hb dMd_lies_3 rfl (fun hc => ?_) (fun hc => ?_)
  · replace h := it_t h hc
    refine lv_iconst (v := 0) hx hb dMd_lies_25 (by decide) ?_
    exact x_zret hx hb hr hlocks rfl h hP hS dMd_lies_26
  · replace h := it_f h hc
    refine lv_lload_n hx hb dMd_lies_6 rfl (lv_at hl 1 rfl) ?_
    refine lv_lconst (v := 0) hx hb dMd_lies_7 rfl ?_
    refine W.lcmp hx hb dMd_lies_8 ?_
    refine lv_if_lt (tgt := 25) hx hb dMd_lies_9 rfl (fun hc => ?_) (fun hc => ?_)
    · replace h := it_t h hc
      refine lv_iconst (v := 0) hx hb dMd_lies_25 (by decide) ?_
      exact x_zret hx hb hr hlocks rfl h hP hS dMd_lies_26
    · replace h := it_f h hc
      refine lv_lload_n hx hb dMd_lies_12 rfl (lv_at hl 0 rfl) ?_
      refine lv_lload_n hx hb dMd_lies_13 rfl (lv_at hl 1 rfl) ?_
      refine lv_ladd hx hb dMd_lies_14 ?_
      refine lv_lload hx hb dMd_lies_15 (lv_at hl 2 rfl) ?_
      refine W.lcmp hx hb dMd_lies_17 ?_
      refine lv_if_gt (tgt := 25) hx hb dMd_lies_18 rfl (fun hc => ?_) (fun hc => ?_)
      · replace h := it_t h hc
        refine lv_iconst (v := 0) hx hb dMd_lies_25 (by decide) ?_
        exact x_zret hx hb hr hlocks rfl h hP hS dMd_lies_26
      · replace h := it_f h hc
        refine lv_iconst (v := 1) hx hb dMd_lies_21 (by decide) ?_
        refine lv_goto (tgt := 26) hx hb dMd_lies_22 rfl ?_
        exact x_zret hx hb hr hlocks rfl h hP hS dMd_lies_26
def fn_Md_lies (F : Nat) (al : Nat → Bool) (u : Mr) (x0 : Int64) (x2 : Int64) (x4 : Int64) : Option (Mr × Int32) := bk_Md_lies_0 F al u x0 x2 x4
set_option maxHeartbeats 4000000 in
set_option maxRecDepth 100000 in
theorem ct_Md_lies {l : Launch} {D : va_G} {cA : Nat → ClassId} {ad : Nat → Nat} {L : List Nat} {rs : va_W} {al : Nat → Bool} (hal : ∀ k, al k = true → k ∈ L) (hN : L.Nodup) (F : Nat) (u : Mr) (x0 : Int64) (x2 : Int64) (x4 : Int64) (out : Mr × Int32) (h : fn_Md_lies F al u x0 x2 x4 = some out)  : CtI l yMd_lies wsMd_lies rm_Md_lies [.long x0, .long x2, .long x4] D cA ad L rs u out := by
  intro sz
  refine Met.ofW (cc := cMd_lies) (maxL := 6) (ret := (some .boolean)) (by decide) rfl ?_
  intro p e s m args below meth c s₁ B hml hv
  obtain ⟨rfl, hsz, hP, hK, hD0, hNx⟩ := hv
  subst hsz
  have hD := hD0.self (sz := s.heap.size)
  generalize hAe : va_A (ww ad cA L rs u) s.heap.size = A at hD ⊢
  have hA : ∀ q, s.heap.size ≤ q → A q := fun q h => by rw [← hAe]; exact Or.inr h
  have hl := lv_entry ([.long x0, .long x2, .long x4]) (n := 6) (Nat.le_of_ble_eq_true rfl)
  rw [lg_entry_eq]
  generalize (lg_sl ([.long x0, .long x2, .long x4]) ++ List.replicate (6 - (lg_sl ([.long x0, .long x2, .long x4])).length) Slot.unset).toArray = ls at hl ⊢
  exact wk_Md_lies_0 ⟨B.exec, B.bytes, hml, findClass_of_methodNamed B.named, hts_bw (atoms_spec (ws := wsMd_lies) B.pre), B.returns, B.notSynchronized, hK, hA, fun v => ww_D hD, hN, hal, hNx⟩ F out u x0 x2 x4 h  _ _ _ (lv_sub hl [0, 1, 2] rfl) hP va_S.rf
abbrev rm_Md_change : Room := { frames := 0, cells := 0, slots := 0, locals := 0 }
def bk_Md_change_2 (F : Nat) (al : Nat → Bool) : Nat → Mr → Nat → Int32 → Int32 → Int32 → Option (Mr × Int32)
  | 0, _, _, _, _, _ => none
  | n + 1, u, x0, x1, x2, x3 => if (4 : Int32) ≤ x3 then (some (u, 0)) else (bd1 (rdR al u x0 30 41) fun y1 => (ck (inb (x1 + x3) 2048) (bk_Md_change_2 F al n (stI u y1 (x1 + x3) ((x2 >>> (((8 : Int32) * x3) &&& 31)) &&& (255 : Int32))) x0 x1 x2 (x3 + (1 : Int32)))))
set_option maxHeartbeats 4000000 in
set_option maxRecDepth 100000 in
theorem wk_Md_change_2 (cx : Cx p l e s m args below meth c cMd_change 4 bw "ImageForgeModel" none D cA ad L rs al A) (F : Nat) (out : Mr × Int32) : ∀ n : Nat, ∀ (u : Mr) (x0 : Nat) (x1 : Int32) (x2 : Int32) (x3 : Int32), bk_Md_change_2 F al n u x0 x1 x2 x3 = some out → okk al 32 x0 = true → Wb p l e rm_Md_change s m args below meth c D cA ad L rs A (QV below args s D cA ad L rs A out) 4 2 [(0, .ref (ad x0)), (1, .int x1), (2, .int x2), (3, .int x3)] [] u := by
  obtain ⟨hx, hb, hml, hown, hts, hr, hlocks, hK, hA, hD, hN, hal, hNx⟩ := cx
  intro n
  induction n with
  | zero =>
    intro u x0 x1 x2 x3 h
    cases h
  | succ n ih =>
    intro u x0 x1 x2 x3 h q0 H locs ls hl hP hS
    rw [bk_Md_change_2] at h
    refine lv_iload_n hx hb dMd_change_2 rfl (lv_at hl 3 rfl) ?_
    refine lv_iconst (v := 4) hx hb dMd_change_3 (by decide) ?_
    refine lv_icmp_ge (tgt := 31) hx hb dMd_change_4 rfl (fun hc => ?_) (fun hc => ?_)
    · replace h := it_t h hc
      exact x_vret hx hb hr hlocks h hP hS dMd_change_31
    · replace h := it_f h hc
      refine lv_aload_n hx hb dMd_change_7 rfl (lv_at hl 0 rfl) ?_
      obtain ⟨y1, hy2, h⟩ := bd1_some h
      obtain ⟨hy2a, hy2⟩ := rdR_some hy2
      refine x_get hx hb hts in_Md hown hK hP (hal _ (okk_al q0)) (okk_t q0) rfl rfl 30 (by decide) (hts _ tw_812) (fun _ h9 => h9) (congrArg some (x_rf hy2a)) dMd_change_8 ?_
      refine lv_iload_n hx hb dMd_change_11 rfl (lv_at hl 1 rfl) ?_
      refine lv_iload_n hx hb dMd_change_12 rfl (lv_at hl 3 rfl) ?_
      refine lv_iadd hx hb dMd_change_13 ?_
      refine lv_iload_n hx hb dMd_change_14 rfl (lv_at hl 2 rfl) ?_
      refine lv_bipush (v := 8) hx hb dMd_change_15 (by decide) ?_
      refine lv_iload_n hx hb dMd_change_17 rfl (lv_at hl 3 rfl) ?_
      refine lv_imul hx hb dMd_change_18 ?_
      refine lv_ishr hx hb dMd_change_19 ?_
      refine lv_sipush (v := 255) hx hb dMd_change_20 (by decide) ?_
      refine lv_iand hx hb dMd_change_23 ?_
      obtain ⟨hi3, h⟩ := ck_some h
      refine x_iast hx hb hK hD hN hP hS (hal _ (okk_al hy2)) (okk_t hy2) 0 (fun _ _ _ => rfl) rfl (by decide) (inb_in hi3) dMd_change_24 (fun H locs hP hS => ?_)
      refine lv_iinc (k := 3) (v := x3 + (1 : Int32)) (lv' := [(3, .int (x3 + (1 : Int32))), (0, .ref (ad x0)), (1, .int x1), (2, .int x2)]) hx hb dMd_change_25 hl rfl (congrArg (fun z => _ + z) (show Int32.ofInt 1 = 1 by decide)) (by decide) rfl (fun ls hl => ?_)
      refine lv_goto (tgt := 2) hx hb dMd_change_28 rfl ?_
      exact ih (stI u y1 (x1 + x3) ((x2 >>> (((8 : Int32) * x3) &&& 31)) &&& (255 : Int32))) x0 x1 x2 (x3 + (1 : Int32)) h q0 _ _ _ (lv_sub hl [1, 2, 3, 0] rfl) hP hS
def bk_Md_change_0 (F : Nat) (al : Nat → Bool) (u : Mr) (x0 : Nat) (x1 : Int32) (x2 : Int32) : Option (Mr × Int32) := bk_Md_change_2 F al F u x0 x1 x2 (0 : Int32)
set_option maxHeartbeats 4000000 in
set_option maxRecDepth 100000 in
theorem wk_Md_change_0 (cx : Cx p l e s m args below meth c cMd_change 4 bw "ImageForgeModel" none D cA ad L rs al A) (F : Nat) (out : Mr × Int32) : ∀ (u : Mr) (x0 : Nat) (x1 : Int32) (x2 : Int32), bk_Md_change_0 F al u x0 x1 x2 = some out → okk al 32 x0 = true → Wb p l e rm_Md_change s m args below meth c D cA ad L rs A (QV below args s D cA ad L rs A out) 4 0 [(0, .ref (ad x0)), (1, .int x1), (2, .int x2)] [] u := by
  obtain ⟨hx, hb, hml, hown, hts, hr, hlocks, hK, hA, hD, hN, hal, hNx⟩ := cx
  intro u x0 x1 x2 h q0 H locs ls hl hP hS
  unfold bk_Md_change_0 at h
  refine lv_iconst (v := 0) hx hb dMd_change_0 (by decide) ?_
  refine lv_istore_n (lv' := [(3, .int (0 : Int32)), (0, .ref (ad x0)), (1, .int x1), (2, .int x2)]) hx hb dMd_change_1 rfl hl (by decide) rfl (fun ls hl => ?_)
  exact wk_Md_change_2 ⟨hx, hb, hml, hown, hts, hr, hlocks, hK, hA, hD, hN, hal, hNx⟩ F out F u x0 x1 x2 (0 : Int32) h q0 _ _ _ (lv_sub hl [1, 2, 3, 0] rfl) hP hS
def fn_Md_change (F : Nat) (al : Nat → Bool) (u : Mr) (x0 : Nat) (x1 : Int32) (x2 : Int32) : Option (Mr × Int32) := bk_Md_change_0 F al u x0 x1 x2
set_option maxHeartbeats 4000000 in
set_option maxRecDepth 100000 in
theorem ct_Md_change {l : Launch} {D : va_G} {cA : Nat → ClassId} {ad : Nat → Nat} {L : List Nat} {rs : va_W} {al : Nat → Bool} (hal : ∀ k, al k = true → k ∈ L) (hN : L.Nodup) (F : Nat) (u : Mr) (x0 : Nat) (x1 : Int32) (x2 : Int32) (out : Mr × Int32) (h : fn_Md_change F al u x0 x1 x2 = some out) (q0 : okk al 32 x0 = true) : CtV l yMd_change wsMd_change rm_Md_change [.ref (ad x0), .int x1, .int x2] D cA ad L rs u out := by
  intro sz
  refine Met.ofW (cc := cMd_change) (maxL := 4) (ret := none) (by decide) rfl ?_
  intro p e s m args below meth c s₁ B hml hv
  obtain ⟨rfl, hsz, hP, hK, hD0, hNx⟩ := hv
  subst hsz
  have hD := hD0.self (sz := s.heap.size)
  generalize hAe : va_A (ww ad cA L rs u) s.heap.size = A at hD ⊢
  have hA : ∀ q, s.heap.size ≤ q → A q := fun q h => by rw [← hAe]; exact Or.inr h
  have hl := lv_entry ([.ref (ad x0), .int x1, .int x2]) (n := 4) (Nat.le_of_ble_eq_true rfl)
  rw [lg_entry_eq]
  generalize (lg_sl ([.ref (ad x0), .int x1, .int x2]) ++ List.replicate (4 - (lg_sl ([.ref (ad x0), .int x1, .int x2])).length) Slot.unset).toArray = ls at hl ⊢
  exact wk_Md_change_0 ⟨B.exec, B.bytes, hml, findClass_of_methodNamed B.named, hts_bw (atoms_spec (ws := wsMd_change) B.pre), B.returns, B.notSynchronized, hK, hA, fun v => ww_D hD, hN, hal, hNx⟩ F out u x0 x1 x2 h q0 _ _ _ (lv_sub hl [0, 1, 2] rfl) hP va_S.rf
abbrev rm_Md_checkHeader : Room := { frames := 1, cells := 0, slots := 0, locals := 25 }
def bk_Md_checkHeader_129 (F : Nat) (al : Nat → Bool) (k78 : Mr → Nat → Int32 → Option (Mr × Int32)) (u : Mr) (x0 : Nat) (x1 : Int32) : Option (Mr × Int32) := k78 u x0 (x1 + (1 : Int32))
set_option maxHeartbeats 4000000 in
set_option maxRecDepth 100000 in
theorem wk_Md_checkHeader_129 (cx : Cx p l e s m args below meth c cMd_checkHeader 2 bw "ImageForgeModel" none D cA ad L rs al A) (F : Nat) (out : Mr × Int32) {k78 : Mr → Nat → Int32 → Option (Mr × Int32)} (hk78 : ∀ (u : Mr) (x0 : Nat) (x1 : Int32), k78 u x0 x1 = some out → okk al 32 x0 = true → Wb p l e rm_Md_checkHeader s m args below meth c D cA ad L rs A (QV below args s D cA ad L rs A out) 2 78 [(0, .ref (ad x0)), (1, .int x1)] [] u) : ∀ (u : Mr) (x0 : Nat) (x1 : Int32), bk_Md_checkHeader_129 F al k78 u x0 x1 = some out → okk al 32 x0 = true → Wb p l e rm_Md_checkHeader s m args below meth c D cA ad L rs A (QV below args s D cA ad L rs A out) 2 129 [(0, .ref (ad x0)), (1, .int x1)] [] u := by
  obtain ⟨hx, hb, hml, hown, hts, hr, hlocks, hK, hA, hD, hN, hal, hNx⟩ := cx
  intro u x0 x1 h q0 H locs ls hl hP hS
  unfold bk_Md_checkHeader_129 at h
  refine lv_iinc (k := 1) (v := x1 + (1 : Int32)) (lv' := [(1, .int (x1 + (1 : Int32))), (0, .ref (ad x0))]) hx hb dMd_checkHeader_129 hl rfl (congrArg (fun z => _ + z) (show Int32.ofInt 1 = 1 by decide)) (by decide) rfl (fun ls hl => ?_)
  refine lv_goto (tgt := 78) hx hb dMd_checkHeader_132 rfl ?_
  exact hk78 u x0 (x1 + (1 : Int32)) h q0 _ _ _ (lv_sub hl [1, 0] rfl) hP hS
def bk_Md_checkHeader_78 (F : Nat) (al : Nat → Bool) : Nat → Mr → Nat → Int32 → Option (Mr × Int32)
  | 0, _, _, _ => none
  | n + 1, u, x0, x1 => if (5 : Int32) ≤ x1 then (some (u, 0)) else (bd1 (rdR al u x0 17 41) fun y1 => (bd2 (fn_Md_wordIn F al u y1 ((24 : Int32) + ((8 : Int32) * x1))) fun u3 v3 => (bd1 (rdR al u3 x0 17 41) fun y4 => (bd2 (fn_Md_wordIn F al u3 y4 ((28 : Int32) + ((8 : Int32) * x1))) fun u6 v6 => (bd2 (fn_Md_lies F al u6 v3.toInt64 v6.toInt64 ((u6.1 x0 16).toInt64)) fun u7 v7 => (if v7 = 0 then (bd2 (fn_Md_refuse F al u7 x0 (3 : Int32)) fun u8 v8 => (bk_Md_checkHeader_129 F al (bk_Md_checkHeader_78 F al n) u8 x0 x1)) else (bk_Md_checkHeader_129 F al (bk_Md_checkHeader_78 F al n) u7 x0 x1)))))))
set_option maxHeartbeats 4000000 in
set_option maxRecDepth 100000 in
theorem wk_Md_checkHeader_78 (cx : Cx p l e s m args below meth c cMd_checkHeader 2 bw "ImageForgeModel" none D cA ad L rs al A) (F : Nat) (out : Mr × Int32) : ∀ n : Nat, ∀ (u : Mr) (x0 : Nat) (x1 : Int32), bk_Md_checkHeader_78 F al n u x0 x1 = some out → okk al 32 x0 = true → Wb p l e rm_Md_checkHeader s m args below meth c D cA ad L rs A (QV below args s D cA ad L rs A out) 2 78 [(0, .ref (ad x0)), (1, .int x1)] [] u := by
  obtain ⟨hx, hb, hml, hown, hts, hr, hlocks, hK, hA, hD, hN, hal, hNx⟩ := cx
  intro n
  induction n with
  | zero =>
    intro u x0 x1 h
    cases h
  | succ n ih =>
    intro u x0 x1 h q0 H locs ls hl hP hS
    rw [bk_Md_checkHeader_78] at h
    refine lv_iload_n hx hb dMd_checkHeader_78 rfl (lv_at hl 1 rfl) ?_
    refine lv_iconst (v := 5) hx hb dMd_checkHeader_79 (by decide) ?_
    refine lv_icmp_ge (tgt := 135) hx hb dMd_checkHeader_80 rfl (fun hc => ?_) (fun hc => ?_)
    · replace h := it_t h hc
      exact x_vret hx hb hr hlocks h hP hS dMd_checkHeader_135
    · replace h := it_f h hc
      refine lv_aload_n hx hb dMd_checkHeader_83 rfl (lv_at hl 0 rfl) ?_
      obtain ⟨y1, hy2, h⟩ := bd1_some h
      obtain ⟨hy2a, hy2⟩ := rdR_some hy2
      refine x_get hx hb hts in_Md hown hK hP (hal _ (okk_al q0)) (okk_t q0) rfl rfl 17 (by decide) (hts _ tw_799) (fun _ h9 => h9) (congrArg some (x_rf hy2a)) dMd_checkHeader_84 ?_
      refine lv_bipush (v := 24) hx hb dMd_checkHeader_87 (by decide) ?_
      refine lv_bipush (v := 8) hx hb dMd_checkHeader_89 (by decide) ?_
      refine lv_iload_n hx hb dMd_checkHeader_91 rfl (lv_at hl 1 rfl) ?_
      refine lv_imul hx hb dMd_checkHeader_92 ?_
      refine lv_iadd hx hb dMd_checkHeader_93 ?_
      obtain ⟨u3, v3, hc3, h⟩ := bd2_some h
      refine x_ci (u := u) (out := (u3, v3)) hA hD hS (va_runS (As := [.ref (ad y1), .int ((24 : Int32) + ((8 : Int32) * x1))]) (rest := []) ⟨hx, hb, hml, hown, hts⟩ (ct_Md_wordIn hal hN F u y1 ((24 : Int32) + ((8 : Int32) * x1)) (u3, v3) hc3 hy2 _) ⟨callB_of 2 hts gdMd_wordIn rfl rfl rfl (hts _ tw_11) (hts _ tw_983) hdMd_wordIn ⟨Nat.le_of_ble_eq_true rfl, Nat.le_of_ble_eq_true rfl⟩, (hts _ tw_984)⟩ (x_preS hK hD hNx hP) rfl rfl hl.1 rfl (lv_room (Nat.le_of_ble_eq_true rfl)) dMd_checkHeader_94 ⟨Nat.zero_le _, Nat.zero_le _⟩) (fun H locs hP hS => ?_)
      refine lv_i2l (v := v3.toInt64) hx hb dMd_checkHeader_97 rfl ?_
      refine lv_aload_n hx hb dMd_checkHeader_98 rfl (lv_at hl 0 rfl) ?_
      obtain ⟨y4, hy5, h⟩ := bd1_some h
      obtain ⟨hy5a, hy5⟩ := rdR_some hy5
      refine x_get hx hb hts in_Md hown hK hP (hal _ (okk_al q0)) (okk_t q0) rfl rfl 17 (by decide) (hts _ tw_799) (fun _ h9 => h9) (congrArg some (x_rf hy5a)) dMd_checkHeader_99 ?_
      refine lv_bipush (v := 28) hx hb dMd_checkHeader_102 (by decide) ?_
      refine lv_bipush (v := 8) hx hb dMd_checkHeader_104 (by decide) ?_
      refine lv_iload_n hx hb dMd_checkHeader_106 rfl (lv_at hl 1 rfl) ?_
      refine lv_imul hx hb dMd_checkHeader_107 ?_
      refine lv_iadd hx hb dMd_checkHeader_108 ?_
      obtain ⟨u6, v6, hc6, h⟩ := bd2_some h
      refine x_ci (u := u3) (out := (u6, v6)) hA hD hS (va_runS (As := [.ref (ad y4), .int ((28 : Int32) + ((8 : Int32) * x1))]) (rest := [.long v3.toInt64]) ⟨hx, hb, hml, hown, hts⟩ (ct_Md_wordIn hal hN F u3 y4 ((28 : Int32) + ((8 : Int32) * x1)) (u6, v6) hc6 hy5 _) ⟨callB_of 2 hts gdMd_wordIn rfl rfl rfl (hts _ tw_11) (hts _ tw_983) hdMd_wordIn ⟨Nat.le_of_ble_eq_true rfl, Nat.le_of_ble_eq_true rfl⟩, (hts _ tw_984)⟩ (x_preS hK hD hNx hP) rfl rfl hl.1 rfl (lv_room (Nat.le_of_ble_eq_true rfl)) dMd_checkHeader_109 ⟨Nat.zero_le _, Nat.zero_le _⟩) (fun H locs hP hS => ?_)
      refine lv_i2l (v := v6.toInt64) hx hb dMd_checkHeader_112 rfl ?_
      refine lv_aload_n hx hb dMd_checkHeader_113 rfl (lv_at hl 0 rfl) ?_
      refine x_get hx hb hts in_Md hown hK hP (hal _ (okk_al q0)) (okk_t q0) rfl rfl 16 (by decide) (hts _ tw_798) (fun _ h9 => h9) rfl dMd_checkHeader_114 ?_
      refine lv_i2l (v := (u6.1 x0 16).toInt64) hx hb dMd_checkHeader_117 rfl ?_
      obtain ⟨u7, v7, hc7, h⟩ := bd2_some h
      refine x_ci (u := u6) (out := (u7, v7)) hA hD hS (va_runS (As := [.long v3.toInt64, .long v6.toInt64, .long ((u6.1 x0 16).toInt64)]) (rest := []) ⟨hx, hb, hml, hown, hts⟩ (ct_Md_lies hal hN F u6 v3.toInt64 v6.toInt64 ((u6.1 x0 16).toInt64) (u7, v7) hc7  _) ⟨callB_of 3 hts gdMd_lies rfl rfl rfl (hts _ tw_11) (hts _ tw_1020) hdMd_lies ⟨Nat.le_of_ble_eq_true rfl, Nat.le_of_ble_eq_true rfl⟩, (hts _ tw_1021)⟩ (x_preS hK hD hNx hP) rfl rfl hl.1 rfl (lv_room (Nat.le_of_ble_eq_true rfl)) dMd_checkHeader_118 ⟨Nat.zero_le _, Nat.zero_le _⟩) (fun H locs hP hS => ?_)
      refine lv_if_ne (tgt := 129) hx hb dMd_checkHeader_121 rfl (fun hc => ?_) (fun hc => ?_)
      · replace h := it_f h hc
        exact wk_Md_checkHeader_129 ⟨hx, hb, hml, hown, hts, hr, hlocks, hK, hA, hD, hN, hal, hNx⟩ F out ih u7 x0 x1 h q0 _ _ _ (lv_sub hl [0, 1] rfl) hP hS
      · replace h := it_t h hc
        refine lv_aload_n hx hb dMd_checkHeader_124 rfl (lv_at hl 0 rfl) ?_
        refine lv_iconst (v := 3) hx hb dMd_checkHeader_125 (by decide) ?_
        obtain ⟨u8, v8, hc8, h⟩ := bd2_some h
        refine x_cv (u := u7) (out := (u8, v8)) hA hD hS (va_runV (As := [.int (3 : Int32)]) (rest := []) ⟨hx, hb, hml, hown, hts⟩ (ct_Md_refuse hal hN F u7 x0 (3 : Int32) (u8, v8) hc8 q0 _) ⟨callB_of 1 hts gdMd_refuse rfl rfl rfl (hts _ tw_11) (hts _ tw_1016) hdMd_refuse ⟨Nat.le_of_ble_eq_true rfl, Nat.le_of_ble_eq_true rfl⟩, (hts _ tw_1018), (hts _ tp_71)⟩ (x_preV hK hD hNx hP (hal _ (okk_al q0)) (okk_t q0) rfl rfl) rfl rfl hl.1 rfl (lv_room (Nat.le_of_ble_eq_true rfl)) dMd_checkHeader_126 ⟨Nat.zero_le _, Nat.zero_le _⟩) (fun H locs hP hS => ?_)
        exact wk_Md_checkHeader_129 ⟨hx, hb, hml, hown, hts, hr, hlocks, hK, hA, hD, hN, hal, hNx⟩ F out ih u8 x0 x1 h q0 _ _ _ (lv_sub hl [0, 1] rfl) hP hS
def bk_Md_checkHeader_76 (F : Nat) (al : Nat → Bool) (u : Mr) (x0 : Nat) : Option (Mr × Int32) := bk_Md_checkHeader_78 F al F u x0 (0 : Int32)
set_option maxHeartbeats 4000000 in
set_option maxRecDepth 100000 in
theorem wk_Md_checkHeader_76 (cx : Cx p l e s m args below meth c cMd_checkHeader 2 bw "ImageForgeModel" none D cA ad L rs al A) (F : Nat) (out : Mr × Int32) : ∀ (u : Mr) (x0 : Nat), bk_Md_checkHeader_76 F al u x0 = some out → okk al 32 x0 = true → Wb p l e rm_Md_checkHeader s m args below meth c D cA ad L rs A (QV below args s D cA ad L rs A out) 2 76 [(0, .ref (ad x0))] [] u := by
  obtain ⟨hx, hb, hml, hown, hts, hr, hlocks, hK, hA, hD, hN, hal, hNx⟩ := cx
  intro u x0 h q0 H locs ls hl hP hS
  unfold bk_Md_checkHeader_76 at h
  refine lv_iconst (v := 0) hx hb dMd_checkHeader_76 (by decide) ?_
  refine lv_istore_n (lv' := [(1, .int (0 : Int32)), (0, .ref (ad x0))]) hx hb dMd_checkHeader_77 rfl hl (by decide) rfl (fun ls hl => ?_)
  exact wk_Md_checkHeader_78 ⟨hx, hb, hml, hown, hts, hr, hlocks, hK, hA, hD, hN, hal, hNx⟩ F out F u x0 (0 : Int32) h q0 _ _ _ (lv_sub hl [1, 0] rfl) hP hS
def bk_Md_checkHeader_47 (F : Nat) (al : Nat → Bool) (u : Mr) (x0 : Nat) : Option (Mr × Int32) := bd1 (rdR al u x0 17 41) fun y1 => (bd2 (fn_Md_wordIn F al u y1 (20 : Int32)) fun u3 v3 => (bd1 (rdR al u3 x0 17 41) fun y4 => (bd2 (fn_Md_sumOf F al u3 x0 y4 (u3.1 x0 16)) fun u6 v6 => (if v3 = v6 then (bk_Md_checkHeader_76 F al u6 x0) else (bd2 (fn_Md_refuse F al u6 x0 (2 : Int32)) fun u7 v7 => (bk_Md_checkHeader_76 F al u7 x0))))))
set_option maxHeartbeats 4000000 in
set_option maxRecDepth 100000 in
theorem wk_Md_checkHeader_47 (cx : Cx p l e s m args below meth c cMd_checkHeader 2 bw "ImageForgeModel" none D cA ad L rs al A) (F : Nat) (out : Mr × Int32) : ∀ (u : Mr) (x0 : Nat), bk_Md_checkHeader_47 F al u x0 = some out → okk al 32 x0 = true → Wb p l e rm_Md_checkHeader s m args below meth c D cA ad L rs A (QV below args s D cA ad L rs A out) 2 47 [(0, .ref (ad x0))] [] u := by
  obtain ⟨hx, hb, hml, hown, hts, hr, hlocks, hK, hA, hD, hN, hal, hNx⟩ := cx
  intro u x0 h q0 H locs ls hl hP hS
  unfold bk_Md_checkHeader_47 at h
  refine lv_aload_n hx hb dMd_checkHeader_47 rfl (lv_at hl 0 rfl) ?_
  obtain ⟨y1, hy2, h⟩ := bd1_some h
  obtain ⟨hy2a, hy2⟩ := rdR_some hy2
  refine x_get hx hb hts in_Md hown hK hP (hal _ (okk_al q0)) (okk_t q0) rfl rfl 17 (by decide) (hts _ tw_799) (fun _ h9 => h9) (congrArg some (x_rf hy2a)) dMd_checkHeader_48 ?_
  refine lv_bipush (v := 20) hx hb dMd_checkHeader_51 (by decide) ?_
  obtain ⟨u3, v3, hc3, h⟩ := bd2_some h
  refine x_ci (u := u) (out := (u3, v3)) hA hD hS (va_runS (As := [.ref (ad y1), .int (20 : Int32)]) (rest := []) ⟨hx, hb, hml, hown, hts⟩ (ct_Md_wordIn hal hN F u y1 (20 : Int32) (u3, v3) hc3 hy2 _) ⟨callB_of 2 hts gdMd_wordIn rfl rfl rfl (hts _ tw_11) (hts _ tw_983) hdMd_wordIn ⟨Nat.le_of_ble_eq_true rfl, Nat.le_of_ble_eq_true rfl⟩, (hts _ tw_984)⟩ (x_preS hK hD hNx hP) rfl rfl hl.1 rfl (lv_room (Nat.le_of_ble_eq_true rfl)) dMd_checkHeader_53 ⟨Nat.zero_le _, Nat.zero_le _⟩) (fun H locs hP hS => ?_)
  refine lv_aload_n hx hb dMd_checkHeader_56 rfl (lv_at hl 0 rfl) ?_
  refine lv_aload_n hx hb dMd_checkHeader_57 rfl (lv_at hl 0 rfl) ?_
  obtain ⟨y4, hy5, h⟩ := bd1_some h
  obtain ⟨hy5a, hy5⟩ := rdR_some hy5
  refine x_get hx hb hts in_Md hown hK hP (hal _ (okk_al q0)) (okk_t q0) rfl rfl 17 (by decide) (hts _ tw_799) (fun _ h9 => h9) (congrArg some (x_rf hy5a)) dMd_checkHeader_58 ?_
  refine lv_aload_n hx hb dMd_checkHeader_61 rfl (lv_at hl 0 rfl) ?_
  refine x_get hx hb hts in_Md hown hK hP (hal _ (okk_al q0)) (okk_t q0) rfl rfl 16 (by decide) (hts _ tw_798) (fun _ h9 => h9) rfl dMd_checkHeader_62 ?_
  obtain ⟨u6, v6, hc6, h⟩ := bd2_some h
  refine x_ci (u := u3) (out := (u6, v6)) hA hD hS (va_runV (As := [.ref (ad y4), .int (u3.1 x0 16)]) (rest := [.int v3]) ⟨hx, hb, hml, hown, hts⟩ (ct_Md_sumOf hal hN F u3 x0 y4 (u3.1 x0 16) (u6, v6) hc6 q0 hy5 _) ⟨callB_of 2 hts gdMd_sumOf rfl rfl rfl (hts _ tw_11) (hts _ tw_990) hdMd_sumOf ⟨Nat.le_of_ble_eq_true rfl, Nat.le_of_ble_eq_true rfl⟩, (hts _ tw_992), (hts _ tp_69)⟩ (x_preV hK hD hNx hP (hal _ (okk_al q0)) (okk_t q0) rfl rfl) rfl rfl hl.1 rfl (lv_room (Nat.le_of_ble_eq_true rfl)) dMd_checkHeader_65 ⟨Nat.zero_le _, Nat.zero_le _⟩) (fun H locs hP hS => ?_)
  refine lv_icmp_eq (tgt := 76) hx hb dMd_checkHeader_68 rfl (fun hc => ?_) (fun hc => ?_)
  · replace h := it_t h hc
    exact wk_Md_checkHeader_76 ⟨hx, hb, hml, hown, hts, hr, hlocks, hK, hA, hD, hN, hal, hNx⟩ F out u6 x0 h q0 _ _ _ (lv_sub hl [0] rfl) hP hS
  · replace h := it_f h hc
    refine lv_aload_n hx hb dMd_checkHeader_71 rfl (lv_at hl 0 rfl) ?_
    refine lv_iconst (v := 2) hx hb dMd_checkHeader_72 (by decide) ?_
    obtain ⟨u7, v7, hc7, h⟩ := bd2_some h
    refine x_cv (u := u6) (out := (u7, v7)) hA hD hS (va_runV (As := [.int (2 : Int32)]) (rest := []) ⟨hx, hb, hml, hown, hts⟩ (ct_Md_refuse hal hN F u6 x0 (2 : Int32) (u7, v7) hc7 q0 _) ⟨callB_of 1 hts gdMd_refuse rfl rfl rfl (hts _ tw_11) (hts _ tw_1016) hdMd_refuse ⟨Nat.le_of_ble_eq_true rfl, Nat.le_of_ble_eq_true rfl⟩, (hts _ tw_1018), (hts _ tp_71)⟩ (x_preV hK hD hNx hP (hal _ (okk_al q0)) (okk_t q0) rfl rfl) rfl rfl hl.1 rfl (lv_room (Nat.le_of_ble_eq_true rfl)) dMd_checkHeader_73 ⟨Nat.zero_le _, Nat.zero_le _⟩) (fun H locs hP hS => ?_)
    exact wk_Md_checkHeader_76 ⟨hx, hb, hml, hown, hts, hr, hlocks, hK, hA, hD, hN, hal, hNx⟩ F out u7 x0 h q0 _ _ _ (lv_sub hl [0] rfl) hP hS
def bk_Md_checkHeader_42 (F : Nat) (al : Nat → Bool) (u : Mr) (x0 : Nat) : Option (Mr × Int32) := bd2 (fn_Md_refuse F al u x0 (1 : Int32)) fun u1 v1 => (bk_Md_checkHeader_47 F al u1 x0)
set_option maxHeartbeats 4000000 in
set_option maxRecDepth 100000 in
theorem wk_Md_checkHeader_42 (cx : Cx p l e s m args below meth c cMd_checkHeader 2 bw "ImageForgeModel" none D cA ad L rs al A) (F : Nat) (out : Mr × Int32) : ∀ (u : Mr) (x0 : Nat), bk_Md_checkHeader_42 F al u x0 = some out → okk al 32 x0 = true → Wb p l e rm_Md_checkHeader s m args below meth c D cA ad L rs A (QV below args s D cA ad L rs A out) 2 42 [(0, .ref (ad x0))] [] u := by
  obtain ⟨hx, hb, hml, hown, hts, hr, hlocks, hK, hA, hD, hN, hal, hNx⟩ := cx
  intro u x0 h q0 H locs ls hl hP hS
  unfold bk_Md_checkHeader_42 at h
  refine lv_aload_n hx hb dMd_checkHeader_42 rfl (lv_at hl 0 rfl) ?_
  refine lv_iconst (v := 1) hx hb dMd_checkHeader_43 (by decide) ?_
  obtain ⟨u1, v1, hc1, h⟩ := bd2_some h
  refine x_cv (u := u) (out := (u1, v1)) hA hD hS (va_runV (As := [.int (1 : Int32)]) (rest := []) ⟨hx, hb, hml, hown, hts⟩ (ct_Md_refuse hal hN F u x0 (1 : Int32) (u1, v1) hc1 q0 _) ⟨callB_of 1 hts gdMd_refuse rfl rfl rfl (hts _ tw_11) (hts _ tw_1016) hdMd_refuse ⟨Nat.le_of_ble_eq_true rfl, Nat.le_of_ble_eq_true rfl⟩, (hts _ tw_1018), (hts _ tp_71)⟩ (x_preV hK hD hNx hP (hal _ (okk_al q0)) (okk_t q0) rfl rfl) rfl rfl hl.1 rfl (lv_room (Nat.le_of_ble_eq_true rfl)) dMd_checkHeader_44 ⟨Nat.zero_le _, Nat.zero_le _⟩) (fun H locs hP hS => ?_)
  exact wk_Md_checkHeader_47 ⟨hx, hb, hml, hown, hts, hr, hlocks, hK, hA, hD, hN, hal, hNx⟩ F out u1 x0 h q0 _ _ _ (lv_sub hl [0] rfl) hP hS
def bk_Md_checkHeader_0 (F : Nat) (al : Nat → Bool) (u : Mr) (x0 : Nat) : Option (Mr × Int32) := bd1 (rdR al u x0 17 41) fun y1 => (bd2 (fn_Md_wordIn F al u y1 (0 : Int32)) fun u3 v3 => (if v3 = (23117 : Int32) then (bd1 (rdR al u3 x0 17 41) fun y4 => (bd2 (fn_Md_wordIn F al u3 y4 (4 : Int32)) fun u6 v6 => (if v6 = (5 : Int32) then (bd1 (rdR al u6 x0 17 41) fun y7 => (bd2 (fn_Md_wordIn F al u6 y7 (12 : Int32)) fun u9 v9 => (if v9 = (u9.1 x0 16) then (bk_Md_checkHeader_47 F al u9 x0) else (bk_Md_checkHeader_42 F al u9 x0)))) else (bk_Md_checkHeader_42 F al u6 x0)))) else (bk_Md_checkHeader_42 F al u3 x0)))
set_option maxHeartbeats 4000000 in
set_option maxRecDepth 100000 in
theorem wk_Md_checkHeader_0 (cx : Cx p l e s m args below meth c cMd_checkHeader 2 bw "ImageForgeModel" none D cA ad L rs al A) (F : Nat) (out : Mr × Int32) : ∀ (u : Mr) (x0 : Nat), bk_Md_checkHeader_0 F al u x0 = some out → okk al 32 x0 = true → Wb p l e rm_Md_checkHeader s m args below meth c D cA ad L rs A (QV below args s D cA ad L rs A out) 2 0 [(0, .ref (ad x0))] [] u := by
  obtain ⟨hx, hb, hml, hown, hts, hr, hlocks, hK, hA, hD, hN, hal, hNx⟩ := cx
  intro u x0 h q0 H locs ls hl hP hS
  unfold bk_Md_checkHeader_0 at h
  refine lv_aload_n hx hb dMd_checkHeader_0 rfl (lv_at hl 0 rfl) ?_
  obtain ⟨y1, hy2, h⟩ := bd1_some h
  obtain ⟨hy2a, hy2⟩ := rdR_some hy2
  refine x_get hx hb hts in_Md hown hK hP (hal _ (okk_al q0)) (okk_t q0) rfl rfl 17 (by decide) (hts _ tw_799) (fun _ h9 => h9) (congrArg some (x_rf hy2a)) dMd_checkHeader_1 ?_
  refine lv_iconst (v := 0) hx hb dMd_checkHeader_4 (by decide) ?_
  obtain ⟨u3, v3, hc3, h⟩ := bd2_some h
  refine x_ci (u := u) (out := (u3, v3)) hA hD hS (va_runS (As := [.ref (ad y1), .int (0 : Int32)]) (rest := []) ⟨hx, hb, hml, hown, hts⟩ (ct_Md_wordIn hal hN F u y1 (0 : Int32) (u3, v3) hc3 hy2 _) ⟨callB_of 2 hts gdMd_wordIn rfl rfl rfl (hts _ tw_11) (hts _ tw_983) hdMd_wordIn ⟨Nat.le_of_ble_eq_true rfl, Nat.le_of_ble_eq_true rfl⟩, (hts _ tw_984)⟩ (x_preS hK hD hNx hP) rfl rfl hl.1 rfl (lv_room (Nat.le_of_ble_eq_true rfl)) dMd_checkHeader_5 ⟨Nat.zero_le _, Nat.zero_le _⟩) (fun H locs hP hS => ?_)
  refine lv_sipush (v := 23117) hx hb dMd_checkHeader_8 (by decide) ?_
  refine lv_icmp_ne (tgt := 42) hx hb dMd_checkHeader_11 rfl (fun hc => ?_) (fun hc => ?_)
  · replace h := it_f h hc
    exact wk_Md_checkHeader_42 ⟨hx, hb, hml, hown, hts, hr, hlocks, hK, hA, hD, hN, hal, hNx⟩ F out u3 x0 h q0 _ _ _ (lv_sub hl [0] rfl) hP hS
  · replace h := it_t h hc
    refine lv_aload_n hx hb dMd_checkHeader_14 rfl (lv_at hl 0 rfl) ?_
    obtain ⟨y4, hy5, h⟩ := bd1_some h
    obtain ⟨hy5a, hy5⟩ := rdR_some hy5
    refine x_get hx hb hts in_Md hown hK hP (hal _ (okk_al q0)) (okk_t q0) rfl rfl 17 (by decide) (hts _ tw_799) (fun _ h9 => h9) (congrArg some (x_rf hy5a)) dMd_checkHeader_15 ?_
    refine lv_iconst (v := 4) hx hb dMd_checkHeader_18 (by decide) ?_
    obtain ⟨u6, v6, hc6, h⟩ := bd2_some h
    refine x_ci (u := u3) (out := (u6, v6)) hA hD hS (va_runS (As := [.ref (ad y4), .int (4 : Int32)]) (rest := []) ⟨hx, hb, hml, hown, hts⟩ (ct_Md_wordIn hal hN F u3 y4 (4 : Int32) (u6, v6) hc6 hy5 _) ⟨callB_of 2 hts gdMd_wordIn rfl rfl rfl (hts _ tw_11) (hts _ tw_983) hdMd_wordIn ⟨Nat.le_of_ble_eq_true rfl, Nat.le_of_ble_eq_true rfl⟩, (hts _ tw_984)⟩ (x_preS hK hD hNx hP) rfl rfl hl.1 rfl (lv_room (Nat.le_of_ble_eq_true rfl)) dMd_checkHeader_19 ⟨Nat.zero_le _, Nat.zero_le _⟩) (fun H locs hP hS => ?_)
    refine lv_iconst (v := 5) hx hb dMd_checkHeader_22 (by decide) ?_
    refine lv_icmp_ne (tgt := 42) hx hb dMd_checkHeader_23 rfl (fun hc => ?_) (fun hc => ?_)
    · replace h := it_f h hc
      exact wk_Md_checkHeader_42 ⟨hx, hb, hml, hown, hts, hr, hlocks, hK, hA, hD, hN, hal, hNx⟩ F out u6 x0 h q0 _ _ _ (lv_sub hl [0] rfl) hP hS
    · replace h := it_t h hc
      refine lv_aload_n hx hb dMd_checkHeader_26 rfl (lv_at hl 0 rfl) ?_
      obtain ⟨y7, hy8, h⟩ := bd1_some h
      obtain ⟨hy8a, hy8⟩ := rdR_some hy8
      refine x_get hx hb hts in_Md hown hK hP (hal _ (okk_al q0)) (okk_t q0) rfl rfl 17 (by decide) (hts _ tw_799) (fun _ h9 => h9) (congrArg some (x_rf hy8a)) dMd_checkHeader_27 ?_
      refine lv_bipush (v := 12) hx hb dMd_checkHeader_30 (by decide) ?_
      obtain ⟨u9, v9, hc9, h⟩ := bd2_some h
      refine x_ci (u := u6) (out := (u9, v9)) hA hD hS (va_runS (As := [.ref (ad y7), .int (12 : Int32)]) (rest := []) ⟨hx, hb, hml, hown, hts⟩ (ct_Md_wordIn hal hN F u6 y7 (12 : Int32) (u9, v9) hc9 hy8 _) ⟨callB_of 2 hts gdMd_wordIn rfl rfl rfl (hts _ tw_11) (hts _ tw_983) hdMd_wordIn ⟨Nat.le_of_ble_eq_true rfl, Nat.le_of_ble_eq_true rfl⟩, (hts _ tw_984)⟩ (x_preS hK hD hNx hP) rfl rfl hl.1 rfl (lv_room (Nat.le_of_ble_eq_true rfl)) dMd_checkHeader_32 ⟨Nat.zero_le _, Nat.zero_le _⟩) (fun H locs hP hS => ?_)
      refine lv_aload_n hx hb dMd_checkHeader_35 rfl (lv_at hl 0 rfl) ?_
      refine x_get hx hb hts in_Md hown hK hP (hal _ (okk_al q0)) (okk_t q0) rfl rfl 16 (by decide) (hts _ tw_798) (fun _ h9 => h9) rfl dMd_checkHeader_36 ?_
      refine lv_icmp_eq (tgt := 47) hx hb dMd_checkHeader_39 rfl (fun hc => ?_) (fun hc => ?_)
      · replace h := it_t h hc
        exact wk_Md_checkHeader_47 ⟨hx, hb, hml, hown, hts, hr, hlocks, hK, hA, hD, hN, hal, hNx⟩ F out u9 x0 h q0 _ _ _ (lv_sub hl [0] rfl) hP hS
      · replace h := it_f h hc
        exact wk_Md_checkHeader_42 ⟨hx, hb, hml, hown, hts, hr, hlocks, hK, hA, hD, hN, hal, hNx⟩ F out u9 x0 h q0 _ _ _ (lv_sub hl [0] rfl) hP hS
def fn_Md_checkHeader (F : Nat) (al : Nat → Bool) (u : Mr) (x0 : Nat) : Option (Mr × Int32) := bk_Md_checkHeader_0 F al u x0
set_option maxHeartbeats 4000000 in
set_option maxRecDepth 100000 in
theorem ct_Md_checkHeader {l : Launch} {D : va_G} {cA : Nat → ClassId} {ad : Nat → Nat} {L : List Nat} {rs : va_W} {al : Nat → Bool} (hal : ∀ k, al k = true → k ∈ L) (hN : L.Nodup) (F : Nat) (u : Mr) (x0 : Nat) (out : Mr × Int32) (h : fn_Md_checkHeader F al u x0 = some out) (q0 : okk al 32 x0 = true) : CtV l yMd_checkHeader wsMd_checkHeader rm_Md_checkHeader [.ref (ad x0)] D cA ad L rs u out := by
  intro sz
  refine Met.ofW (cc := cMd_checkHeader) (maxL := 2) (ret := none) (by decide) rfl ?_
  intro p e s m args below meth c s₁ B hml hv
  obtain ⟨rfl, hsz, hP, hK, hD0, hNx⟩ := hv
  subst hsz
  have hD := hD0.self (sz := s.heap.size)
  generalize hAe : va_A (ww ad cA L rs u) s.heap.size = A at hD ⊢
  have hA : ∀ q, s.heap.size ≤ q → A q := fun q h => by rw [← hAe]; exact Or.inr h
  have hl := lv_entry ([.ref (ad x0)]) (n := 2) (Nat.le_of_ble_eq_true rfl)
  rw [lg_entry_eq]
  generalize (lg_sl ([.ref (ad x0)]) ++ List.replicate (2 - (lg_sl ([.ref (ad x0)])).length) Slot.unset).toArray = ls at hl ⊢
  exact wk_Md_checkHeader_0 ⟨B.exec, B.bytes, hml, findClass_of_methodNamed B.named, hts_bw (atoms_spec (ws := wsMd_checkHeader) B.pre), B.returns, B.notSynchronized, hK, hA, fun v => ww_D hD, hN, hal, hNx⟩ F out u x0 h q0 _ _ _ (lv_sub hl [0] rfl) hP va_S.rf
abbrev rm_Md_entry : Room := { frames := 1, cells := 0, slots := 0, locals := 25 }
def bk_Md_entry_56 (F : Nat) (al : Nat → Bool) (u : Mr) (x0 : Nat) (x3 : Int32) (x4 : Int64) (x6 : Int32) : Option (Mr × Int32) := if x6 = (3 : Int32) then (bd1 (rdR al u x0 30 41) fun y1 => (bd2 (fn_Md_wordIn F al u y1 x4.toInt32) fun u3 v3 => (bd2 (fn_Md_change F al u3 x0 x4.toInt32 (v3 + x3)) fun u4 v4 => (some (u4, 0))))) else (some (u, 0))
set_option maxHeartbeats 4000000 in
set_option maxRecDepth 100000 in
theorem wk_Md_entry_56 (cx : Cx p l e s m args below meth c cMd_entry 7 bw "ImageForgeModel" none D cA ad L rs al A) (F : Nat) (out : Mr × Int32) : ∀ (u : Mr) (x0 : Nat) (x3 : Int32) (x4 : Int64) (x6 : Int32), bk_Md_entry_56 F al u x0 x3 x4 x6 = some out → okk al 32 x0 = true → Wb p l e rm_Md_entry s m args below meth c D cA ad L rs A (QV below args s D cA ad L rs A out) 7 56 [(0, .ref (ad x0)), (3, .int x3), (4, .long x4), (6, .int x6)] [] u := by
  obtain ⟨hx, hb, hml, hown, hts, hr, hlocks, hK, hA, hD, hN, hal, hNx⟩ := cx
  intro u x0 x3 x4 x6 h q0 H locs ls hl hP hS
  unfold bk_Md_entry_56 at h
  refine lv_iload hx hb dMd_entry_56 (lv_at hl 3 rfl) ?_
  refine lv_iconst (v := 3) hx hb dMd_entry_58 (by decide) ?_
  refine lv_icmp_ne (tgt := 81) hx hb dMd_entry_59 rfl (fun hc => ?_) (fun hc => ?_)
  · replace h := it_f h hc
    exact x_vret hx hb hr hlocks h hP hS dMd_entry_81
  · replace h := it_t h hc
    refine lv_aload_n hx hb dMd_entry_62 rfl (lv_at hl 0 rfl) ?_
    refine lv_lload hx hb dMd_entry_63 (lv_at hl 2 rfl) ?_
    refine lv_l2i (v := x4.toInt32) hx hb dMd_entry_65 rfl ?_
    refine lv_aload_n hx hb dMd_entry_66 rfl (lv_at hl 0 rfl) ?_
    obtain ⟨y1, hy2, h⟩ := bd1_some h
    obtain ⟨hy2a, hy2⟩ := rdR_some hy2
    refine x_get hx hb hts in_Md hown hK hP (hal _ (okk_al q0)) (okk_t q0) rfl rfl 30 (by decide) (hts _ tw_812) (fun _ h9 => h9) (congrArg some (x_rf hy2a)) dMd_entry_67 ?_
    refine lv_lload hx hb dMd_entry_70 (lv_at hl 2 rfl) ?_
    refine lv_l2i (v := x4.toInt32) hx hb dMd_entry_72 rfl ?_
    obtain ⟨u3, v3, hc3, h⟩ := bd2_some h
    refine x_ci (u := u) (out := (u3, v3)) hA hD hS (va_runS (As := [.ref (ad y1), .int x4.toInt32]) (rest := [.int x4.toInt32, .ref (ad x0)]) ⟨hx, hb, hml, hown, hts⟩ (ct_Md_wordIn hal hN F u y1 x4.toInt32 (u3, v3) hc3 hy2 _) ⟨callB_of 2 hts gdMd_wordIn rfl rfl rfl (hts _ tw_11) (hts _ tw_983) hdMd_wordIn ⟨Nat.le_of_ble_eq_true rfl, Nat.le_of_ble_eq_true rfl⟩, (hts _ tw_984)⟩ (x_preS hK hD hNx hP) rfl rfl hl.1 rfl (lv_room (Nat.le_of_ble_eq_true rfl)) dMd_entry_73 ⟨Nat.zero_le _, Nat.zero_le _⟩) (fun H locs hP hS => ?_)
    refine lv_iload_n hx hb dMd_entry_76 rfl (lv_at hl 1 rfl) ?_
    refine lv_iadd hx hb dMd_entry_77 ?_
    obtain ⟨u4, v4, hc4, h⟩ := bd2_some h
    refine x_cv (u := u3) (out := (u4, v4)) hA hD hS (va_runV (As := [.int x4.toInt32, .int (v3 + x3)]) (rest := []) ⟨hx, hb, hml, hown, hts⟩ (ct_Md_change hal hN F u3 x0 x4.toInt32 (v3 + x3) (u4, v4) hc4 q0 _) ⟨callB_of 2 hts gdMd_change rfl rfl rfl (hts _ tw_11) (hts _ tw_1032) hdMd_change ⟨Nat.le_of_ble_eq_true rfl, Nat.le_of_ble_eq_true rfl⟩, (hts _ tw_1034), (hts _ tp_74)⟩ (x_preV hK hD hNx hP (hal _ (okk_al q0)) (okk_t q0) rfl rfl) rfl rfl hl.1 rfl (lv_room (Nat.le_of_ble_eq_true rfl)) dMd_entry_78 ⟨Nat.zero_le _, Nat.zero_le _⟩) (fun H locs hP hS => ?_)
    exact x_vret hx hb hr hlocks h hP hS dMd_entry_81
def bk_Md_entry_50 (F : Nat) (al : Nat → Bool) (u : Mr) (x0 : Nat) : Option (Mr × Int32) := bd2 (fn_Md_refuse F al u x0 (3 : Int32)) fun u1 v1 => (some (u1, 0))
set_option maxHeartbeats 4000000 in
set_option maxRecDepth 100000 in
theorem wk_Md_entry_50 (cx : Cx p l e s m args below meth c cMd_entry 7 bw "ImageForgeModel" none D cA ad L rs al A) (F : Nat) (out : Mr × Int32) : ∀ (u : Mr) (x0 : Nat), bk_Md_entry_50 F al u x0 = some out → okk al 32 x0 = true → Wb p l e rm_Md_entry s m args below meth c D cA ad L rs A (QV below args s D cA ad L rs A out) 7 50 [(0, .ref (ad x0))] [] u := by
  obtain ⟨hx, hb, hml, hown, hts, hr, hlocks, hK, hA, hD, hN, hal, hNx⟩ := cx
  intro u x0 h q0 H locs ls hl hP hS
  unfold bk_Md_entry_50 at h
  refine lv_aload_n hx hb dMd_entry_50 rfl (lv_at hl 0 rfl) ?_
  refine lv_iconst (v := 3) hx hb dMd_entry_51 (by decide) ?_
  obtain ⟨u1, v1, hc1, h⟩ := bd2_some h
  refine x_cv (u := u) (out := (u1, v1)) hA hD hS (va_runV (As := [.int (3 : Int32)]) (rest := []) ⟨hx, hb, hml, hown, hts⟩ (ct_Md_refuse hal hN F u x0 (3 : Int32) (u1, v1) hc1 q0 _) ⟨callB_of 1 hts gdMd_refuse rfl rfl rfl (hts _ tw_11) (hts _ tw_1016) hdMd_refuse ⟨Nat.le_of_ble_eq_true rfl, Nat.le_of_ble_eq_true rfl⟩, (hts _ tw_1018), (hts _ tp_71)⟩ (x_preV hK hD hNx hP (hal _ (okk_al q0)) (okk_t q0) rfl rfl) rfl rfl hl.1 rfl (lv_room (Nat.le_of_ble_eq_true rfl)) dMd_entry_52 ⟨Nat.zero_le _, Nat.zero_le _⟩) (fun H locs hP hS => ?_)
  exact x_vret hx hb hr hlocks h hP hS dMd_entry_55
def bk_Md_entry_28 (F : Nat) (al : Nat → Bool) (u : Mr) (x0 : Nat) (x3 : Int32) (x4 : Int64) (x6 : Int32) : Option (Mr × Int32) := if x6 = (3 : Int32) then (bd2 (fn_Md_lies F al u x4 (4 : Int64) ((u.1 x0 16).toInt64)) fun u1 v1 => (if v1 = 0 then (bk_Md_entry_50 F al u1 x0) else (bk_Md_entry_56 F al u1 x0 x3 x4 x6))) else (bk_Md_entry_56 F al u x0 x3 x4 x6)
set_option maxHeartbeats 4000000 in
set_option maxRecDepth 100000 in
theorem wk_Md_entry_28 (cx : Cx p l e s m args below meth c cMd_entry 7 bw "ImageForgeModel" none D cA ad L rs al A) (F : Nat) (out : Mr × Int32) : ∀ (u : Mr) (x0 : Nat) (x3 : Int32) (x4 : Int64) (x6 : Int32), bk_Md_entry_28 F al u x0 x3 x4 x6 = some out → okk al 32 x0 = true → Wb p l e rm_Md_entry s m args below meth c D cA ad L rs A (QV below args s D cA ad L rs A out) 7 28 [(0, .ref (ad x0)), (3, .int x3), (4, .long x4), (6, .int x6)] [] u := by
  obtain ⟨hx, hb, hml, hown, hts, hr, hlocks, hK, hA, hD, hN, hal, hNx⟩ := cx
  intro u x0 x3 x4 x6 h q0 H locs ls hl hP hS
  unfold bk_Md_entry_28 at h
  refine lv_iload hx hb dMd_entry_28 (lv_at hl 3 rfl) ?_
  refine lv_iconst (v := 3) hx hb dMd_entry_30 (by decide) ?_
  refine lv_icmp_ne (tgt := 56) hx hb dMd_entry_31 rfl (fun hc => ?_) (fun hc => ?_)
  · replace h := it_f h hc
    exact wk_Md_entry_56 ⟨hx, hb, hml, hown, hts, hr, hlocks, hK, hA, hD, hN, hal, hNx⟩ F out u x0 x3 x4 x6 h q0 _ _ _ (lv_sub hl [0, 1, 2, 3] rfl) hP hS
  · replace h := it_t h hc
    refine lv_lload hx hb dMd_entry_34 (lv_at hl 2 rfl) ?_
    refine lv_ldc2 (v := 4) hx hb hown (hts _ tw_1031) dMd_entry_36 ?_
    refine lv_aload_n hx hb dMd_entry_39 rfl (lv_at hl 0 rfl) ?_
    refine x_get hx hb hts in_Md hown hK hP (hal _ (okk_al q0)) (okk_t q0) rfl rfl 16 (by decide) (hts _ tw_798) (fun _ h9 => h9) rfl dMd_entry_40 ?_
    refine lv_i2l (v := (u.1 x0 16).toInt64) hx hb dMd_entry_43 rfl ?_
    obtain ⟨u1, v1, hc1, h⟩ := bd2_some h
    refine x_ci (u := u) (out := (u1, v1)) hA hD hS (va_runS (As := [.long x4, .long (4 : Int64), .long ((u.1 x0 16).toInt64)]) (rest := []) ⟨hx, hb, hml, hown, hts⟩ (ct_Md_lies hal hN F u x4 (4 : Int64) ((u.1 x0 16).toInt64) (u1, v1) hc1  _) ⟨callB_of 3 hts gdMd_lies rfl rfl rfl (hts _ tw_11) (hts _ tw_1020) hdMd_lies ⟨Nat.le_of_ble_eq_true rfl, Nat.le_of_ble_eq_true rfl⟩, (hts _ tw_1021)⟩ (x_preS hK hD hNx hP) rfl rfl hl.1 rfl (lv_room (Nat.le_of_ble_eq_true rfl)) dMd_entry_44 ⟨Nat.zero_le _, Nat.zero_le _⟩) (fun H locs hP hS => ?_)
    refine lv_if_ne (tgt := 56) hx hb dMd_entry_47 rfl (fun hc => ?_) (fun hc => ?_)
    · replace h := it_f h hc
      exact wk_Md_entry_56 ⟨hx, hb, hml, hown, hts, hr, hlocks, hK, hA, hD, hN, hal, hNx⟩ F out u1 x0 x3 x4 x6 h q0 _ _ _ (lv_sub hl [0, 1, 2, 3] rfl) hP hS
    · replace h := it_t h hc
      exact wk_Md_entry_50 ⟨hx, hb, hml, hown, hts, hr, hlocks, hK, hA, hD, hN, hal, hNx⟩ F out u1 x0 h q0 _ _ _ (lv_sub hl [0] rfl) hP hS
def bk_Md_entry_0 (F : Nat) (al : Nat → Bool) (u : Mr) (x0 : Nat) (x1 : Int32) (x2 : Int32) (x3 : Int32) : Option (Mr × Int32) := if (x2 >>> ((12 : Int32) &&& 31)) = 0 then (bk_Md_entry_28 F al u x0 x3 (x1.toInt64 + ((x2 &&& (4095 : Int32)).toInt64)) (x2 >>> ((12 : Int32) &&& 31))) else (if (x2 >>> ((12 : Int32) &&& 31)) = (3 : Int32) then (bk_Md_entry_28 F al u x0 x3 (x1.toInt64 + ((x2 &&& (4095 : Int32)).toInt64)) (x2 >>> ((12 : Int32) &&& 31))) else (bk_Md_entry_50 F al u x0))
set_option maxHeartbeats 4000000 in
set_option maxRecDepth 100000 in
theorem wk_Md_entry_0 (cx : Cx p l e s m args below meth c cMd_entry 7 bw "ImageForgeModel" none D cA ad L rs al A) (F : Nat) (out : Mr × Int32) : ∀ (u : Mr) (x0 : Nat) (x1 : Int32) (x2 : Int32) (x3 : Int32), bk_Md_entry_0 F al u x0 x1 x2 x3 = some out → okk al 32 x0 = true → Wb p l e rm_Md_entry s m args below meth c D cA ad L rs A (QV below args s D cA ad L rs A out) 7 0 [(0, .ref (ad x0)), (1, .int x1), (2, .int x2), (3, .int x3)] [] u := by
  obtain ⟨hx, hb, hml, hown, hts, hr, hlocks, hK, hA, hD, hN, hal, hNx⟩ := cx
  intro u x0 x1 x2 x3 h q0 H locs ls hl hP hS
  unfold bk_Md_entry_0 at h
  refine lv_iload_n hx hb dMd_entry_0 rfl (lv_at hl 1 rfl) ?_
  refine lv_i2l (v := x1.toInt64) hx hb dMd_entry_1 rfl ?_
  refine lv_iload_n hx hb dMd_entry_2 rfl (lv_at hl 2 rfl) ?_
  refine lv_sipush (v := 4095) hx hb dMd_entry_3 (by decide) ?_
  refine lv_iand hx hb dMd_entry_6 ?_
  refine lv_i2l (v := (x2 &&& (4095 : Int32)).toInt64) hx hb dMd_entry_7 rfl ?_
  refine lv_ladd hx hb dMd_entry_8 ?_
  refine lv_lstore (lv' := [(4, .long (x1.toInt64 + ((x2 &&& (4095 : Int32)).toInt64))), (0, .ref (ad x0)), (1, .int x1), (2, .int x2), (3, .int x3)]) hx hb dMd_entry_9 hl (by decide) rfl (fun ls hl => ?_)
  refine lv_iload_n hx hb dMd_entry_11 rfl (lv_at hl 3 rfl) ?_
  refine lv_bipush (v := 12) hx hb dMd_entry_12 (by decide) ?_
  refine lv_ishr hx hb dMd_entry_14 ?_
  refine lv_istore (lv' := [(6, .int (x2 >>> ((12 : Int32) &&& 31))), (4, .long (x1.toInt64 + ((x2 &&& (4095 : Int32)).toInt64))), (0, .ref (ad x0)), (1, .int x1), (2, .int x2), (3, .int x3)]) hx hb dMd_entry_15 hl (by decide) rfl (fun ls hl => ?_)
  refine lv_iload hx hb dMd_entry_17 (lv_at hl 0 rfl) ?_
  refine lv_if_eq (tgt := 28) hx hb dMd_entry_19 rfl (fun hc => ?_) (fun hc => ?_)
  · replace h := it_t h hc
    exact wk_Md_entry_28 ⟨hx, hb, hml, hown, hts, hr, hlocks, hK, hA, hD, hN, hal, hNx⟩ F out u x0 x3 (x1.toInt64 + ((x2 &&& (4095 : Int32)).toInt64)) (x2 >>> ((12 : Int32) &&& 31)) h q0 _ _ _ (lv_sub hl [2, 5, 1, 0] rfl) hP hS
  · replace h := it_f h hc
    refine lv_iload hx hb dMd_entry_22 (lv_at hl 0 rfl) ?_
    refine lv_iconst (v := 3) hx hb dMd_entry_24 (by decide) ?_
    refine lv_icmp_ne (tgt := 50) hx hb dMd_entry_25 rfl (fun hc => ?_) (fun hc => ?_)
    · replace h := it_f h hc
      exact wk_Md_entry_50 ⟨hx, hb, hml, hown, hts, hr, hlocks, hK, hA, hD, hN, hal, hNx⟩ F out u x0 h q0 _ _ _ (lv_sub hl [2] rfl) hP hS
    · replace h := it_t h hc
      exact wk_Md_entry_28 ⟨hx, hb, hml, hown, hts, hr, hlocks, hK, hA, hD, hN, hal, hNx⟩ F out u x0 x3 (x1.toInt64 + ((x2 &&& (4095 : Int32)).toInt64)) (x2 >>> ((12 : Int32) &&& 31)) h q0 _ _ _ (lv_sub hl [2, 5, 1, 0] rfl) hP hS
def fn_Md_entry (F : Nat) (al : Nat → Bool) (u : Mr) (x0 : Nat) (x1 : Int32) (x2 : Int32) (x3 : Int32) : Option (Mr × Int32) := bk_Md_entry_0 F al u x0 x1 x2 x3
set_option maxHeartbeats 4000000 in
set_option maxRecDepth 100000 in
theorem ct_Md_entry {l : Launch} {D : va_G} {cA : Nat → ClassId} {ad : Nat → Nat} {L : List Nat} {rs : va_W} {al : Nat → Bool} (hal : ∀ k, al k = true → k ∈ L) (hN : L.Nodup) (F : Nat) (u : Mr) (x0 : Nat) (x1 : Int32) (x2 : Int32) (x3 : Int32) (out : Mr × Int32) (h : fn_Md_entry F al u x0 x1 x2 x3 = some out) (q0 : okk al 32 x0 = true) : CtV l yMd_entry wsMd_entry rm_Md_entry [.ref (ad x0), .int x1, .int x2, .int x3] D cA ad L rs u out := by
  intro sz
  refine Met.ofW (cc := cMd_entry) (maxL := 7) (ret := none) (by decide) rfl ?_
  intro p e s m args below meth c s₁ B hml hv
  obtain ⟨rfl, hsz, hP, hK, hD0, hNx⟩ := hv
  subst hsz
  have hD := hD0.self (sz := s.heap.size)
  generalize hAe : va_A (ww ad cA L rs u) s.heap.size = A at hD ⊢
  have hA : ∀ q, s.heap.size ≤ q → A q := fun q h => by rw [← hAe]; exact Or.inr h
  have hl := lv_entry ([.ref (ad x0), .int x1, .int x2, .int x3]) (n := 7) (Nat.le_of_ble_eq_true rfl)
  rw [lg_entry_eq]
  generalize (lg_sl ([.ref (ad x0), .int x1, .int x2, .int x3]) ++ List.replicate (7 - (lg_sl ([.ref (ad x0), .int x1, .int x2, .int x3])).length) Slot.unset).toArray = ls at hl ⊢
  exact wk_Md_entry_0 ⟨B.exec, B.bytes, hml, findClass_of_methodNamed B.named, hts_bw (atoms_spec (ws := wsMd_entry) B.pre), B.returns, B.notSynchronized, hK, hA, fun v => ww_D hD, hN, hal, hNx⟩ F out u x0 x1 x2 x3 h q0 _ _ _ (lv_sub hl [0, 1, 2, 3] rfl) hP va_S.rf
abbrev rm_Md_relocate : Room := { frames := 2, cells := 0, slots := 0, locals := 51 }
def bk_Md_relocate_106 (F : Nat) (al : Nat → Bool) (u : Mr) (x0 : Nat) : Option (Mr × Int32) := bd2 (fn_Md_refuse F al u x0 (3 : Int32)) fun u1 v1 => (some (u1, 0))
set_option maxHeartbeats 4000000 in
set_option maxRecDepth 100000 in
theorem wk_Md_relocate_106 (cx : Cx p l e s m args below meth c cMd_relocate 7 bw "ImageForgeModel" none D cA ad L rs al A) (F : Nat) (out : Mr × Int32) : ∀ (u : Mr) (x0 : Nat), bk_Md_relocate_106 F al u x0 = some out → okk al 32 x0 = true → Wb p l e rm_Md_relocate s m args below meth c D cA ad L rs A (QV below args s D cA ad L rs A out) 7 106 [(0, .ref (ad x0))] [] u := by
  obtain ⟨hx, hb, hml, hown, hts, hr, hlocks, hK, hA, hD, hN, hal, hNx⟩ := cx
  intro u x0 h q0 H locs ls hl hP hS
  unfold bk_Md_relocate_106 at h
  refine lv_aload_n hx hb dMd_relocate_106 rfl (lv_at hl 0 rfl) ?_
  refine lv_iconst (v := 3) hx hb dMd_relocate_107 (by decide) ?_
  obtain ⟨u1, v1, hc1, h⟩ := bd2_some h
  refine x_cv (u := u) (out := (u1, v1)) hA hD hS (va_runV (As := [.int (3 : Int32)]) (rest := []) ⟨hx, hb, hml, hown, hts⟩ (ct_Md_refuse hal hN F u x0 (3 : Int32) (u1, v1) hc1 q0 _) ⟨callB_of 1 hts gdMd_refuse rfl rfl rfl (hts _ tw_11) (hts _ tw_1016) hdMd_refuse ⟨Nat.le_of_ble_eq_true rfl, Nat.le_of_ble_eq_true rfl⟩, (hts _ tw_1018), (hts _ tp_71)⟩ (x_preV hK hD hNx hP (hal _ (okk_al q0)) (okk_t q0) rfl rfl) rfl rfl hl.1 rfl (lv_room (Nat.le_of_ble_eq_true rfl)) dMd_relocate_108 ⟨Nat.zero_le _, Nat.zero_le _⟩) (fun H locs hP hS => ?_)
  exact x_vret hx hb hr hlocks h hP hS dMd_relocate_111
def bk_Md_relocate_167 (F : Nat) (al : Nat → Bool) (k22 : Mr → Nat → Int32 → Int32 → Int32 → Option (Mr × Int32)) (u : Mr) (x0 : Nat) (x1 : Int32) (x2 : Int32) (x3 : Int32) (x5 : Int32) : Option (Mr × Int32) := k22 u x0 x1 (x2 + x5) x3
set_option maxHeartbeats 4000000 in
set_option maxRecDepth 100000 in
theorem wk_Md_relocate_167 (cx : Cx p l e s m args below meth c cMd_relocate 7 bw "ImageForgeModel" none D cA ad L rs al A) (F : Nat) (out : Mr × Int32) {k22 : Mr → Nat → Int32 → Int32 → Int32 → Option (Mr × Int32)} (hk22 : ∀ (u : Mr) (x0 : Nat) (x1 : Int32) (x2 : Int32) (x3 : Int32), k22 u x0 x1 x2 x3 = some out → okk al 32 x0 = true → Wb p l e rm_Md_relocate s m args below meth c D cA ad L rs A (QV below args s D cA ad L rs A out) 7 22 [(0, .ref (ad x0)), (1, .int x1), (2, .int x2), (3, .int x3)] [] u) : ∀ (u : Mr) (x0 : Nat) (x1 : Int32) (x2 : Int32) (x3 : Int32) (x5 : Int32), bk_Md_relocate_167 F al k22 u x0 x1 x2 x3 x5 = some out → okk al 32 x0 = true → Wb p l e rm_Md_relocate s m args below meth c D cA ad L rs A (QV below args s D cA ad L rs A out) 7 167 [(0, .ref (ad x0)), (1, .int x1), (2, .int x2), (3, .int x3), (5, .int x5)] [] u := by
  obtain ⟨hx, hb, hml, hown, hts, hr, hlocks, hK, hA, hD, hN, hal, hNx⟩ := cx
  intro u x0 x1 x2 x3 x5 h q0 H locs ls hl hP hS
  unfold bk_Md_relocate_167 at h
  refine lv_iload_n hx hb dMd_relocate_167 rfl (lv_at hl 2 rfl) ?_
  refine lv_iload hx hb dMd_relocate_168 (lv_at hl 4 rfl) ?_
  refine lv_iadd hx hb dMd_relocate_170 ?_
  refine lv_istore_n (lv' := [(2, .int (x2 + x5)), (0, .ref (ad x0)), (1, .int x1), (3, .int x3), (5, .int x5)]) hx hb dMd_relocate_171 rfl hl (by decide) rfl (fun ls hl => ?_)
  refine lv_goto (tgt := 22) hx hb dMd_relocate_172 rfl ?_
  exact hk22 u x0 x1 (x2 + x5) x3 h q0 _ _ _ (lv_sub hl [1, 2, 0, 3] rfl) hP hS
def bk_Md_relocate_118 (F : Nat) (al : Nat → Bool) (k22 : Mr → Nat → Int32 → Int32 → Int32 → Option (Mr × Int32)) : Nat → Mr → Nat → Int32 → Int32 → Int32 → Int32 → Int32 → Int32 → Option (Mr × Int32)
  | 0, _, _, _, _, _, _, _, _ => none
  | n + 1, u, x0, x1, x2, x3, x4, x5, x6 => if (x2 + x5) ≤ x6 then (bk_Md_relocate_167 F al k22 u x0 x1 x2 x3 x5) else (if (u.1 x0 31) = 0 then (bd1 (rdR al u x0 17 41) fun y1 => (ck (inb x6 2048) (bd1 (rdR al u x0 17 41) fun y4 => (ck (inb (x6 + (1 : Int32)) 2048) (bd2 (fn_Md_entry F al u x0 x4 ((u.1 y1 x6) ||| ((u.1 y4 (x6 + (1 : Int32))) <<< ((8 : Int32) &&& 31))) x1) fun u7 v7 => (bk_Md_relocate_118 F al k22 n u7 x0 x1 x2 x3 x4 x5 (x6 + (2 : Int32)))))))) else (bk_Md_relocate_167 F al k22 u x0 x1 x2 x3 x5))
set_option maxHeartbeats 4000000 in
set_option maxRecDepth 100000 in
theorem wk_Md_relocate_118 (cx : Cx p l e s m args below meth c cMd_relocate 7 bw "ImageForgeModel" none D cA ad L rs al A) (F : Nat) (out : Mr × Int32) {k22 : Mr → Nat → Int32 → Int32 → Int32 → Option (Mr × Int32)} (hk22 : ∀ (u : Mr) (x0 : Nat) (x1 : Int32) (x2 : Int32) (x3 : Int32), k22 u x0 x1 x2 x3 = some out → okk al 32 x0 = true → Wb p l e rm_Md_relocate s m args below meth c D cA ad L rs A (QV below args s D cA ad L rs A out) 7 22 [(0, .ref (ad x0)), (1, .int x1), (2, .int x2), (3, .int x3)] [] u) : ∀ n : Nat, ∀ (u : Mr) (x0 : Nat) (x1 : Int32) (x2 : Int32) (x3 : Int32) (x4 : Int32) (x5 : Int32) (x6 : Int32), bk_Md_relocate_118 F al k22 n u x0 x1 x2 x3 x4 x5 x6 = some out → okk al 32 x0 = true → Wb p l e rm_Md_relocate s m args below meth c D cA ad L rs A (QV below args s D cA ad L rs A out) 7 118 [(0, .ref (ad x0)), (1, .int x1), (2, .int x2), (3, .int x3), (4, .int x4), (5, .int x5), (6, .int x6)] [] u := by
  obtain ⟨hx, hb, hml, hown, hts, hr, hlocks, hK, hA, hD, hN, hal, hNx⟩ := cx
  intro n
  induction n with
  | zero =>
    intro u x0 x1 x2 x3 x4 x5 x6 h
    cases h
  | succ n ih =>
    intro u x0 x1 x2 x3 x4 x5 x6 h q0 H locs ls hl hP hS
    rw [bk_Md_relocate_118] at h
    refine lv_iload hx hb dMd_relocate_118 (lv_at hl 6 rfl) ?_
    refine lv_iload_n hx hb dMd_relocate_120 rfl (lv_at hl 2 rfl) ?_
    refine lv_iload hx hb dMd_relocate_121 (lv_at hl 5 rfl) ?_
    refine lv_iadd hx hb dMd_relocate_123 ?_
    refine lv_icmp_ge (tgt := 167) hx hb dMd_relocate_124 rfl (fun hc => ?_) (fun hc => ?_)
    · replace h := it_t h hc
      exact wk_Md_relocate_167 ⟨hx, hb, hml, hown, hts, hr, hlocks, hK, hA, hD, hN, hal, hNx⟩ F out hk22 u x0 x1 x2 x3 x5 h q0 _ _ _ (lv_sub hl [0, 1, 2, 3, 5] rfl) hP hS
    · replace h := it_f h hc
      refine lv_aload_n hx hb dMd_relocate_127 rfl (lv_at hl 0 rfl) ?_
      refine x_get hx hb hts in_Md hown hK hP (hal _ (okk_al q0)) (okk_t q0) rfl rfl 31 (by decide) (hts _ tw_813) (fun _ h9 => h9) rfl dMd_relocate_128 ?_
      refine lv_if_ne (tgt := 167) hx hb dMd_relocate_131 rfl (fun hc => ?_) (fun hc => ?_)
      · replace h := it_f h hc
        exact wk_Md_relocate_167 ⟨hx, hb, hml, hown, hts, hr, hlocks, hK, hA, hD, hN, hal, hNx⟩ F out hk22 u x0 x1 x2 x3 x5 h q0 _ _ _ (lv_sub hl [0, 1, 2, 3, 5] rfl) hP hS
      · replace h := it_t h hc
        refine lv_aload_n hx hb dMd_relocate_134 rfl (lv_at hl 0 rfl) ?_
        refine lv_iload hx hb dMd_relocate_135 (lv_at hl 4 rfl) ?_
        refine lv_aload_n hx hb dMd_relocate_137 rfl (lv_at hl 0 rfl) ?_
        obtain ⟨y1, hy2, h⟩ := bd1_some h
        obtain ⟨hy2a, hy2⟩ := rdR_some hy2
        refine x_get hx hb hts in_Md hown hK hP (hal _ (okk_al q0)) (okk_t q0) rfl rfl 17 (by decide) (hts _ tw_799) (fun _ h9 => h9) (congrArg some (x_rf hy2a)) dMd_relocate_138 ?_
        refine lv_iload hx hb dMd_relocate_141 (lv_at hl 6 rfl) ?_
        obtain ⟨hi3, h⟩ := ck_some h
        refine x_iald hx hb hK hP (hal _ (okk_al hy2)) (okk_t hy2) 0 (fun _ _ _ => rfl) rfl (inb_in hi3) dMd_relocate_143 ?_
        refine lv_aload_n hx hb dMd_relocate_144 rfl (lv_at hl 0 rfl) ?_
        obtain ⟨y4, hy5, h⟩ := bd1_some h
        obtain ⟨hy5a, hy5⟩ := rdR_some hy5
        refine x_get hx hb hts in_Md hown hK hP (hal _ (okk_al q0)) (okk_t q0) rfl rfl 17 (by decide) (hts _ tw_799) (fun _ h9 => h9) (congrArg some (x_rf hy5a)) dMd_relocate_145 ?_
        refine lv_iload hx hb dMd_relocate_148 (lv_at hl 6 rfl) ?_
        refine lv_iconst (v := 1) hx hb dMd_relocate_150 (by decide) ?_
        refine lv_iadd hx hb dMd_relocate_151 ?_
        obtain ⟨hi6, h⟩ := ck_some h
        refine x_iald hx hb hK hP (hal _ (okk_al hy5)) (okk_t hy5) 0 (fun _ _ _ => rfl) rfl (inb_in hi6) dMd_relocate_152 ?_
        refine lv_bipush (v := 8) hx hb dMd_relocate_153 (by decide) ?_
        refine lv_ishl hx hb dMd_relocate_155 ?_
        refine lv_ior hx hb dMd_relocate_156 ?_
        refine lv_iload_n hx hb dMd_relocate_157 rfl (lv_at hl 1 rfl) ?_
        obtain ⟨u7, v7, hc7, h⟩ := bd2_some h
        refine x_cv (u := u) (out := (u7, v7)) hA hD hS (va_runV (As := [.int x4, .int ((u.1 y1 x6) ||| ((u.1 y4 (x6 + (1 : Int32))) <<< ((8 : Int32) &&& 31))), .int x1]) (rest := []) ⟨hx, hb, hml, hown, hts⟩ (ct_Md_entry hal hN F u x0 x4 ((u.1 y1 x6) ||| ((u.1 y4 (x6 + (1 : Int32))) <<< ((8 : Int32) &&& 31))) x1 (u7, v7) hc7 q0 _) ⟨callB_of 3 hts gdMd_entry rfl rfl rfl (hts _ tw_11) (hts _ tw_1027) hdMd_entry ⟨Nat.le_of_ble_eq_true rfl, Nat.le_of_ble_eq_true rfl⟩, (hts _ tw_1029), (hts _ tp_73)⟩ (x_preV hK hD hNx hP (hal _ (okk_al q0)) (okk_t q0) rfl rfl) rfl rfl hl.1 rfl (lv_room (Nat.le_of_ble_eq_true rfl)) dMd_relocate_158 ⟨Nat.zero_le _, Nat.zero_le _⟩) (fun H locs hP hS => ?_)
        refine lv_iinc (k := 6) (v := x6 + (2 : Int32)) (lv' := [(6, .int (x6 + (2 : Int32))), (0, .ref (ad x0)), (1, .int x1), (2, .int x2), (3, .int x3), (4, .int x4), (5, .int x5)]) hx hb dMd_relocate_161 hl rfl (congrArg (fun z => _ + z) (show Int32.ofInt 2 = 2 by decide)) (by decide) rfl (fun ls hl => ?_)
        refine lv_goto (tgt := 118) hx hb dMd_relocate_164 rfl ?_
        exact ih u7 x0 x1 x2 x3 x4 x5 (x6 + (2 : Int32)) h q0 _ _ _ (lv_sub hl [1, 2, 3, 4, 5, 6, 0] rfl) hP hS
def bk_Md_relocate_22 (F : Nat) (al : Nat → Bool) : Nat → Mr → Nat → Int32 → Int32 → Int32 → Option (Mr × Int32)
  | 0, _, _, _, _, _ => none
  | n + 1, u, x0, x1, x2, x3 => if (u.1 x0 31) = 0 then (if x3 ≤ x2 then (some (u, 0)) else (if (8 : Int32) ≤ (x3 - x2) then (bd1 (rdR al u x0 17 41) fun y1 => (bd2 (fn_Md_wordIn F al u y1 x2) fun u3 v3 => (bd1 (rdR al u3 x0 17 41) fun y4 => (bd2 (fn_Md_wordIn F al u3 y4 (x2 + (4 : Int32))) fun u6 v6 => (if v6 < (8 : Int32) then (bk_Md_relocate_106 F al u6 x0) else (if (v6 - v6 / (2 : Int32) * (2 : Int32)) = (1 : Int32) then (bk_Md_relocate_106 F al u6 x0) else (if (x3 - x2) < v6 then (bk_Md_relocate_106 F al u6 x0) else (if v3 < 0 then (bk_Md_relocate_106 F al u6 x0) else (if (v3 - v3 / (64 : Int32) * (64 : Int32)) = 0 then (bk_Md_relocate_118 F al (bk_Md_relocate_22 F al n) F u6 x0 x1 x2 x3 v3 v6 (x2 + (8 : Int32))) else (bk_Md_relocate_106 F al u6 x0)))))))))) else (bd2 (fn_Md_refuse F al u x0 (3 : Int32)) fun u7 v7 => (some (u7, 0))))) else (some (u, 0))
set_option maxHeartbeats 4000000 in
set_option maxRecDepth 100000 in
theorem wk_Md_relocate_22 (cx : Cx p l e s m args below meth c cMd_relocate 7 bw "ImageForgeModel" none D cA ad L rs al A) (F : Nat) (out : Mr × Int32) : ∀ n : Nat, ∀ (u : Mr) (x0 : Nat) (x1 : Int32) (x2 : Int32) (x3 : Int32), bk_Md_relocate_22 F al n u x0 x1 x2 x3 = some out → okk al 32 x0 = true → Wb p l e rm_Md_relocate s m args below meth c D cA ad L rs A (QV below args s D cA ad L rs A out) 7 22 [(0, .ref (ad x0)), (1, .int x1), (2, .int x2), (3, .int x3)] [] u := by
  obtain ⟨hx, hb, hml, hown, hts, hr, hlocks, hK, hA, hD, hN, hal, hNx⟩ := cx
  intro n
  induction n with
  | zero =>
    intro u x0 x1 x2 x3 h
    cases h
  | succ n ih =>
    intro u x0 x1 x2 x3 h q0 H locs ls hl hP hS
    rw [bk_Md_relocate_22] at h
    refine lv_aload_n hx hb dMd_relocate_22 rfl (lv_at hl 0 rfl) ?_
    refine x_get hx hb hts in_Md hown hK hP (hal _ (okk_al q0)) (okk_t q0) rfl rfl 31 (by decide) (hts _ tw_813) (fun _ h9 => h9) rfl dMd_relocate_23 ?_
    refine lv_if_ne (tgt := 175) hx hb dMd_relocate_26 rfl (fun hc => ?_) (fun hc => ?_)
    · replace h := it_f h hc
      exact x_vret hx hb hr hlocks h hP hS dMd_relocate_175
    · replace h := it_t h hc
      refine lv_iload_n hx hb dMd_relocate_29 rfl (lv_at hl 2 rfl) ?_
      refine lv_iload_n hx hb dMd_relocate_30 rfl (lv_at hl 3 rfl) ?_
      refine lv_icmp_ge (tgt := 175) hx hb dMd_relocate_31 rfl (fun hc => ?_) (fun hc => ?_)
      · replace h := it_t h hc
        exact x_vret hx hb hr hlocks h hP hS dMd_relocate_175
      · replace h := it_f h hc
        refine lv_iload_n hx hb dMd_relocate_34 rfl (lv_at hl 3 rfl) ?_
        refine lv_iload_n hx hb dMd_relocate_35 rfl (lv_at hl 2 rfl) ?_
        refine lv_isub hx hb dMd_relocate_36 ?_
        refine lv_bipush (v := 8) hx hb dMd_relocate_37 (by decide) ?_
        refine lv_icmp_ge (tgt := 48) hx hb dMd_relocate_39 rfl (fun hc => ?_) (fun hc => ?_)
        · replace h := it_t h hc
          refine lv_aload_n hx hb dMd_relocate_48 rfl (lv_at hl 0 rfl) ?_
          obtain ⟨y1, hy2, h⟩ := bd1_some h
          obtain ⟨hy2a, hy2⟩ := rdR_some hy2
          refine x_get hx hb hts in_Md hown hK hP (hal _ (okk_al q0)) (okk_t q0) rfl rfl 17 (by decide) (hts _ tw_799) (fun _ h9 => h9) (congrArg some (x_rf hy2a)) dMd_relocate_49 ?_
          refine lv_iload_n hx hb dMd_relocate_52 rfl (lv_at hl 2 rfl) ?_
          obtain ⟨u3, v3, hc3, h⟩ := bd2_some h
          refine x_ci (u := u) (out := (u3, v3)) hA hD hS (va_runS (As := [.ref (ad y1), .int x2]) (rest := []) ⟨hx, hb, hml, hown, hts⟩ (ct_Md_wordIn hal hN F u y1 x2 (u3, v3) hc3 hy2 _) ⟨callB_of 2 hts gdMd_wordIn rfl rfl rfl (hts _ tw_11) (hts _ tw_983) hdMd_wordIn ⟨Nat.le_of_ble_eq_true rfl, Nat.le_of_ble_eq_true rfl⟩, (hts _ tw_984)⟩ (x_preS hK hD hNx hP) rfl rfl hl.1 rfl (lv_room (Nat.le_of_ble_eq_true rfl)) dMd_relocate_53 ⟨Nat.zero_le _, Nat.zero_le _⟩) (fun H locs hP hS => ?_)
          refine lv_istore (lv' := [(4, .int v3), (0, .ref (ad x0)), (1, .int x1), (2, .int x2), (3, .int x3)]) hx hb dMd_relocate_56 hl (by decide) rfl (fun ls hl => ?_)
          refine lv_aload_n hx hb dMd_relocate_58 rfl (lv_at hl 1 rfl) ?_
          obtain ⟨y4, hy5, h⟩ := bd1_some h
          obtain ⟨hy5a, hy5⟩ := rdR_some hy5
          refine x_get hx hb hts in_Md hown hK hP (hal _ (okk_al q0)) (okk_t q0) rfl rfl 17 (by decide) (hts _ tw_799) (fun _ h9 => h9) (congrArg some (x_rf hy5a)) dMd_relocate_59 ?_
          refine lv_iload_n hx hb dMd_relocate_62 rfl (lv_at hl 3 rfl) ?_
          refine lv_iconst (v := 4) hx hb dMd_relocate_63 (by decide) ?_
          refine lv_iadd hx hb dMd_relocate_64 ?_
          obtain ⟨u6, v6, hc6, h⟩ := bd2_some h
          refine x_ci (u := u3) (out := (u6, v6)) hA hD hS (va_runS (As := [.ref (ad y4), .int (x2 + (4 : Int32))]) (rest := []) ⟨hx, hb, hml, hown, hts⟩ (ct_Md_wordIn hal hN F u3 y4 (x2 + (4 : Int32)) (u6, v6) hc6 hy5 _) ⟨callB_of 2 hts gdMd_wordIn rfl rfl rfl (hts _ tw_11) (hts _ tw_983) hdMd_wordIn ⟨Nat.le_of_ble_eq_true rfl, Nat.le_of_ble_eq_true rfl⟩, (hts _ tw_984)⟩ (x_preS hK hD hNx hP) rfl rfl hl.1 rfl (lv_room (Nat.le_of_ble_eq_true rfl)) dMd_relocate_65 ⟨Nat.zero_le _, Nat.zero_le _⟩) (fun H locs hP hS => ?_)
          refine lv_istore (lv' := [(5, .int v6), (4, .int v3), (0, .ref (ad x0)), (1, .int x1), (2, .int x2), (3, .int x3)]) hx hb dMd_relocate_68 hl (by decide) rfl (fun ls hl => ?_)
          refine lv_iload hx hb dMd_relocate_70 (lv_at hl 0 rfl) ?_
          refine lv_bipush (v := 8) hx hb dMd_relocate_72 (by decide) ?_
          refine lv_icmp_lt (tgt := 106) hx hb dMd_relocate_74 rfl (fun hc => ?_) (fun hc => ?_)
          · replace h := it_t h hc
            exact wk_Md_relocate_106 ⟨hx, hb, hml, hown, hts, hr, hlocks, hK, hA, hD, hN, hal, hNx⟩ F out u6 x0 h q0 _ _ _ (lv_sub hl [2] rfl) hP hS
          · replace h := it_f h hc
            refine lv_iload hx hb dMd_relocate_77 (lv_at hl 0 rfl) ?_
            refine lv_iconst (v := 2) hx hb dMd_relocate_79 (by decide) ?_
            refine lv_irem hx hb dMd_relocate_80 (by decide) ?_
            refine lv_iconst (v := 1) hx hb dMd_relocate_81 (by decide) ?_
            refine lv_icmp_eq (tgt := 106) hx hb dMd_relocate_82 rfl (fun hc => ?_) (fun hc => ?_)
            · replace h := it_t h hc
              exact wk_Md_relocate_106 ⟨hx, hb, hml, hown, hts, hr, hlocks, hK, hA, hD, hN, hal, hNx⟩ F out u6 x0 h q0 _ _ _ (lv_sub hl [2] rfl) hP hS
            · replace h := it_f h hc
              refine lv_iload hx hb dMd_relocate_85 (lv_at hl 0 rfl) ?_
              refine lv_iload_n hx hb dMd_relocate_87 rfl (lv_at hl 5 rfl) ?_
              refine lv_iload_n hx hb dMd_relocate_88 rfl (lv_at hl 4 rfl) ?_
              refine lv_isub hx hb dMd_relocate_89 ?_
              refine lv_icmp_gt (tgt := 106) hx hb dMd_relocate_90 rfl (fun hc => ?_) (fun hc => ?_)
              · replace h := it_t h hc
                exact wk_Md_relocate_106 ⟨hx, hb, hml, hown, hts, hr, hlocks, hK, hA, hD, hN, hal, hNx⟩ F out u6 x0 h q0 _ _ _ (lv_sub hl [2] rfl) hP hS
              · replace h := it_f h hc
                refine lv_iload hx hb dMd_relocate_93 (lv_at hl 1 rfl) ?_
                refine lv_if_lt (tgt := 106) hx hb dMd_relocate_95 rfl (fun hc => ?_) (fun hc => ?_)
                · replace h := it_t h hc
                  exact wk_Md_relocate_106 ⟨hx, hb, hml, hown, hts, hr, hlocks, hK, hA, hD, hN, hal, hNx⟩ F out u6 x0 h q0 _ _ _ (lv_sub hl [2] rfl) hP hS
                · replace h := it_f h hc
                  refine lv_iload hx hb dMd_relocate_98 (lv_at hl 1 rfl) ?_
                  refine lv_bipush (v := 64) hx hb dMd_relocate_100 (by decide) ?_
                  refine lv_irem hx hb dMd_relocate_102 (by decide) ?_
                  refine lv_if_eq (tgt := 112) hx hb dMd_relocate_103 rfl (fun hc => ?_) (fun hc => ?_)
                  · replace h := it_t h hc
                    refine lv_iload_n hx hb dMd_relocate_112 rfl (lv_at hl 4 rfl) ?_
                    refine lv_bipush (v := 8) hx hb dMd_relocate_113 (by decide) ?_
                    refine lv_iadd hx hb dMd_relocate_115 ?_
                    refine lv_istore (lv' := [(6, .int (x2 + (8 : Int32))), (5, .int v6), (4, .int v3), (0, .ref (ad x0)), (1, .int x1), (2, .int x2), (3, .int x3)]) hx hb dMd_relocate_116 hl (by decide) rfl (fun ls hl => ?_)
                    exact wk_Md_relocate_118 ⟨hx, hb, hml, hown, hts, hr, hlocks, hK, hA, hD, hN, hal, hNx⟩ F out ih F u6 x0 x1 x2 x3 v3 v6 (x2 + (8 : Int32)) h q0 _ _ _ (lv_sub hl [3, 4, 5, 6, 2, 1, 0] rfl) hP hS
                  · replace h := it_f h hc
                    exact wk_Md_relocate_106 ⟨hx, hb, hml, hown, hts, hr, hlocks, hK, hA, hD, hN, hal, hNx⟩ F out u6 x0 h q0 _ _ _ (lv_sub hl [2] rfl) hP hS
        · replace h := it_f h hc
          refine lv_aload_n hx hb dMd_relocate_42 rfl (lv_at hl 0 rfl) ?_
          refine lv_iconst (v := 3) hx hb dMd_relocate_43 (by decide) ?_
          obtain ⟨u7, v7, hc7, h⟩ := bd2_some h
          refine x_cv (u := u) (out := (u7, v7)) hA hD hS (va_runV (As := [.int (3 : Int32)]) (rest := []) ⟨hx, hb, hml, hown, hts⟩ (ct_Md_refuse hal hN F u x0 (3 : Int32) (u7, v7) hc7 q0 _) ⟨callB_of 1 hts gdMd_refuse rfl rfl rfl (hts _ tw_11) (hts _ tw_1016) hdMd_refuse ⟨Nat.le_of_ble_eq_true rfl, Nat.le_of_ble_eq_true rfl⟩, (hts _ tw_1018), (hts _ tp_71)⟩ (x_preV hK hD hNx hP (hal _ (okk_al q0)) (okk_t q0) rfl rfl) rfl rfl hl.1 rfl (lv_room (Nat.le_of_ble_eq_true rfl)) dMd_relocate_44 ⟨Nat.zero_le _, Nat.zero_le _⟩) (fun H locs hP hS => ?_)
          exact x_vret hx hb hr hlocks h hP hS dMd_relocate_47
def bk_Md_relocate_0 (F : Nat) (al : Nat → Bool) (u : Mr) (x0 : Nat) (x1 : Int32) : Option (Mr × Int32) := bd1 (rdR al u x0 17 41) fun y1 => (bd2 (fn_Md_wordIn F al u y1 (56 : Int32)) fun u3 v3 => (bd1 (rdR al u3 x0 17 41) fun y4 => (bd2 (fn_Md_wordIn F al u3 y4 (60 : Int32)) fun u6 v6 => (bk_Md_relocate_22 F al F u6 x0 x1 v3 (v3 + v6)))))
set_option maxHeartbeats 4000000 in
set_option maxRecDepth 100000 in
theorem wk_Md_relocate_0 (cx : Cx p l e s m args below meth c cMd_relocate 7 bw "ImageForgeModel" none D cA ad L rs al A) (F : Nat) (out : Mr × Int32) : ∀ (u : Mr) (x0 : Nat) (x1 : Int32), bk_Md_relocate_0 F al u x0 x1 = some out → okk al 32 x0 = true → Wb p l e rm_Md_relocate s m args below meth c D cA ad L rs A (QV below args s D cA ad L rs A out) 7 0 [(0, .ref (ad x0)), (1, .int x1)] [] u := by
  obtain ⟨hx, hb, hml, hown, hts, hr, hlocks, hK, hA, hD, hN, hal, hNx⟩ := cx
  intro u x0 x1 h q0 H locs ls hl hP hS
  unfold bk_Md_relocate_0 at h
  refine lv_aload_n hx hb dMd_relocate_0 rfl (lv_at hl 0 rfl) ?_
  obtain ⟨y1, hy2, h⟩ := bd1_some h
  obtain ⟨hy2a, hy2⟩ := rdR_some hy2
  refine x_get hx hb hts in_Md hown hK hP (hal _ (okk_al q0)) (okk_t q0) rfl rfl 17 (by decide) (hts _ tw_799) (fun _ h9 => h9) (congrArg some (x_rf hy2a)) dMd_relocate_1 ?_
  refine lv_bipush (v := 56) hx hb dMd_relocate_4 (by decide) ?_
  obtain ⟨u3, v3, hc3, h⟩ := bd2_some h
  refine x_ci (u := u) (out := (u3, v3)) hA hD hS (va_runS (As := [.ref (ad y1), .int (56 : Int32)]) (rest := []) ⟨hx, hb, hml, hown, hts⟩ (ct_Md_wordIn hal hN F u y1 (56 : Int32) (u3, v3) hc3 hy2 _) ⟨callB_of 2 hts gdMd_wordIn rfl rfl rfl (hts _ tw_11) (hts _ tw_983) hdMd_wordIn ⟨Nat.le_of_ble_eq_true rfl, Nat.le_of_ble_eq_true rfl⟩, (hts _ tw_984)⟩ (x_preS hK hD hNx hP) rfl rfl hl.1 rfl (lv_room (Nat.le_of_ble_eq_true rfl)) dMd_relocate_6 ⟨Nat.zero_le _, Nat.zero_le _⟩) (fun H locs hP hS => ?_)
  refine lv_istore_n (lv' := [(2, .int v3), (0, .ref (ad x0)), (1, .int x1)]) hx hb dMd_relocate_9 rfl hl (by decide) rfl (fun ls hl => ?_)
  refine lv_iload_n hx hb dMd_relocate_10 rfl (lv_at hl 0 rfl) ?_
  refine lv_aload_n hx hb dMd_relocate_11 rfl (lv_at hl 1 rfl) ?_
  obtain ⟨y4, hy5, h⟩ := bd1_some h
  obtain ⟨hy5a, hy5⟩ := rdR_some hy5
  refine x_get hx hb hts in_Md hown hK hP (hal _ (okk_al q0)) (okk_t q0) rfl rfl 17 (by decide) (hts _ tw_799) (fun _ h9 => h9) (congrArg some (x_rf hy5a)) dMd_relocate_12 ?_
  refine lv_bipush (v := 60) hx hb dMd_relocate_15 (by decide) ?_
  obtain ⟨u6, v6, hc6, h⟩ := bd2_some h
  refine x_ci (u := u3) (out := (u6, v6)) hA hD hS (va_runS (As := [.ref (ad y4), .int (60 : Int32)]) (rest := [.int v3]) ⟨hx, hb, hml, hown, hts⟩ (ct_Md_wordIn hal hN F u3 y4 (60 : Int32) (u6, v6) hc6 hy5 _) ⟨callB_of 2 hts gdMd_wordIn rfl rfl rfl (hts _ tw_11) (hts _ tw_983) hdMd_wordIn ⟨Nat.le_of_ble_eq_true rfl, Nat.le_of_ble_eq_true rfl⟩, (hts _ tw_984)⟩ (x_preS hK hD hNx hP) rfl rfl hl.1 rfl (lv_room (Nat.le_of_ble_eq_true rfl)) dMd_relocate_17 ⟨Nat.zero_le _, Nat.zero_le _⟩) (fun H locs hP hS => ?_)
  refine lv_iadd hx hb dMd_relocate_20 ?_
  refine lv_istore_n (lv' := [(3, .int (v3 + v6)), (2, .int v3), (0, .ref (ad x0)), (1, .int x1)]) hx hb dMd_relocate_21 rfl hl (by decide) rfl (fun ls hl => ?_)
  exact wk_Md_relocate_22 ⟨hx, hb, hml, hown, hts, hr, hlocks, hK, hA, hD, hN, hal, hNx⟩ F out F u6 x0 x1 v3 (v3 + v6) h q0 _ _ _ (lv_sub hl [2, 3, 1, 0] rfl) hP hS
def fn_Md_relocate (F : Nat) (al : Nat → Bool) (u : Mr) (x0 : Nat) (x1 : Int32) : Option (Mr × Int32) := bk_Md_relocate_0 F al u x0 x1
set_option maxHeartbeats 4000000 in
set_option maxRecDepth 100000 in
theorem ct_Md_relocate {l : Launch} {D : va_G} {cA : Nat → ClassId} {ad : Nat → Nat} {L : List Nat} {rs : va_W} {al : Nat → Bool} (hal : ∀ k, al k = true → k ∈ L) (hN : L.Nodup) (F : Nat) (u : Mr) (x0 : Nat) (x1 : Int32) (out : Mr × Int32) (h : fn_Md_relocate F al u x0 x1 = some out) (q0 : okk al 32 x0 = true) : CtV l yMd_relocate wsMd_relocate rm_Md_relocate [.ref (ad x0), .int x1] D cA ad L rs u out := by
  intro sz
  refine Met.ofW (cc := cMd_relocate) (maxL := 7) (ret := none) (by decide) rfl ?_
  intro p e s m args below meth c s₁ B hml hv
  obtain ⟨rfl, hsz, hP, hK, hD0, hNx⟩ := hv
  subst hsz
  have hD := hD0.self (sz := s.heap.size)
  generalize hAe : va_A (ww ad cA L rs u) s.heap.size = A at hD ⊢
  have hA : ∀ q, s.heap.size ≤ q → A q := fun q h => by rw [← hAe]; exact Or.inr h
  have hl := lv_entry ([.ref (ad x0), .int x1]) (n := 7) (Nat.le_of_ble_eq_true rfl)
  rw [lg_entry_eq]
  generalize (lg_sl ([.ref (ad x0), .int x1]) ++ List.replicate (7 - (lg_sl ([.ref (ad x0), .int x1])).length) Slot.unset).toArray = ls at hl ⊢
  exact wk_Md_relocate_0 ⟨B.exec, B.bytes, hml, findClass_of_methodNamed B.named, hts_bw (atoms_spec (ws := wsMd_relocate) B.pre), B.returns, B.notSynchronized, hK, hA, fun v => ww_D hD, hN, hal, hNx⟩ F out u x0 x1 h q0 _ _ _ (lv_sub hl [0, 1] rfl) hP va_S.rf
abbrev rm_Md_bindSlots : Room := { frames := 1, cells := 0, slots := 0, locals := 25 }
def bk_Md_bindSlots_145 (F : Nat) (al : Nat → Bool) (k6 : Mr → Nat → Int32 → Int64 → Int32 → Option (Mr × Int32)) (u : Mr) (x0 : Nat) (x1 : Int32) (x3 : Int64) (x5 : Int32) : Option (Mr × Int32) := k6 u x0 x1 (x3 + (4 : Int64)) x5
set_option maxHeartbeats 4000000 in
set_option maxRecDepth 100000 in
theorem wk_Md_bindSlots_145 (cx : Cx p l e s m args below meth c cMd_bindSlots 8 bw "ImageForgeModel" none D cA ad L rs al A) (F : Nat) (out : Mr × Int32) {k6 : Mr → Nat → Int32 → Int64 → Int32 → Option (Mr × Int32)} (hk6 : ∀ (u : Mr) (x0 : Nat) (x1 : Int32) (x3 : Int64) (x5 : Int32), k6 u x0 x1 x3 x5 = some out → okk al 32 x0 = true → Wb p l e rm_Md_bindSlots s m args below meth c D cA ad L rs A (QV below args s D cA ad L rs A out) 8 6 [(0, .ref (ad x0)), (1, .int x1), (3, .long x3), (5, .int x5)] [] u) : ∀ (u : Mr) (x0 : Nat) (x1 : Int32) (x3 : Int64) (x5 : Int32), bk_Md_bindSlots_145 F al k6 u x0 x1 x3 x5 = some out → okk al 32 x0 = true → Wb p l e rm_Md_bindSlots s m args below meth c D cA ad L rs A (QV below args s D cA ad L rs A out) 8 145 [(0, .ref (ad x0)), (1, .int x1), (3, .long x3), (5, .int x5)] [] u := by
  obtain ⟨hx, hb, hml, hown, hts, hr, hlocks, hK, hA, hD, hN, hal, hNx⟩ := cx
  intro u x0 x1 x3 x5 h q0 H locs ls hl hP hS
  unfold bk_Md_bindSlots_145 at h
  refine lv_lload_n hx hb dMd_bindSlots_145 rfl (lv_at hl 2 rfl) ?_
  refine lv_ldc2 (v := 4) hx hb hown (hts _ tw_1031) dMd_bindSlots_146 ?_
  refine lv_ladd hx hb dMd_bindSlots_149 ?_
  refine lv_lstore_n (lv' := [(3, .long (x3 + (4 : Int64))), (0, .ref (ad x0)), (1, .int x1), (5, .int x5)]) hx hb dMd_bindSlots_150 rfl hl (by decide) rfl (fun ls hl => ?_)
  refine lv_goto (tgt := 6) hx hb dMd_bindSlots_151 rfl ?_
  exact hk6 u x0 x1 (x3 + (4 : Int64)) x5 h q0 _ _ _ (lv_sub hl [1, 2, 0, 3] rfl) hP hS
def bk_Md_bindSlots_122 (F : Nat) (al : Nat → Bool) (k6 : Mr → Nat → Int32 → Int64 → Int32 → Option (Mr × Int32)) (u : Mr) (x0 : Nat) (x1 : Int32) (x3 : Int64) (x5 : Int32) (x7 : Int32) : Option (Mr × Int32) := if x5 = 0 then (bk_Md_bindSlots_145 F al k6 u x0 x1 x3 x5) else (bd1 (rdR al u x0 15 40) fun y1 => (ck (inb (((100 : Int32) * x1) + x7) 400) (bd2 (fn_Md_change F al u x0 x3.toInt32 (u.1 y1 (((100 : Int32) * x1) + x7))) fun u4 v4 => (bk_Md_bindSlots_145 F al k6 u4 x0 x1 x3 x5))))
set_option maxHeartbeats 4000000 in
set_option maxRecDepth 100000 in
theorem wk_Md_bindSlots_122 (cx : Cx p l e s m args below meth c cMd_bindSlots 8 bw "ImageForgeModel" none D cA ad L rs al A) (F : Nat) (out : Mr × Int32) {k6 : Mr → Nat → Int32 → Int64 → Int32 → Option (Mr × Int32)} (hk6 : ∀ (u : Mr) (x0 : Nat) (x1 : Int32) (x3 : Int64) (x5 : Int32), k6 u x0 x1 x3 x5 = some out → okk al 32 x0 = true → Wb p l e rm_Md_bindSlots s m args below meth c D cA ad L rs A (QV below args s D cA ad L rs A out) 8 6 [(0, .ref (ad x0)), (1, .int x1), (3, .long x3), (5, .int x5)] [] u) : ∀ (u : Mr) (x0 : Nat) (x1 : Int32) (x3 : Int64) (x5 : Int32) (x7 : Int32), bk_Md_bindSlots_122 F al k6 u x0 x1 x3 x5 x7 = some out → okk al 32 x0 = true → Wb p l e rm_Md_bindSlots s m args below meth c D cA ad L rs A (QV below args s D cA ad L rs A out) 8 122 [(0, .ref (ad x0)), (1, .int x1), (3, .long x3), (5, .int x5), (7, .int x7)] [] u := by
  obtain ⟨hx, hb, hml, hown, hts, hr, hlocks, hK, hA, hD, hN, hal, hNx⟩ := cx
  intro u x0 x1 x3 x5 x7 h q0 H locs ls hl hP hS
  unfold bk_Md_bindSlots_122 at h
  refine lv_iload hx hb dMd_bindSlots_122 (lv_at hl 3 rfl) ?_
  refine lv_if_eq (tgt := 145) hx hb dMd_bindSlots_124 rfl (fun hc => ?_) (fun hc => ?_)
  · replace h := it_t h hc
    exact wk_Md_bindSlots_145 ⟨hx, hb, hml, hown, hts, hr, hlocks, hK, hA, hD, hN, hal, hNx⟩ F out hk6 u x0 x1 x3 x5 h q0 _ _ _ (lv_sub hl [0, 1, 2, 3] rfl) hP hS
  · replace h := it_f h hc
    refine lv_aload_n hx hb dMd_bindSlots_127 rfl (lv_at hl 0 rfl) ?_
    refine lv_lload_n hx hb dMd_bindSlots_128 rfl (lv_at hl 2 rfl) ?_
    refine lv_l2i (v := x3.toInt32) hx hb dMd_bindSlots_129 rfl ?_
    refine lv_aload_n hx hb dMd_bindSlots_130 rfl (lv_at hl 0 rfl) ?_
    obtain ⟨y1, hy2, h⟩ := bd1_some h
    obtain ⟨hy2a, hy2⟩ := rdR_some hy2
    refine x_get hx hb hts in_Md hown hK hP (hal _ (okk_al q0)) (okk_t q0) rfl rfl 15 (by decide) (hts _ tw_797) (fun _ h9 => h9) (congrArg some (x_rf hy2a)) dMd_bindSlots_131 ?_
    refine lv_bipush (v := 100) hx hb dMd_bindSlots_134 (by decide) ?_
    refine lv_iload_n hx hb dMd_bindSlots_136 rfl (lv_at hl 1 rfl) ?_
    refine lv_imul hx hb dMd_bindSlots_137 ?_
    refine lv_iload hx hb dMd_bindSlots_138 (lv_at hl 4 rfl) ?_
    refine lv_iadd hx hb dMd_bindSlots_140 ?_
    obtain ⟨hi3, h⟩ := ck_some h
    refine x_iald hx hb hK hP (hal _ (okk_al hy2)) (okk_t hy2) 0 (fun _ _ _ => rfl) rfl (inb_in hi3) dMd_bindSlots_141 ?_
    obtain ⟨u4, v4, hc4, h⟩ := bd2_some h
    refine x_cv (u := u) (out := (u4, v4)) hA hD hS (va_runV (As := [.int x3.toInt32, .int (u.1 y1 (((100 : Int32) * x1) + x7))]) (rest := []) ⟨hx, hb, hml, hown, hts⟩ (ct_Md_change hal hN F u x0 x3.toInt32 (u.1 y1 (((100 : Int32) * x1) + x7)) (u4, v4) hc4 q0 _) ⟨callB_of 2 hts gdMd_change rfl rfl rfl (hts _ tw_11) (hts _ tw_1032) hdMd_change ⟨Nat.le_of_ble_eq_true rfl, Nat.le_of_ble_eq_true rfl⟩, (hts _ tw_1034), (hts _ tp_74)⟩ (x_preV hK hD hNx hP (hal _ (okk_al q0)) (okk_t q0) rfl rfl) rfl rfl hl.1 rfl (lv_room (Nat.le_of_ble_eq_true rfl)) dMd_bindSlots_142 ⟨Nat.zero_le _, Nat.zero_le _⟩) (fun H locs hP hS => ?_)
    exact wk_Md_bindSlots_145 ⟨hx, hb, hml, hown, hts, hr, hlocks, hK, hA, hD, hN, hal, hNx⟩ F out hk6 u4 x0 x1 x3 x5 h q0 _ _ _ (lv_sub hl [0, 1, 2, 3] rfl) hP hS
def bk_Md_bindSlots_94 (F : Nat) (al : Nat → Bool) (k6 : Mr → Nat → Int32 → Int64 → Int32 → Option (Mr × Int32)) (u : Mr) (x0 : Nat) (x1 : Int32) (x3 : Int64) (x5 : Int32) (x7 : Int32) : Option (Mr × Int32) := if x5 = 0 then (bk_Md_bindSlots_122 F al k6 u x0 x1 x3 x5 x7) else (bd1 (rdR al u x0 15 40) fun y1 => (ck (inb (((100 : Int32) * x1) + x7) 400) (if (u.1 y1 (((100 : Int32) * x1) + x7)) = 0 then (bd2 (fn_Md_refuse F al u x0 (4 : Int32)) fun u4 v4 => (bk_Md_bindSlots_145 F al k6 u4 x0 x1 x3 x5)) else (bk_Md_bindSlots_122 F al k6 u x0 x1 x3 x5 x7))))
set_option maxHeartbeats 4000000 in
set_option maxRecDepth 100000 in
theorem wk_Md_bindSlots_94 (cx : Cx p l e s m args below meth c cMd_bindSlots 8 bw "ImageForgeModel" none D cA ad L rs al A) (F : Nat) (out : Mr × Int32) {k6 : Mr → Nat → Int32 → Int64 → Int32 → Option (Mr × Int32)} (hk6 : ∀ (u : Mr) (x0 : Nat) (x1 : Int32) (x3 : Int64) (x5 : Int32), k6 u x0 x1 x3 x5 = some out → okk al 32 x0 = true → Wb p l e rm_Md_bindSlots s m args below meth c D cA ad L rs A (QV below args s D cA ad L rs A out) 8 6 [(0, .ref (ad x0)), (1, .int x1), (3, .long x3), (5, .int x5)] [] u) : ∀ (u : Mr) (x0 : Nat) (x1 : Int32) (x3 : Int64) (x5 : Int32) (x7 : Int32), bk_Md_bindSlots_94 F al k6 u x0 x1 x3 x5 x7 = some out → okk al 32 x0 = true → Wb p l e rm_Md_bindSlots s m args below meth c D cA ad L rs A (QV below args s D cA ad L rs A out) 8 94 [(0, .ref (ad x0)), (1, .int x1), (3, .long x3), (5, .int x5), (7, .int x7)] [] u := by
  obtain ⟨hx, hb, hml, hown, hts, hr, hlocks, hK, hA, hD, hN, hal, hNx⟩ := cx
  intro u x0 x1 x3 x5 x7 h q0 H locs ls hl hP hS
  unfold bk_Md_bindSlots_94 at h
  refine lv_iload hx hb dMd_bindSlots_94 (lv_at hl 3 rfl) ?_
  refine lv_if_eq (tgt := 122) hx hb dMd_bindSlots_96 rfl (fun hc => ?_) (fun hc => ?_)
  · replace h := it_t h hc
    exact wk_Md_bindSlots_122 ⟨hx, hb, hml, hown, hts, hr, hlocks, hK, hA, hD, hN, hal, hNx⟩ F out hk6 u x0 x1 x3 x5 x7 h q0 _ _ _ (lv_sub hl [0, 1, 2, 3, 4] rfl) hP hS
  · replace h := it_f h hc
    refine lv_aload_n hx hb dMd_bindSlots_99 rfl (lv_at hl 0 rfl) ?_
    obtain ⟨y1, hy2, h⟩ := bd1_some h
    obtain ⟨hy2a, hy2⟩ := rdR_some hy2
    refine x_get hx hb hts in_Md hown hK hP (hal _ (okk_al q0)) (okk_t q0) rfl rfl 15 (by decide) (hts _ tw_797) (fun _ h9 => h9) (congrArg some (x_rf hy2a)) dMd_bindSlots_100 ?_
    refine lv_bipush (v := 100) hx hb dMd_bindSlots_103 (by decide) ?_
    refine lv_iload_n hx hb dMd_bindSlots_105 rfl (lv_at hl 1 rfl) ?_
    refine lv_imul hx hb dMd_bindSlots_106 ?_
    refine lv_iload hx hb dMd_bindSlots_107 (lv_at hl 4 rfl) ?_
    refine lv_iadd hx hb dMd_bindSlots_109 ?_
    obtain ⟨hi3, h⟩ := ck_some h
    refine x_iald hx hb hK hP (hal _ (okk_al hy2)) (okk_t hy2) 0 (fun _ _ _ => rfl) rfl (inb_in hi3) dMd_bindSlots_110 ?_
    refine lv_if_ne (tgt := 122) hx hb dMd_bindSlots_111 rfl (fun hc => ?_) (fun hc => ?_)
    · replace h := it_f h hc
      exact wk_Md_bindSlots_122 ⟨hx, hb, hml, hown, hts, hr, hlocks, hK, hA, hD, hN, hal, hNx⟩ F out hk6 u x0 x1 x3 x5 x7 h q0 _ _ _ (lv_sub hl [0, 1, 2, 3, 4] rfl) hP hS
    · replace h := it_t h hc
      refine lv_aload_n hx hb dMd_bindSlots_114 rfl (lv_at hl 0 rfl) ?_
      refine lv_iconst (v := 4) hx hb dMd_bindSlots_115 (by decide) ?_
      obtain ⟨u4, v4, hc4, h⟩ := bd2_some h
      refine x_cv (u := u) (out := (u4, v4)) hA hD hS (va_runV (As := [.int (4 : Int32)]) (rest := []) ⟨hx, hb, hml, hown, hts⟩ (ct_Md_refuse hal hN F u x0 (4 : Int32) (u4, v4) hc4 q0 _) ⟨callB_of 1 hts gdMd_refuse rfl rfl rfl (hts _ tw_11) (hts _ tw_1016) hdMd_refuse ⟨Nat.le_of_ble_eq_true rfl, Nat.le_of_ble_eq_true rfl⟩, (hts _ tw_1018), (hts _ tp_71)⟩ (x_preV hK hD hNx hP (hal _ (okk_al q0)) (okk_t q0) rfl rfl) rfl rfl hl.1 rfl (lv_room (Nat.le_of_ble_eq_true rfl)) dMd_bindSlots_116 ⟨Nat.zero_le _, Nat.zero_le _⟩) (fun H locs hP hS => ?_)
      refine lv_goto (tgt := 145) hx hb dMd_bindSlots_119 rfl ?_
      exact wk_Md_bindSlots_145 ⟨hx, hb, hml, hown, hts, hr, hlocks, hK, hA, hD, hN, hal, hNx⟩ F out hk6 u4 x0 x1 x3 x5 h q0 _ _ _ (lv_sub hl [0, 1, 2, 3] rfl) hP hS
def bk_Md_bindSlots_86 (F : Nat) (al : Nat → Bool) (k6 : Mr → Nat → Int32 → Int64 → Int32 → Option (Mr × Int32)) (u : Mr) (x0 : Nat) (x1 : Int32) (x3 : Int64) (x5 : Int32) : Option (Mr × Int32) := bd2 (fn_Md_refuse F al u x0 (3 : Int32)) fun u1 v1 => (bk_Md_bindSlots_145 F al k6 u1 x0 x1 x3 x5)
set_option maxHeartbeats 4000000 in
set_option maxRecDepth 100000 in
theorem wk_Md_bindSlots_86 (cx : Cx p l e s m args below meth c cMd_bindSlots 8 bw "ImageForgeModel" none D cA ad L rs al A) (F : Nat) (out : Mr × Int32) {k6 : Mr → Nat → Int32 → Int64 → Int32 → Option (Mr × Int32)} (hk6 : ∀ (u : Mr) (x0 : Nat) (x1 : Int32) (x3 : Int64) (x5 : Int32), k6 u x0 x1 x3 x5 = some out → okk al 32 x0 = true → Wb p l e rm_Md_bindSlots s m args below meth c D cA ad L rs A (QV below args s D cA ad L rs A out) 8 6 [(0, .ref (ad x0)), (1, .int x1), (3, .long x3), (5, .int x5)] [] u) : ∀ (u : Mr) (x0 : Nat) (x1 : Int32) (x3 : Int64) (x5 : Int32), bk_Md_bindSlots_86 F al k6 u x0 x1 x3 x5 = some out → okk al 32 x0 = true → Wb p l e rm_Md_bindSlots s m args below meth c D cA ad L rs A (QV below args s D cA ad L rs A out) 8 86 [(0, .ref (ad x0)), (1, .int x1), (3, .long x3), (5, .int x5)] [] u := by
  obtain ⟨hx, hb, hml, hown, hts, hr, hlocks, hK, hA, hD, hN, hal, hNx⟩ := cx
  intro u x0 x1 x3 x5 h q0 H locs ls hl hP hS
  unfold bk_Md_bindSlots_86 at h
  refine lv_aload_n hx hb dMd_bindSlots_86 rfl (lv_at hl 0 rfl) ?_
  refine lv_iconst (v := 3) hx hb dMd_bindSlots_87 (by decide) ?_
  obtain ⟨u1, v1, hc1, h⟩ := bd2_some h
  refine x_cv (u := u) (out := (u1, v1)) hA hD hS (va_runV (As := [.int (3 : Int32)]) (rest := []) ⟨hx, hb, hml, hown, hts⟩ (ct_Md_refuse hal hN F u x0 (3 : Int32) (u1, v1) hc1 q0 _) ⟨callB_of 1 hts gdMd_refuse rfl rfl rfl (hts _ tw_11) (hts _ tw_1016) hdMd_refuse ⟨Nat.le_of_ble_eq_true rfl, Nat.le_of_ble_eq_true rfl⟩, (hts _ tw_1018), (hts _ tp_71)⟩ (x_preV hK hD hNx hP (hal _ (okk_al q0)) (okk_t q0) rfl rfl) rfl rfl hl.1 rfl (lv_room (Nat.le_of_ble_eq_true rfl)) dMd_bindSlots_88 ⟨Nat.zero_le _, Nat.zero_le _⟩) (fun H locs hP hS => ?_)
  refine lv_goto (tgt := 145) hx hb dMd_bindSlots_91 rfl ?_
  exact wk_Md_bindSlots_145 ⟨hx, hb, hml, hown, hts, hr, hlocks, hK, hA, hD, hN, hal, hNx⟩ F out hk6 u1 x0 x1 x3 x5 h q0 _ _ _ (lv_sub hl [0, 1, 2, 3] rfl) hP hS
def bk_Md_bindSlots_60 (F : Nat) (al : Nat → Bool) (k6 : Mr → Nat → Int32 → Int64 → Int32 → Option (Mr × Int32)) (u : Mr) (s0 : Int32) (x0 : Nat) (x1 : Int32) (x3 : Int64) (x6 : Int32) : Option (Mr × Int32) := if s0 = 0 then (bk_Md_bindSlots_94 F al k6 u x0 x1 x3 s0 (x6 &&& (2147483647 : Int32))) else (if 0 < x6 then (bk_Md_bindSlots_86 F al k6 u x0 x1 x3 s0) else (if (x6 &&& (2147483647 : Int32)) ≤ (99 : Int32) then (bk_Md_bindSlots_94 F al k6 u x0 x1 x3 s0 (x6 &&& (2147483647 : Int32))) else (bk_Md_bindSlots_86 F al k6 u x0 x1 x3 s0)))
set_option maxHeartbeats 4000000 in
set_option maxRecDepth 100000 in
theorem wk_Md_bindSlots_60 (cx : Cx p l e s m args below meth c cMd_bindSlots 8 bw "ImageForgeModel" none D cA ad L rs al A) (F : Nat) (out : Mr × Int32) {k6 : Mr → Nat → Int32 → Int64 → Int32 → Option (Mr × Int32)} (hk6 : ∀ (u : Mr) (x0 : Nat) (x1 : Int32) (x3 : Int64) (x5 : Int32), k6 u x0 x1 x3 x5 = some out → okk al 32 x0 = true → Wb p l e rm_Md_bindSlots s m args below meth c D cA ad L rs A (QV below args s D cA ad L rs A out) 8 6 [(0, .ref (ad x0)), (1, .int x1), (3, .long x3), (5, .int x5)] [] u) : ∀ (u : Mr) (s0 : Int32) (x0 : Nat) (x1 : Int32) (x3 : Int64) (x6 : Int32), bk_Md_bindSlots_60 F al k6 u s0 x0 x1 x3 x6 = some out → okk al 32 x0 = true → Wb p l e rm_Md_bindSlots s m args below meth c D cA ad L rs A (QV below args s D cA ad L rs A out) 8 60 [(0, .ref (ad x0)), (1, .int x1), (3, .long x3), (6, .int x6)] [.int s0] u := by
  obtain ⟨hx, hb, hml, hown, hts, hr, hlocks, hK, hA, hD, hN, hal, hNx⟩ := cx
  intro u s0 x0 x1 x3 x6 h q0 H locs ls hl hP hS
  unfold bk_Md_bindSlots_60 at h
  refine lv_istore (lv' := [(5, .int s0), (0, .ref (ad x0)), (1, .int x1), (3, .long x3), (6, .int x6)]) hx hb dMd_bindSlots_60 hl (by decide) rfl (fun ls hl => ?_)
  refine lv_iload hx hb dMd_bindSlots_62 (lv_at hl 4 rfl) ?_
  refine lv_ldc (v := 2147483647) hx hb hown (hts _ tw_1044) dMd_bindSlots_64 ?_
  refine lv_iand hx hb dMd_bindSlots_66 ?_
  refine lv_istore (lv' := [(7, .int (x6 &&& (2147483647 : Int32))), (5, .int s0), (0, .ref (ad x0)), (1, .int x1), (3, .long x3), (6, .int x6)]) hx hb dMd_bindSlots_67 hl (by decide) rfl (fun ls hl => ?_)
  refine lv_iload hx hb dMd_bindSlots_69 (lv_at hl 1 rfl) ?_
  refine lv_if_eq (tgt := 94) hx hb dMd_bindSlots_71 rfl (fun hc => ?_) (fun hc => ?_)
  · replace h := it_t h hc
    exact wk_Md_bindSlots_94 ⟨hx, hb, hml, hown, hts, hr, hlocks, hK, hA, hD, hN, hal, hNx⟩ F out hk6 u x0 x1 x3 s0 (x6 &&& (2147483647 : Int32)) h q0 _ _ _ (lv_sub hl [2, 3, 4, 1, 0] rfl) hP hS
  · replace h := it_f h hc
    refine lv_iload hx hb dMd_bindSlots_74 (lv_at hl 5 rfl) ?_
    refine lv_if_gt (tgt := 86) hx hb dMd_bindSlots_76 rfl (fun hc => ?_) (fun hc => ?_)
    · replace h := it_t h hc
      exact wk_Md_bindSlots_86 ⟨hx, hb, hml, hown, hts, hr, hlocks, hK, hA, hD, hN, hal, hNx⟩ F out hk6 u x0 x1 x3 s0 h q0 _ _ _ (lv_sub hl [2, 3, 4, 1] rfl) hP hS
    · replace h := it_f h hc
      refine lv_iload hx hb dMd_bindSlots_79 (lv_at hl 0 rfl) ?_
      refine lv_bipush (v := 99) hx hb dMd_bindSlots_81 (by decide) ?_
      refine lv_icmp_le (tgt := 94) hx hb dMd_bindSlots_83 rfl (fun hc => ?_) (fun hc => ?_)
      · replace h := it_t h hc
        exact wk_Md_bindSlots_94 ⟨hx, hb, hml, hown, hts, hr, hlocks, hK, hA, hD, hN, hal, hNx⟩ F out hk6 u x0 x1 x3 s0 (x6 &&& (2147483647 : Int32)) h q0 _ _ _ (lv_sub hl [2, 3, 4, 1, 0] rfl) hP hS
      · replace h := it_f h hc
        exact wk_Md_bindSlots_86 ⟨hx, hb, hml, hown, hts, hr, hlocks, hK, hA, hD, hN, hal, hNx⟩ F out hk6 u x0 x1 x3 s0 h q0 _ _ _ (lv_sub hl [2, 3, 4, 1] rfl) hP hS
def bk_Md_bindSlots_6 (F : Nat) (al : Nat → Bool) : Nat → Mr → Nat → Int32 → Int64 → Int32 → Option (Mr × Int32)
  | 0, _, _, _, _, _ => none
  | n + 1, u, x0, x1, x3, x5 => if x5 = 0 then (some (u, 0)) else (if (u.1 x0 31) = 0 then (bd2 (fn_Md_lies F al u x3 (4 : Int64) ((u.1 x0 16).toInt64)) fun u1 v1 => (if v1 = 0 then (bd2 (fn_Md_refuse F al u1 x0 (3 : Int32)) fun u5 v5 => (some (u5, 0))) else (bd1 (rdR al u1 x0 17 41) fun y2 => (bd2 (fn_Md_wordIn F al u1 y2 x3.toInt32) fun u4 v4 => (if v4 = 0 then (bk_Md_bindSlots_60 F al (bk_Md_bindSlots_6 F al n) u4 (0 : Int32) x0 x1 x3 v4) else (bk_Md_bindSlots_60 F al (bk_Md_bindSlots_6 F al n) u4 (1 : Int32) x0 x1 x3 v4)))))) else (some (u, 0)))
set_option maxHeartbeats 4000000 in
set_option maxRecDepth 100000 in
theorem wk_Md_bindSlots_6 (cx : Cx p l e s m args below meth c cMd_bindSlots 8 bw "ImageForgeModel" none D cA ad L rs al A) (F : Nat) (out : Mr × Int32) : ∀ n : Nat, ∀ (u : Mr) (x0 : Nat) (x1 : Int32) (x3 : Int64) (x5 : Int32), bk_Md_bindSlots_6 F al n u x0 x1 x3 x5 = some out → okk al 32 x0 = true → Wb p l e rm_Md_bindSlots s m args below meth c D cA ad L rs A (QV below args s D cA ad L rs A out) 8 6 [(0, .ref (ad x0)), (1, .int x1), (3, .long x3), (5, .int x5)] [] u := by
  obtain ⟨hx, hb, hml, hown, hts, hr, hlocks, hK, hA, hD, hN, hal, hNx⟩ := cx
  intro n
  induction n with
  | zero =>
    intro u x0 x1 x3 x5 h
    cases h
  | succ n ih =>
    intro u x0 x1 x3 x5 h q0 H locs ls hl hP hS
    rw [bk_Md_bindSlots_6] at h
    refine lv_iload hx hb dMd_bindSlots_6 (lv_at hl 3 rfl) ?_
    refine lv_if_eq (tgt := 154) hx hb dMd_bindSlots_8 rfl (fun hc => ?_) (fun hc => ?_)
    · replace h := it_t h hc
      exact x_vret hx hb hr hlocks h hP hS dMd_bindSlots_154
    · replace h := it_f h hc
      refine lv_aload_n hx hb dMd_bindSlots_11 rfl (lv_at hl 0 rfl) ?_
      refine x_get hx hb hts in_Md hown hK hP (hal _ (okk_al q0)) (okk_t q0) rfl rfl 31 (by decide) (hts _ tw_813) (fun _ h9 => h9) rfl dMd_bindSlots_12 ?_
      refine lv_if_ne (tgt := 154) hx hb dMd_bindSlots_15 rfl (fun hc => ?_) (fun hc => ?_)
      · replace h := it_f h hc
        exact x_vret hx hb hr hlocks h hP hS dMd_bindSlots_154
      · replace h := it_t h hc
        refine lv_lload_n hx hb dMd_bindSlots_18 rfl (lv_at hl 2 rfl) ?_
        refine lv_ldc2 (v := 4) hx hb hown (hts _ tw_1031) dMd_bindSlots_19 ?_
        refine lv_aload_n hx hb dMd_bindSlots_22 rfl (lv_at hl 0 rfl) ?_
        refine x_get hx hb hts in_Md hown hK hP (hal _ (okk_al q0)) (okk_t q0) rfl rfl 16 (by decide) (hts _ tw_798) (fun _ h9 => h9) rfl dMd_bindSlots_23 ?_
        refine lv_i2l (v := (u.1 x0 16).toInt64) hx hb dMd_bindSlots_26 rfl ?_
        obtain ⟨u1, v1, hc1, h⟩ := bd2_some h
        refine x_ci (u := u) (out := (u1, v1)) hA hD hS (va_runS (As := [.long x3, .long (4 : Int64), .long ((u.1 x0 16).toInt64)]) (rest := []) ⟨hx, hb, hml, hown, hts⟩ (ct_Md_lies hal hN F u x3 (4 : Int64) ((u.1 x0 16).toInt64) (u1, v1) hc1  _) ⟨callB_of 3 hts gdMd_lies rfl rfl rfl (hts _ tw_11) (hts _ tw_1020) hdMd_lies ⟨Nat.le_of_ble_eq_true rfl, Nat.le_of_ble_eq_true rfl⟩, (hts _ tw_1021)⟩ (x_preS hK hD hNx hP) rfl rfl hl.1 rfl (lv_room (Nat.le_of_ble_eq_true rfl)) dMd_bindSlots_27 ⟨Nat.zero_le _, Nat.zero_le _⟩) (fun H locs hP hS => ?_)
        refine lv_if_ne (tgt := 39) hx hb dMd_bindSlots_30 rfl (fun hc => ?_) (fun hc => ?_)
        · replace h := it_f h hc
          refine lv_aload_n hx hb dMd_bindSlots_39 rfl (lv_at hl 0 rfl) ?_
          obtain ⟨y2, hy3, h⟩ := bd1_some h
          obtain ⟨hy3a, hy3⟩ := rdR_some hy3
          refine x_get hx hb hts in_Md hown hK hP (hal _ (okk_al q0)) (okk_t q0) rfl rfl 17 (by decide) (hts _ tw_799) (fun _ h9 => h9) (congrArg some (x_rf hy3a)) dMd_bindSlots_40 ?_
          refine lv_lload_n hx hb dMd_bindSlots_43 rfl (lv_at hl 2 rfl) ?_
          refine lv_l2i (v := x3.toInt32) hx hb dMd_bindSlots_44 rfl ?_
          obtain ⟨u4, v4, hc4, h⟩ := bd2_some h
          refine x_ci (u := u1) (out := (u4, v4)) hA hD hS (va_runS (As := [.ref (ad y2), .int x3.toInt32]) (rest := []) ⟨hx, hb, hml, hown, hts⟩ (ct_Md_wordIn hal hN F u1 y2 x3.toInt32 (u4, v4) hc4 hy3 _) ⟨callB_of 2 hts gdMd_wordIn rfl rfl rfl (hts _ tw_11) (hts _ tw_983) hdMd_wordIn ⟨Nat.le_of_ble_eq_true rfl, Nat.le_of_ble_eq_true rfl⟩, (hts _ tw_984)⟩ (x_preS hK hD hNx hP) rfl rfl hl.1 rfl (lv_room (Nat.le_of_ble_eq_true rfl)) dMd_bindSlots_45 ⟨Nat.zero_le _, Nat.zero_le _⟩) (fun H locs hP hS => ?_)
          refine lv_istore (lv' := [(6, .int v4), (0, .ref (ad x0)), (1, .int x1), (3, .long x3), (5, .int x5)]) hx hb dMd_bindSlots_48 hl (by decide) rfl (fun ls hl => ?_)
          refine lv_iload hx hb dMd_bindSlots_50 (lv_at hl 0 rfl) ?_
          refine lv_if_eq (tgt := 59) hx hb dMd_bindSlots_52 rfl (fun hc => ?_) (fun hc => ?_)
          · replace h := it_t h hc
            refine lv_iconst (v := 0) hx hb dMd_bindSlots_59 (by decide) ?_
            exact wk_Md_bindSlots_60 ⟨hx, hb, hml, hown, hts, hr, hlocks, hK, hA, hD, hN, hal, hNx⟩ F out ih u4 (0 : Int32) x0 x1 x3 v4 h q0 _ _ _ (lv_sub hl [1, 2, 3, 0] rfl) hP hS
          · replace h := it_f h hc
            refine lv_iconst (v := 1) hx hb dMd_bindSlots_55 (by decide) ?_
            refine lv_goto (tgt := 60) hx hb dMd_bindSlots_56 rfl ?_
            exact wk_Md_bindSlots_60 ⟨hx, hb, hml, hown, hts, hr, hlocks, hK, hA, hD, hN, hal, hNx⟩ F out ih u4 (1 : Int32) x0 x1 x3 v4 h q0 _ _ _ (lv_sub hl [1, 2, 3, 0] rfl) hP hS
        · replace h := it_t h hc
          refine lv_aload_n hx hb dMd_bindSlots_33 rfl (lv_at hl 0 rfl) ?_
          refine lv_iconst (v := 3) hx hb dMd_bindSlots_34 (by decide) ?_
          obtain ⟨u5, v5, hc5, h⟩ := bd2_some h
          refine x_cv (u := u1) (out := (u5, v5)) hA hD hS (va_runV (As := [.int (3 : Int32)]) (rest := []) ⟨hx, hb, hml, hown, hts⟩ (ct_Md_refuse hal hN F u1 x0 (3 : Int32) (u5, v5) hc5 q0 _) ⟨callB_of 1 hts gdMd_refuse rfl rfl rfl (hts _ tw_11) (hts _ tw_1016) hdMd_refuse ⟨Nat.le_of_ble_eq_true rfl, Nat.le_of_ble_eq_true rfl⟩, (hts _ tw_1018), (hts _ tp_71)⟩ (x_preV hK hD hNx hP (hal _ (okk_al q0)) (okk_t q0) rfl rfl) rfl rfl hl.1 rfl (lv_room (Nat.le_of_ble_eq_true rfl)) dMd_bindSlots_35 ⟨Nat.zero_le _, Nat.zero_le _⟩) (fun H locs hP hS => ?_)
          exact x_vret hx hb hr hlocks h hP hS dMd_bindSlots_38
def bk_Md_bindSlots_0 (F : Nat) (al : Nat → Bool) (u : Mr) (x0 : Nat) (x1 : Int32) (x2 : Int32) : Option (Mr × Int32) := bk_Md_bindSlots_6 F al F u x0 x1 x2.toInt64 (1 : Int32)
set_option maxHeartbeats 4000000 in
set_option maxRecDepth 100000 in
theorem wk_Md_bindSlots_0 (cx : Cx p l e s m args below meth c cMd_bindSlots 8 bw "ImageForgeModel" none D cA ad L rs al A) (F : Nat) (out : Mr × Int32) : ∀ (u : Mr) (x0 : Nat) (x1 : Int32) (x2 : Int32), bk_Md_bindSlots_0 F al u x0 x1 x2 = some out → okk al 32 x0 = true → Wb p l e rm_Md_bindSlots s m args below meth c D cA ad L rs A (QV below args s D cA ad L rs A out) 8 0 [(0, .ref (ad x0)), (1, .int x1), (2, .int x2)] [] u := by
  obtain ⟨hx, hb, hml, hown, hts, hr, hlocks, hK, hA, hD, hN, hal, hNx⟩ := cx
  intro u x0 x1 x2 h q0 H locs ls hl hP hS
  unfold bk_Md_bindSlots_0 at h
  refine lv_iload_n hx hb dMd_bindSlots_0 rfl (lv_at hl 2 rfl) ?_
  refine lv_i2l (v := x2.toInt64) hx hb dMd_bindSlots_1 rfl ?_
  refine lv_lstore_n (lv' := [(3, .long x2.toInt64), (0, .ref (ad x0)), (1, .int x1), (2, .int x2)]) hx hb dMd_bindSlots_2 rfl hl (by decide) rfl (fun ls hl => ?_)
  refine lv_iconst (v := 1) hx hb dMd_bindSlots_3 (by decide) ?_
  refine lv_istore (lv' := [(5, .int (1 : Int32)), (3, .long x2.toInt64), (0, .ref (ad x0)), (1, .int x1), (2, .int x2)]) hx hb dMd_bindSlots_4 hl (by decide) rfl (fun ls hl => ?_)
  exact wk_Md_bindSlots_6 ⟨hx, hb, hml, hown, hts, hr, hlocks, hK, hA, hD, hN, hal, hNx⟩ F out F u x0 x1 x2.toInt64 (1 : Int32) h q0 _ _ _ (lv_sub hl [2, 3, 1, 0] rfl) hP hS
def fn_Md_bindSlots (F : Nat) (al : Nat → Bool) (u : Mr) (x0 : Nat) (x1 : Int32) (x2 : Int32) : Option (Mr × Int32) := bk_Md_bindSlots_0 F al u x0 x1 x2
set_option maxHeartbeats 4000000 in
set_option maxRecDepth 100000 in
theorem ct_Md_bindSlots {l : Launch} {D : va_G} {cA : Nat → ClassId} {ad : Nat → Nat} {L : List Nat} {rs : va_W} {al : Nat → Bool} (hal : ∀ k, al k = true → k ∈ L) (hN : L.Nodup) (F : Nat) (u : Mr) (x0 : Nat) (x1 : Int32) (x2 : Int32) (out : Mr × Int32) (h : fn_Md_bindSlots F al u x0 x1 x2 = some out) (q0 : okk al 32 x0 = true) : CtV l yMd_bindSlots wsMd_bindSlots rm_Md_bindSlots [.ref (ad x0), .int x1, .int x2] D cA ad L rs u out := by
  intro sz
  refine Met.ofW (cc := cMd_bindSlots) (maxL := 8) (ret := none) (by decide) rfl ?_
  intro p e s m args below meth c s₁ B hml hv
  obtain ⟨rfl, hsz, hP, hK, hD0, hNx⟩ := hv
  subst hsz
  have hD := hD0.self (sz := s.heap.size)
  generalize hAe : va_A (ww ad cA L rs u) s.heap.size = A at hD ⊢
  have hA : ∀ q, s.heap.size ≤ q → A q := fun q h => by rw [← hAe]; exact Or.inr h
  have hl := lv_entry ([.ref (ad x0), .int x1, .int x2]) (n := 8) (Nat.le_of_ble_eq_true rfl)
  rw [lg_entry_eq]
  generalize (lg_sl ([.ref (ad x0), .int x1, .int x2]) ++ List.replicate (8 - (lg_sl ([.ref (ad x0), .int x1, .int x2])).length) Slot.unset).toArray = ls at hl ⊢
  exact wk_Md_bindSlots_0 ⟨B.exec, B.bytes, hml, findClass_of_methodNamed B.named, hts_bw (atoms_spec (ws := wsMd_bindSlots) B.pre), B.returns, B.notSynchronized, hK, hA, fun v => ww_D hD, hN, hal, hNx⟩ F out u x0 x1 x2 h q0 _ _ _ (lv_sub hl [0, 1, 2] rfl) hP va_S.rf
abbrev rm_Md_bind : Room := { frames := 2, cells := 0, slots := 0, locals := 52 }
def bk_Md_bind_123 (F : Nat) (al : Nat → Bool) (k33 : Mr → Nat → Int32 → Int32 → Int32 → Option (Mr × Int32)) (u : Mr) (x0 : Nat) (x1 : Int32) (x2 : Int32) (x3 : Int32) : Option (Mr × Int32) := k33 u x0 (x1 + (8 : Int32)) x2 x3
set_option maxHeartbeats 4000000 in
set_option maxRecDepth 100000 in
theorem wk_Md_bind_123 (cx : Cx p l e s m args below meth c cMd_bind 5 bw "ImageForgeModel" none D cA ad L rs al A) (F : Nat) (out : Mr × Int32) {k33 : Mr → Nat → Int32 → Int32 → Int32 → Option (Mr × Int32)} (hk33 : ∀ (u : Mr) (x0 : Nat) (x1 : Int32) (x2 : Int32) (x3 : Int32), k33 u x0 x1 x2 x3 = some out → okk al 32 x0 = true → Wb p l e rm_Md_bind s m args below meth c D cA ad L rs A (QV below args s D cA ad L rs A out) 5 33 [(0, .ref (ad x0)), (1, .int x1), (2, .int x2), (3, .int x3)] [] u) : ∀ (u : Mr) (x0 : Nat) (x1 : Int32) (x2 : Int32) (x3 : Int32), bk_Md_bind_123 F al k33 u x0 x1 x2 x3 = some out → okk al 32 x0 = true → Wb p l e rm_Md_bind s m args below meth c D cA ad L rs A (QV below args s D cA ad L rs A out) 5 123 [(0, .ref (ad x0)), (1, .int x1), (2, .int x2), (3, .int x3)] [] u := by
  obtain ⟨hx, hb, hml, hown, hts, hr, hlocks, hK, hA, hD, hN, hal, hNx⟩ := cx
  intro u x0 x1 x2 x3 h q0 H locs ls hl hP hS
  unfold bk_Md_bind_123 at h
  refine lv_iinc (k := 1) (v := x1 + (8 : Int32)) (lv' := [(1, .int (x1 + (8 : Int32))), (0, .ref (ad x0)), (2, .int x2), (3, .int x3)]) hx hb dMd_bind_123 hl rfl (congrArg (fun z => _ + z) (show Int32.ofInt 8 = 8 by decide)) (by decide) rfl (fun ls hl => ?_)
  refine lv_goto (tgt := 33) hx hb dMd_bind_126 rfl ?_
  exact hk33 u x0 (x1 + (8 : Int32)) x2 x3 h q0 _ _ _ (lv_sub hl [1, 0, 2, 3] rfl) hP hS
def bk_Md_bind_103 (F : Nat) (al : Nat → Bool) (k33 : Mr → Nat → Int32 → Int32 → Int32 → Option (Mr × Int32)) (u : Mr) (x0 : Nat) (x1 : Int32) (x2 : Int32) (x3 : Int32) (x4 : Int32) : Option (Mr × Int32) := if x3 = 0 then (bk_Md_bind_123 F al k33 u x0 x1 x2 x3) else (bd1 (rdR al u x0 17 41) fun y1 => (bd2 (fn_Md_wordIn F al u y1 (x1 + (4 : Int32))) fun u3 v3 => (bd2 (fn_Md_bindSlots F al u3 x0 x4 v3) fun u4 v4 => (bk_Md_bind_123 F al k33 u4 x0 x1 x2 x3))))
set_option maxHeartbeats 4000000 in
set_option maxRecDepth 100000 in
theorem wk_Md_bind_103 (cx : Cx p l e s m args below meth c cMd_bind 5 bw "ImageForgeModel" none D cA ad L rs al A) (F : Nat) (out : Mr × Int32) {k33 : Mr → Nat → Int32 → Int32 → Int32 → Option (Mr × Int32)} (hk33 : ∀ (u : Mr) (x0 : Nat) (x1 : Int32) (x2 : Int32) (x3 : Int32), k33 u x0 x1 x2 x3 = some out → okk al 32 x0 = true → Wb p l e rm_Md_bind s m args below meth c D cA ad L rs A (QV below args s D cA ad L rs A out) 5 33 [(0, .ref (ad x0)), (1, .int x1), (2, .int x2), (3, .int x3)] [] u) : ∀ (u : Mr) (x0 : Nat) (x1 : Int32) (x2 : Int32) (x3 : Int32) (x4 : Int32), bk_Md_bind_103 F al k33 u x0 x1 x2 x3 x4 = some out → okk al 32 x0 = true → Wb p l e rm_Md_bind s m args below meth c D cA ad L rs A (QV below args s D cA ad L rs A out) 5 103 [(0, .ref (ad x0)), (1, .int x1), (2, .int x2), (3, .int x3), (4, .int x4)] [] u := by
  obtain ⟨hx, hb, hml, hown, hts, hr, hlocks, hK, hA, hD, hN, hal, hNx⟩ := cx
  intro u x0 x1 x2 x3 x4 h q0 H locs ls hl hP hS
  unfold bk_Md_bind_103 at h
  refine lv_iload_n hx hb dMd_bind_103 rfl (lv_at hl 3 rfl) ?_
  refine lv_if_eq (tgt := 123) hx hb dMd_bind_104 rfl (fun hc => ?_) (fun hc => ?_)
  · replace h := it_t h hc
    exact wk_Md_bind_123 ⟨hx, hb, hml, hown, hts, hr, hlocks, hK, hA, hD, hN, hal, hNx⟩ F out hk33 u x0 x1 x2 x3 h q0 _ _ _ (lv_sub hl [0, 1, 2, 3] rfl) hP hS
  · replace h := it_f h hc
    refine lv_aload_n hx hb dMd_bind_107 rfl (lv_at hl 0 rfl) ?_
    refine lv_iload hx hb dMd_bind_108 (lv_at hl 4 rfl) ?_
    refine lv_aload_n hx hb dMd_bind_110 rfl (lv_at hl 0 rfl) ?_
    obtain ⟨y1, hy2, h⟩ := bd1_some h
    obtain ⟨hy2a, hy2⟩ := rdR_some hy2
    refine x_get hx hb hts in_Md hown hK hP (hal _ (okk_al q0)) (okk_t q0) rfl rfl 17 (by decide) (hts _ tw_799) (fun _ h9 => h9) (congrArg some (x_rf hy2a)) dMd_bind_111 ?_
    refine lv_iload_n hx hb dMd_bind_114 rfl (lv_at hl 1 rfl) ?_
    refine lv_iconst (v := 4) hx hb dMd_bind_115 (by decide) ?_
    refine lv_iadd hx hb dMd_bind_116 ?_
    obtain ⟨u3, v3, hc3, h⟩ := bd2_some h
    refine x_ci (u := u) (out := (u3, v3)) hA hD hS (va_runS (As := [.ref (ad y1), .int (x1 + (4 : Int32))]) (rest := [.int x4, .ref (ad x0)]) ⟨hx, hb, hml, hown, hts⟩ (ct_Md_wordIn hal hN F u y1 (x1 + (4 : Int32)) (u3, v3) hc3 hy2 _) ⟨callB_of 2 hts gdMd_wordIn rfl rfl rfl (hts _ tw_11) (hts _ tw_983) hdMd_wordIn ⟨Nat.le_of_ble_eq_true rfl, Nat.le_of_ble_eq_true rfl⟩, (hts _ tw_984)⟩ (x_preS hK hD hNx hP) rfl rfl hl.1 rfl (lv_room (Nat.le_of_ble_eq_true rfl)) dMd_bind_117 ⟨Nat.zero_le _, Nat.zero_le _⟩) (fun H locs hP hS => ?_)
    obtain ⟨u4, v4, hc4, h⟩ := bd2_some h
    refine x_cv (u := u3) (out := (u4, v4)) hA hD hS (va_runV (As := [.int x4, .int v3]) (rest := []) ⟨hx, hb, hml, hown, hts⟩ (ct_Md_bindSlots hal hN F u3 x0 x4 v3 (u4, v4) hc4 q0 _) ⟨callB_of 2 hts gdMd_bindSlots rfl rfl rfl (hts _ tw_11) (hts _ tw_1040) hdMd_bindSlots ⟨Nat.le_of_ble_eq_true rfl, Nat.le_of_ble_eq_true rfl⟩, (hts _ tw_1042), (hts _ tp_76)⟩ (x_preV hK hD hNx hP (hal _ (okk_al q0)) (okk_t q0) rfl rfl) rfl rfl hl.1 rfl (lv_room (Nat.le_of_ble_eq_true rfl)) dMd_bind_120 ⟨Nat.zero_le _, Nat.zero_le _⟩) (fun H locs hP hS => ?_)
    exact wk_Md_bind_123 ⟨hx, hb, hml, hown, hts, hr, hlocks, hK, hA, hD, hN, hal, hNx⟩ F out hk33 u4 x0 x1 x2 x3 h q0 _ _ _ (lv_sub hl [0, 1, 2, 3] rfl) hP hS
def bk_Md_bind_81 (F : Nat) (al : Nat → Bool) (k33 : Mr → Nat → Int32 → Int32 → Int32 → Option (Mr × Int32)) (u : Mr) (s0 : Int32) (x0 : Nat) (x1 : Int32) (x2 : Int32) (x4 : Int32) : Option (Mr × Int32) := if s0 = 0 then (bk_Md_bind_103 F al k33 u x0 x1 x2 s0 x4) else (bd2 (fn_Md_out F al u x4 (4 : Int32)) fun u1 v1 => (if v1 = 0 then (bk_Md_bind_103 F al k33 u1 x0 x1 x2 s0 x4) else (bd2 (fn_Md_refuse F al u1 x0 (3 : Int32)) fun u2 v2 => (bk_Md_bind_123 F al k33 u2 x0 x1 x2 s0))))
set_option maxHeartbeats 4000000 in
set_option maxRecDepth 100000 in
theorem wk_Md_bind_81 (cx : Cx p l e s m args below meth c cMd_bind 5 bw "ImageForgeModel" none D cA ad L rs al A) (F : Nat) (out : Mr × Int32) {k33 : Mr → Nat → Int32 → Int32 → Int32 → Option (Mr × Int32)} (hk33 : ∀ (u : Mr) (x0 : Nat) (x1 : Int32) (x2 : Int32) (x3 : Int32), k33 u x0 x1 x2 x3 = some out → okk al 32 x0 = true → Wb p l e rm_Md_bind s m args below meth c D cA ad L rs A (QV below args s D cA ad L rs A out) 5 33 [(0, .ref (ad x0)), (1, .int x1), (2, .int x2), (3, .int x3)] [] u) : ∀ (u : Mr) (s0 : Int32) (x0 : Nat) (x1 : Int32) (x2 : Int32) (x4 : Int32), bk_Md_bind_81 F al k33 u s0 x0 x1 x2 x4 = some out → okk al 32 x0 = true → Wb p l e rm_Md_bind s m args below meth c D cA ad L rs A (QV below args s D cA ad L rs A out) 5 81 [(0, .ref (ad x0)), (1, .int x1), (2, .int x2), (4, .int x4)] [.int s0] u := by
  obtain ⟨hx, hb, hml, hown, hts, hr, hlocks, hK, hA, hD, hN, hal, hNx⟩ := cx
  intro u s0 x0 x1 x2 x4 h q0 H locs ls hl hP hS
  unfold bk_Md_bind_81 at h
  refine lv_istore_n (lv' := [(3, .int s0), (0, .ref (ad x0)), (1, .int x1), (2, .int x2), (4, .int x4)]) hx hb dMd_bind_81 rfl hl (by decide) rfl (fun ls hl => ?_)
  refine lv_iload_n hx hb dMd_bind_82 rfl (lv_at hl 0 rfl) ?_
  refine lv_if_eq (tgt := 103) hx hb dMd_bind_83 rfl (fun hc => ?_) (fun hc => ?_)
  · replace h := it_t h hc
    exact wk_Md_bind_103 ⟨hx, hb, hml, hown, hts, hr, hlocks, hK, hA, hD, hN, hal, hNx⟩ F out hk33 u x0 x1 x2 s0 x4 h q0 _ _ _ (lv_sub hl [1, 2, 3, 0, 4] rfl) hP hS
  · replace h := it_f h hc
    refine lv_iload hx hb dMd_bind_86 (lv_at hl 4 rfl) ?_
    refine lv_iconst (v := 4) hx hb dMd_bind_88 (by decide) ?_
    obtain ⟨u1, v1, hc1, h⟩ := bd2_some h
    refine x_ci (u := u) (out := (u1, v1)) hA hD hS (va_runS (As := [.int x4, .int (4 : Int32)]) (rest := []) ⟨hx, hb, hml, hown, hts⟩ (ct_Md_out hal hN F u x4 (4 : Int32) (u1, v1) hc1  _) ⟨callB_of 2 hts gdMd_out rfl rfl rfl (hts _ tw_11) (hts _ tw_887) hdMd_out ⟨Nat.le_of_ble_eq_true rfl, Nat.le_of_ble_eq_true rfl⟩, (hts _ tw_888)⟩ (x_preS hK hD hNx hP) rfl rfl hl.1 rfl (lv_room (Nat.le_of_ble_eq_true rfl)) dMd_bind_89 ⟨Nat.zero_le _, Nat.zero_le _⟩) (fun H locs hP hS => ?_)
    refine lv_if_eq (tgt := 103) hx hb dMd_bind_92 rfl (fun hc => ?_) (fun hc => ?_)
    · replace h := it_t h hc
      exact wk_Md_bind_103 ⟨hx, hb, hml, hown, hts, hr, hlocks, hK, hA, hD, hN, hal, hNx⟩ F out hk33 u1 x0 x1 x2 s0 x4 h q0 _ _ _ (lv_sub hl [1, 2, 3, 0, 4] rfl) hP hS
    · replace h := it_f h hc
      refine lv_aload_n hx hb dMd_bind_95 rfl (lv_at hl 1 rfl) ?_
      refine lv_iconst (v := 3) hx hb dMd_bind_96 (by decide) ?_
      obtain ⟨u2, v2, hc2, h⟩ := bd2_some h
      refine x_cv (u := u1) (out := (u2, v2)) hA hD hS (va_runV (As := [.int (3 : Int32)]) (rest := []) ⟨hx, hb, hml, hown, hts⟩ (ct_Md_refuse hal hN F u1 x0 (3 : Int32) (u2, v2) hc2 q0 _) ⟨callB_of 1 hts gdMd_refuse rfl rfl rfl (hts _ tw_11) (hts _ tw_1016) hdMd_refuse ⟨Nat.le_of_ble_eq_true rfl, Nat.le_of_ble_eq_true rfl⟩, (hts _ tw_1018), (hts _ tp_71)⟩ (x_preV hK hD hNx hP (hal _ (okk_al q0)) (okk_t q0) rfl rfl) rfl rfl hl.1 rfl (lv_room (Nat.le_of_ble_eq_true rfl)) dMd_bind_97 ⟨Nat.zero_le _, Nat.zero_le _⟩) (fun H locs hP hS => ?_)
      refine lv_goto (tgt := 123) hx hb dMd_bind_100 rfl ?_
      exact wk_Md_bind_123 ⟨hx, hb, hml, hown, hts, hr, hlocks, hK, hA, hD, hN, hal, hNx⟩ F out hk33 u2 x0 x1 x2 s0 h q0 _ _ _ (lv_sub hl [1, 2, 3, 0] rfl) hP hS
def bk_Md_bind_33 (F : Nat) (al : Nat → Bool) : Nat → Mr → Nat → Int32 → Int32 → Int32 → Option (Mr × Int32)
  | 0, _, _, _, _, _ => none
  | n + 1, u, x0, x1, x2, x3 => if x3 = 0 then (some (u, 0)) else (if (u.1 x0 31) = 0 then (if (x1 + (8 : Int32)) ≤ x2 then (bd1 (rdR al u x0 17 41) fun y1 => (bd2 (fn_Md_wordIn F al u y1 x1) fun u3 v3 => (if (v3 - (1 : Int32)) = (-1 : Int32) then (bk_Md_bind_81 F al (bk_Md_bind_33 F al n) u3 (0 : Int32) x0 x1 x2 (v3 - (1 : Int32))) else (bk_Md_bind_81 F al (bk_Md_bind_33 F al n) u3 (1 : Int32) x0 x1 x2 (v3 - (1 : Int32)))))) else (bd2 (fn_Md_refuse F al u x0 (3 : Int32)) fun u4 v4 => (some (u4, 0)))) else (some (u, 0)))
set_option maxHeartbeats 4000000 in
set_option maxRecDepth 100000 in
theorem wk_Md_bind_33 (cx : Cx p l e s m args below meth c cMd_bind 5 bw "ImageForgeModel" none D cA ad L rs al A) (F : Nat) (out : Mr × Int32) : ∀ n : Nat, ∀ (u : Mr) (x0 : Nat) (x1 : Int32) (x2 : Int32) (x3 : Int32), bk_Md_bind_33 F al n u x0 x1 x2 x3 = some out → okk al 32 x0 = true → Wb p l e rm_Md_bind s m args below meth c D cA ad L rs A (QV below args s D cA ad L rs A out) 5 33 [(0, .ref (ad x0)), (1, .int x1), (2, .int x2), (3, .int x3)] [] u := by
  obtain ⟨hx, hb, hml, hown, hts, hr, hlocks, hK, hA, hD, hN, hal, hNx⟩ := cx
  intro n
  induction n with
  | zero =>
    intro u x0 x1 x2 x3 h
    cases h
  | succ n ih =>
    intro u x0 x1 x2 x3 h q0 H locs ls hl hP hS
    rw [bk_Md_bind_33] at h
    refine lv_iload_n hx hb dMd_bind_33 rfl (lv_at hl 3 rfl) ?_
    refine lv_if_eq (tgt := 129) hx hb dMd_bind_34 rfl (fun hc => ?_) (fun hc => ?_)
    · replace h := it_t h hc
      exact x_vret hx hb hr hlocks h hP hS dMd_bind_129
    · replace h := it_f h hc
      refine lv_aload_n hx hb dMd_bind_37 rfl (lv_at hl 0 rfl) ?_
      refine x_get hx hb hts in_Md hown hK hP (hal _ (okk_al q0)) (okk_t q0) rfl rfl 31 (by decide) (hts _ tw_813) (fun _ h9 => h9) rfl dMd_bind_38 ?_
      refine lv_if_ne (tgt := 129) hx hb dMd_bind_41 rfl (fun hc => ?_) (fun hc => ?_)
      · replace h := it_f h hc
        exact x_vret hx hb hr hlocks h hP hS dMd_bind_129
      · replace h := it_t h hc
        refine lv_iload_n hx hb dMd_bind_44 rfl (lv_at hl 1 rfl) ?_
        refine lv_bipush (v := 8) hx hb dMd_bind_45 (by decide) ?_
        refine lv_iadd hx hb dMd_bind_47 ?_
        refine lv_iload_n hx hb dMd_bind_48 rfl (lv_at hl 2 rfl) ?_
        refine lv_icmp_le (tgt := 58) hx hb dMd_bind_49 rfl (fun hc => ?_) (fun hc => ?_)
        · replace h := it_t h hc
          refine lv_aload_n hx hb dMd_bind_58 rfl (lv_at hl 0 rfl) ?_
          obtain ⟨y1, hy2, h⟩ := bd1_some h
          obtain ⟨hy2a, hy2⟩ := rdR_some hy2
          refine x_get hx hb hts in_Md hown hK hP (hal _ (okk_al q0)) (okk_t q0) rfl rfl 17 (by decide) (hts _ tw_799) (fun _ h9 => h9) (congrArg some (x_rf hy2a)) dMd_bind_59 ?_
          refine lv_iload_n hx hb dMd_bind_62 rfl (lv_at hl 1 rfl) ?_
          obtain ⟨u3, v3, hc3, h⟩ := bd2_some h
          refine x_ci (u := u) (out := (u3, v3)) hA hD hS (va_runS (As := [.ref (ad y1), .int x1]) (rest := []) ⟨hx, hb, hml, hown, hts⟩ (ct_Md_wordIn hal hN F u y1 x1 (u3, v3) hc3 hy2 _) ⟨callB_of 2 hts gdMd_wordIn rfl rfl rfl (hts _ tw_11) (hts _ tw_983) hdMd_wordIn ⟨Nat.le_of_ble_eq_true rfl, Nat.le_of_ble_eq_true rfl⟩, (hts _ tw_984)⟩ (x_preS hK hD hNx hP) rfl rfl hl.1 rfl (lv_room (Nat.le_of_ble_eq_true rfl)) dMd_bind_63 ⟨Nat.zero_le _, Nat.zero_le _⟩) (fun H locs hP hS => ?_)
          refine lv_iconst (v := 1) hx hb dMd_bind_66 (by decide) ?_
          refine lv_isub hx hb dMd_bind_67 ?_
          refine lv_istore (lv' := [(4, .int (v3 - (1 : Int32))), (0, .ref (ad x0)), (1, .int x1), (2, .int x2), (3, .int x3)]) hx hb dMd_bind_68 hl (by decide) rfl (fun ls hl => ?_)
          refine lv_iload hx hb dMd_bind_70 (lv_at hl 0 rfl) ?_
          refine lv_iconst (v := (-1)) hx hb dMd_bind_72 (by decide) ?_
          refine lv_icmp_eq (tgt := 80) hx hb dMd_bind_73 rfl (fun hc => ?_) (fun hc => ?_)
          · replace h := it_t h hc
            refine lv_iconst (v := 0) hx hb dMd_bind_80 (by decide) ?_
            exact wk_Md_bind_81 ⟨hx, hb, hml, hown, hts, hr, hlocks, hK, hA, hD, hN, hal, hNx⟩ F out ih u3 (0 : Int32) x0 x1 x2 (v3 - (1 : Int32)) h q0 _ _ _ (lv_sub hl [1, 2, 3, 0] rfl) hP hS
          · replace h := it_f h hc
            refine lv_iconst (v := 1) hx hb dMd_bind_76 (by decide) ?_
            refine lv_goto (tgt := 81) hx hb dMd_bind_77 rfl ?_
            exact wk_Md_bind_81 ⟨hx, hb, hml, hown, hts, hr, hlocks, hK, hA, hD, hN, hal, hNx⟩ F out ih u3 (1 : Int32) x0 x1 x2 (v3 - (1 : Int32)) h q0 _ _ _ (lv_sub hl [1, 2, 3, 0] rfl) hP hS
        · replace h := it_f h hc
          refine lv_aload_n hx hb dMd_bind_52 rfl (lv_at hl 0 rfl) ?_
          refine lv_iconst (v := 3) hx hb dMd_bind_53 (by decide) ?_
          obtain ⟨u4, v4, hc4, h⟩ := bd2_some h
          refine x_cv (u := u) (out := (u4, v4)) hA hD hS (va_runV (As := [.int (3 : Int32)]) (rest := []) ⟨hx, hb, hml, hown, hts⟩ (ct_Md_refuse hal hN F u x0 (3 : Int32) (u4, v4) hc4 q0 _) ⟨callB_of 1 hts gdMd_refuse rfl rfl rfl (hts _ tw_11) (hts _ tw_1016) hdMd_refuse ⟨Nat.le_of_ble_eq_true rfl, Nat.le_of_ble_eq_true rfl⟩, (hts _ tw_1018), (hts _ tp_71)⟩ (x_preV hK hD hNx hP (hal _ (okk_al q0)) (okk_t q0) rfl rfl) rfl rfl hl.1 rfl (lv_room (Nat.le_of_ble_eq_true rfl)) dMd_bind_54 ⟨Nat.zero_le _, Nat.zero_le _⟩) (fun H locs hP hS => ?_)
          exact x_vret hx hb hr hlocks h hP hS dMd_bind_57
def bk_Md_bind_32 (F : Nat) (al : Nat → Bool) (u : Mr) (s0 : Int32) (x0 : Nat) (x1 : Int32) (x2 : Int32) : Option (Mr × Int32) := bk_Md_bind_33 F al F u x0 x1 x2 s0
set_option maxHeartbeats 4000000 in
set_option maxRecDepth 100000 in
theorem wk_Md_bind_32 (cx : Cx p l e s m args below meth c cMd_bind 5 bw "ImageForgeModel" none D cA ad L rs al A) (F : Nat) (out : Mr × Int32) : ∀ (u : Mr) (s0 : Int32) (x0 : Nat) (x1 : Int32) (x2 : Int32), bk_Md_bind_32 F al u s0 x0 x1 x2 = some out → okk al 32 x0 = true → Wb p l e rm_Md_bind s m args below meth c D cA ad L rs A (QV below args s D cA ad L rs A out) 5 32 [(0, .ref (ad x0)), (1, .int x1), (2, .int x2)] [.int s0] u := by
  obtain ⟨hx, hb, hml, hown, hts, hr, hlocks, hK, hA, hD, hN, hal, hNx⟩ := cx
  intro u s0 x0 x1 x2 h q0 H locs ls hl hP hS
  unfold bk_Md_bind_32 at h
  refine lv_istore_n (lv' := [(3, .int s0), (0, .ref (ad x0)), (1, .int x1), (2, .int x2)]) hx hb dMd_bind_32 rfl hl (by decide) rfl (fun ls hl => ?_)
  exact wk_Md_bind_33 ⟨hx, hb, hml, hown, hts, hr, hlocks, hK, hA, hD, hN, hal, hNx⟩ F out F u x0 x1 x2 s0 h q0 _ _ _ (lv_sub hl [1, 2, 3, 0] rfl) hP hS
def bk_Md_bind_0 (F : Nat) (al : Nat → Bool) (u : Mr) (x0 : Nat) : Option (Mr × Int32) := bd1 (rdR al u x0 17 41) fun y1 => (bd2 (fn_Md_wordIn F al u y1 (40 : Int32)) fun u3 v3 => (bd1 (rdR al u3 x0 17 41) fun y4 => (bd2 (fn_Md_wordIn F al u3 y4 (44 : Int32)) fun u6 v6 => (if (v3 + v6) ≤ v3 then (bk_Md_bind_32 F al u6 (0 : Int32) x0 v3 (v3 + v6)) else (bk_Md_bind_32 F al u6 (1 : Int32) x0 v3 (v3 + v6))))))
set_option maxHeartbeats 4000000 in
set_option maxRecDepth 100000 in
theorem wk_Md_bind_0 (cx : Cx p l e s m args below meth c cMd_bind 5 bw "ImageForgeModel" none D cA ad L rs al A) (F : Nat) (out : Mr × Int32) : ∀ (u : Mr) (x0 : Nat), bk_Md_bind_0 F al u x0 = some out → okk al 32 x0 = true → Wb p l e rm_Md_bind s m args below meth c D cA ad L rs A (QV below args s D cA ad L rs A out) 5 0 [(0, .ref (ad x0))] [] u := by
  obtain ⟨hx, hb, hml, hown, hts, hr, hlocks, hK, hA, hD, hN, hal, hNx⟩ := cx
  intro u x0 h q0 H locs ls hl hP hS
  unfold bk_Md_bind_0 at h
  refine lv_aload_n hx hb dMd_bind_0 rfl (lv_at hl 0 rfl) ?_
  obtain ⟨y1, hy2, h⟩ := bd1_some h
  obtain ⟨hy2a, hy2⟩ := rdR_some hy2
  refine x_get hx hb hts in_Md hown hK hP (hal _ (okk_al q0)) (okk_t q0) rfl rfl 17 (by decide) (hts _ tw_799) (fun _ h9 => h9) (congrArg some (x_rf hy2a)) dMd_bind_1 ?_
  refine lv_bipush (v := 40) hx hb dMd_bind_4 (by decide) ?_
  obtain ⟨u3, v3, hc3, h⟩ := bd2_some h
  refine x_ci (u := u) (out := (u3, v3)) hA hD hS (va_runS (As := [.ref (ad y1), .int (40 : Int32)]) (rest := []) ⟨hx, hb, hml, hown, hts⟩ (ct_Md_wordIn hal hN F u y1 (40 : Int32) (u3, v3) hc3 hy2 _) ⟨callB_of 2 hts gdMd_wordIn rfl rfl rfl (hts _ tw_11) (hts _ tw_983) hdMd_wordIn ⟨Nat.le_of_ble_eq_true rfl, Nat.le_of_ble_eq_true rfl⟩, (hts _ tw_984)⟩ (x_preS hK hD hNx hP) rfl rfl hl.1 rfl (lv_room (Nat.le_of_ble_eq_true rfl)) dMd_bind_6 ⟨Nat.zero_le _, Nat.zero_le _⟩) (fun H locs hP hS => ?_)
  refine lv_istore_n (lv' := [(1, .int v3), (0, .ref (ad x0))]) hx hb dMd_bind_9 rfl hl (by decide) rfl (fun ls hl => ?_)
  refine lv_iload_n hx hb dMd_bind_10 rfl (lv_at hl 0 rfl) ?_
  refine lv_aload_n hx hb dMd_bind_11 rfl (lv_at hl 1 rfl) ?_
  obtain ⟨y4, hy5, h⟩ := bd1_some h
  obtain ⟨hy5a, hy5⟩ := rdR_some hy5
  refine x_get hx hb hts in_Md hown hK hP (hal _ (okk_al q0)) (okk_t q0) rfl rfl 17 (by decide) (hts _ tw_799) (fun _ h9 => h9) (congrArg some (x_rf hy5a)) dMd_bind_12 ?_
  refine lv_bipush (v := 44) hx hb dMd_bind_15 (by decide) ?_
  obtain ⟨u6, v6, hc6, h⟩ := bd2_some h
  refine x_ci (u := u3) (out := (u6, v6)) hA hD hS (va_runS (As := [.ref (ad y4), .int (44 : Int32)]) (rest := [.int v3]) ⟨hx, hb, hml, hown, hts⟩ (ct_Md_wordIn hal hN F u3 y4 (44 : Int32) (u6, v6) hc6 hy5 _) ⟨callB_of 2 hts gdMd_wordIn rfl rfl rfl (hts _ tw_11) (hts _ tw_983) hdMd_wordIn ⟨Nat.le_of_ble_eq_true rfl, Nat.le_of_ble_eq_true rfl⟩, (hts _ tw_984)⟩ (x_preS hK hD hNx hP) rfl rfl hl.1 rfl (lv_room (Nat.le_of_ble_eq_true rfl)) dMd_bind_17 ⟨Nat.zero_le _, Nat.zero_le _⟩) (fun H locs hP hS => ?_)
  refine lv_iadd hx hb dMd_bind_20 ?_
  refine lv_istore_n (lv' := [(2, .int (v3 + v6)), (1, .int v3), (0, .ref (ad x0))]) hx hb dMd_bind_21 rfl hl (by decide) rfl (fun ls hl => ?_)
  refine lv_iload_n hx hb dMd_bind_22 rfl (lv_at hl 0 rfl) ?_
  refine lv_iload_n hx hb dMd_bind_23 rfl (lv_at hl 1 rfl) ?_
  refine lv_icmp_le (tgt := 31) hx hb dMd_bind_24 rfl (fun hc => ?_) (fun hc => ?_)
  · replace h := it_t h hc
    refine lv_iconst (v := 0) hx hb dMd_bind_31 (by decide) ?_
    exact wk_Md_bind_32 ⟨hx, hb, hml, hown, hts, hr, hlocks, hK, hA, hD, hN, hal, hNx⟩ F out u6 (0 : Int32) x0 v3 (v3 + v6) h q0 _ _ _ (lv_sub hl [2, 1, 0] rfl) hP hS
  · replace h := it_f h hc
    refine lv_iconst (v := 1) hx hb dMd_bind_27 (by decide) ?_
    refine lv_goto (tgt := 32) hx hb dMd_bind_28 rfl ?_
    exact wk_Md_bind_32 ⟨hx, hb, hml, hown, hts, hr, hlocks, hK, hA, hD, hN, hal, hNx⟩ F out u6 (1 : Int32) x0 v3 (v3 + v6) h q0 _ _ _ (lv_sub hl [2, 1, 0] rfl) hP hS
def fn_Md_bind (F : Nat) (al : Nat → Bool) (u : Mr) (x0 : Nat) : Option (Mr × Int32) := bk_Md_bind_0 F al u x0
set_option maxHeartbeats 4000000 in
set_option maxRecDepth 100000 in
theorem ct_Md_bind {l : Launch} {D : va_G} {cA : Nat → ClassId} {ad : Nat → Nat} {L : List Nat} {rs : va_W} {al : Nat → Bool} (hal : ∀ k, al k = true → k ∈ L) (hN : L.Nodup) (F : Nat) (u : Mr) (x0 : Nat) (out : Mr × Int32) (h : fn_Md_bind F al u x0 = some out) (q0 : okk al 32 x0 = true) : CtV l yMd_bind wsMd_bind rm_Md_bind [.ref (ad x0)] D cA ad L rs u out := by
  intro sz
  refine Met.ofW (cc := cMd_bind) (maxL := 5) (ret := none) (by decide) rfl ?_
  intro p e s m args below meth c s₁ B hml hv
  obtain ⟨rfl, hsz, hP, hK, hD0, hNx⟩ := hv
  subst hsz
  have hD := hD0.self (sz := s.heap.size)
  generalize hAe : va_A (ww ad cA L rs u) s.heap.size = A at hD ⊢
  have hA : ∀ q, s.heap.size ≤ q → A q := fun q h => by rw [← hAe]; exact Or.inr h
  have hl := lv_entry ([.ref (ad x0)]) (n := 5) (Nat.le_of_ble_eq_true rfl)
  rw [lg_entry_eq]
  generalize (lg_sl ([.ref (ad x0)]) ++ List.replicate (5 - (lg_sl ([.ref (ad x0)])).length) Slot.unset).toArray = ls at hl ⊢
  exact wk_Md_bind_0 ⟨B.exec, B.bytes, hml, findClass_of_methodNamed B.named, hts_bw (atoms_spec (ws := wsMd_bind) B.pre), B.returns, B.notSynchronized, hK, hA, fun v => ww_D hD, hN, hal, hNx⟩ F out u x0 h q0 _ _ _ (lv_sub hl [0] rfl) hP va_S.rf
abbrev rm_Md_load : Room := { frames := 3, cells := 0, slots := 0, locals := 77 }
def bk_Md_load_180 (F : Nat) (al : Nat → Bool) : Nat → Mr → Nat → Int32 → Option (Mr × Int32)
  | 0, _, _, _ => none
  | n + 1, u, x0, x2 => if (u.1 x0 16) ≤ x2 then (some (u, (0 : Int32))) else (bd1 (rdR al u x0 27 41) fun y1 => (bd1 (rdR al u x0 30 41) fun y3 => (ck (inb x2 2048) (ck (inb x2 2048) (bk_Md_load_180 F al n (stI u y1 x2 (u.1 y3 x2)) x0 (x2 + (1 : Int32)))))))
set_option maxHeartbeats 4000000 in
set_option maxRecDepth 100000 in
theorem wk_Md_load_180 (cx : Cx p l e s m args below meth c cMd_load 3 bw "ImageForgeModel" (some .int) D cA ad L rs al A) (F : Nat) (out : Mr × Int32) : ∀ n : Nat, ∀ (u : Mr) (x0 : Nat) (x2 : Int32), bk_Md_load_180 F al n u x0 x2 = some out → okk al 32 x0 = true → Wb p l e rm_Md_load s m args below meth c D cA ad L rs A (QI below args s D cA ad L rs A out) 3 180 [(0, .ref (ad x0)), (2, .int x2)] [] u := by
  obtain ⟨hx, hb, hml, hown, hts, hr, hlocks, hK, hA, hD, hN, hal, hNx⟩ := cx
  intro n
  induction n with
  | zero =>
    intro u x0 x2 h
    cases h
  | succ n ih =>
    intro u x0 x2 h q0 H locs ls hl hP hS
    rw [bk_Md_load_180] at h
    refine lv_iload_n hx hb dMd_load_180 rfl (lv_at hl 1 rfl) ?_
    refine lv_aload_n hx hb dMd_load_181 rfl (lv_at hl 0 rfl) ?_
    refine x_get hx hb hts in_Md hown hK hP (hal _ (okk_al q0)) (okk_t q0) rfl rfl 16 (by decide) (hts _ tw_798) (fun _ h9 => h9) rfl dMd_load_182 ?_
    refine lv_icmp_ge (tgt := 206) hx hb dMd_load_185 rfl (fun hc => ?_) (fun hc => ?_)
    · replace h := it_t h hc
      refine lv_iconst (v := 0) hx hb dMd_load_206 (by decide) ?_
      exact x_iret hx hb hr hlocks h hP hS dMd_load_207
    · replace h := it_f h hc
      refine lv_aload_n hx hb dMd_load_188 rfl (lv_at hl 0 rfl) ?_
      obtain ⟨y1, hy2, h⟩ := bd1_some h
      obtain ⟨hy2a, hy2⟩ := rdR_some hy2
      refine x_get hx hb hts in_Md hown hK hP (hal _ (okk_al q0)) (okk_t q0) rfl rfl 27 (by decide) (hts _ tw_809) (fun _ h9 => h9) (congrArg some (x_rf hy2a)) dMd_load_189 ?_
      refine lv_iload_n hx hb dMd_load_192 rfl (lv_at hl 1 rfl) ?_
      refine lv_aload_n hx hb dMd_load_193 rfl (lv_at hl 0 rfl) ?_
      obtain ⟨y3, hy4, h⟩ := bd1_some h
      obtain ⟨hy4a, hy4⟩ := rdR_some hy4
      refine x_get hx hb hts in_Md hown hK hP (hal _ (okk_al q0)) (okk_t q0) rfl rfl 30 (by decide) (hts _ tw_812) (fun _ h9 => h9) (congrArg some (x_rf hy4a)) dMd_load_194 ?_
      refine lv_iload_n hx hb dMd_load_197 rfl (lv_at hl 1 rfl) ?_
      obtain ⟨hi5, h⟩ := ck_some h
      refine x_iald hx hb hK hP (hal _ (okk_al hy4)) (okk_t hy4) 0 (fun _ _ _ => rfl) rfl (inb_in hi5) dMd_load_198 ?_
      obtain ⟨hi6, h⟩ := ck_some h
      refine x_iast hx hb hK hD hN hP hS (hal _ (okk_al hy2)) (okk_t hy2) 0 (fun _ _ _ => rfl) rfl (by decide) (inb_in hi6) dMd_load_199 (fun H locs hP hS => ?_)
      refine lv_iinc (k := 1) (v := x2 + (1 : Int32)) (lv' := [(2, .int (x2 + (1 : Int32))), (0, .ref (ad x0))]) hx hb dMd_load_200 hl rfl (congrArg (fun z => _ + z) (show Int32.ofInt 1 = 1 by decide)) (by decide) rfl (fun ls hl => ?_)
      refine lv_goto (tgt := 180) hx hb dMd_load_203 rfl ?_
      exact ih (stI u y1 x2 (u.1 y3 x2)) x0 (x2 + (1 : Int32)) h q0 _ _ _ (lv_sub hl [1, 0] rfl) hP hS
def bk_Md_load_122 (F : Nat) (al : Nat → Bool) (u : Mr) (x0 : Nat) (x1 : Int32) : Option (Mr × Int32) := if (u.1 x0 31) ≤ 0 then (bd1 (rdR al (stI (stI (stI u x0 24 (1 : Int32)) x0 25 x1) x0 26 ((stI (stI u x0 24 (1 : Int32)) x0 25 x1).1 x0 16)) x0 17 41) fun y1 => (bd2 (fn_Md_wordIn F al (stI (stI (stI u x0 24 (1 : Int32)) x0 25 x1) x0 26 ((stI (stI u x0 24 (1 : Int32)) x0 25 x1).1 x0 16)) y1 (48 : Int32)) fun u3 v3 => (bd1 (rdR al (stI u3 x0 28 v3) x0 17 41) fun y4 => (bd2 (fn_Md_wordIn F al (stI u3 x0 28 v3) y4 (52 : Int32)) fun u6 v6 => (bk_Md_load_180 F al F (stI u6 x0 29 v6) x0 (0 : Int32)))))) else (some (u, u.1 x0 31))
set_option maxHeartbeats 4000000 in
set_option maxRecDepth 100000 in
theorem wk_Md_load_122 (cx : Cx p l e s m args below meth c cMd_load 3 bw "ImageForgeModel" (some .int) D cA ad L rs al A) (F : Nat) (out : Mr × Int32) : ∀ (u : Mr) (x0 : Nat) (x1 : Int32), bk_Md_load_122 F al u x0 x1 = some out → okk al 32 x0 = true → Wb p l e rm_Md_load s m args below meth c D cA ad L rs A (QI below args s D cA ad L rs A out) 3 122 [(0, .ref (ad x0)), (1, .int x1)] [] u := by
  obtain ⟨hx, hb, hml, hown, hts, hr, hlocks, hK, hA, hD, hN, hal, hNx⟩ := cx
  intro u x0 x1 h q0 H locs ls hl hP hS
  unfold bk_Md_load_122 at h
  refine lv_aload_n hx hb dMd_load_122 rfl (lv_at hl 0 rfl) ?_
  refine x_get hx hb hts in_Md hown hK hP (hal _ (okk_al q0)) (okk_t q0) rfl rfl 31 (by decide) (hts _ tw_813) (fun _ h9 => h9) rfl dMd_load_123 ?_
  refine lv_if_le (tgt := 134) hx hb dMd_load_126 rfl (fun hc => ?_) (fun hc => ?_)
  · replace h := it_t h hc
    refine lv_aload_n hx hb dMd_load_134 rfl (lv_at hl 0 rfl) ?_
    refine lv_iconst (v := 1) hx hb dMd_load_135 (by decide) ?_
    refine x_put hx hb hts in_Md t_Md t_Md_ok nm_Md hown hK hD hN hP hS (hal _ (okk_al q0)) (okk_t q0) rfl rfl 24 (by decide) (hts _ tw_806) (fun _ h9 => h9) rfl (ty := .boolean) (by decide +kernel) rfl rfl (Nat.le_of_ble_eq_true rfl) (stI u x0 24 (1 : Int32)) stI_o (by rw [stI_up]; exact eg_32_24) dMd_load_136 (fun H locs hP hS => ?_)
    refine lv_aload_n hx hb dMd_load_139 rfl (lv_at hl 0 rfl) ?_
    refine lv_iload_n hx hb dMd_load_140 rfl (lv_at hl 1 rfl) ?_
    refine x_put hx hb hts in_Md t_Md t_Md_ok nm_Md hown hK hD hN hP hS (hal _ (okk_al q0)) (okk_t q0) rfl rfl 25 (by decide) (hts _ tw_807) (fun _ h9 => h9) rfl (ty := .int) (by decide +kernel) rfl rfl (Nat.le_of_ble_eq_true rfl) (stI (stI u x0 24 (1 : Int32)) x0 25 x1) stI_o (by rw [stI_up]; exact eg_32_25) dMd_load_141 (fun H locs hP hS => ?_)
    refine lv_aload_n hx hb dMd_load_144 rfl (lv_at hl 0 rfl) ?_
    refine lv_aload_n hx hb dMd_load_145 rfl (lv_at hl 0 rfl) ?_
    refine x_get hx hb hts in_Md hown hK hP (hal _ (okk_al q0)) (okk_t q0) rfl rfl 16 (by decide) (hts _ tw_798) (fun _ h9 => h9) rfl dMd_load_146 ?_
    refine x_put hx hb hts in_Md t_Md t_Md_ok nm_Md hown hK hD hN hP hS (hal _ (okk_al q0)) (okk_t q0) rfl rfl 26 (by decide) (hts _ tw_808) (fun _ h9 => h9) rfl (ty := .int) (by decide +kernel) rfl rfl (Nat.le_of_ble_eq_true rfl) (stI (stI (stI u x0 24 (1 : Int32)) x0 25 x1) x0 26 ((stI (stI u x0 24 (1 : Int32)) x0 25 x1).1 x0 16)) stI_o (by rw [stI_up]; exact eg_32_26) dMd_load_149 (fun H locs hP hS => ?_)
    refine lv_aload_n hx hb dMd_load_152 rfl (lv_at hl 0 rfl) ?_
    refine lv_aload_n hx hb dMd_load_153 rfl (lv_at hl 0 rfl) ?_
    obtain ⟨y1, hy2, h⟩ := bd1_some h
    obtain ⟨hy2a, hy2⟩ := rdR_some hy2
    refine x_get hx hb hts in_Md hown hK hP (hal _ (okk_al q0)) (okk_t q0) rfl rfl 17 (by decide) (hts _ tw_799) (fun _ h9 => h9) (congrArg some (x_rf hy2a)) dMd_load_154 ?_
    refine lv_bipush (v := 48) hx hb dMd_load_157 (by decide) ?_
    obtain ⟨u3, v3, hc3, h⟩ := bd2_some h
    refine x_ci (u := stI (stI (stI u x0 24 (1 : Int32)) x0 25 x1) x0 26 ((stI (stI u x0 24 (1 : Int32)) x0 25 x1).1 x0 16)) (out := (u3, v3)) hA hD hS (va_runS (As := [.ref (ad y1), .int (48 : Int32)]) (rest := [.ref (ad x0)]) ⟨hx, hb, hml, hown, hts⟩ (ct_Md_wordIn hal hN F (stI (stI (stI u x0 24 (1 : Int32)) x0 25 x1) x0 26 ((stI (stI u x0 24 (1 : Int32)) x0 25 x1).1 x0 16)) y1 (48 : Int32) (u3, v3) hc3 hy2 _) ⟨callB_of 2 hts gdMd_wordIn rfl rfl rfl (hts _ tw_11) (hts _ tw_983) hdMd_wordIn ⟨Nat.le_of_ble_eq_true rfl, Nat.le_of_ble_eq_true rfl⟩, (hts _ tw_984)⟩ (x_preS hK hD hNx hP) rfl rfl hl.1 rfl (lv_room (Nat.le_of_ble_eq_true rfl)) dMd_load_159 ⟨Nat.zero_le _, Nat.zero_le _⟩) (fun H locs hP hS => ?_)
    refine x_put hx hb hts in_Md t_Md t_Md_ok nm_Md hown hK hD hN hP hS (hal _ (okk_al q0)) (okk_t q0) rfl rfl 28 (by decide) (hts _ tw_810) (fun _ h9 => h9) rfl (ty := .int) (by decide +kernel) rfl rfl (Nat.le_of_ble_eq_true rfl) (stI u3 x0 28 v3) stI_o (by rw [stI_up]; exact eg_32_28) dMd_load_162 (fun H locs hP hS => ?_)
    refine lv_aload_n hx hb dMd_load_165 rfl (lv_at hl 0 rfl) ?_
    refine lv_aload_n hx hb dMd_load_166 rfl (lv_at hl 0 rfl) ?_
    obtain ⟨y4, hy5, h⟩ := bd1_some h
    obtain ⟨hy5a, hy5⟩ := rdR_some hy5
    refine x_get hx hb hts in_Md hown hK hP (hal _ (okk_al q0)) (okk_t q0) rfl rfl 17 (by decide) (hts _ tw_799) (fun _ h9 => h9) (congrArg some (x_rf hy5a)) dMd_load_167 ?_
    refine lv_bipush (v := 52) hx hb dMd_load_170 (by decide) ?_
    obtain ⟨u6, v6, hc6, h⟩ := bd2_some h
    refine x_ci (u := stI u3 x0 28 v3) (out := (u6, v6)) hA hD hS (va_runS (As := [.ref (ad y4), .int (52 : Int32)]) (rest := [.ref (ad x0)]) ⟨hx, hb, hml, hown, hts⟩ (ct_Md_wordIn hal hN F (stI u3 x0 28 v3) y4 (52 : Int32) (u6, v6) hc6 hy5 _) ⟨callB_of 2 hts gdMd_wordIn rfl rfl rfl (hts _ tw_11) (hts _ tw_983) hdMd_wordIn ⟨Nat.le_of_ble_eq_true rfl, Nat.le_of_ble_eq_true rfl⟩, (hts _ tw_984)⟩ (x_preS hK hD hNx hP) rfl rfl hl.1 rfl (lv_room (Nat.le_of_ble_eq_true rfl)) dMd_load_172 ⟨Nat.zero_le _, Nat.zero_le _⟩) (fun H locs hP hS => ?_)
    refine x_put hx hb hts in_Md t_Md t_Md_ok nm_Md hown hK hD hN hP hS (hal _ (okk_al q0)) (okk_t q0) rfl rfl 29 (by decide) (hts _ tw_811) (fun _ h9 => h9) rfl (ty := .int) (by decide +kernel) rfl rfl (Nat.le_of_ble_eq_true rfl) (stI u6 x0 29 v6) stI_o (by rw [stI_up]; exact eg_32_29) dMd_load_175 (fun H locs hP hS => ?_)
    refine lv_iconst (v := 0) hx hb dMd_load_178 (by decide) ?_
    refine lv_istore_n (lv' := [(2, .int (0 : Int32)), (0, .ref (ad x0)), (1, .int x1)]) hx hb dMd_load_179 rfl hl (by decide) rfl (fun ls hl => ?_)
    exact wk_Md_load_180 ⟨hx, hb, hml, hown, hts, hr, hlocks, hK, hA, hD, hN, hal, hNx⟩ F out F (stI u6 x0 29 v6) x0 (0 : Int32) h q0 _ _ _ (lv_sub hl [1, 0] rfl) hP hS
  · replace h := it_f h hc
    refine lv_aload_n hx hb dMd_load_129 rfl (lv_at hl 0 rfl) ?_
    refine x_get hx hb hts in_Md hown hK hP (hal _ (okk_al q0)) (okk_t q0) rfl rfl 31 (by decide) (hts _ tw_813) (fun _ h9 => h9) rfl dMd_load_130 ?_
    exact x_iret hx hb hr hlocks h hP hS dMd_load_133
def bk_Md_load_111 (F : Nat) (al : Nat → Bool) (u : Mr) (x0 : Nat) (x1 : Int32) : Option (Mr × Int32) := if (u.1 x0 31) = 0 then (bd2 (fn_Md_bind F al u x0) fun u1 v1 => (bk_Md_load_122 F al u1 x0 x1)) else (bk_Md_load_122 F al u x0 x1)
set_option maxHeartbeats 4000000 in
set_option maxRecDepth 100000 in
theorem wk_Md_load_111 (cx : Cx p l e s m args below meth c cMd_load 3 bw "ImageForgeModel" (some .int) D cA ad L rs al A) (F : Nat) (out : Mr × Int32) : ∀ (u : Mr) (x0 : Nat) (x1 : Int32), bk_Md_load_111 F al u x0 x1 = some out → okk al 32 x0 = true → Wb p l e rm_Md_load s m args below meth c D cA ad L rs A (QI below args s D cA ad L rs A out) 3 111 [(0, .ref (ad x0)), (1, .int x1)] [] u := by
  obtain ⟨hx, hb, hml, hown, hts, hr, hlocks, hK, hA, hD, hN, hal, hNx⟩ := cx
  intro u x0 x1 h q0 H locs ls hl hP hS
  unfold bk_Md_load_111 at h
  refine lv_aload_n hx hb dMd_load_111 rfl (lv_at hl 0 rfl) ?_
  refine x_get hx hb hts in_Md hown hK hP (hal _ (okk_al q0)) (okk_t q0) rfl rfl 31 (by decide) (hts _ tw_813) (fun _ h9 => h9) rfl dMd_load_112 ?_
  refine lv_if_ne (tgt := 122) hx hb dMd_load_115 rfl (fun hc => ?_) (fun hc => ?_)
  · replace h := it_f h hc
    exact wk_Md_load_122 ⟨hx, hb, hml, hown, hts, hr, hlocks, hK, hA, hD, hN, hal, hNx⟩ F out u x0 x1 h q0 _ _ _ (lv_sub hl [0, 1] rfl) hP hS
  · replace h := it_t h hc
    refine lv_aload_n hx hb dMd_load_118 rfl (lv_at hl 0 rfl) ?_
    obtain ⟨u1, v1, hc1, h⟩ := bd2_some h
    refine x_cv (u := u) (out := (u1, v1)) hA hD hS (va_runV (As := []) (rest := []) ⟨hx, hb, hml, hown, hts⟩ (ct_Md_bind hal hN F u x0 (u1, v1) hc1 q0 _) ⟨callB_of 0 hts gdMd_bind rfl rfl rfl (hts _ tw_11) (hts _ tw_1036) hdMd_bind ⟨Nat.le_of_ble_eq_true rfl, Nat.le_of_ble_eq_true rfl⟩, (hts _ tw_1038), (hts _ tp_75)⟩ (x_preV hK hD hNx hP (hal _ (okk_al q0)) (okk_t q0) rfl rfl) rfl rfl hl.1 rfl (lv_room (Nat.le_of_ble_eq_true rfl)) dMd_load_119 ⟨Nat.zero_le _, Nat.zero_le _⟩) (fun H locs hP hS => ?_)
    exact wk_Md_load_122 ⟨hx, hb, hml, hown, hts, hr, hlocks, hK, hA, hD, hN, hal, hNx⟩ F out u1 x0 x1 h q0 _ _ _ (lv_sub hl [0, 1] rfl) hP hS
def bk_Md_load_63 (F : Nat) (al : Nat → Bool) : Nat → Mr → Nat → Int32 → Int32 → Option (Mr × Int32)
  | 0, _, _, _, _ => none
  | n + 1, u, x0, x1, x2 => if (u.1 x0 16) ≤ x2 then (if (u.1 x0 31) = 0 then (bd1 (rdR al u x0 17 41) fun y1 => (bd2 (fn_Md_wordIn F al u y1 (8 : Int32)) fun u3 v3 => (bd2 (fn_Md_relocate F al u3 x0 (x1 - v3)) fun u4 v4 => (bk_Md_load_111 F al u4 x0 x1)))) else (bk_Md_load_111 F al u x0 x1)) else (bd1 (rdR al u x0 30 41) fun y5 => (bd1 (rdR al u x0 17 41) fun y7 => (ck (inb x2 2048) (ck (inb x2 2048) (bk_Md_load_63 F al n (stI u y5 x2 (u.1 y7 x2)) x0 x1 (x2 + (1 : Int32)))))))
set_option maxHeartbeats 4000000 in
set_option maxRecDepth 100000 in
theorem wk_Md_load_63 (cx : Cx p l e s m args below meth c cMd_load 3 bw "ImageForgeModel" (some .int) D cA ad L rs al A) (F : Nat) (out : Mr × Int32) : ∀ n : Nat, ∀ (u : Mr) (x0 : Nat) (x1 : Int32) (x2 : Int32), bk_Md_load_63 F al n u x0 x1 x2 = some out → okk al 32 x0 = true → Wb p l e rm_Md_load s m args below meth c D cA ad L rs A (QI below args s D cA ad L rs A out) 3 63 [(0, .ref (ad x0)), (1, .int x1), (2, .int x2)] [] u := by
  obtain ⟨hx, hb, hml, hown, hts, hr, hlocks, hK, hA, hD, hN, hal, hNx⟩ := cx
  intro n
  induction n with
  | zero =>
    intro u x0 x1 x2 h
    cases h
  | succ n ih =>
    intro u x0 x1 x2 h q0 H locs ls hl hP hS
    rw [bk_Md_load_63] at h
    refine lv_iload_n hx hb dMd_load_63 rfl (lv_at hl 2 rfl) ?_
    refine lv_aload_n hx hb dMd_load_64 rfl (lv_at hl 0 rfl) ?_
    refine x_get hx hb hts in_Md hown hK hP (hal _ (okk_al q0)) (okk_t q0) rfl rfl 16 (by decide) (hts _ tw_798) (fun _ h9 => h9) rfl dMd_load_65 ?_
    refine lv_icmp_ge (tgt := 89) hx hb dMd_load_68 rfl (fun hc => ?_) (fun hc => ?_)
    · replace h := it_t h hc
      refine lv_aload_n hx hb dMd_load_89 rfl (lv_at hl 0 rfl) ?_
      refine x_get hx hb hts in_Md hown hK hP (hal _ (okk_al q0)) (okk_t q0) rfl rfl 31 (by decide) (hts _ tw_813) (fun _ h9 => h9) rfl dMd_load_90 ?_
      refine lv_if_ne (tgt := 111) hx hb dMd_load_93 rfl (fun hc => ?_) (fun hc => ?_)
      · replace h := it_f h hc
        exact wk_Md_load_111 ⟨hx, hb, hml, hown, hts, hr, hlocks, hK, hA, hD, hN, hal, hNx⟩ F out u x0 x1 h q0 _ _ _ (lv_sub hl [0, 1] rfl) hP hS
      · replace h := it_t h hc
        refine lv_aload_n hx hb dMd_load_96 rfl (lv_at hl 0 rfl) ?_
        refine lv_iload_n hx hb dMd_load_97 rfl (lv_at hl 1 rfl) ?_
        refine lv_aload_n hx hb dMd_load_98 rfl (lv_at hl 0 rfl) ?_
        obtain ⟨y1, hy2, h⟩ := bd1_some h
        obtain ⟨hy2a, hy2⟩ := rdR_some hy2
        refine x_get hx hb hts in_Md hown hK hP (hal _ (okk_al q0)) (okk_t q0) rfl rfl 17 (by decide) (hts _ tw_799) (fun _ h9 => h9) (congrArg some (x_rf hy2a)) dMd_load_99 ?_
        refine lv_bipush (v := 8) hx hb dMd_load_102 (by decide) ?_
        obtain ⟨u3, v3, hc3, h⟩ := bd2_some h
        refine x_ci (u := u) (out := (u3, v3)) hA hD hS (va_runS (As := [.ref (ad y1), .int (8 : Int32)]) (rest := [.int x1, .ref (ad x0)]) ⟨hx, hb, hml, hown, hts⟩ (ct_Md_wordIn hal hN F u y1 (8 : Int32) (u3, v3) hc3 hy2 _) ⟨callB_of 2 hts gdMd_wordIn rfl rfl rfl (hts _ tw_11) (hts _ tw_983) hdMd_wordIn ⟨Nat.le_of_ble_eq_true rfl, Nat.le_of_ble_eq_true rfl⟩, (hts _ tw_984)⟩ (x_preS hK hD hNx hP) rfl rfl hl.1 rfl (lv_room (Nat.le_of_ble_eq_true rfl)) dMd_load_104 ⟨Nat.zero_le _, Nat.zero_le _⟩) (fun H locs hP hS => ?_)
        refine lv_isub hx hb dMd_load_107 ?_
        obtain ⟨u4, v4, hc4, h⟩ := bd2_some h
        refine x_cv (u := u3) (out := (u4, v4)) hA hD hS (va_runV (As := [.int (x1 - v3)]) (rest := []) ⟨hx, hb, hml, hown, hts⟩ (ct_Md_relocate hal hN F u3 x0 (x1 - v3) (u4, v4) hc4 q0 _) ⟨callB_of 1 hts gdMd_relocate rfl rfl rfl (hts _ tw_11) (hts _ tw_1023) hdMd_relocate ⟨Nat.le_of_ble_eq_true rfl, Nat.le_of_ble_eq_true rfl⟩, (hts _ tw_1025), (hts _ tp_72)⟩ (x_preV hK hD hNx hP (hal _ (okk_al q0)) (okk_t q0) rfl rfl) rfl rfl hl.1 rfl (lv_room (Nat.le_of_ble_eq_true rfl)) dMd_load_108 ⟨Nat.zero_le _, Nat.zero_le _⟩) (fun H locs hP hS => ?_)
        exact wk_Md_load_111 ⟨hx, hb, hml, hown, hts, hr, hlocks, hK, hA, hD, hN, hal, hNx⟩ F out u4 x0 x1 h q0 _ _ _ (lv_sub hl [0, 1] rfl) hP hS
    · replace h := it_f h hc
      refine lv_aload_n hx hb dMd_load_71 rfl (lv_at hl 0 rfl) ?_
      obtain ⟨y5, hy6, h⟩ := bd1_some h
      obtain ⟨hy6a, hy6⟩ := rdR_some hy6
      refine x_get hx hb hts in_Md hown hK hP (hal _ (okk_al q0)) (okk_t q0) rfl rfl 30 (by decide) (hts _ tw_812) (fun _ h9 => h9) (congrArg some (x_rf hy6a)) dMd_load_72 ?_
      refine lv_iload_n hx hb dMd_load_75 rfl (lv_at hl 2 rfl) ?_
      refine lv_aload_n hx hb dMd_load_76 rfl (lv_at hl 0 rfl) ?_
      obtain ⟨y7, hy8, h⟩ := bd1_some h
      obtain ⟨hy8a, hy8⟩ := rdR_some hy8
      refine x_get hx hb hts in_Md hown hK hP (hal _ (okk_al q0)) (okk_t q0) rfl rfl 17 (by decide) (hts _ tw_799) (fun _ h9 => h9) (congrArg some (x_rf hy8a)) dMd_load_77 ?_
      refine lv_iload_n hx hb dMd_load_80 rfl (lv_at hl 2 rfl) ?_
      obtain ⟨hi9, h⟩ := ck_some h
      refine x_iald hx hb hK hP (hal _ (okk_al hy8)) (okk_t hy8) 0 (fun _ _ _ => rfl) rfl (inb_in hi9) dMd_load_81 ?_
      obtain ⟨hi10, h⟩ := ck_some h
      refine x_iast hx hb hK hD hN hP hS (hal _ (okk_al hy6)) (okk_t hy6) 0 (fun _ _ _ => rfl) rfl (by decide) (inb_in hi10) dMd_load_82 (fun H locs hP hS => ?_)
      refine lv_iinc (k := 2) (v := x2 + (1 : Int32)) (lv' := [(2, .int (x2 + (1 : Int32))), (0, .ref (ad x0)), (1, .int x1)]) hx hb dMd_load_83 hl rfl (congrArg (fun z => _ + z) (show Int32.ofInt 1 = 1 by decide)) (by decide) rfl (fun ls hl => ?_)
      refine lv_goto (tgt := 63) hx hb dMd_load_86 rfl ?_
      exact ih (stI u y5 x2 (u.1 y7 x2)) x0 x1 (x2 + (1 : Int32)) h q0 _ _ _ (lv_sub hl [1, 2, 0] rfl) hP hS
def bk_Md_load_43 (F : Nat) (al : Nat → Bool) (u : Mr) (s0 : Nat) (s1 : Int32) (x0 : Nat) (x1 : Int32) : Option (Mr × Int32) := bd2 (fn_Md_fails F al u s0 s1 (2 : Int32)) fun u1 v1 => (if v1 = 0 then (bd2 (fn_Md_checkHeader F al (stI u1 x0 31 (0 : Int32)) x0) fun u2 v2 => (bk_Md_load_63 F al F u2 x0 x1 (0 : Int32))) else (some (u1, (0 : Int32))))
set_option maxHeartbeats 4000000 in
set_option maxRecDepth 100000 in
theorem wk_Md_load_43 (cx : Cx p l e s m args below meth c cMd_load 3 bw "ImageForgeModel" (some .int) D cA ad L rs al A) (F : Nat) (out : Mr × Int32) : ∀ (u : Mr) (s0 : Nat) (s1 : Int32) (x0 : Nat) (x1 : Int32), bk_Md_load_43 F al u s0 s1 x0 x1 = some out → okk al 32 x0 = true → okk al 32 s0 = true → Wb p l e rm_Md_load s m args below meth c D cA ad L rs A (QI below args s D cA ad L rs A out) 3 43 [(0, .ref (ad x0)), (1, .int x1)] [.int s1, .ref (ad s0)] u := by
  obtain ⟨hx, hb, hml, hown, hts, hr, hlocks, hK, hA, hD, hN, hal, hNx⟩ := cx
  intro u s0 s1 x0 x1 h q0 qs0 H locs ls hl hP hS
  unfold bk_Md_load_43 at h
  refine lv_iconst (v := 2) hx hb dMd_load_43 (by decide) ?_
  obtain ⟨u1, v1, hc1, h⟩ := bd2_some h
  refine x_ci (u := u) (out := (u1, v1)) hA hD hS (va_runV (As := [.int s1, .int (2 : Int32)]) (rest := []) ⟨hx, hb, hml, hown, hts⟩ (ct_Md_fails hal hN F u s0 s1 (2 : Int32) (u1, v1) hc1 qs0 _) ⟨callB_of 2 hts gdMd_fails rfl rfl rfl (hts _ tw_11) (hts _ tw_890) hdMd_fails ⟨Nat.le_of_ble_eq_true rfl, Nat.le_of_ble_eq_true rfl⟩, (hts _ tw_892), (hts _ tp_52)⟩ (x_preV hK hD hNx hP (hal _ (okk_al qs0)) (okk_t qs0) rfl rfl) rfl rfl hl.1 rfl (lv_room (Nat.le_of_ble_eq_true rfl)) dMd_load_44 ⟨Nat.zero_le _, Nat.zero_le _⟩) (fun H locs hP hS => ?_)
  refine lv_if_eq (tgt := 52) hx hb dMd_load_47 rfl (fun hc => ?_) (fun hc => ?_)
  · replace h := it_t h hc
    refine lv_aload_n hx hb dMd_load_52 rfl (lv_at hl 0 rfl) ?_
    refine lv_iconst (v := 0) hx hb dMd_load_53 (by decide) ?_
    refine x_put hx hb hts in_Md t_Md t_Md_ok nm_Md hown hK hD hN hP hS (hal _ (okk_al q0)) (okk_t q0) rfl rfl 31 (by decide) (hts _ tw_813) (fun _ h9 => h9) rfl (ty := .int) (by decide +kernel) rfl rfl (Nat.le_of_ble_eq_true rfl) (stI u1 x0 31 (0 : Int32)) stI_o (by rw [stI_up]; exact eg_32_31) dMd_load_54 (fun H locs hP hS => ?_)
    refine lv_aload_n hx hb dMd_load_57 rfl (lv_at hl 0 rfl) ?_
    obtain ⟨u2, v2, hc2, h⟩ := bd2_some h
    refine x_cv (u := stI u1 x0 31 (0 : Int32)) (out := (u2, v2)) hA hD hS (va_runV (As := []) (rest := []) ⟨hx, hb, hml, hown, hts⟩ (ct_Md_checkHeader hal hN F (stI u1 x0 31 (0 : Int32)) x0 (u2, v2) hc2 q0 _) ⟨callB_of 0 hts gdMd_checkHeader rfl rfl rfl (hts _ tw_11) (hts _ tw_1012) hdMd_checkHeader ⟨Nat.le_of_ble_eq_true rfl, Nat.le_of_ble_eq_true rfl⟩, (hts _ tw_1014), (hts _ tp_70)⟩ (x_preV hK hD hNx hP (hal _ (okk_al q0)) (okk_t q0) rfl rfl) rfl rfl hl.1 rfl (lv_room (Nat.le_of_ble_eq_true rfl)) dMd_load_58 ⟨Nat.zero_le _, Nat.zero_le _⟩) (fun H locs hP hS => ?_)
    refine lv_iconst (v := 0) hx hb dMd_load_61 (by decide) ?_
    refine lv_istore_n (lv' := [(2, .int (0 : Int32)), (0, .ref (ad x0)), (1, .int x1)]) hx hb dMd_load_62 rfl hl (by decide) rfl (fun ls hl => ?_)
    exact wk_Md_load_63 ⟨hx, hb, hml, hown, hts, hr, hlocks, hK, hA, hD, hN, hal, hNx⟩ F out F u2 x0 x1 (0 : Int32) h q0 _ _ _ (lv_sub hl [1, 2, 0] rfl) hP hS
  · replace h := it_f h hc
    refine lv_iconst (v := 0) hx hb dMd_load_50 (by decide) ?_
    exact x_iret hx hb hr hlocks h hP hS dMd_load_51
def bk_Md_load_23 (F : Nat) (al : Nat → Bool) (u : Mr) (s0 : Nat) (s1 : Int32) (x0 : Nat) (x1 : Int32) : Option (Mr × Int32) := bd2 (fn_Md_fails F al u s0 s1 (1 : Int32)) fun u1 v1 => (if v1 = 0 then (if (u1.1 x0 16) = 0 then (bk_Md_load_43 F al u1 x0 (1 : Int32) x0 x1) else (bk_Md_load_43 F al u1 x0 (0 : Int32) x0 x1)) else (some (u1, (0 : Int32))))
set_option maxHeartbeats 4000000 in
set_option maxRecDepth 100000 in
theorem wk_Md_load_23 (cx : Cx p l e s m args below meth c cMd_load 3 bw "ImageForgeModel" (some .int) D cA ad L rs al A) (F : Nat) (out : Mr × Int32) : ∀ (u : Mr) (s0 : Nat) (s1 : Int32) (x0 : Nat) (x1 : Int32), bk_Md_load_23 F al u s0 s1 x0 x1 = some out → okk al 32 x0 = true → okk al 32 s0 = true → Wb p l e rm_Md_load s m args below meth c D cA ad L rs A (QI below args s D cA ad L rs A out) 3 23 [(0, .ref (ad x0)), (1, .int x1)] [.int s1, .ref (ad s0)] u := by
  obtain ⟨hx, hb, hml, hown, hts, hr, hlocks, hK, hA, hD, hN, hal, hNx⟩ := cx
  intro u s0 s1 x0 x1 h q0 qs0 H locs ls hl hP hS
  unfold bk_Md_load_23 at h
  refine lv_iconst (v := 1) hx hb dMd_load_23 (by decide) ?_
  obtain ⟨u1, v1, hc1, h⟩ := bd2_some h
  refine x_ci (u := u) (out := (u1, v1)) hA hD hS (va_runV (As := [.int s1, .int (1 : Int32)]) (rest := []) ⟨hx, hb, hml, hown, hts⟩ (ct_Md_fails hal hN F u s0 s1 (1 : Int32) (u1, v1) hc1 qs0 _) ⟨callB_of 2 hts gdMd_fails rfl rfl rfl (hts _ tw_11) (hts _ tw_890) hdMd_fails ⟨Nat.le_of_ble_eq_true rfl, Nat.le_of_ble_eq_true rfl⟩, (hts _ tw_892), (hts _ tp_52)⟩ (x_preV hK hD hNx hP (hal _ (okk_al qs0)) (okk_t qs0) rfl rfl) rfl rfl hl.1 rfl (lv_room (Nat.le_of_ble_eq_true rfl)) dMd_load_24 ⟨Nat.zero_le _, Nat.zero_le _⟩) (fun H locs hP hS => ?_)
  refine lv_if_ne (tgt := 50) hx hb dMd_load_27 rfl (fun hc => ?_) (fun hc => ?_)
  · replace h := it_f h hc
    refine lv_iconst (v := 0) hx hb dMd_load_50 (by decide) ?_
    exact x_iret hx hb hr hlocks h hP hS dMd_load_51
  · replace h := it_t h hc
    refine lv_aload_n hx hb dMd_load_30 rfl (lv_at hl 0 rfl) ?_
    refine lv_aload_n hx hb dMd_load_31 rfl (lv_at hl 0 rfl) ?_
    refine x_get hx hb hts in_Md hown hK hP (hal _ (okk_al q0)) (okk_t q0) rfl rfl 16 (by decide) (hts _ tw_798) (fun _ h9 => h9) rfl dMd_load_32 ?_
    refine lv_if_ne (tgt := 42) hx hb dMd_load_35 rfl (fun hc => ?_) (fun hc => ?_)
    · replace h := it_f h hc
      refine lv_iconst (v := 0) hx hb dMd_load_42 (by decide) ?_
      exact wk_Md_load_43 ⟨hx, hb, hml, hown, hts, hr, hlocks, hK, hA, hD, hN, hal, hNx⟩ F out u1 x0 (0 : Int32) x0 x1 h q0 q0 _ _ _ (lv_sub hl [0, 1] rfl) hP hS
    · replace h := it_t h hc
      refine lv_iconst (v := 1) hx hb dMd_load_38 (by decide) ?_
      refine lv_goto (tgt := 43) hx hb dMd_load_39 rfl ?_
      exact wk_Md_load_43 ⟨hx, hb, hml, hown, hts, hr, hlocks, hK, hA, hD, hN, hal, hNx⟩ F out u1 x0 (1 : Int32) x0 x1 h q0 q0 _ _ _ (lv_sub hl [0, 1] rfl) hP hS
def bk_Md_load_18 (F : Nat) (al : Nat → Bool) (u : Mr) (s0 : Nat) (x0 : Nat) (x1 : Int32) : Option (Mr × Int32) := bk_Md_load_23 F al u s0 (1 : Int32) x0 x1
set_option maxHeartbeats 4000000 in
set_option maxRecDepth 100000 in
theorem wk_Md_load_18 (cx : Cx p l e s m args below meth c cMd_load 3 bw "ImageForgeModel" (some .int) D cA ad L rs al A) (F : Nat) (out : Mr × Int32) : ∀ (u : Mr) (s0 : Nat) (x0 : Nat) (x1 : Int32), bk_Md_load_18 F al u s0 x0 x1 = some out → okk al 32 x0 = true → okk al 32 s0 = true → Wb p l e rm_Md_load s m args below meth c D cA ad L rs A (QI below args s D cA ad L rs A out) 3 18 [(0, .ref (ad x0)), (1, .int x1)] [.ref (ad s0)] u := by
  obtain ⟨hx, hb, hml, hown, hts, hr, hlocks, hK, hA, hD, hN, hal, hNx⟩ := cx
  intro u s0 x0 x1 h q0 qs0 H locs ls hl hP hS
  unfold bk_Md_load_18 at h
  refine lv_iconst (v := 1) hx hb dMd_load_18 (by decide) ?_
  refine lv_goto (tgt := 23) hx hb dMd_load_19 rfl ?_
  exact wk_Md_load_23 ⟨hx, hb, hml, hown, hts, hr, hlocks, hK, hA, hD, hN, hal, hNx⟩ F out u s0 (1 : Int32) x0 x1 h q0 qs0 _ _ _ (lv_sub hl [0, 1] rfl) hP hS
def bk_Md_load_0 (F : Nat) (al : Nat → Bool) (u : Mr) (x0 : Nat) (x1 : Int32) : Option (Mr × Int32) := if x1 < 0 then (bk_Md_load_18 F al u x0 x0 x1) else (if (1073741824 : Int32) < x1 then (bk_Md_load_18 F al u x0 x0 x1) else (if (x1 - x1 / (64 : Int32) * (64 : Int32)) = 0 then (bk_Md_load_23 F al u x0 (0 : Int32) x0 x1) else (bk_Md_load_18 F al u x0 x0 x1)))
set_option maxHeartbeats 4000000 in
set_option maxRecDepth 100000 in
theorem wk_Md_load_0 (cx : Cx p l e s m args below meth c cMd_load 3 bw "ImageForgeModel" (some .int) D cA ad L rs al A) (F : Nat) (out : Mr × Int32) : ∀ (u : Mr) (x0 : Nat) (x1 : Int32), bk_Md_load_0 F al u x0 x1 = some out → okk al 32 x0 = true → Wb p l e rm_Md_load s m args below meth c D cA ad L rs A (QI below args s D cA ad L rs A out) 3 0 [(0, .ref (ad x0)), (1, .int x1)] [] u := by
  obtain ⟨hx, hb, hml, hown, hts, hr, hlocks, hK, hA, hD, hN, hal, hNx⟩ := cx
  intro u x0 x1 h q0 H locs ls hl hP hS
  unfold bk_Md_load_0 at h
  refine lv_aload_n hx hb dMd_load_0 rfl (lv_at hl 0 rfl) ?_
  refine lv_iload_n hx hb dMd_load_1 rfl (lv_at hl 1 rfl) ?_
  refine lv_if_lt (tgt := 18) hx hb dMd_load_2 rfl (fun hc => ?_) (fun hc => ?_)
  · replace h := it_t h hc
    exact wk_Md_load_18 ⟨hx, hb, hml, hown, hts, hr, hlocks, hK, hA, hD, hN, hal, hNx⟩ F out u x0 x0 x1 h q0 q0 _ _ _ (lv_sub hl [0, 1] rfl) hP hS
  · replace h := it_f h hc
    refine lv_iload_n hx hb dMd_load_5 rfl (lv_at hl 1 rfl) ?_
    refine lv_ldc (v := 1073741824) hx hb hown (hts _ tw_1011) dMd_load_6 ?_
    refine lv_icmp_gt (tgt := 18) hx hb dMd_load_8 rfl (fun hc => ?_) (fun hc => ?_)
    · replace h := it_t h hc
      exact wk_Md_load_18 ⟨hx, hb, hml, hown, hts, hr, hlocks, hK, hA, hD, hN, hal, hNx⟩ F out u x0 x0 x1 h q0 q0 _ _ _ (lv_sub hl [0, 1] rfl) hP hS
    · replace h := it_f h hc
      refine lv_iload_n hx hb dMd_load_11 rfl (lv_at hl 1 rfl) ?_
      refine lv_bipush (v := 64) hx hb dMd_load_12 (by decide) ?_
      refine lv_irem hx hb dMd_load_14 (by decide) ?_
      refine lv_if_eq (tgt := 22) hx hb dMd_load_15 rfl (fun hc => ?_) (fun hc => ?_)
      · replace h := it_t h hc
        refine lv_iconst (v := 0) hx hb dMd_load_22 (by decide) ?_
        exact wk_Md_load_23 ⟨hx, hb, hml, hown, hts, hr, hlocks, hK, hA, hD, hN, hal, hNx⟩ F out u x0 (0 : Int32) x0 x1 h q0 q0 _ _ _ (lv_sub hl [0, 1] rfl) hP hS
      · replace h := it_f h hc
        exact wk_Md_load_18 ⟨hx, hb, hml, hown, hts, hr, hlocks, hK, hA, hD, hN, hal, hNx⟩ F out u x0 x0 x1 h q0 q0 _ _ _ (lv_sub hl [0, 1] rfl) hP hS
def fn_Md_load (F : Nat) (al : Nat → Bool) (u : Mr) (x0 : Nat) (x1 : Int32) : Option (Mr × Int32) := bk_Md_load_0 F al u x0 x1
set_option maxHeartbeats 4000000 in
set_option maxRecDepth 100000 in
theorem ct_Md_load {l : Launch} {D : va_G} {cA : Nat → ClassId} {ad : Nat → Nat} {L : List Nat} {rs : va_W} {al : Nat → Bool} (hal : ∀ k, al k = true → k ∈ L) (hN : L.Nodup) (F : Nat) (u : Mr) (x0 : Nat) (x1 : Int32) (out : Mr × Int32) (h : fn_Md_load F al u x0 x1 = some out) (q0 : okk al 32 x0 = true) : CtI l yMd_load wsMd_load rm_Md_load [.ref (ad x0), .int x1] D cA ad L rs u out := by
  intro sz
  refine Met.ofW (cc := cMd_load) (maxL := 3) (ret := (some .int)) (by decide) rfl ?_
  intro p e s m args below meth c s₁ B hml hv
  obtain ⟨rfl, hsz, hP, hK, hD0, hNx⟩ := hv
  subst hsz
  have hD := hD0.self (sz := s.heap.size)
  generalize hAe : va_A (ww ad cA L rs u) s.heap.size = A at hD ⊢
  have hA : ∀ q, s.heap.size ≤ q → A q := fun q h => by rw [← hAe]; exact Or.inr h
  have hl := lv_entry ([.ref (ad x0), .int x1]) (n := 3) (Nat.le_of_ble_eq_true rfl)
  rw [lg_entry_eq]
  generalize (lg_sl ([.ref (ad x0), .int x1]) ++ List.replicate (3 - (lg_sl ([.ref (ad x0), .int x1])).length) Slot.unset).toArray = ls at hl ⊢
  exact wk_Md_load_0 ⟨B.exec, B.bytes, hml, findClass_of_methodNamed B.named, hts_bw (atoms_spec (ws := wsMd_load) B.pre), B.returns, B.notSynchronized, hK, hA, fun v => ww_D hD, hN, hal, hNx⟩ F out u x0 x1 h q0 _ _ _ (lv_sub hl [0, 1] rfl) hP va_S.rf
abbrev rm_Md_at : Room := { frames := 0, cells := 0, slots := 0, locals := 0 }
def bk_Md_at_37 (F : Nat) (al : Nat → Bool) (u : Mr) : Option (Mr × Int32) := some (u, (-1 : Int32))
set_option maxHeartbeats 4000000 in
set_option maxRecDepth 100000 in
theorem wk_Md_at_37 (cx : Cx p l e s m args below meth c cMd_at 4 bw "ImageForgeModel" (some .int) D cA ad L rs al A) (F : Nat) (out : Mr × Int32) : ∀ (u : Mr), bk_Md_at_37 F al u = some out → Wb p l e rm_Md_at s m args below meth c D cA ad L rs A (QI below args s D cA ad L rs A out) 4 37 [] [] u := by
  obtain ⟨hx, hb, hml, hown, hts, hr, hlocks, hK, hA, hD, hN, hal, hNx⟩ := cx
  intro u h H locs ls hl hP hS
  unfold bk_Md_at_37 at h
  refine lv_iconst (v := (-1)) hx hb dMd_at_37 (by decide) ?_
  refine lv_goto (tgt := 48) hx hb dMd_at_38 rfl ?_
  exact x_iret hx hb hr hlocks h hP hS dMd_at_48
def bk_Md_at_0 (F : Nat) (al : Nat → Bool) (u : Mr) (x0 : Nat) (x1 : Int32) : Option (Mr × Int32) := if ((stI u x0 0 (0 : Int32)).1 x0 24) = 0 then (bk_Md_at_37 F al (stI u x0 0 (0 : Int32))) else (if (lg_cmp (x1.toInt64 - (((stI u x0 0 (0 : Int32)).1 x0 25).toInt64)) (0 : Int64)) < 0 then (bk_Md_at_37 F al (stI u x0 0 (0 : Int32))) else (if (lg_cmp (x1.toInt64 - (((stI u x0 0 (0 : Int32)).1 x0 25).toInt64)) (((stI u x0 0 (0 : Int32)).1 x0 26).toInt64)) < 0 then (bd1 (rdR al (stI u x0 0 (0 : Int32)) x0 27 41) fun y1 => (ck (inb ((x1.toInt64 - (((stI u x0 0 (0 : Int32)).1 x0 25).toInt64)).toInt32) 2048) (some (stI u x0 0 (0 : Int32), (stI u x0 0 (0 : Int32)).1 y1 ((x1.toInt64 - (((stI u x0 0 (0 : Int32)).1 x0 25).toInt64)).toInt32))))) else (bk_Md_at_37 F al (stI u x0 0 (0 : Int32)))))
set_option maxHeartbeats 4000000 in
set_option maxRecDepth 100000 in
theorem wk_Md_at_0 (cx : Cx p l e s m args below meth c cMd_at 4 bw "ImageForgeModel" (some .int) D cA ad L rs al A) (F : Nat) (out : Mr × Int32) : ∀ (u : Mr) (x0 : Nat) (x1 : Int32), bk_Md_at_0 F al u x0 x1 = some out → okk al 32 x0 = true → Wb p l e rm_Md_at s m args below meth c D cA ad L rs A (QI below args s D cA ad L rs A out) 4 0 [(0, .ref (ad x0)), (1, .int x1)] [] u := by
  obtain ⟨hx, hb, hml, hown, hts, hr, hlocks, hK, hA, hD, hN, hal, hNx⟩ := cx
  intro u x0 x1 h q0 H locs ls hl hP hS
  unfold bk_Md_at_0 at h
  refine lv_aload_n hx hb dMd_at_0 rfl (lv_at hl 0 rfl) ?_
  refine lv_iconst (v := 0) hx hb dMd_at_1 (by decide) ?_
  refine x_put hx hb hts in_Md t_Md t_Md_ok nm_Md hown hK hD hN hP hS (hal _ (okk_al q0)) (okk_t q0) rfl rfl 0 (by decide) (hts _ tw_782) (fun _ h9 => h9) rfl (ty := .int) (by decide +kernel) rfl rfl (Nat.le_of_ble_eq_true rfl) (stI u x0 0 (0 : Int32)) stI_o (by rw [stI_up]; exact eg_32_0) dMd_at_2 (fun H locs hP hS => ?_)
  refine lv_iload_n hx hb dMd_at_5 rfl (lv_at hl 1 rfl) ?_
  refine lv_i2l (v := x1.toInt64) hx hb dMd_at_6 rfl ?_
  refine lv_aload_n hx hb dMd_at_7 rfl (lv_at hl 0 rfl) ?_
  refine x_get hx hb hts in_Md hown hK hP (hal _ (okk_al q0)) (okk_t q0) rfl rfl 25 (by decide) (hts _ tw_807) (fun _ h9 => h9) rfl dMd_at_8 ?_
  refine lv_i2l (v := ((stI u x0 0 (0 : Int32)).1 x0 25).toInt64) hx hb dMd_at_11 rfl ?_
  refine lv_lsub hx hb dMd_at_12 ?_
  refine lv_lstore_n (lv' := [(2, .long (x1.toInt64 - (((stI u x0 0 (0 : Int32)).1 x0 25).toInt64))), (0, .ref (ad x0)), (1, .int x1)]) hx hb dMd_at_13 rfl hl (by decide) rfl (fun ls hl => ?_)
  refine lv_aload_n hx hb dMd_at_14 rfl (lv_at hl 1 rfl) ?_
  refine x_get hx hb hts in_Md hown hK hP (hal _ (okk_al q0)) (okk_t q0) rfl rfl 24 (by decide) (hts _ tw_806) (fun _ h9 => h9) rfl dMd_at_15 ?_
  refine lv_if_eq (tgt := 37) hx hb dMd_at_18 rfl (fun hc => ?_) (fun hc => ?_)
  · replace h := it_t h hc
    exact wk_Md_at_37 ⟨hx, hb, hml, hown, hts, hr, hlocks, hK, hA, hD, hN, hal, hNx⟩ F out (stI u x0 0 (0 : Int32)) h _ _ _ (lv_sub hl [] rfl) hP hS
  · replace h := it_f h hc
    refine lv_lload_n hx hb dMd_at_21 rfl (lv_at hl 0 rfl) ?_
    refine lv_lconst (v := 0) hx hb dMd_at_22 rfl ?_
    refine W.lcmp hx hb dMd_at_23 ?_
    refine lv_if_lt (tgt := 37) hx hb dMd_at_24 rfl (fun hc => ?_) (fun hc => ?_)
    · replace h := it_t h hc
      exact wk_Md_at_37 ⟨hx, hb, hml, hown, hts, hr, hlocks, hK, hA, hD, hN, hal, hNx⟩ F out (stI u x0 0 (0 : Int32)) h _ _ _ (lv_sub hl [] rfl) hP hS
    · replace h := it_f h hc
      refine lv_lload_n hx hb dMd_at_27 rfl (lv_at hl 0 rfl) ?_
      refine lv_aload_n hx hb dMd_at_28 rfl (lv_at hl 1 rfl) ?_
      refine x_get hx hb hts in_Md hown hK hP (hal _ (okk_al q0)) (okk_t q0) rfl rfl 26 (by decide) (hts _ tw_808) (fun _ h9 => h9) rfl dMd_at_29 ?_
      refine lv_i2l (v := ((stI u x0 0 (0 : Int32)).1 x0 26).toInt64) hx hb dMd_at_32 rfl ?_
      refine W.lcmp hx hb dMd_at_33 ?_
      refine lv_if_lt (tgt := 41) hx hb dMd_at_34 rfl (fun hc => ?_) (fun hc => ?_)
      · replace h := it_t h hc
        refine lv_aload_n hx hb dMd_at_41 rfl (lv_at hl 1 rfl) ?_
        obtain ⟨y1, hy2, h⟩ := bd1_some h
        obtain ⟨hy2a, hy2⟩ := rdR_some hy2
        refine x_get hx hb hts in_Md hown hK hP (hal _ (okk_al q0)) (okk_t q0) rfl rfl 27 (by decide) (hts _ tw_809) (fun _ h9 => h9) (congrArg some (x_rf hy2a)) dMd_at_42 ?_
        refine lv_lload_n hx hb dMd_at_45 rfl (lv_at hl 0 rfl) ?_
        refine lv_l2i (v := (x1.toInt64 - (((stI u x0 0 (0 : Int32)).1 x0 25).toInt64)).toInt32) hx hb dMd_at_46 rfl ?_
        obtain ⟨hi3, h⟩ := ck_some h
        refine x_iald hx hb hK hP (hal _ (okk_al hy2)) (okk_t hy2) 0 (fun _ _ _ => rfl) rfl (inb_in hi3) dMd_at_47 ?_
        exact x_iret hx hb hr hlocks h hP hS dMd_at_48
      · replace h := it_f h hc
        exact wk_Md_at_37 ⟨hx, hb, hml, hown, hts, hr, hlocks, hK, hA, hD, hN, hal, hNx⟩ F out (stI u x0 0 (0 : Int32)) h _ _ _ (lv_sub hl [] rfl) hP hS
def fn_Md_at (F : Nat) (al : Nat → Bool) (u : Mr) (x0 : Nat) (x1 : Int32) : Option (Mr × Int32) := bk_Md_at_0 F al u x0 x1
set_option maxHeartbeats 4000000 in
set_option maxRecDepth 100000 in
theorem ct_Md_at {l : Launch} {D : va_G} {cA : Nat → ClassId} {ad : Nat → Nat} {L : List Nat} {rs : va_W} {al : Nat → Bool} (hal : ∀ k, al k = true → k ∈ L) (hN : L.Nodup) (F : Nat) (u : Mr) (x0 : Nat) (x1 : Int32) (out : Mr × Int32) (h : fn_Md_at F al u x0 x1 = some out) (q0 : okk al 32 x0 = true) : CtI l yMd_at wsMd_at rm_Md_at [.ref (ad x0), .int x1] D cA ad L rs u out := by
  intro sz
  refine Met.ofW (cc := cMd_at) (maxL := 4) (ret := (some .int)) (by decide) rfl ?_
  intro p e s m args below meth c s₁ B hml hv
  obtain ⟨rfl, hsz, hP, hK, hD0, hNx⟩ := hv
  subst hsz
  have hD := hD0.self (sz := s.heap.size)
  generalize hAe : va_A (ww ad cA L rs u) s.heap.size = A at hD ⊢
  have hA : ∀ q, s.heap.size ≤ q → A q := fun q h => by rw [← hAe]; exact Or.inr h
  have hl := lv_entry ([.ref (ad x0), .int x1]) (n := 4) (Nat.le_of_ble_eq_true rfl)
  rw [lg_entry_eq]
  generalize (lg_sl ([.ref (ad x0), .int x1]) ++ List.replicate (4 - (lg_sl ([.ref (ad x0), .int x1])).length) Slot.unset).toArray = ls at hl ⊢
  exact wk_Md_at_0 ⟨B.exec, B.bytes, hml, findClass_of_methodNamed B.named, hts_bw (atoms_spec (ws := wsMd_at) B.pre), B.returns, B.notSynchronized, hK, hA, fun v => ww_D hD, hN, hal, hNx⟩ F out u x0 x1 h q0 _ _ _ (lv_sub hl [0, 1] rfl) hP va_S.rf
abbrev rm_Md_find : Room := { frames := 1, cells := 0, slots := 0, locals := 21 }
def bk_Md_find_36 (F : Nat) (al : Nat → Bool) : Nat → Mr → Nat → Int32 → Int32 → Int32 → Option (Mr × Int32)
  | 0, _, _, _, _, _ => none
  | n + 1, u, x0, x1, x2, x3 => if x2 ≤ x3 then (some (u, (0 : Int32))) else (if (u.1 x0 29) < ((12 : Int32) + ((8 : Int32) * x3)) then (some (u, (0 : Int32))) else (bd1 (rdR al u x0 27 41) fun y1 => (bd2 (fn_Md_wordIn F al u y1 (((u.1 x0 28) + (4 : Int32)) + ((8 : Int32) * x3))) fun u3 v3 => (if v3 = x1 then (bd1 (rdR al u3 x0 27 41) fun y4 => (bd2 (fn_Md_wordIn F al u3 y4 ((((u.1 x0 28) + (4 : Int32)) + ((8 : Int32) * x3)) + (4 : Int32))) fun u6 v6 => (some (u6, (u3.1 x0 25) + v6)))) else (bk_Md_find_36 F al n u3 x0 x1 x2 (x3 + (1 : Int32)))))))
set_option maxHeartbeats 4000000 in
set_option maxRecDepth 100000 in
theorem wk_Md_find_36 (cx : Cx p l e s m args below meth c cMd_find 5 bw "ImageForgeModel" (some .int) D cA ad L rs al A) (F : Nat) (out : Mr × Int32) : ∀ n : Nat, ∀ (u : Mr) (x0 : Nat) (x1 : Int32) (x2 : Int32) (x3 : Int32), bk_Md_find_36 F al n u x0 x1 x2 x3 = some out → okk al 32 x0 = true → Wb p l e rm_Md_find s m args below meth c D cA ad L rs A (QI below args s D cA ad L rs A out) 5 36 [(0, .ref (ad x0)), (1, .int x1), (2, .int x2), (3, .int x3)] [] u := by
  obtain ⟨hx, hb, hml, hown, hts, hr, hlocks, hK, hA, hD, hN, hal, hNx⟩ := cx
  intro n
  induction n with
  | zero =>
    intro u x0 x1 x2 x3 h
    cases h
  | succ n ih =>
    intro u x0 x1 x2 x3 h q0 H locs ls hl hP hS
    rw [bk_Md_find_36] at h
    refine lv_iload_n hx hb dMd_find_36 rfl (lv_at hl 3 rfl) ?_
    refine lv_iload_n hx hb dMd_find_37 rfl (lv_at hl 2 rfl) ?_
    refine lv_icmp_ge (tgt := 104) hx hb dMd_find_38 rfl (fun hc => ?_) (fun hc => ?_)
    · replace h := it_t h hc
      refine lv_iconst (v := 0) hx hb dMd_find_104 (by decide) ?_
      exact x_iret hx hb hr hlocks h hP hS dMd_find_105
    · replace h := it_f h hc
      refine lv_bipush (v := 12) hx hb dMd_find_41 (by decide) ?_
      refine lv_bipush (v := 8) hx hb dMd_find_43 (by decide) ?_
      refine lv_iload_n hx hb dMd_find_45 rfl (lv_at hl 3 rfl) ?_
      refine lv_imul hx hb dMd_find_46 ?_
      refine lv_iadd hx hb dMd_find_47 ?_
      refine lv_aload_n hx hb dMd_find_48 rfl (lv_at hl 0 rfl) ?_
      refine x_get hx hb hts in_Md hown hK hP (hal _ (okk_al q0)) (okk_t q0) rfl rfl 29 (by decide) (hts _ tw_811) (fun _ h9 => h9) rfl dMd_find_49 ?_
      refine lv_icmp_gt (tgt := 104) hx hb dMd_find_52 rfl (fun hc => ?_) (fun hc => ?_)
      · replace h := it_t h hc
        refine lv_iconst (v := 0) hx hb dMd_find_104 (by decide) ?_
        exact x_iret hx hb hr hlocks h hP hS dMd_find_105
      · replace h := it_f h hc
        refine lv_aload_n hx hb dMd_find_55 rfl (lv_at hl 0 rfl) ?_
        refine x_get hx hb hts in_Md hown hK hP (hal _ (okk_al q0)) (okk_t q0) rfl rfl 28 (by decide) (hts _ tw_810) (fun _ h9 => h9) rfl dMd_find_56 ?_
        refine lv_iconst (v := 4) hx hb dMd_find_59 (by decide) ?_
        refine lv_iadd hx hb dMd_find_60 ?_
        refine lv_bipush (v := 8) hx hb dMd_find_61 (by decide) ?_
        refine lv_iload_n hx hb dMd_find_63 rfl (lv_at hl 3 rfl) ?_
        refine lv_imul hx hb dMd_find_64 ?_
        refine lv_iadd hx hb dMd_find_65 ?_
        refine lv_istore (lv' := [(4, .int (((u.1 x0 28) + (4 : Int32)) + ((8 : Int32) * x3))), (0, .ref (ad x0)), (1, .int x1), (2, .int x2), (3, .int x3)]) hx hb dMd_find_66 hl (by decide) rfl (fun ls hl => ?_)
        refine lv_aload_n hx hb dMd_find_68 rfl (lv_at hl 1 rfl) ?_
        obtain ⟨y1, hy2, h⟩ := bd1_some h
        obtain ⟨hy2a, hy2⟩ := rdR_some hy2
        refine x_get hx hb hts in_Md hown hK hP (hal _ (okk_al q0)) (okk_t q0) rfl rfl 27 (by decide) (hts _ tw_809) (fun _ h9 => h9) (congrArg some (x_rf hy2a)) dMd_find_69 ?_
        refine lv_iload hx hb dMd_find_72 (lv_at hl 0 rfl) ?_
        obtain ⟨u3, v3, hc3, h⟩ := bd2_some h
        refine x_ci (u := u) (out := (u3, v3)) hA hD hS (va_runS (As := [.ref (ad y1), .int (((u.1 x0 28) + (4 : Int32)) + ((8 : Int32) * x3))]) (rest := []) ⟨hx, hb, hml, hown, hts⟩ (ct_Md_wordIn hal hN F u y1 (((u.1 x0 28) + (4 : Int32)) + ((8 : Int32) * x3)) (u3, v3) hc3 hy2 _) ⟨callB_of 2 hts gdMd_wordIn rfl rfl rfl (hts _ tw_11) (hts _ tw_983) hdMd_wordIn ⟨Nat.le_of_ble_eq_true rfl, Nat.le_of_ble_eq_true rfl⟩, (hts _ tw_984)⟩ (x_preS hK hD hNx hP) rfl rfl hl.1 rfl (lv_room (Nat.le_of_ble_eq_true rfl)) dMd_find_74 ⟨Nat.zero_le _, Nat.zero_le _⟩) (fun H locs hP hS => ?_)
        refine lv_iload_n hx hb dMd_find_77 rfl (lv_at hl 2 rfl) ?_
        refine lv_icmp_ne (tgt := 98) hx hb dMd_find_78 rfl (fun hc => ?_) (fun hc => ?_)
        · replace h := it_f h hc
          refine lv_iinc (k := 4) (v := x3 + (1 : Int32)) (lv' := [(3, .int (x3 + (1 : Int32))), (4, .int (((u.1 x0 28) + (4 : Int32)) + ((8 : Int32) * x3))), (0, .ref (ad x0)), (1, .int x1), (2, .int x2)]) hx hb dMd_find_98 hl rfl (congrArg (fun z => _ + z) (show Int32.ofInt 1 = 1 by decide)) (by decide) rfl (fun ls hl => ?_)
          refine lv_goto (tgt := 36) hx hb dMd_find_101 rfl ?_
          exact ih u3 x0 x1 x2 (x3 + (1 : Int32)) h q0 _ _ _ (lv_sub hl [2, 3, 4, 0] rfl) hP hS
        · replace h := it_t h hc
          refine lv_aload_n hx hb dMd_find_81 rfl (lv_at hl 1 rfl) ?_
          refine x_get hx hb hts in_Md hown hK hP (hal _ (okk_al q0)) (okk_t q0) rfl rfl 25 (by decide) (hts _ tw_807) (fun _ h9 => h9) rfl dMd_find_82 ?_
          refine lv_aload_n hx hb dMd_find_85 rfl (lv_at hl 1 rfl) ?_
          obtain ⟨y4, hy5, h⟩ := bd1_some h
          obtain ⟨hy5a, hy5⟩ := rdR_some hy5
          refine x_get hx hb hts in_Md hown hK hP (hal _ (okk_al q0)) (okk_t q0) rfl rfl 27 (by decide) (hts _ tw_809) (fun _ h9 => h9) (congrArg some (x_rf hy5a)) dMd_find_86 ?_
          refine lv_iload hx hb dMd_find_89 (lv_at hl 0 rfl) ?_
          refine lv_iconst (v := 4) hx hb dMd_find_91 (by decide) ?_
          refine lv_iadd hx hb dMd_find_92 ?_
          obtain ⟨u6, v6, hc6, h⟩ := bd2_some h
          refine x_ci (u := u3) (out := (u6, v6)) hA hD hS (va_runS (As := [.ref (ad y4), .int ((((u.1 x0 28) + (4 : Int32)) + ((8 : Int32) * x3)) + (4 : Int32))]) (rest := [.int (u3.1 x0 25)]) ⟨hx, hb, hml, hown, hts⟩ (ct_Md_wordIn hal hN F u3 y4 ((((u.1 x0 28) + (4 : Int32)) + ((8 : Int32) * x3)) + (4 : Int32)) (u6, v6) hc6 hy5 _) ⟨callB_of 2 hts gdMd_wordIn rfl rfl rfl (hts _ tw_11) (hts _ tw_983) hdMd_wordIn ⟨Nat.le_of_ble_eq_true rfl, Nat.le_of_ble_eq_true rfl⟩, (hts _ tw_984)⟩ (x_preS hK hD hNx hP) rfl rfl hl.1 rfl (lv_room (Nat.le_of_ble_eq_true rfl)) dMd_find_93 ⟨Nat.zero_le _, Nat.zero_le _⟩) (fun H locs hP hS => ?_)
          refine lv_iadd hx hb dMd_find_96 ?_
          exact x_iret hx hb hr hlocks h hP hS dMd_find_97
def bk_Md_find_0 (F : Nat) (al : Nat → Bool) (u : Mr) (x0 : Nat) (x1 : Int32) : Option (Mr × Int32) := if ((stI u x0 0 (0 : Int32)).1 x0 24) = 0 then (some (stI u x0 0 (0 : Int32), (0 : Int32))) else (if (4 : Int32) ≤ ((stI u x0 0 (0 : Int32)).1 x0 29) then (bd1 (rdR al (stI u x0 0 (0 : Int32)) x0 27 41) fun y1 => (bd2 (fn_Md_wordIn F al (stI u x0 0 (0 : Int32)) y1 ((stI u x0 0 (0 : Int32)).1 x0 28)) fun u3 v3 => (bk_Md_find_36 F al F u3 x0 x1 v3 (0 : Int32)))) else (some (stI u x0 0 (0 : Int32), (0 : Int32))))
set_option maxHeartbeats 4000000 in
set_option maxRecDepth 100000 in
theorem wk_Md_find_0 (cx : Cx p l e s m args below meth c cMd_find 5 bw "ImageForgeModel" (some .int) D cA ad L rs al A) (F : Nat) (out : Mr × Int32) : ∀ (u : Mr) (x0 : Nat) (x1 : Int32), bk_Md_find_0 F al u x0 x1 = some out → okk al 32 x0 = true → Wb p l e rm_Md_find s m args below meth c D cA ad L rs A (QI below args s D cA ad L rs A out) 5 0 [(0, .ref (ad x0)), (1, .int x1)] [] u := by
  obtain ⟨hx, hb, hml, hown, hts, hr, hlocks, hK, hA, hD, hN, hal, hNx⟩ := cx
  intro u x0 x1 h q0 H locs ls hl hP hS
  unfold bk_Md_find_0 at h
  refine lv_aload_n hx hb dMd_find_0 rfl (lv_at hl 0 rfl) ?_
  refine lv_iconst (v := 0) hx hb dMd_find_1 (by decide) ?_
  refine x_put hx hb hts in_Md t_Md t_Md_ok nm_Md hown hK hD hN hP hS (hal _ (okk_al q0)) (okk_t q0) rfl rfl 0 (by decide) (hts _ tw_782) (fun _ h9 => h9) rfl (ty := .int) (by decide +kernel) rfl rfl (Nat.le_of_ble_eq_true rfl) (stI u x0 0 (0 : Int32)) stI_o (by rw [stI_up]; exact eg_32_0) dMd_find_2 (fun H locs hP hS => ?_)
  refine lv_aload_n hx hb dMd_find_5 rfl (lv_at hl 0 rfl) ?_
  refine x_get hx hb hts in_Md hown hK hP (hal _ (okk_al q0)) (okk_t q0) rfl rfl 24 (by decide) (hts _ tw_806) (fun _ h9 => h9) rfl dMd_find_6 ?_
  refine lv_if_eq (tgt := 20) hx hb dMd_find_9 rfl (fun hc => ?_) (fun hc => ?_)
  · replace h := it_t h hc
    refine lv_iconst (v := 0) hx hb dMd_find_20 (by decide) ?_
    exact x_iret hx hb hr hlocks h hP hS dMd_find_21
  · replace h := it_f h hc
    refine lv_aload_n hx hb dMd_find_12 rfl (lv_at hl 0 rfl) ?_
    refine x_get hx hb hts in_Md hown hK hP (hal _ (okk_al q0)) (okk_t q0) rfl rfl 29 (by decide) (hts _ tw_811) (fun _ h9 => h9) rfl dMd_find_13 ?_
    refine lv_iconst (v := 4) hx hb dMd_find_16 (by decide) ?_
    refine lv_icmp_ge (tgt := 22) hx hb dMd_find_17 rfl (fun hc => ?_) (fun hc => ?_)
    · replace h := it_t h hc
      refine lv_aload_n hx hb dMd_find_22 rfl (lv_at hl 0 rfl) ?_
      obtain ⟨y1, hy2, h⟩ := bd1_some h
      obtain ⟨hy2a, hy2⟩ := rdR_some hy2
      refine x_get hx hb hts in_Md hown hK hP (hal _ (okk_al q0)) (okk_t q0) rfl rfl 27 (by decide) (hts _ tw_809) (fun _ h9 => h9) (congrArg some (x_rf hy2a)) dMd_find_23 ?_
      refine lv_aload_n hx hb dMd_find_26 rfl (lv_at hl 0 rfl) ?_
      refine x_get hx hb hts in_Md hown hK hP (hal _ (okk_al q0)) (okk_t q0) rfl rfl 28 (by decide) (hts _ tw_810) (fun _ h9 => h9) rfl dMd_find_27 ?_
      obtain ⟨u3, v3, hc3, h⟩ := bd2_some h
      refine x_ci (u := stI u x0 0 (0 : Int32)) (out := (u3, v3)) hA hD hS (va_runS (As := [.ref (ad y1), .int ((stI u x0 0 (0 : Int32)).1 x0 28)]) (rest := []) ⟨hx, hb, hml, hown, hts⟩ (ct_Md_wordIn hal hN F (stI u x0 0 (0 : Int32)) y1 ((stI u x0 0 (0 : Int32)).1 x0 28) (u3, v3) hc3 hy2 _) ⟨callB_of 2 hts gdMd_wordIn rfl rfl rfl (hts _ tw_11) (hts _ tw_983) hdMd_wordIn ⟨Nat.le_of_ble_eq_true rfl, Nat.le_of_ble_eq_true rfl⟩, (hts _ tw_984)⟩ (x_preS hK hD hNx hP) rfl rfl hl.1 rfl (lv_room (Nat.le_of_ble_eq_true rfl)) dMd_find_30 ⟨Nat.zero_le _, Nat.zero_le _⟩) (fun H locs hP hS => ?_)
      refine lv_istore_n (lv' := [(2, .int v3), (0, .ref (ad x0)), (1, .int x1)]) hx hb dMd_find_33 rfl hl (by decide) rfl (fun ls hl => ?_)
      refine lv_iconst (v := 0) hx hb dMd_find_34 (by decide) ?_
      refine lv_istore_n (lv' := [(3, .int (0 : Int32)), (2, .int v3), (0, .ref (ad x0)), (1, .int x1)]) hx hb dMd_find_35 rfl hl (by decide) rfl (fun ls hl => ?_)
      exact wk_Md_find_36 ⟨hx, hb, hml, hown, hts, hr, hlocks, hK, hA, hD, hN, hal, hNx⟩ F out F u3 x0 x1 v3 (0 : Int32) h q0 _ _ _ (lv_sub hl [2, 3, 1, 0] rfl) hP hS
    · replace h := it_f h hc
      refine lv_iconst (v := 0) hx hb dMd_find_20 (by decide) ?_
      exact x_iret hx hb hr hlocks h hP hS dMd_find_21
def fn_Md_find (F : Nat) (al : Nat → Bool) (u : Mr) (x0 : Nat) (x1 : Int32) : Option (Mr × Int32) := bk_Md_find_0 F al u x0 x1
set_option maxHeartbeats 4000000 in
set_option maxRecDepth 100000 in
theorem ct_Md_find {l : Launch} {D : va_G} {cA : Nat → ClassId} {ad : Nat → Nat} {L : List Nat} {rs : va_W} {al : Nat → Bool} (hal : ∀ k, al k = true → k ∈ L) (hN : L.Nodup) (F : Nat) (u : Mr) (x0 : Nat) (x1 : Int32) (out : Mr × Int32) (h : fn_Md_find F al u x0 x1 = some out) (q0 : okk al 32 x0 = true) : CtI l yMd_find wsMd_find rm_Md_find [.ref (ad x0), .int x1] D cA ad L rs u out := by
  intro sz
  refine Met.ofW (cc := cMd_find) (maxL := 5) (ret := (some .int)) (by decide) rfl ?_
  intro p e s m args below meth c s₁ B hml hv
  obtain ⟨rfl, hsz, hP, hK, hD0, hNx⟩ := hv
  subst hsz
  have hD := hD0.self (sz := s.heap.size)
  generalize hAe : va_A (ww ad cA L rs u) s.heap.size = A at hD ⊢
  have hA : ∀ q, s.heap.size ≤ q → A q := fun q h => by rw [← hAe]; exact Or.inr h
  have hl := lv_entry ([.ref (ad x0), .int x1]) (n := 5) (Nat.le_of_ble_eq_true rfl)
  rw [lg_entry_eq]
  generalize (lg_sl ([.ref (ad x0), .int x1]) ++ List.replicate (5 - (lg_sl ([.ref (ad x0), .int x1])).length) Slot.unset).toArray = ls at hl ⊢
  exact wk_Md_find_0 ⟨B.exec, B.bytes, hml, findClass_of_methodNamed B.named, hts_bw (atoms_spec (ws := wsMd_find) B.pre), B.returns, B.notSynchronized, hK, hA, fun v => ww_D hD, hN, hal, hNx⟩ F out u x0 x1 h q0 _ _ _ (lv_sub hl [0, 1] rfl) hP va_S.rf
end

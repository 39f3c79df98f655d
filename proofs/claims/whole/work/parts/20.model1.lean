abbrev yMd_thrown : MethodName := ⟨"ImageForgeModel", "thrown", "()I"⟩
abbrev cMd_thrown : ByteArray := prog_10_method_2_code
abbrev wsMd_thrown : List Cond := .code yMd_thrown cMd_thrown 1 (some .int) :: bw
theorem gdMd_thrown : GoodIn bw wsMd_thrown := gd_of tw_882
theorem hdMd_thrown : yMd_thrown.cls ≠ "java/lang/invoke/MethodHandle" ∧ yMd_thrown.cls ≠ "java/lang/invoke/VarHandle" ∧ (parseMethodDescriptor yMd_thrown.desc).map (fun d => d.parameters.length) = some 0 := by decide +kernel
theorem dMd_thrown_0 : decode cMd_thrown 0 = .ok (.aload_n 0, 1) := by decide +kernel
theorem dMd_thrown_1 : decode cMd_thrown 1 = .ok (.getfield 80, 3) := by decide +kernel
theorem dMd_thrown_4 : decode cMd_thrown 4 = .ok (.ireturn, 1) := by decide +kernel
abbrev yMd_fails : MethodName := ⟨"ImageForgeModel", "fails", "(ZI)Z"⟩
abbrev cMd_fails : ByteArray := prog_10_method_3_code
abbrev wsMd_fails : List Cond := .code yMd_fails cMd_fails 3 (some .boolean) :: bw
theorem gdMd_fails : GoodIn bw wsMd_fails := gd_of tw_893
theorem hdMd_fails : yMd_fails.cls ≠ "java/lang/invoke/MethodHandle" ∧ yMd_fails.cls ≠ "java/lang/invoke/VarHandle" ∧ (parseMethodDescriptor yMd_fails.desc).map (fun d => d.parameters.length) = some 2 := by decide +kernel
theorem dMd_fails_0 : decode cMd_fails 0 = .ok (.aload_n 0, 1) := by decide +kernel
theorem dMd_fails_1 : decode cMd_fails 1 = .ok (.iload_n 1, 1) := by decide +kernel
theorem dMd_fails_2 : decode cMd_fails 2 = .ok (.ifCond .eq 7, 3) := by decide +kernel
theorem dMd_fails_5 : decode cMd_fails 5 = .ok (.iload_n 2, 1) := by decide +kernel
theorem dMd_fails_6 : decode cMd_fails 6 = .ok (.goto 4, 3) := by decide +kernel
theorem dMd_fails_9 : decode cMd_fails 9 = .ok (.iconst 0, 1) := by decide +kernel
theorem dMd_fails_10 : decode cMd_fails 10 = .ok (.putfield 80, 3) := by decide +kernel
theorem dMd_fails_13 : decode cMd_fails 13 = .ok (.iload_n 1, 1) := by decide +kernel
theorem dMd_fails_14 : decode cMd_fails 14 = .ok (.ireturn, 1) := by decide +kernel
abbrev yMd_out : MethodName := ⟨"ImageForgeModel", "out", "(II)Z"⟩
abbrev cMd_out : ByteArray := prog_10_method_4_code
abbrev wsMd_out : List Cond := .code yMd_out cMd_out 2 (some .boolean) :: bw
theorem gdMd_out : GoodIn bw wsMd_out := gd_of tw_889
theorem hdMd_out : yMd_out.cls ≠ "java/lang/invoke/MethodHandle" ∧ yMd_out.cls ≠ "java/lang/invoke/VarHandle" ∧ (parseMethodDescriptor yMd_out.desc).map (fun d => d.parameters.length) = some 2 := by decide +kernel
theorem dMd_out_0 : decode cMd_out 0 = .ok (.iload_n 0, 1) := by decide +kernel
theorem dMd_out_1 : decode cMd_out 1 = .ok (.ifCond .lt 8, 3) := by decide +kernel
theorem dMd_out_4 : decode cMd_out 4 = .ok (.iload_n 0, 1) := by decide +kernel
theorem dMd_out_5 : decode cMd_out 5 = .ok (.iload_n 1, 1) := by decide +kernel
theorem dMd_out_6 : decode cMd_out 6 = .ok (.if_icmp .lt 7, 3) := by decide +kernel
theorem dMd_out_9 : decode cMd_out 9 = .ok (.iconst 1, 1) := by decide +kernel
theorem dMd_out_10 : decode cMd_out 10 = .ok (.goto 4, 3) := by decide +kernel
theorem dMd_out_13 : decode cMd_out 13 = .ok (.iconst 0, 1) := by decide +kernel
theorem dMd_out_14 : decode cMd_out 14 = .ok (.ireturn, 1) := by decide +kernel
abbrev yMd_put : MethodName := ⟨"ImageForgeModel", "put", "(IIJI)I"⟩
abbrev cMd_put : ByteArray := prog_10_method_5_code
abbrev wsMd_put : List Cond := .code yMd_put cMd_put 8 (some .int) :: bw
theorem gdMd_put : GoodIn bw wsMd_put := gd_of tw_886
theorem hdMd_put : yMd_put.cls ≠ "java/lang/invoke/MethodHandle" ∧ yMd_put.cls ≠ "java/lang/invoke/VarHandle" ∧ (parseMethodDescriptor yMd_put.desc).map (fun d => d.parameters.length) = some 4 := by decide +kernel
theorem dMd_put_0 : decode cMd_put 0 = .ok (.aload_n 0, 1) := by decide +kernel
theorem dMd_put_1 : decode cMd_put 1 = .ok (.iload_n 1, 1) := by decide +kernel
theorem dMd_put_2 : decode cMd_put 2 = .ok (.iconst 4, 1) := by decide +kernel
theorem dMd_put_3 : decode cMd_put 3 = .ok (.invokestatic 84, 3) := by decide +kernel
theorem dMd_put_6 : decode cMd_put 6 = .ok (.ifCond .ne 24, 3) := by decide +kernel
theorem dMd_put_9 : decode cMd_put 9 = .ok (.iload_n 2, 1) := by decide +kernel
theorem dMd_put_10 : decode cMd_put 10 = .ok (.iconst 2, 1) := by decide +kernel
theorem dMd_put_11 : decode cMd_put 11 = .ok (.invokestatic 84, 3) := by decide +kernel
theorem dMd_put_14 : decode cMd_put 14 = .ok (.ifCond .ne 16, 3) := by decide +kernel
theorem dMd_put_17 : decode cMd_put 17 = .ok (.iload 5, 2) := by decide +kernel
theorem dMd_put_19 : decode cMd_put 19 = .ok (.iconst 1, 1) := by decide +kernel
theorem dMd_put_20 : decode cMd_put 20 = .ok (.if_icmp .lt 10, 3) := by decide +kernel
theorem dMd_put_23 : decode cMd_put 23 = .ok (.iload 5, 2) := by decide +kernel
theorem dMd_put_25 : decode cMd_put 25 = .ok (.bipush 8, 2) := by decide +kernel
theorem dMd_put_27 : decode cMd_put 27 = .ok (.if_icmp .le 7, 3) := by decide +kernel
theorem dMd_put_30 : decode cMd_put 30 = .ok (.iconst 1, 1) := by decide +kernel
theorem dMd_put_31 : decode cMd_put 31 = .ok (.goto 4, 3) := by decide +kernel
theorem dMd_put_34 : decode cMd_put 34 = .ok (.iconst 0, 1) := by decide +kernel
theorem dMd_put_35 : decode cMd_put 35 = .ok (.iconst 1, 1) := by decide +kernel
theorem dMd_put_36 : decode cMd_put 36 = .ok (.invokevirtual 88, 3) := by decide +kernel
theorem dMd_put_39 : decode cMd_put 39 = .ok (.ifCond .eq 5, 3) := by decide +kernel
theorem dMd_put_42 : decode cMd_put 42 = .ok (.iconst 0, 1) := by decide +kernel
theorem dMd_put_43 : decode cMd_put 43 = .ok (.ireturn, 1) := by decide +kernel
theorem dMd_put_44 : decode cMd_put 44 = .ok (.iconst 2, 1) := by decide +kernel
theorem dMd_put_45 : decode cMd_put 45 = .ok (.iload_n 1, 1) := by decide +kernel
theorem dMd_put_46 : decode cMd_put 46 = .ok (.imul, 1) := by decide +kernel
theorem dMd_put_47 : decode cMd_put 47 = .ok (.iload_n 2, 1) := by decide +kernel
theorem dMd_put_48 : decode cMd_put 48 = .ok (.iadd, 1) := by decide +kernel
theorem dMd_put_49 : decode cMd_put 49 = .ok (.istore 6, 2) := by decide +kernel
theorem dMd_put_51 : decode cMd_put 51 = .ok (.aload_n 0, 1) := by decide +kernel
theorem dMd_put_52 : decode cMd_put 52 = .ok (.aload_n 0, 1) := by decide +kernel
theorem dMd_put_53 : decode cMd_put 53 = .ok (.getfield 7, 3) := by decide +kernel
theorem dMd_put_56 : decode cMd_put 56 = .ok (.iload 6, 2) := by decide +kernel
theorem dMd_put_58 : decode cMd_put 58 = .ok (.iaload, 1) := by decide +kernel
theorem dMd_put_59 : decode cMd_put 59 = .ok (.iload 5, 2) := by decide +kernel
theorem dMd_put_61 : decode cMd_put 61 = .ok (.iadd, 1) := by decide +kernel
theorem dMd_put_62 : decode cMd_put 62 = .ok (.bipush 40, 2) := by decide +kernel
theorem dMd_put_64 : decode cMd_put 64 = .ok (.if_icmp .le 7, 3) := by decide +kernel
theorem dMd_put_67 : decode cMd_put 67 = .ok (.iconst 1, 1) := by decide +kernel
theorem dMd_put_68 : decode cMd_put 68 = .ok (.goto 4, 3) := by decide +kernel
theorem dMd_put_71 : decode cMd_put 71 = .ok (.iconst 0, 1) := by decide +kernel
theorem dMd_put_72 : decode cMd_put 72 = .ok (.iconst 2, 1) := by decide +kernel
theorem dMd_put_73 : decode cMd_put 73 = .ok (.invokevirtual 88, 3) := by decide +kernel
theorem dMd_put_76 : decode cMd_put 76 = .ok (.ifCond .eq 5, 3) := by decide +kernel
theorem dMd_put_79 : decode cMd_put 79 = .ok (.iconst 0, 1) := by decide +kernel
theorem dMd_put_80 : decode cMd_put 80 = .ok (.ireturn, 1) := by decide +kernel
theorem dMd_put_81 : decode cMd_put 81 = .ok (.iconst 0, 1) := by decide +kernel
theorem dMd_put_82 : decode cMd_put 82 = .ok (.istore 7, 2) := by decide +kernel
theorem dMd_put_84 : decode cMd_put 84 = .ok (.iload 7, 2) := by decide +kernel
theorem dMd_put_86 : decode cMd_put 86 = .ok (.iload 5, 2) := by decide +kernel
theorem dMd_put_88 : decode cMd_put 88 = .ok (.if_icmp .ge 42, 3) := by decide +kernel
theorem dMd_put_91 : decode cMd_put 91 = .ok (.aload_n 0, 1) := by decide +kernel
theorem dMd_put_92 : decode cMd_put 92 = .ok (.getfield 13, 3) := by decide +kernel
theorem dMd_put_95 : decode cMd_put 95 = .ok (.bipush 40, 2) := by decide +kernel
theorem dMd_put_97 : decode cMd_put 97 = .ok (.iload 6, 2) := by decide +kernel
theorem dMd_put_99 : decode cMd_put 99 = .ok (.imul, 1) := by decide +kernel
theorem dMd_put_100 : decode cMd_put 100 = .ok (.aload_n 0, 1) := by decide +kernel
theorem dMd_put_101 : decode cMd_put 101 = .ok (.getfield 7, 3) := by decide +kernel
theorem dMd_put_104 : decode cMd_put 104 = .ok (.iload 6, 2) := by decide +kernel
theorem dMd_put_106 : decode cMd_put 106 = .ok (.iaload, 1) := by decide +kernel
theorem dMd_put_107 : decode cMd_put 107 = .ok (.iadd, 1) := by decide +kernel
theorem dMd_put_108 : decode cMd_put 108 = .ok (.iload 7, 2) := by decide +kernel
theorem dMd_put_110 : decode cMd_put 110 = .ok (.iadd, 1) := by decide +kernel
theorem dMd_put_111 : decode cMd_put 111 = .ok (.lload_n 3, 1) := by decide +kernel
theorem dMd_put_112 : decode cMd_put 112 = .ok (.bipush 8, 2) := by decide +kernel
theorem dMd_put_114 : decode cMd_put 114 = .ok (.iload 7, 2) := by decide +kernel
theorem dMd_put_116 : decode cMd_put 116 = .ok (.imul, 1) := by decide +kernel
theorem dMd_put_117 : decode cMd_put 117 = .ok (.lshr, 1) := by decide +kernel
theorem dMd_put_118 : decode cMd_put 118 = .ok (.ldc2_w 92, 3) := by decide +kernel
theorem dMd_put_121 : decode cMd_put 121 = .ok (.land, 1) := by decide +kernel
theorem dMd_put_122 : decode cMd_put 122 = .ok (.l2i, 1) := by decide +kernel
theorem dMd_put_123 : decode cMd_put 123 = .ok (.iastore, 1) := by decide +kernel
theorem dMd_put_124 : decode cMd_put 124 = .ok (.iinc 7 1, 3) := by decide +kernel
theorem dMd_put_127 : decode cMd_put 127 = .ok (.goto (-43), 3) := by decide +kernel
theorem dMd_put_130 : decode cMd_put 130 = .ok (.aload_n 0, 1) := by decide +kernel
theorem dMd_put_131 : decode cMd_put 131 = .ok (.getfield 7, 3) := by decide +kernel
theorem dMd_put_134 : decode cMd_put 134 = .ok (.iload 6, 2) := by decide +kernel
theorem dMd_put_136 : decode cMd_put 136 = .ok (.dup2, 1) := by decide +kernel
theorem dMd_put_137 : decode cMd_put 137 = .ok (.iaload, 1) := by decide +kernel
theorem dMd_put_138 : decode cMd_put 138 = .ok (.iload 5, 2) := by decide +kernel
theorem dMd_put_140 : decode cMd_put 140 = .ok (.iadd, 1) := by decide +kernel
theorem dMd_put_141 : decode cMd_put 141 = .ok (.iastore, 1) := by decide +kernel
theorem dMd_put_142 : decode cMd_put 142 = .ok (.aload_n 0, 1) := by decide +kernel
theorem dMd_put_143 : decode cMd_put 143 = .ok (.getfield 7, 3) := by decide +kernel
theorem dMd_put_146 : decode cMd_put 146 = .ok (.iload 6, 2) := by decide +kernel
theorem dMd_put_148 : decode cMd_put 148 = .ok (.iaload, 1) := by decide +kernel
theorem dMd_put_149 : decode cMd_put 149 = .ok (.ireturn, 1) := by decide +kernel
abbrev yMd_define : MethodName := ⟨"ImageForgeModel", "define", "(IIII)V"⟩
abbrev cMd_define : ByteArray := prog_10_method_6_code
abbrev wsMd_define : List Cond := .code yMd_define cMd_define 6 none :: bw
theorem gdMd_define : GoodIn bw wsMd_define := gd_of tw_898
theorem hdMd_define : yMd_define.cls ≠ "java/lang/invoke/MethodHandle" ∧ yMd_define.cls ≠ "java/lang/invoke/VarHandle" ∧ (parseMethodDescriptor yMd_define.desc).map (fun d => d.parameters.length) = some 4 := by decide +kernel
theorem dMd_define_0 : decode cMd_define 0 = .ok (.aload_n 0, 1) := by decide +kernel
theorem dMd_define_1 : decode cMd_define 1 = .ok (.iload_n 1, 1) := by decide +kernel
theorem dMd_define_2 : decode cMd_define 2 = .ok (.iconst 4, 1) := by decide +kernel
theorem dMd_define_3 : decode cMd_define 3 = .ok (.invokestatic 84, 3) := by decide +kernel
theorem dMd_define_6 : decode cMd_define 6 = .ok (.ifCond .ne 20, 3) := by decide +kernel
theorem dMd_define_9 : decode cMd_define 9 = .ok (.iload_n 2, 1) := by decide +kernel
theorem dMd_define_10 : decode cMd_define 10 = .ok (.bipush 16, 2) := by decide +kernel
theorem dMd_define_12 : decode cMd_define 12 = .ok (.invokestatic 84, 3) := by decide +kernel
theorem dMd_define_15 : decode cMd_define 15 = .ok (.ifCond .ne 11, 3) := by decide +kernel
theorem dMd_define_18 : decode cMd_define 18 = .ok (.iload_n 3, 1) := by decide +kernel
theorem dMd_define_19 : decode cMd_define 19 = .ok (.iconst 2, 1) := by decide +kernel
theorem dMd_define_20 : decode cMd_define 20 = .ok (.invokestatic 84, 3) := by decide +kernel
theorem dMd_define_23 : decode cMd_define 23 = .ok (.ifCond .eq 7, 3) := by decide +kernel
theorem dMd_define_26 : decode cMd_define 26 = .ok (.iconst 1, 1) := by decide +kernel
theorem dMd_define_27 : decode cMd_define 27 = .ok (.goto 4, 3) := by decide +kernel
theorem dMd_define_30 : decode cMd_define 30 = .ok (.iconst 0, 1) := by decide +kernel
theorem dMd_define_31 : decode cMd_define 31 = .ok (.iconst 1, 1) := by decide +kernel
theorem dMd_define_32 : decode cMd_define 32 = .ok (.invokevirtual 88, 3) := by decide +kernel
theorem dMd_define_35 : decode cMd_define 35 = .ok (.ifCond .eq 4, 3) := by decide +kernel
theorem dMd_define_38 : decode cMd_define 38 = .ok (.return_, 1) := by decide +kernel
theorem dMd_define_39 : decode cMd_define 39 = .ok (.aload_n 0, 1) := by decide +kernel
theorem dMd_define_40 : decode cMd_define 40 = .ok (.iload 4, 2) := by decide +kernel
theorem dMd_define_42 : decode cMd_define 42 = .ok (.ifCond .lt 18, 3) := by decide +kernel
theorem dMd_define_45 : decode cMd_define 45 = .ok (.iload 4, 2) := by decide +kernel
theorem dMd_define_47 : decode cMd_define 47 = .ok (.aload_n 0, 1) := by decide +kernel
theorem dMd_define_48 : decode cMd_define 48 = .ok (.getfield 7, 3) := by decide +kernel
theorem dMd_define_51 : decode cMd_define 51 = .ok (.iconst 2, 1) := by decide +kernel
theorem dMd_define_52 : decode cMd_define 52 = .ok (.iload_n 1, 1) := by decide +kernel
theorem dMd_define_53 : decode cMd_define 53 = .ok (.imul, 1) := by decide +kernel
theorem dMd_define_54 : decode cMd_define 54 = .ok (.iload_n 3, 1) := by decide +kernel
theorem dMd_define_55 : decode cMd_define 55 = .ok (.iadd, 1) := by decide +kernel
theorem dMd_define_56 : decode cMd_define 56 = .ok (.iaload, 1) := by decide +kernel
theorem dMd_define_57 : decode cMd_define 57 = .ok (.if_icmp .le 7, 3) := by decide +kernel
theorem dMd_define_60 : decode cMd_define 60 = .ok (.iconst 1, 1) := by decide +kernel
theorem dMd_define_61 : decode cMd_define 61 = .ok (.goto 4, 3) := by decide +kernel
theorem dMd_define_64 : decode cMd_define 64 = .ok (.iconst 0, 1) := by decide +kernel
theorem dMd_define_65 : decode cMd_define 65 = .ok (.iconst 1, 1) := by decide +kernel
theorem dMd_define_66 : decode cMd_define 66 = .ok (.invokevirtual 88, 3) := by decide +kernel
theorem dMd_define_69 : decode cMd_define 69 = .ok (.ifCond .ne 27, 3) := by decide +kernel
theorem dMd_define_72 : decode cMd_define 72 = .ok (.aload_n 0, 1) := by decide +kernel
theorem dMd_define_73 : decode cMd_define 73 = .ok (.aload_n 0, 1) := by decide +kernel
theorem dMd_define_74 : decode cMd_define 74 = .ok (.getfield 16, 3) := by decide +kernel
theorem dMd_define_77 : decode cMd_define 77 = .ok (.iload_n 1, 1) := by decide +kernel
theorem dMd_define_78 : decode cMd_define 78 = .ok (.iaload, 1) := by decide +kernel
theorem dMd_define_79 : decode cMd_define 79 = .ok (.bipush 6, 2) := by decide +kernel
theorem dMd_define_81 : decode cMd_define 81 = .ok (.if_icmp .ne 7, 3) := by decide +kernel
theorem dMd_define_84 : decode cMd_define 84 = .ok (.iconst 1, 1) := by decide +kernel
theorem dMd_define_85 : decode cMd_define 85 = .ok (.goto 4, 3) := by decide +kernel
theorem dMd_define_88 : decode cMd_define 88 = .ok (.iconst 0, 1) := by decide +kernel
theorem dMd_define_89 : decode cMd_define 89 = .ok (.iconst 2, 1) := by decide +kernel
theorem dMd_define_90 : decode cMd_define 90 = .ok (.invokevirtual 88, 3) := by decide +kernel
theorem dMd_define_93 : decode cMd_define 93 = .ok (.ifCond .eq 4, 3) := by decide +kernel
theorem dMd_define_96 : decode cMd_define 96 = .ok (.return_, 1) := by decide +kernel
theorem dMd_define_97 : decode cMd_define 97 = .ok (.bipush 6, 2) := by decide +kernel
theorem dMd_define_99 : decode cMd_define 99 = .ok (.iload_n 1, 1) := by decide +kernel
theorem dMd_define_100 : decode cMd_define 100 = .ok (.imul, 1) := by decide +kernel
theorem dMd_define_101 : decode cMd_define 101 = .ok (.aload_n 0, 1) := by decide +kernel
theorem dMd_define_102 : decode cMd_define 102 = .ok (.getfield 16, 3) := by decide +kernel
theorem dMd_define_105 : decode cMd_define 105 = .ok (.iload_n 1, 1) := by decide +kernel
theorem dMd_define_106 : decode cMd_define 106 = .ok (.iaload, 1) := by decide +kernel
theorem dMd_define_107 : decode cMd_define 107 = .ok (.iadd, 1) := by decide +kernel
theorem dMd_define_108 : decode cMd_define 108 = .ok (.istore 5, 2) := by decide +kernel
theorem dMd_define_110 : decode cMd_define 110 = .ok (.aload_n 0, 1) := by decide +kernel
theorem dMd_define_111 : decode cMd_define 111 = .ok (.getfield 19, 3) := by decide +kernel
theorem dMd_define_114 : decode cMd_define 114 = .ok (.iload 5, 2) := by decide +kernel
theorem dMd_define_116 : decode cMd_define 116 = .ok (.iload_n 2, 1) := by decide +kernel
theorem dMd_define_117 : decode cMd_define 117 = .ok (.iastore, 1) := by decide +kernel
theorem dMd_define_118 : decode cMd_define 118 = .ok (.aload_n 0, 1) := by decide +kernel
theorem dMd_define_119 : decode cMd_define 119 = .ok (.getfield 22, 3) := by decide +kernel
theorem dMd_define_122 : decode cMd_define 122 = .ok (.iload 5, 2) := by decide +kernel
theorem dMd_define_124 : decode cMd_define 124 = .ok (.iload_n 3, 1) := by decide +kernel
theorem dMd_define_125 : decode cMd_define 125 = .ok (.iastore, 1) := by decide +kernel
theorem dMd_define_126 : decode cMd_define 126 = .ok (.aload_n 0, 1) := by decide +kernel
theorem dMd_define_127 : decode cMd_define 127 = .ok (.getfield 25, 3) := by decide +kernel
theorem dMd_define_130 : decode cMd_define 130 = .ok (.iload 5, 2) := by decide +kernel
theorem dMd_define_132 : decode cMd_define 132 = .ok (.iload 4, 2) := by decide +kernel
theorem dMd_define_134 : decode cMd_define 134 = .ok (.iastore, 1) := by decide +kernel
theorem dMd_define_135 : decode cMd_define 135 = .ok (.aload_n 0, 1) := by decide +kernel
theorem dMd_define_136 : decode cMd_define 136 = .ok (.getfield 16, 3) := by decide +kernel
theorem dMd_define_139 : decode cMd_define 139 = .ok (.iload_n 1, 1) := by decide +kernel
theorem dMd_define_140 : decode cMd_define 140 = .ok (.dup2, 1) := by decide +kernel
theorem dMd_define_141 : decode cMd_define 141 = .ok (.iaload, 1) := by decide +kernel
theorem dMd_define_142 : decode cMd_define 142 = .ok (.iconst 1, 1) := by decide +kernel
theorem dMd_define_143 : decode cMd_define 143 = .ok (.iadd, 1) := by decide +kernel
theorem dMd_define_144 : decode cMd_define 144 = .ok (.iastore, 1) := by decide +kernel
theorem dMd_define_145 : decode cMd_define 145 = .ok (.return_, 1) := by decide +kernel
abbrev yMd_overlaps : MethodName := ⟨"ImageForgeModel", "overlaps", "(III)Z"⟩
abbrev cMd_overlaps : ByteArray := prog_10_method_7_code
abbrev wsMd_overlaps : List Cond := .code yMd_overlaps cMd_overlaps 6 (some .boolean) :: bw
theorem gdMd_overlaps : GoodIn bw wsMd_overlaps := gd_of tw_906
theorem hdMd_overlaps : yMd_overlaps.cls ≠ "java/lang/invoke/MethodHandle" ∧ yMd_overlaps.cls ≠ "java/lang/invoke/VarHandle" ∧ (parseMethodDescriptor yMd_overlaps.desc).map (fun d => d.parameters.length) = some 3 := by decide +kernel
theorem dMd_overlaps_0 : decode cMd_overlaps 0 = .ok (.iconst 0, 1) := by decide +kernel
theorem dMd_overlaps_1 : decode cMd_overlaps 1 = .ok (.istore 4, 2) := by decide +kernel
theorem dMd_overlaps_3 : decode cMd_overlaps 3 = .ok (.bipush 8, 2) := by decide +kernel
theorem dMd_overlaps_5 : decode cMd_overlaps 5 = .ok (.iload_n 1, 1) := by decide +kernel
theorem dMd_overlaps_6 : decode cMd_overlaps 6 = .ok (.imul, 1) := by decide +kernel
theorem dMd_overlaps_7 : decode cMd_overlaps 7 = .ok (.istore 5, 2) := by decide +kernel
theorem dMd_overlaps_9 : decode cMd_overlaps 9 = .ok (.iload 5, 2) := by decide +kernel
theorem dMd_overlaps_11 : decode cMd_overlaps 11 = .ok (.bipush 8, 2) := by decide +kernel
theorem dMd_overlaps_13 : decode cMd_overlaps 13 = .ok (.iload_n 1, 1) := by decide +kernel
theorem dMd_overlaps_14 : decode cMd_overlaps 14 = .ok (.imul, 1) := by decide +kernel
theorem dMd_overlaps_15 : decode cMd_overlaps 15 = .ok (.aload_n 0, 1) := by decide +kernel
theorem dMd_overlaps_16 : decode cMd_overlaps 16 = .ok (.getfield 28, 3) := by decide +kernel
theorem dMd_overlaps_19 : decode cMd_overlaps 19 = .ok (.iload_n 1, 1) := by decide +kernel
theorem dMd_overlaps_20 : decode cMd_overlaps 20 = .ok (.iaload, 1) := by decide +kernel
theorem dMd_overlaps_21 : decode cMd_overlaps 21 = .ok (.iadd, 1) := by decide +kernel
theorem dMd_overlaps_22 : decode cMd_overlaps 22 = .ok (.if_icmp .ge 58, 3) := by decide +kernel
theorem dMd_overlaps_25 : decode cMd_overlaps 25 = .ok (.iload 4, 2) := by decide +kernel
theorem dMd_overlaps_27 : decode cMd_overlaps 27 = .ok (.ifCond .ne 40, 3) := by decide +kernel
theorem dMd_overlaps_30 : decode cMd_overlaps 30 = .ok (.aload_n 0, 1) := by decide +kernel
theorem dMd_overlaps_31 : decode cMd_overlaps 31 = .ok (.getfield 31, 3) := by decide +kernel
theorem dMd_overlaps_34 : decode cMd_overlaps 34 = .ok (.iload 5, 2) := by decide +kernel
theorem dMd_overlaps_36 : decode cMd_overlaps 36 = .ok (.iaload, 1) := by decide +kernel
theorem dMd_overlaps_37 : decode cMd_overlaps 37 = .ok (.iload_n 2, 1) := by decide +kernel
theorem dMd_overlaps_38 : decode cMd_overlaps 38 = .ok (.if_icmp .ne 33, 3) := by decide +kernel
theorem dMd_overlaps_41 : decode cMd_overlaps 41 = .ok (.iload_n 3, 1) := by decide +kernel
theorem dMd_overlaps_42 : decode cMd_overlaps 42 = .ok (.aload_n 0, 1) := by decide +kernel
theorem dMd_overlaps_43 : decode cMd_overlaps 43 = .ok (.getfield 34, 3) := by decide +kernel
theorem dMd_overlaps_46 : decode cMd_overlaps 46 = .ok (.iload 5, 2) := by decide +kernel
theorem dMd_overlaps_48 : decode cMd_overlaps 48 = .ok (.iaload, 1) := by decide +kernel
theorem dMd_overlaps_49 : decode cMd_overlaps 49 = .ok (.iconst 4, 1) := by decide +kernel
theorem dMd_overlaps_50 : decode cMd_overlaps 50 = .ok (.iadd, 1) := by decide +kernel
theorem dMd_overlaps_51 : decode cMd_overlaps 51 = .ok (.if_icmp .ge 20, 3) := by decide +kernel
theorem dMd_overlaps_54 : decode cMd_overlaps 54 = .ok (.aload_n 0, 1) := by decide +kernel
theorem dMd_overlaps_55 : decode cMd_overlaps 55 = .ok (.getfield 34, 3) := by decide +kernel
theorem dMd_overlaps_58 : decode cMd_overlaps 58 = .ok (.iload 5, 2) := by decide +kernel
theorem dMd_overlaps_60 : decode cMd_overlaps 60 = .ok (.iaload, 1) := by decide +kernel
theorem dMd_overlaps_61 : decode cMd_overlaps 61 = .ok (.iload_n 3, 1) := by decide +kernel
theorem dMd_overlaps_62 : decode cMd_overlaps 62 = .ok (.iconst 4, 1) := by decide +kernel
theorem dMd_overlaps_63 : decode cMd_overlaps 63 = .ok (.iadd, 1) := by decide +kernel
theorem dMd_overlaps_64 : decode cMd_overlaps 64 = .ok (.if_icmp .ge 7, 3) := by decide +kernel
theorem dMd_overlaps_67 : decode cMd_overlaps 67 = .ok (.iconst 1, 1) := by decide +kernel
theorem dMd_overlaps_68 : decode cMd_overlaps 68 = .ok (.goto 4, 3) := by decide +kernel
theorem dMd_overlaps_71 : decode cMd_overlaps 71 = .ok (.iconst 0, 1) := by decide +kernel
theorem dMd_overlaps_72 : decode cMd_overlaps 72 = .ok (.istore 4, 2) := by decide +kernel
theorem dMd_overlaps_74 : decode cMd_overlaps 74 = .ok (.iinc 5 1, 3) := by decide +kernel
theorem dMd_overlaps_77 : decode cMd_overlaps 77 = .ok (.goto (-68), 3) := by decide +kernel
theorem dMd_overlaps_80 : decode cMd_overlaps 80 = .ok (.iload 4, 2) := by decide +kernel
theorem dMd_overlaps_82 : decode cMd_overlaps 82 = .ok (.ireturn, 1) := by decide +kernel
abbrev yMd_refer : MethodName := ⟨"ImageForgeModel", "refer", "(IIIII)V"⟩
abbrev cMd_refer : ByteArray := prog_10_method_8_code
abbrev wsMd_refer : List Cond := .code yMd_refer cMd_refer 7 none :: bw
theorem gdMd_refer : GoodIn bw wsMd_refer := gd_of tw_902
theorem hdMd_refer : yMd_refer.cls ≠ "java/lang/invoke/MethodHandle" ∧ yMd_refer.cls ≠ "java/lang/invoke/VarHandle" ∧ (parseMethodDescriptor yMd_refer.desc).map (fun d => d.parameters.length) = some 5 := by decide +kernel
theorem dMd_refer_0 : decode cMd_refer 0 = .ok (.aload_n 0, 1) := by decide +kernel
theorem dMd_refer_1 : decode cMd_refer 1 = .ok (.iload_n 1, 1) := by decide +kernel
theorem dMd_refer_2 : decode cMd_refer 2 = .ok (.iconst 4, 1) := by decide +kernel
theorem dMd_refer_3 : decode cMd_refer 3 = .ok (.invokestatic 84, 3) := by decide +kernel
theorem dMd_refer_6 : decode cMd_refer 6 = .ok (.ifCond .ne 30, 3) := by decide +kernel
theorem dMd_refer_9 : decode cMd_refer 9 = .ok (.iload_n 2, 1) := by decide +kernel
theorem dMd_refer_10 : decode cMd_refer 10 = .ok (.iconst 2, 1) := by decide +kernel
theorem dMd_refer_11 : decode cMd_refer 11 = .ok (.invokestatic 84, 3) := by decide +kernel
theorem dMd_refer_14 : decode cMd_refer 14 = .ok (.ifCond .ne 22, 3) := by decide +kernel
theorem dMd_refer_17 : decode cMd_refer 17 = .ok (.iload 4, 2) := by decide +kernel
theorem dMd_refer_19 : decode cMd_refer 19 = .ok (.iconst 3, 1) := by decide +kernel
theorem dMd_refer_20 : decode cMd_refer 20 = .ok (.invokestatic 84, 3) := by decide +kernel
theorem dMd_refer_23 : decode cMd_refer 23 = .ok (.ifCond .ne 13, 3) := by decide +kernel
theorem dMd_refer_26 : decode cMd_refer 26 = .ok (.iload 5, 2) := by decide +kernel
theorem dMd_refer_28 : decode cMd_refer 28 = .ok (.bipush 16, 2) := by decide +kernel
theorem dMd_refer_30 : decode cMd_refer 30 = .ok (.invokestatic 84, 3) := by decide +kernel
theorem dMd_refer_33 : decode cMd_refer 33 = .ok (.ifCond .eq 7, 3) := by decide +kernel
theorem dMd_refer_36 : decode cMd_refer 36 = .ok (.iconst 1, 1) := by decide +kernel
theorem dMd_refer_37 : decode cMd_refer 37 = .ok (.goto 4, 3) := by decide +kernel
theorem dMd_refer_40 : decode cMd_refer 40 = .ok (.iconst 0, 1) := by decide +kernel
theorem dMd_refer_41 : decode cMd_refer 41 = .ok (.iconst 1, 1) := by decide +kernel
theorem dMd_refer_42 : decode cMd_refer 42 = .ok (.invokevirtual 88, 3) := by decide +kernel
theorem dMd_refer_45 : decode cMd_refer 45 = .ok (.ifCond .eq 4, 3) := by decide +kernel
theorem dMd_refer_48 : decode cMd_refer 48 = .ok (.return_, 1) := by decide +kernel
theorem dMd_refer_49 : decode cMd_refer 49 = .ok (.aload_n 0, 1) := by decide +kernel
theorem dMd_refer_50 : decode cMd_refer 50 = .ok (.iload_n 3, 1) := by decide +kernel
theorem dMd_refer_51 : decode cMd_refer 51 = .ok (.ifCond .lt 19, 3) := by decide +kernel
theorem dMd_refer_54 : decode cMd_refer 54 = .ok (.iload_n 3, 1) := by decide +kernel
theorem dMd_refer_55 : decode cMd_refer 55 = .ok (.aload_n 0, 1) := by decide +kernel
theorem dMd_refer_56 : decode cMd_refer 56 = .ok (.getfield 7, 3) := by decide +kernel
theorem dMd_refer_59 : decode cMd_refer 59 = .ok (.iconst 2, 1) := by decide +kernel
theorem dMd_refer_60 : decode cMd_refer 60 = .ok (.iload_n 1, 1) := by decide +kernel
theorem dMd_refer_61 : decode cMd_refer 61 = .ok (.imul, 1) := by decide +kernel
theorem dMd_refer_62 : decode cMd_refer 62 = .ok (.iload_n 2, 1) := by decide +kernel
theorem dMd_refer_63 : decode cMd_refer 63 = .ok (.iadd, 1) := by decide +kernel
theorem dMd_refer_64 : decode cMd_refer 64 = .ok (.iaload, 1) := by decide +kernel
theorem dMd_refer_65 : decode cMd_refer 65 = .ok (.iconst 4, 1) := by decide +kernel
theorem dMd_refer_66 : decode cMd_refer 66 = .ok (.isub, 1) := by decide +kernel
theorem dMd_refer_67 : decode cMd_refer 67 = .ok (.if_icmp .le 7, 3) := by decide +kernel
theorem dMd_refer_70 : decode cMd_refer 70 = .ok (.iconst 1, 1) := by decide +kernel
theorem dMd_refer_71 : decode cMd_refer 71 = .ok (.goto 4, 3) := by decide +kernel
theorem dMd_refer_74 : decode cMd_refer 74 = .ok (.iconst 0, 1) := by decide +kernel
theorem dMd_refer_75 : decode cMd_refer 75 = .ok (.iconst 1, 1) := by decide +kernel
theorem dMd_refer_76 : decode cMd_refer 76 = .ok (.invokevirtual 88, 3) := by decide +kernel
theorem dMd_refer_79 : decode cMd_refer 79 = .ok (.ifCond .eq 4, 3) := by decide +kernel
theorem dMd_refer_82 : decode cMd_refer 82 = .ok (.return_, 1) := by decide +kernel
theorem dMd_refer_83 : decode cMd_refer 83 = .ok (.aload_n 0, 1) := by decide +kernel
theorem dMd_refer_84 : decode cMd_refer 84 = .ok (.aload_n 0, 1) := by decide +kernel
theorem dMd_refer_85 : decode cMd_refer 85 = .ok (.iload_n 1, 1) := by decide +kernel
theorem dMd_refer_86 : decode cMd_refer 86 = .ok (.iload_n 2, 1) := by decide +kernel
theorem dMd_refer_87 : decode cMd_refer 87 = .ok (.iload_n 3, 1) := by decide +kernel
theorem dMd_refer_88 : decode cMd_refer 88 = .ok (.invokevirtual 94, 3) := by decide +kernel
theorem dMd_refer_91 : decode cMd_refer 91 = .ok (.iconst 1, 1) := by decide +kernel
theorem dMd_refer_92 : decode cMd_refer 92 = .ok (.invokevirtual 88, 3) := by decide +kernel
theorem dMd_refer_95 : decode cMd_refer 95 = .ok (.ifCond .ne 27, 3) := by decide +kernel
theorem dMd_refer_98 : decode cMd_refer 98 = .ok (.aload_n 0, 1) := by decide +kernel
theorem dMd_refer_99 : decode cMd_refer 99 = .ok (.aload_n 0, 1) := by decide +kernel
theorem dMd_refer_100 : decode cMd_refer 100 = .ok (.getfield 28, 3) := by decide +kernel
theorem dMd_refer_103 : decode cMd_refer 103 = .ok (.iload_n 1, 1) := by decide +kernel
theorem dMd_refer_104 : decode cMd_refer 104 = .ok (.iaload, 1) := by decide +kernel
theorem dMd_refer_105 : decode cMd_refer 105 = .ok (.bipush 8, 2) := by decide +kernel
theorem dMd_refer_107 : decode cMd_refer 107 = .ok (.if_icmp .ne 7, 3) := by decide +kernel
theorem dMd_refer_110 : decode cMd_refer 110 = .ok (.iconst 1, 1) := by decide +kernel
theorem dMd_refer_111 : decode cMd_refer 111 = .ok (.goto 4, 3) := by decide +kernel
theorem dMd_refer_114 : decode cMd_refer 114 = .ok (.iconst 0, 1) := by decide +kernel
theorem dMd_refer_115 : decode cMd_refer 115 = .ok (.iconst 2, 1) := by decide +kernel
theorem dMd_refer_116 : decode cMd_refer 116 = .ok (.invokevirtual 88, 3) := by decide +kernel
theorem dMd_refer_119 : decode cMd_refer 119 = .ok (.ifCond .eq 4, 3) := by decide +kernel
theorem dMd_refer_122 : decode cMd_refer 122 = .ok (.return_, 1) := by decide +kernel
theorem dMd_refer_123 : decode cMd_refer 123 = .ok (.bipush 8, 2) := by decide +kernel
theorem dMd_refer_125 : decode cMd_refer 125 = .ok (.iload_n 1, 1) := by decide +kernel
theorem dMd_refer_126 : decode cMd_refer 126 = .ok (.imul, 1) := by decide +kernel
theorem dMd_refer_127 : decode cMd_refer 127 = .ok (.aload_n 0, 1) := by decide +kernel
theorem dMd_refer_128 : decode cMd_refer 128 = .ok (.getfield 28, 3) := by decide +kernel
theorem dMd_refer_131 : decode cMd_refer 131 = .ok (.iload_n 1, 1) := by decide +kernel
theorem dMd_refer_132 : decode cMd_refer 132 = .ok (.iaload, 1) := by decide +kernel
theorem dMd_refer_133 : decode cMd_refer 133 = .ok (.iadd, 1) := by decide +kernel
theorem dMd_refer_134 : decode cMd_refer 134 = .ok (.istore 6, 2) := by decide +kernel
theorem dMd_refer_136 : decode cMd_refer 136 = .ok (.aload_n 0, 1) := by decide +kernel
theorem dMd_refer_137 : decode cMd_refer 137 = .ok (.getfield 31, 3) := by decide +kernel
theorem dMd_refer_140 : decode cMd_refer 140 = .ok (.iload 6, 2) := by decide +kernel
theorem dMd_refer_142 : decode cMd_refer 142 = .ok (.iload_n 2, 1) := by decide +kernel
theorem dMd_refer_143 : decode cMd_refer 143 = .ok (.iastore, 1) := by decide +kernel
theorem dMd_refer_144 : decode cMd_refer 144 = .ok (.aload_n 0, 1) := by decide +kernel
theorem dMd_refer_145 : decode cMd_refer 145 = .ok (.getfield 34, 3) := by decide +kernel
theorem dMd_refer_148 : decode cMd_refer 148 = .ok (.iload 6, 2) := by decide +kernel
theorem dMd_refer_150 : decode cMd_refer 150 = .ok (.iload_n 3, 1) := by decide +kernel
theorem dMd_refer_151 : decode cMd_refer 151 = .ok (.iastore, 1) := by decide +kernel
theorem dMd_refer_152 : decode cMd_refer 152 = .ok (.aload_n 0, 1) := by decide +kernel
theorem dMd_refer_153 : decode cMd_refer 153 = .ok (.getfield 37, 3) := by decide +kernel
theorem dMd_refer_156 : decode cMd_refer 156 = .ok (.iload 6, 2) := by decide +kernel
theorem dMd_refer_158 : decode cMd_refer 158 = .ok (.iload 4, 2) := by decide +kernel
theorem dMd_refer_160 : decode cMd_refer 160 = .ok (.iastore, 1) := by decide +kernel
theorem dMd_refer_161 : decode cMd_refer 161 = .ok (.aload_n 0, 1) := by decide +kernel
theorem dMd_refer_162 : decode cMd_refer 162 = .ok (.getfield 40, 3) := by decide +kernel
theorem dMd_refer_165 : decode cMd_refer 165 = .ok (.iload 6, 2) := by decide +kernel
theorem dMd_refer_167 : decode cMd_refer 167 = .ok (.iload 5, 2) := by decide +kernel
theorem dMd_refer_169 : decode cMd_refer 169 = .ok (.iastore, 1) := by decide +kernel
theorem dMd_refer_170 : decode cMd_refer 170 = .ok (.aload_n 0, 1) := by decide +kernel
theorem dMd_refer_171 : decode cMd_refer 171 = .ok (.getfield 28, 3) := by decide +kernel
theorem dMd_refer_174 : decode cMd_refer 174 = .ok (.iload_n 1, 1) := by decide +kernel
theorem dMd_refer_175 : decode cMd_refer 175 = .ok (.dup2, 1) := by decide +kernel
theorem dMd_refer_176 : decode cMd_refer 176 = .ok (.iaload, 1) := by decide +kernel
theorem dMd_refer_177 : decode cMd_refer 177 = .ok (.iconst 1, 1) := by decide +kernel
theorem dMd_refer_178 : decode cMd_refer 178 = .ok (.iadd, 1) := by decide +kernel
theorem dMd_refer_179 : decode cMd_refer 179 = .ok (.iastore, 1) := by decide +kernel
theorem dMd_refer_180 : decode cMd_refer 180 = .ok (.return_, 1) := by decide +kernel
abbrev yMd_imported : MethodName := ⟨"ImageForgeModel", "imported", "(III)V"⟩
abbrev cMd_imported : ByteArray := prog_10_method_9_code
abbrev wsMd_imported : List Cond := .code yMd_imported cMd_imported 4 none :: bw
theorem gdMd_imported : GoodIn bw wsMd_imported := gd_of tw_910
theorem hdMd_imported : yMd_imported.cls ≠ "java/lang/invoke/MethodHandle" ∧ yMd_imported.cls ≠ "java/lang/invoke/VarHandle" ∧ (parseMethodDescriptor yMd_imported.desc).map (fun d => d.parameters.length) = some 3 := by decide +kernel
theorem dMd_imported_0 : decode cMd_imported 0 = .ok (.aload_n 0, 1) := by decide +kernel
theorem dMd_imported_1 : decode cMd_imported 1 = .ok (.iload_n 1, 1) := by decide +kernel
theorem dMd_imported_2 : decode cMd_imported 2 = .ok (.bipush 16, 2) := by decide +kernel
theorem dMd_imported_4 : decode cMd_imported 4 = .ok (.invokestatic 84, 3) := by decide +kernel
theorem dMd_imported_7 : decode cMd_imported 7 = .ok (.ifCond .ne 29, 3) := by decide +kernel
theorem dMd_imported_10 : decode cMd_imported 10 = .ok (.iload_n 2, 1) := by decide +kernel
theorem dMd_imported_11 : decode cMd_imported 11 = .ok (.iconst 4, 1) := by decide +kernel
theorem dMd_imported_12 : decode cMd_imported 12 = .ok (.invokestatic 84, 3) := by decide +kernel
theorem dMd_imported_15 : decode cMd_imported 15 = .ok (.ifCond .eq 8, 3) := by decide +kernel
theorem dMd_imported_18 : decode cMd_imported 18 = .ok (.iload_n 2, 1) := by decide +kernel
theorem dMd_imported_19 : decode cMd_imported 19 = .ok (.iconst (-1), 1) := by decide +kernel
theorem dMd_imported_20 : decode cMd_imported 20 = .ok (.if_icmp .ne 16, 3) := by decide +kernel
theorem dMd_imported_23 : decode cMd_imported 23 = .ok (.iload_n 2, 1) := by decide +kernel
theorem dMd_imported_24 : decode cMd_imported 24 = .ok (.ifCond .lt 16, 3) := by decide +kernel
theorem dMd_imported_27 : decode cMd_imported 27 = .ok (.iload_n 3, 1) := by decide +kernel
theorem dMd_imported_28 : decode cMd_imported 28 = .ok (.bipush 100, 2) := by decide +kernel
theorem dMd_imported_30 : decode cMd_imported 30 = .ok (.invokestatic 84, 3) := by decide +kernel
theorem dMd_imported_33 : decode cMd_imported 33 = .ok (.ifCond .eq 7, 3) := by decide +kernel
theorem dMd_imported_36 : decode cMd_imported 36 = .ok (.iconst 1, 1) := by decide +kernel
theorem dMd_imported_37 : decode cMd_imported 37 = .ok (.goto 4, 3) := by decide +kernel
theorem dMd_imported_40 : decode cMd_imported 40 = .ok (.iconst 0, 1) := by decide +kernel
theorem dMd_imported_41 : decode cMd_imported 41 = .ok (.iconst 1, 1) := by decide +kernel
theorem dMd_imported_42 : decode cMd_imported 42 = .ok (.invokevirtual 88, 3) := by decide +kernel
theorem dMd_imported_45 : decode cMd_imported 45 = .ok (.ifCond .eq 4, 3) := by decide +kernel
theorem dMd_imported_48 : decode cMd_imported 48 = .ok (.return_, 1) := by decide +kernel
theorem dMd_imported_49 : decode cMd_imported 49 = .ok (.aload_n 0, 1) := by decide +kernel
theorem dMd_imported_50 : decode cMd_imported 50 = .ok (.getfield 43, 3) := by decide +kernel
theorem dMd_imported_53 : decode cMd_imported 53 = .ok (.iload_n 1, 1) := by decide +kernel
theorem dMd_imported_54 : decode cMd_imported 54 = .ok (.iload_n 2, 1) := by decide +kernel
theorem dMd_imported_55 : decode cMd_imported 55 = .ok (.iconst 1, 1) := by decide +kernel
theorem dMd_imported_56 : decode cMd_imported 56 = .ok (.iadd, 1) := by decide +kernel
theorem dMd_imported_57 : decode cMd_imported 57 = .ok (.iastore, 1) := by decide +kernel
theorem dMd_imported_58 : decode cMd_imported 58 = .ok (.aload_n 0, 1) := by decide +kernel
theorem dMd_imported_59 : decode cMd_imported 59 = .ok (.getfield 46, 3) := by decide +kernel
theorem dMd_imported_62 : decode cMd_imported 62 = .ok (.iload_n 1, 1) := by decide +kernel
theorem dMd_imported_63 : decode cMd_imported 63 = .ok (.iload_n 2, 1) := by decide +kernel
theorem dMd_imported_64 : decode cMd_imported 64 = .ok (.ifCond .ge 7, 3) := by decide +kernel
theorem dMd_imported_67 : decode cMd_imported 67 = .ok (.iconst 0, 1) := by decide +kernel
theorem dMd_imported_68 : decode cMd_imported 68 = .ok (.goto 4, 3) := by decide +kernel
theorem dMd_imported_71 : decode cMd_imported 71 = .ok (.iload_n 3, 1) := by decide +kernel
theorem dMd_imported_72 : decode cMd_imported 72 = .ok (.iastore, 1) := by decide +kernel
theorem dMd_imported_73 : decode cMd_imported 73 = .ok (.return_, 1) := by decide +kernel
abbrev yMd_exported : MethodName := ⟨"ImageForgeModel", "exported", "(IZ)V"⟩
abbrev cMd_exported : ByteArray := prog_10_method_10_code
abbrev wsMd_exported : List Cond := .code yMd_exported cMd_exported 3 none :: bw
theorem gdMd_exported : GoodIn bw wsMd_exported := gd_of tw_914
theorem hdMd_exported : yMd_exported.cls ≠ "java/lang/invoke/MethodHandle" ∧ yMd_exported.cls ≠ "java/lang/invoke/VarHandle" ∧ (parseMethodDescriptor yMd_exported.desc).map (fun d => d.parameters.length) = some 2 := by decide +kernel
theorem dMd_exported_0 : decode cMd_exported 0 = .ok (.aload_n 0, 1) := by decide +kernel
theorem dMd_exported_1 : decode cMd_exported 1 = .ok (.iload_n 1, 1) := by decide +kernel
theorem dMd_exported_2 : decode cMd_exported 2 = .ok (.bipush 16, 2) := by decide +kernel
theorem dMd_exported_4 : decode cMd_exported 4 = .ok (.invokestatic 84, 3) := by decide +kernel
theorem dMd_exported_7 : decode cMd_exported 7 = .ok (.iconst 1, 1) := by decide +kernel
theorem dMd_exported_8 : decode cMd_exported 8 = .ok (.invokevirtual 88, 3) := by decide +kernel
theorem dMd_exported_11 : decode cMd_exported 11 = .ok (.ifCond .eq 4, 3) := by decide +kernel
theorem dMd_exported_14 : decode cMd_exported 14 = .ok (.return_, 1) := by decide +kernel
theorem dMd_exported_15 : decode cMd_exported 15 = .ok (.aload_n 0, 1) := by decide +kernel
theorem dMd_exported_16 : decode cMd_exported 16 = .ok (.getfield 49, 3) := by decide +kernel
theorem dMd_exported_19 : decode cMd_exported 19 = .ok (.iload_n 1, 1) := by decide +kernel
theorem dMd_exported_20 : decode cMd_exported 20 = .ok (.iload_n 2, 1) := by decide +kernel
theorem dMd_exported_21 : decode cMd_exported 21 = .ok (.bastore, 1) := by decide +kernel
theorem dMd_exported_22 : decode cMd_exported 22 = .ok (.return_, 1) := by decide +kernel
abbrev yMd_offer : MethodName := ⟨"ImageForgeModel", "offer", "(III)V"⟩
abbrev cMd_offer : ByteArray := prog_10_method_11_code
abbrev wsMd_offer : List Cond := .code yMd_offer cMd_offer 4 none :: bw
theorem gdMd_offer : GoodIn bw wsMd_offer := gd_of tw_918
theorem hdMd_offer : yMd_offer.cls ≠ "java/lang/invoke/MethodHandle" ∧ yMd_offer.cls ≠ "java/lang/invoke/VarHandle" ∧ (parseMethodDescriptor yMd_offer.desc).map (fun d => d.parameters.length) = some 3 := by decide +kernel
theorem dMd_offer_0 : decode cMd_offer 0 = .ok (.aload_n 0, 1) := by decide +kernel
theorem dMd_offer_1 : decode cMd_offer 1 = .ok (.iload_n 1, 1) := by decide +kernel
theorem dMd_offer_2 : decode cMd_offer 2 = .ok (.iconst 4, 1) := by decide +kernel
theorem dMd_offer_3 : decode cMd_offer 3 = .ok (.invokestatic 84, 3) := by decide +kernel
theorem dMd_offer_6 : decode cMd_offer 6 = .ok (.ifCond .ne 12, 3) := by decide +kernel
theorem dMd_offer_9 : decode cMd_offer 9 = .ok (.iload_n 2, 1) := by decide +kernel
theorem dMd_offer_10 : decode cMd_offer 10 = .ok (.bipush 100, 2) := by decide +kernel
theorem dMd_offer_12 : decode cMd_offer 12 = .ok (.invokestatic 84, 3) := by decide +kernel
theorem dMd_offer_15 : decode cMd_offer 15 = .ok (.ifCond .eq 7, 3) := by decide +kernel
theorem dMd_offer_18 : decode cMd_offer 18 = .ok (.iconst 1, 1) := by decide +kernel
theorem dMd_offer_19 : decode cMd_offer 19 = .ok (.goto 4, 3) := by decide +kernel
theorem dMd_offer_22 : decode cMd_offer 22 = .ok (.iconst 0, 1) := by decide +kernel
theorem dMd_offer_23 : decode cMd_offer 23 = .ok (.iconst 1, 1) := by decide +kernel
theorem dMd_offer_24 : decode cMd_offer 24 = .ok (.invokevirtual 88, 3) := by decide +kernel
theorem dMd_offer_27 : decode cMd_offer 27 = .ok (.ifCond .eq 4, 3) := by decide +kernel
theorem dMd_offer_30 : decode cMd_offer 30 = .ok (.return_, 1) := by decide +kernel
theorem dMd_offer_31 : decode cMd_offer 31 = .ok (.aload_n 0, 1) := by decide +kernel
theorem dMd_offer_32 : decode cMd_offer 32 = .ok (.getfield 53, 3) := by decide +kernel
theorem dMd_offer_35 : decode cMd_offer 35 = .ok (.bipush 100, 2) := by decide +kernel
theorem dMd_offer_37 : decode cMd_offer 37 = .ok (.iload_n 1, 1) := by decide +kernel
theorem dMd_offer_38 : decode cMd_offer 38 = .ok (.imul, 1) := by decide +kernel
theorem dMd_offer_39 : decode cMd_offer 39 = .ok (.iload_n 2, 1) := by decide +kernel
theorem dMd_offer_40 : decode cMd_offer 40 = .ok (.iadd, 1) := by decide +kernel
theorem dMd_offer_41 : decode cMd_offer 41 = .ok (.iload_n 3, 1) := by decide +kernel
theorem dMd_offer_42 : decode cMd_offer 42 = .ok (.iastore, 1) := by decide +kernel
theorem dMd_offer_43 : decode cMd_offer 43 = .ok (.return_, 1) := by decide +kernel
abbrev yMd_defined : MethodName := ⟨"ImageForgeModel", "defined", "(I)I"⟩
abbrev cMd_defined : ByteArray := prog_10_method_12_code
abbrev wsMd_defined : List Cond := .code yMd_defined cMd_defined 5 (some .int) :: bw
theorem gdMd_defined : GoodIn bw wsMd_defined := gd_of tw_926
theorem hdMd_defined : yMd_defined.cls ≠ "java/lang/invoke/MethodHandle" ∧ yMd_defined.cls ≠ "java/lang/invoke/VarHandle" ∧ (parseMethodDescriptor yMd_defined.desc).map (fun d => d.parameters.length) = some 1 := by decide +kernel
theorem dMd_defined_0 : decode cMd_defined 0 = .ok (.iconst 0, 1) := by decide +kernel
theorem dMd_defined_1 : decode cMd_defined 1 = .ok (.istore_n 2, 1) := by decide +kernel
theorem dMd_defined_2 : decode cMd_defined 2 = .ok (.iconst 0, 1) := by decide +kernel
theorem dMd_defined_3 : decode cMd_defined 3 = .ok (.istore_n 3, 1) := by decide +kernel
theorem dMd_defined_4 : decode cMd_defined 4 = .ok (.iload_n 3, 1) := by decide +kernel
theorem dMd_defined_5 : decode cMd_defined 5 = .ok (.iconst 4, 1) := by decide +kernel
theorem dMd_defined_6 : decode cMd_defined 6 = .ok (.if_icmp .ge 56, 3) := by decide +kernel
theorem dMd_defined_9 : decode cMd_defined 9 = .ok (.bipush 6, 2) := by decide +kernel
theorem dMd_defined_11 : decode cMd_defined 11 = .ok (.iload_n 3, 1) := by decide +kernel
theorem dMd_defined_12 : decode cMd_defined 12 = .ok (.imul, 1) := by decide +kernel
theorem dMd_defined_13 : decode cMd_defined 13 = .ok (.istore 4, 2) := by decide +kernel
theorem dMd_defined_15 : decode cMd_defined 15 = .ok (.iload 4, 2) := by decide +kernel
theorem dMd_defined_17 : decode cMd_defined 17 = .ok (.bipush 6, 2) := by decide +kernel
theorem dMd_defined_19 : decode cMd_defined 19 = .ok (.iload_n 3, 1) := by decide +kernel
theorem dMd_defined_20 : decode cMd_defined 20 = .ok (.imul, 1) := by decide +kernel
theorem dMd_defined_21 : decode cMd_defined 21 = .ok (.aload_n 0, 1) := by decide +kernel
theorem dMd_defined_22 : decode cMd_defined 22 = .ok (.getfield 16, 3) := by decide +kernel
theorem dMd_defined_25 : decode cMd_defined 25 = .ok (.iload_n 3, 1) := by decide +kernel
theorem dMd_defined_26 : decode cMd_defined 26 = .ok (.iaload, 1) := by decide +kernel
theorem dMd_defined_27 : decode cMd_defined 27 = .ok (.iadd, 1) := by decide +kernel
theorem dMd_defined_28 : decode cMd_defined 28 = .ok (.if_icmp .ge 28, 3) := by decide +kernel
theorem dMd_defined_31 : decode cMd_defined 31 = .ok (.iload_n 2, 1) := by decide +kernel
theorem dMd_defined_32 : decode cMd_defined 32 = .ok (.aload_n 0, 1) := by decide +kernel
theorem dMd_defined_33 : decode cMd_defined 33 = .ok (.getfield 19, 3) := by decide +kernel
theorem dMd_defined_36 : decode cMd_defined 36 = .ok (.iload 4, 2) := by decide +kernel
theorem dMd_defined_38 : decode cMd_defined 38 = .ok (.iaload, 1) := by decide +kernel
theorem dMd_defined_39 : decode cMd_defined 39 = .ok (.iload_n 1, 1) := by decide +kernel
theorem dMd_defined_40 : decode cMd_defined 40 = .ok (.if_icmp .ne 7, 3) := by decide +kernel
theorem dMd_defined_43 : decode cMd_defined 43 = .ok (.iconst 1, 1) := by decide +kernel
theorem dMd_defined_44 : decode cMd_defined 44 = .ok (.goto 4, 3) := by decide +kernel
theorem dMd_defined_47 : decode cMd_defined 47 = .ok (.iconst 0, 1) := by decide +kernel
theorem dMd_defined_48 : decode cMd_defined 48 = .ok (.iadd, 1) := by decide +kernel
theorem dMd_defined_49 : decode cMd_defined 49 = .ok (.istore_n 2, 1) := by decide +kernel
theorem dMd_defined_50 : decode cMd_defined 50 = .ok (.iinc 4 1, 3) := by decide +kernel
theorem dMd_defined_53 : decode cMd_defined 53 = .ok (.goto (-38), 3) := by decide +kernel
theorem dMd_defined_56 : decode cMd_defined 56 = .ok (.iinc 3 1, 3) := by decide +kernel
theorem dMd_defined_59 : decode cMd_defined 59 = .ok (.goto (-55), 3) := by decide +kernel
theorem dMd_defined_62 : decode cMd_defined 62 = .ok (.iload_n 2, 1) := by decide +kernel
theorem dMd_defined_63 : decode cMd_defined 63 = .ok (.ireturn, 1) := by decide +kernel
abbrev yMd_isMeant : MethodName := ⟨"ImageForgeModel", "isMeant", "(I)Z"⟩
abbrev cMd_isMeant : ByteArray := prog_10_method_13_code
abbrev wsMd_isMeant : List Cond := .code yMd_isMeant cMd_isMeant 5 (some .boolean) :: bw
theorem gdMd_isMeant : GoodIn bw wsMd_isMeant := gd_of tw_930
theorem hdMd_isMeant : yMd_isMeant.cls ≠ "java/lang/invoke/MethodHandle" ∧ yMd_isMeant.cls ≠ "java/lang/invoke/VarHandle" ∧ (parseMethodDescriptor yMd_isMeant.desc).map (fun d => d.parameters.length) = some 1 := by decide +kernel
theorem dMd_isMeant_0 : decode cMd_isMeant 0 = .ok (.iconst 0, 1) := by decide +kernel
theorem dMd_isMeant_1 : decode cMd_isMeant 1 = .ok (.istore_n 2, 1) := by decide +kernel
theorem dMd_isMeant_2 : decode cMd_isMeant 2 = .ok (.iconst 0, 1) := by decide +kernel
theorem dMd_isMeant_3 : decode cMd_isMeant 3 = .ok (.istore_n 3, 1) := by decide +kernel
theorem dMd_isMeant_4 : decode cMd_isMeant 4 = .ok (.iload_n 3, 1) := by decide +kernel
theorem dMd_isMeant_5 : decode cMd_isMeant 5 = .ok (.iconst 4, 1) := by decide +kernel
theorem dMd_isMeant_6 : decode cMd_isMeant 6 = .ok (.if_icmp .ge 58, 3) := by decide +kernel
theorem dMd_isMeant_9 : decode cMd_isMeant 9 = .ok (.bipush 8, 2) := by decide +kernel
theorem dMd_isMeant_11 : decode cMd_isMeant 11 = .ok (.iload_n 3, 1) := by decide +kernel
theorem dMd_isMeant_12 : decode cMd_isMeant 12 = .ok (.imul, 1) := by decide +kernel
theorem dMd_isMeant_13 : decode cMd_isMeant 13 = .ok (.istore 4, 2) := by decide +kernel
theorem dMd_isMeant_15 : decode cMd_isMeant 15 = .ok (.iload 4, 2) := by decide +kernel
theorem dMd_isMeant_17 : decode cMd_isMeant 17 = .ok (.bipush 8, 2) := by decide +kernel
theorem dMd_isMeant_19 : decode cMd_isMeant 19 = .ok (.iload_n 3, 1) := by decide +kernel
theorem dMd_isMeant_20 : decode cMd_isMeant 20 = .ok (.imul, 1) := by decide +kernel
theorem dMd_isMeant_21 : decode cMd_isMeant 21 = .ok (.aload_n 0, 1) := by decide +kernel
theorem dMd_isMeant_22 : decode cMd_isMeant 22 = .ok (.getfield 28, 3) := by decide +kernel
theorem dMd_isMeant_25 : decode cMd_isMeant 25 = .ok (.iload_n 3, 1) := by decide +kernel
theorem dMd_isMeant_26 : decode cMd_isMeant 26 = .ok (.iaload, 1) := by decide +kernel
theorem dMd_isMeant_27 : decode cMd_isMeant 27 = .ok (.iadd, 1) := by decide +kernel
theorem dMd_isMeant_28 : decode cMd_isMeant 28 = .ok (.if_icmp .ge 30, 3) := by decide +kernel
theorem dMd_isMeant_31 : decode cMd_isMeant 31 = .ok (.iload_n 2, 1) := by decide +kernel
theorem dMd_isMeant_32 : decode cMd_isMeant 32 = .ok (.ifCond .ne 14, 3) := by decide +kernel
theorem dMd_isMeant_35 : decode cMd_isMeant 35 = .ok (.aload_n 0, 1) := by decide +kernel
theorem dMd_isMeant_36 : decode cMd_isMeant 36 = .ok (.getfield 40, 3) := by decide +kernel
theorem dMd_isMeant_39 : decode cMd_isMeant 39 = .ok (.iload 4, 2) := by decide +kernel
theorem dMd_isMeant_41 : decode cMd_isMeant 41 = .ok (.iaload, 1) := by decide +kernel
theorem dMd_isMeant_42 : decode cMd_isMeant 42 = .ok (.iload_n 1, 1) := by decide +kernel
theorem dMd_isMeant_43 : decode cMd_isMeant 43 = .ok (.if_icmp .ne 7, 3) := by decide +kernel
theorem dMd_isMeant_46 : decode cMd_isMeant 46 = .ok (.iconst 1, 1) := by decide +kernel
theorem dMd_isMeant_47 : decode cMd_isMeant 47 = .ok (.goto 4, 3) := by decide +kernel
theorem dMd_isMeant_50 : decode cMd_isMeant 50 = .ok (.iconst 0, 1) := by decide +kernel
theorem dMd_isMeant_51 : decode cMd_isMeant 51 = .ok (.istore_n 2, 1) := by decide +kernel
theorem dMd_isMeant_52 : decode cMd_isMeant 52 = .ok (.iinc 4 1, 3) := by decide +kernel
theorem dMd_isMeant_55 : decode cMd_isMeant 55 = .ok (.goto (-40), 3) := by decide +kernel
theorem dMd_isMeant_58 : decode cMd_isMeant 58 = .ok (.iinc 3 1, 3) := by decide +kernel
theorem dMd_isMeant_61 : decode cMd_isMeant 61 = .ok (.goto (-57), 3) := by decide +kernel
theorem dMd_isMeant_64 : decode cMd_isMeant 64 = .ok (.iload_n 2, 1) := by decide +kernel
theorem dMd_isMeant_65 : decode cMd_isMeant 65 = .ok (.ireturn, 1) := by decide +kernel
section
variable {p : Program} {l : Launch} {e : Env} {s : State} {m : MethodId} {args : Array Value} {below : List Frame} {meth : Method} {c : Code} {D : va_G} {cA : Nat → ClassId} {ad : Nat → Nat} {L : List Nat} {rs : va_W} {al : Nat → Bool} {A : Nat → Prop}
abbrev rm_Md_thrown : Room := { frames := 0, cells := 0, slots := 0, locals := 0 }
def bk_Md_thrown_0 (F : Nat) (al : Nat → Bool) (u : Mr) (x0 : Nat) : Option (Mr × Int32) := some (u, u.1 x0 0)
set_option maxHeartbeats 4000000 in
set_option maxRecDepth 100000 in
theorem wk_Md_thrown_0 (cx : Cx p l e s m args below meth c cMd_thrown 1 bw "ImageForgeModel" (some .int) D cA ad L rs al A) (F : Nat) (out : Mr × Int32) : ∀ (u : Mr) (x0 : Nat), bk_Md_thrown_0 F al u x0 = some out → okk al 32 x0 = true → Wb p l e rm_Md_thrown s m args below meth c D cA ad L rs A (QI below args s D cA ad L rs A out) 1 0 [(0, .ref (ad x0))] [] u := by
  obtain ⟨hx, hb, hml, hown, hts, hr, hlocks, hK, hA, hD, hN, hal, hNx⟩ := cx
  intro u x0 h q0 H locs ls hl hP hS
  unfold bk_Md_thrown_0 at h
  refine lv_aload_n hx hb dMd_thrown_0 rfl (lv_at hl 0 rfl) ?_
  refine x_get hx hb hts in_Md hown hK hP (hal _ (okk_al q0)) (okk_t q0) rfl rfl 0 (by decide) (hts _ tw_782) (fun _ h9 => h9) rfl dMd_thrown_1 ?_
  exact x_iret hx hb hr hlocks h hP hS dMd_thrown_4
def fn_Md_thrown (F : Nat) (al : Nat → Bool) (u : Mr) (x0 : Nat) : Option (Mr × Int32) := bk_Md_thrown_0 F al u x0
set_option maxHeartbeats 4000000 in
set_option maxRecDepth 100000 in
theorem ct_Md_thrown {l : Launch} {D : va_G} {cA : Nat → ClassId} {ad : Nat → Nat} {L : List Nat} {rs : va_W} {al : Nat → Bool} (hal : ∀ k, al k = true → k ∈ L) (hN : L.Nodup) (F : Nat) (u : Mr) (x0 : Nat) (out : Mr × Int32) (h : fn_Md_thrown F al u x0 = some out) (q0 : okk al 32 x0 = true) : CtI l yMd_thrown wsMd_thrown rm_Md_thrown [.ref (ad x0)] D cA ad L rs u out := by
  intro sz
  refine Met.ofW (cc := cMd_thrown) (maxL := 1) (ret := (some .int)) (by decide) rfl ?_
  intro p e s m args below meth c s₁ B hml hv
  obtain ⟨rfl, hsz, hP, hK, hD0, hNx⟩ := hv
  subst hsz
  have hD := hD0.self (sz := s.heap.size)
  generalize hAe : va_A (ww ad cA L rs u) s.heap.size = A at hD ⊢
  have hA : ∀ q, s.heap.size ≤ q → A q := fun q h => by rw [← hAe]; exact Or.inr h
  have hl := lv_entry ([.ref (ad x0)]) (n := 1) (Nat.le_of_ble_eq_true rfl)
  rw [lg_entry_eq]
  generalize (lg_sl ([.ref (ad x0)]) ++ List.replicate (1 - (lg_sl ([.ref (ad x0)])).length) Slot.unset).toArray = ls at hl ⊢
  exact wk_Md_thrown_0 ⟨B.exec, B.bytes, hml, findClass_of_methodNamed B.named, hts_bw (atoms_spec (ws := wsMd_thrown) B.pre), B.returns, B.notSynchronized, hK, hA, fun v => ww_D hD, hN, hal, hNx⟩ F out u x0 h q0 _ _ _ (lv_sub hl [0] rfl) hP va_S.rf
abbrev rm_Md_fails : Room := { frames := 0, cells := 0, slots := 0, locals := 0 }
def bk_Md_fails_0 (F : Nat) (al : Nat → Bool) (u : Mr) (x0 : Nat) (x1 : Int32) (x2 : Int32) : Option (Mr × Int32) := if x1 = 0 then (ck (isz x1) (some (stI u x0 0 (0 : Int32), x1))) else (ck (isz x1) (some (stI u x0 0 x2, x1)))
set_option maxHeartbeats 4000000 in
set_option maxRecDepth 100000 in
theorem wk_Md_fails_0 (cx : Cx p l e s m args below meth c cMd_fails 3 bw "ImageForgeModel" (some .boolean) D cA ad L rs al A) (F : Nat) (out : Mr × Int32) : ∀ (u : Mr) (x0 : Nat) (x1 : Int32) (x2 : Int32), bk_Md_fails_0 F al u x0 x1 x2 = some out → okk al 32 x0 = true → Wb p l e rm_Md_fails s m args below meth c D cA ad L rs A (QI below args s D cA ad L rs A out) 3 0 [(0, .ref (ad x0)), (1, .int x1), (2, .int x2)] [] u := by
  obtain ⟨hx, hb, hml, hown, hts, hr, hlocks, hK, hA, hD, hN, hal, hNx⟩ := cx
  intro u x0 x1 x2 h q0 H locs ls hl hP hS
  unfold bk_Md_fails_0 at h
  refine lv_aload_n hx hb dMd_fails_0 rfl (lv_at hl 0 rfl) ?_
  refine lv_iload_n hx hb dMd_fails_1 rfl (lv_at hl 1 rfl) ?_
  refine lv_if_eq (tgt := 9) hx hb dMd_fails_2 rfl (fun hc => ?_) (fun hc => ?_)
  · replace h := it_t h hc
    refine lv_iconst (v := 0) hx hb dMd_fails_9 (by decide) ?_
    refine x_put hx hb hts in_Md t_Md t_Md_ok nm_Md hown hK hD hN hP hS (hal _ (okk_al q0)) (okk_t q0) rfl rfl 0 (by decide) (hts _ tw_782) (fun _ h9 => h9) rfl (ty := .int) (by decide +kernel) rfl rfl (Nat.le_of_ble_eq_true rfl) (stI u x0 0 (0 : Int32)) stI_o (by rw [stI_up]; exact eg_32_0) dMd_fails_10 (fun H locs hP hS => ?_)
    refine lv_iload_n hx hb dMd_fails_13 rfl (lv_at hl 1 rfl) ?_
    obtain ⟨h8, h⟩ := ck_some h
    exact x_zret hx hb hr hlocks (isz_nar h8) h hP hS dMd_fails_14
  · replace h := it_f h hc
    refine lv_iload_n hx hb dMd_fails_5 rfl (lv_at hl 2 rfl) ?_
    refine lv_goto (tgt := 10) hx hb dMd_fails_6 rfl ?_
    refine x_put hx hb hts in_Md t_Md t_Md_ok nm_Md hown hK hD hN hP hS (hal _ (okk_al q0)) (okk_t q0) rfl rfl 0 (by decide) (hts _ tw_782) (fun _ h9 => h9) rfl (ty := .int) (by decide +kernel) rfl rfl (Nat.le_of_ble_eq_true rfl) (stI u x0 0 x2) stI_o (by rw [stI_up]; exact eg_32_0) dMd_fails_10 (fun H locs hP hS => ?_)
    refine lv_iload_n hx hb dMd_fails_13 rfl (lv_at hl 1 rfl) ?_
    obtain ⟨h8, h⟩ := ck_some h
    exact x_zret hx hb hr hlocks (isz_nar h8) h hP hS dMd_fails_14
def fn_Md_fails (F : Nat) (al : Nat → Bool) (u : Mr) (x0 : Nat) (x1 : Int32) (x2 : Int32) : Option (Mr × Int32) := bk_Md_fails_0 F al u x0 x1 x2
set_option maxHeartbeats 4000000 in
set_option maxRecDepth 100000 in
theorem ct_Md_fails {l : Launch} {D : va_G} {cA : Nat → ClassId} {ad : Nat → Nat} {L : List Nat} {rs : va_W} {al : Nat → Bool} (hal : ∀ k, al k = true → k ∈ L) (hN : L.Nodup) (F : Nat) (u : Mr) (x0 : Nat) (x1 : Int32) (x2 : Int32) (out : Mr × Int32) (h : fn_Md_fails F al u x0 x1 x2 = some out) (q0 : okk al 32 x0 = true) : CtI l yMd_fails wsMd_fails rm_Md_fails [.ref (ad x0), .int x1, .int x2] D cA ad L rs u out := by
  intro sz
  refine Met.ofW (cc := cMd_fails) (maxL := 3) (ret := (some .boolean)) (by decide) rfl ?_
  intro p e s m args below meth c s₁ B hml hv
  obtain ⟨rfl, hsz, hP, hK, hD0, hNx⟩ := hv
  subst hsz
  have hD := hD0.self (sz := s.heap.size)
  generalize hAe : va_A (ww ad cA L rs u) s.heap.size = A at hD ⊢
  have hA : ∀ q, s.heap.size ≤ q → A q := fun q h => by rw [← hAe]; exact Or.inr h
  have hl := lv_entry ([.ref (ad x0), .int x1, .int x2]) (n := 3) (Nat.le_of_ble_eq_true rfl)
  rw [lg_entry_eq]
  generalize (lg_sl ([.ref (ad x0), .int x1, .int x2]) ++ List.replicate (3 - (lg_sl ([.ref (ad x0), .int x1, .int x2])).length) Slot.unset).toArray = ls at hl ⊢
  exact wk_Md_fails_0 ⟨B.exec, B.bytes, hml, findClass_of_methodNamed B.named, hts_bw (atoms_spec (ws := wsMd_fails) B.pre), B.returns, B.notSynchronized, hK, hA, fun v => ww_D hD, hN, hal, hNx⟩ F out u x0 x1 x2 h q0 _ _ _ (lv_sub hl [0, 1, 2] rfl) hP va_S.rf
abbrev rm_Md_out : Room := { frames := 0, cells := 0, slots := 0, locals := 0 }
def bk_Md_out_9 (F : Nat) (al : Nat → Bool) (u : Mr) : Option (Mr × Int32) := some (u, (1 : Int32))
set_option maxHeartbeats 4000000 in
set_option maxRecDepth 100000 in
theorem wk_Md_out_9 (cx : Cx p l e s m args below meth c cMd_out 2 bw "ImageForgeModel" (some .boolean) D cA ad L rs al A) (F : Nat) (out : Mr × Int32) : ∀ (u : Mr), bk_Md_out_9 F al u = some out → Wb p l e rm_Md_out s m args below meth c D cA ad L rs A (QI below args s D cA ad L rs A out) 2 9 [] [] u := by
  obtain ⟨hx, hb, hml, hown, hts, hr, hlocks, hK, hA, hD, hN, hal, hNx⟩ := cx
  intro u h H locs ls hl hP hS
  unfold bk_Md_out_9 at h
  refine lv_iconst (v := 1) hx hb dMd_out_9 (by decide) ?_
  refine lv_goto (tgt := 14) hx hb dMd_out_10 rfl ?_
  exact x_zret hx hb hr hlocks rfl h hP hS dMd_out_14
def bk_Md_out_0 (F : Nat) (al : Nat → Bool) (u : Mr) (x0 : Int32) (x1 : Int32) : Option (Mr × Int32) := if x0 < 0 then (bk_Md_out_9 F al u) else (if x0 < x1 then (some (u, (0 : Int32))) else (bk_Md_out_9 F al u))
set_option maxHeartbeats 4000000 in
set_option maxRecDepth 100000 in
theorem wk_Md_out_0 (cx : Cx p l e s m args below meth c cMd_out 2 bw "ImageForgeModel" (some .boolean) D cA ad L rs al A) (F : Nat) (out : Mr × Int32) : ∀ (u : Mr) (x0 : Int32) (x1 : Int32), bk_Md_out_0 F al u x0 x1 = some out → Wb p l e rm_Md_out s m args below meth c D cA ad L rs A (QI below args s D cA ad L rs A out) 2 0 [(0, .int x0), (1, .int x1)] [] u := by
  obtain ⟨hx, hb, hml, hown, hts, hr, hlocks, hK, hA, hD, hN, hal, hNx⟩ := cx
  intro u x0 x1 h H locs ls hl hP hS
  unfold bk_Md_out_0 at h
  refine lv_iload_n hx hb dMd_out_0 rfl (lv_at hl 0 rfl) ?_
  refine lv_if_lt (tgt := 9) hx hb dMd_out_1 rfl (fun hc => ?_) (fun hc => ?_)
  · replace h := it_t h hc
    exact wk_Md_out_9 ⟨hx, hb, hml, hown, hts, hr, hlocks, hK, hA, hD, hN, hal, hNx⟩ F out u h _ _ _ (lv_sub hl [] rfl) hP hS
  · replace h := it_f h hc
    refine lv_iload_n hx hb dMd_out_4 rfl (lv_at hl 0 rfl) ?_
    refine lv_iload_n hx hb dMd_out_5 rfl (lv_at hl 1 rfl) ?_
    refine lv_icmp_lt (tgt := 13) hx hb dMd_out_6 rfl (fun hc => ?_) (fun hc => ?_)
    · replace h := it_t h hc
      refine lv_iconst (v := 0) hx hb dMd_out_13 (by decide) ?_
      exact x_zret hx hb hr hlocks rfl h hP hS dMd_out_14
    · replace h := it_f h hc
      exact wk_Md_out_9 ⟨hx, hb, hml, hown, hts, hr, hlocks, hK, hA, hD, hN, hal, hNx⟩ F out u h _ _ _ (lv_sub hl [] rfl) hP hS
def fn_Md_out (F : Nat) (al : Nat → Bool) (u : Mr) (x0 : Int32) (x1 : Int32) : Option (Mr × Int32) := bk_Md_out_0 F al u x0 x1
set_option maxHeartbeats 4000000 in
set_option maxRecDepth 100000 in
theorem ct_Md_out {l : Launch} {D : va_G} {cA : Nat → ClassId} {ad : Nat → Nat} {L : List Nat} {rs : va_W} {al : Nat → Bool} (hal : ∀ k, al k = true → k ∈ L) (hN : L.Nodup) (F : Nat) (u : Mr) (x0 : Int32) (x1 : Int32) (out : Mr × Int32) (h : fn_Md_out F al u x0 x1 = some out)  : CtI l yMd_out wsMd_out rm_Md_out [.int x0, .int x1] D cA ad L rs u out := by
  intro sz
  refine Met.ofW (cc := cMd_out) (maxL := 2) (ret := (some .boolean)) (by decide) rfl ?_
  intro p e s m args below meth c s₁ B hml hv
  obtain ⟨rfl, hsz, hP, hK, hD0, hNx⟩ := hv
  subst hsz
  have hD := hD0.self (sz := s.heap.size)
  generalize hAe : va_A (ww ad cA L rs u) s.heap.size = A at hD ⊢
  have hA : ∀ q, s.heap.size ≤ q → A q := fun q h => by rw [← hAe]; exact Or.inr h
  have hl := lv_entry ([.int x0, .int x1]) (n := 2) (Nat.le_of_ble_eq_true rfl)
  rw [lg_entry_eq]
  generalize (lg_sl ([.int x0, .int x1]) ++ List.replicate (2 - (lg_sl ([.int x0, .int x1])).length) Slot.unset).toArray = ls at hl ⊢
  exact wk_Md_out_0 ⟨B.exec, B.bytes, hml, findClass_of_methodNamed B.named, hts_bw (atoms_spec (ws := wsMd_out) B.pre), B.returns, B.notSynchronized, hK, hA, fun v => ww_D hD, hN, hal, hNx⟩ F out u x0 x1 h  _ _ _ (lv_sub hl [0, 1] rfl) hP va_S.rf
abbrev rm_Md_put : Room := { frames := 1, cells := 0, slots := 0, locals := 22 }
def bk_Md_put_84 (F : Nat) (al : Nat → Bool) : Nat → Mr → Nat → Int64 → Int32 → Int32 → Int32 → Option (Mr × Int32)
  | 0, _, _, _, _, _, _ => none
  | n + 1, u, x0, x3, x5, x6, x7 => if x5 ≤ x7 then (bd1 (rdR al u x0 1 33) fun y1 => (ck (inb x6 8) (ck (inb x6 8) (bd1 (rdR al (stI u y1 x6 ((u.1 y1 x6) + x5)) x0 1 33) fun y5 => (ck (inb x6 8) (some (stI u y1 x6 ((u.1 y1 x6) + x5), (stI u y1 x6 ((u.1 y1 x6) + x5)).1 y5 x6))))))) else (bd1 (rdR al u x0 2 34) fun y8 => (bd1 (rdR al u x0 1 33) fun y10 => (ck (inb x6 8) (ck (inb ((((40 : Int32) * x6) + (u.1 y10 x6)) + x7) 320) (bk_Md_put_84 F al n (stI u y8 ((((40 : Int32) * x6) + (u.1 y10 x6)) + x7) (((x3 >>> (((8 : Int32) * x7).toInt64 &&& 63)) &&& (255 : Int64)).toInt32)) x0 x3 x5 x6 (x7 + (1 : Int32)))))))
set_option maxHeartbeats 4000000 in
set_option maxRecDepth 100000 in
theorem wk_Md_put_84 (cx : Cx p l e s m args below meth c cMd_put 8 bw "ImageForgeModel" (some .int) D cA ad L rs al A) (F : Nat) (out : Mr × Int32) : ∀ n : Nat, ∀ (u : Mr) (x0 : Nat) (x3 : Int64) (x5 : Int32) (x6 : Int32) (x7 : Int32), bk_Md_put_84 F al n u x0 x3 x5 x6 x7 = some out → okk al 32 x0 = true → Wb p l e rm_Md_put s m args below meth c D cA ad L rs A (QI below args s D cA ad L rs A out) 8 84 [(0, .ref (ad x0)), (3, .long x3), (5, .int x5), (6, .int x6), (7, .int x7)] [] u := by
  obtain ⟨hx, hb, hml, hown, hts, hr, hlocks, hK, hA, hD, hN, hal, hNx⟩ := cx
  intro n
  induction n with
  | zero =>
    intro u x0 x3 x5 x6 x7 h
    cases h
  | succ n ih =>
    intro u x0 x3 x5 x6 x7 h q0 H locs ls hl hP hS
    rw [bk_Md_put_84] at h
    refine lv_iload hx hb dMd_put_84 (lv_at hl 4 rfl) ?_
    refine lv_iload hx hb dMd_put_86 (lv_at hl 2 rfl) ?_
    refine lv_icmp_ge (tgt := 130) hx hb dMd_put_88 rfl (fun hc => ?_) (fun hc => ?_)
    · replace h := it_t h hc
      refine lv_aload_n hx hb dMd_put_130 rfl (lv_at hl 0 rfl) ?_
      obtain ⟨y1, hy2, h⟩ := bd1_some h
      obtain ⟨hy2a, hy2⟩ := rdR_some hy2
      refine x_get hx hb hts in_Md hown hK hP (hal _ (okk_al q0)) (okk_t q0) rfl rfl 1 (by decide) (hts _ tw_783) (fun _ h9 => h9) (congrArg some (x_rf hy2a)) dMd_put_131 ?_
      refine lv_iload hx hb dMd_put_134 (lv_at hl 3 rfl) ?_
      refine lv_dup2_11 hx hb dMd_put_136 rfl rfl ?_
      obtain ⟨hi3, h⟩ := ck_some h
      refine x_iald hx hb hK hP (hal _ (okk_al hy2)) (okk_t hy2) 0 (fun _ _ _ => rfl) rfl (inb_in hi3) dMd_put_137 ?_
      refine lv_iload hx hb dMd_put_138 (lv_at hl 2 rfl) ?_
      refine lv_iadd hx hb dMd_put_140 ?_
      obtain ⟨hi4, h⟩ := ck_some h
      refine x_iast hx hb hK hD hN hP hS (hal _ (okk_al hy2)) (okk_t hy2) 0 (fun _ _ _ => rfl) rfl (by decide) (inb_in hi4) dMd_put_141 (fun H locs hP hS => ?_)
      refine lv_aload_n hx hb dMd_put_142 rfl (lv_at hl 0 rfl) ?_
      obtain ⟨y5, hy6, h⟩ := bd1_some h
      obtain ⟨hy6a, hy6⟩ := rdR_some hy6
      refine x_get hx hb hts in_Md hown hK hP (hal _ (okk_al q0)) (okk_t q0) rfl rfl 1 (by decide) (hts _ tw_783) (fun _ h9 => h9) (congrArg some (x_rf hy6a)) dMd_put_143 ?_
      refine lv_iload hx hb dMd_put_146 (lv_at hl 3 rfl) ?_
      obtain ⟨hi7, h⟩ := ck_some h
      refine x_iald hx hb hK hP (hal _ (okk_al hy6)) (okk_t hy6) 0 (fun _ _ _ => rfl) rfl (inb_in hi7) dMd_put_148 ?_
      exact x_iret hx hb hr hlocks h hP hS dMd_put_149
    · replace h := it_f h hc
      refine lv_aload_n hx hb dMd_put_91 rfl (lv_at hl 0 rfl) ?_
      obtain ⟨y8, hy9, h⟩ := bd1_some h
      obtain ⟨hy9a, hy9⟩ := rdR_some hy9
      refine x_get hx hb hts in_Md hown hK hP (hal _ (okk_al q0)) (okk_t q0) rfl rfl 2 (by decide) (hts _ tw_784) (fun _ h9 => h9) (congrArg some (x_rf hy9a)) dMd_put_92 ?_
      refine lv_bipush (v := 40) hx hb dMd_put_95 (by decide) ?_
      refine lv_iload hx hb dMd_put_97 (lv_at hl 3 rfl) ?_
      refine lv_imul hx hb dMd_put_99 ?_
      refine lv_aload_n hx hb dMd_put_100 rfl (lv_at hl 0 rfl) ?_
      obtain ⟨y10, hy11, h⟩ := bd1_some h
      obtain ⟨hy11a, hy11⟩ := rdR_some hy11
      refine x_get hx hb hts in_Md hown hK hP (hal _ (okk_al q0)) (okk_t q0) rfl rfl 1 (by decide) (hts _ tw_783) (fun _ h9 => h9) (congrArg some (x_rf hy11a)) dMd_put_101 ?_
      refine lv_iload hx hb dMd_put_104 (lv_at hl 3 rfl) ?_
      obtain ⟨hi12, h⟩ := ck_some h
      refine x_iald hx hb hK hP (hal _ (okk_al hy11)) (okk_t hy11) 0 (fun _ _ _ => rfl) rfl (inb_in hi12) dMd_put_106 ?_
      refine lv_iadd hx hb dMd_put_107 ?_
      refine lv_iload hx hb dMd_put_108 (lv_at hl 4 rfl) ?_
      refine lv_iadd hx hb dMd_put_110 ?_
      refine lv_lload_n hx hb dMd_put_111 rfl (lv_at hl 1 rfl) ?_
      refine lv_bipush (v := 8) hx hb dMd_put_112 (by decide) ?_
      refine lv_iload hx hb dMd_put_114 (lv_at hl 4 rfl) ?_
      refine lv_imul hx hb dMd_put_116 ?_
      refine lv_lshr (v := x3 >>> (((8 : Int32) * x7).toInt64 &&& 63)) hx hb dMd_put_117 rfl ?_
      refine lv_ldc2 (v := 255) hx hb hown (hts _ tw_894) dMd_put_118 ?_
      refine lv_land hx hb dMd_put_121 ?_
      refine lv_l2i (v := ((x3 >>> (((8 : Int32) * x7).toInt64 &&& 63)) &&& (255 : Int64)).toInt32) hx hb dMd_put_122 rfl ?_
      obtain ⟨hi13, h⟩ := ck_some h
      refine x_iast hx hb hK hD hN hP hS (hal _ (okk_al hy9)) (okk_t hy9) 0 (fun _ _ _ => rfl) rfl (by decide) (inb_in hi13) dMd_put_123 (fun H locs hP hS => ?_)
      refine lv_iinc (k := 4) (v := x7 + (1 : Int32)) (lv' := [(7, .int (x7 + (1 : Int32))), (0, .ref (ad x0)), (3, .long x3), (5, .int x5), (6, .int x6)]) hx hb dMd_put_124 hl rfl (congrArg (fun z => _ + z) (show Int32.ofInt 1 = 1 by decide)) (by decide) rfl (fun ls hl => ?_)
      refine lv_goto (tgt := 84) hx hb dMd_put_127 rfl ?_
      exact ih (stI u y8 ((((40 : Int32) * x6) + (u.1 y10 x6)) + x7) (((x3 >>> (((8 : Int32) * x7).toInt64 &&& 63)) &&& (255 : Int64)).toInt32)) x0 x3 x5 x6 (x7 + (1 : Int32)) h q0 _ _ _ (lv_sub hl [1, 2, 3, 4, 0] rfl) hP hS
def bk_Md_put_72 (F : Nat) (al : Nat → Bool) (u : Mr) (s0 : Nat) (s1 : Int32) (x0 : Nat) (x3 : Int64) (x5 : Int32) (x6 : Int32) : Option (Mr × Int32) := bd2 (fn_Md_fails F al u s0 s1 (2 : Int32)) fun u1 v1 => (if v1 = 0 then (bk_Md_put_84 F al F u1 x0 x3 x5 x6 (0 : Int32)) else (some (u1, (0 : Int32))))
set_option maxHeartbeats 4000000 in
set_option maxRecDepth 100000 in
theorem wk_Md_put_72 (cx : Cx p l e s m args below meth c cMd_put 8 bw "ImageForgeModel" (some .int) D cA ad L rs al A) (F : Nat) (out : Mr × Int32) : ∀ (u : Mr) (s0 : Nat) (s1 : Int32) (x0 : Nat) (x3 : Int64) (x5 : Int32) (x6 : Int32), bk_Md_put_72 F al u s0 s1 x0 x3 x5 x6 = some out → okk al 32 x0 = true → okk al 32 s0 = true → Wb p l e rm_Md_put s m args below meth c D cA ad L rs A (QI below args s D cA ad L rs A out) 8 72 [(0, .ref (ad x0)), (3, .long x3), (5, .int x5), (6, .int x6)] [.int s1, .ref (ad s0)] u := by
  obtain ⟨hx, hb, hml, hown, hts, hr, hlocks, hK, hA, hD, hN, hal, hNx⟩ := cx
  intro u s0 s1 x0 x3 x5 x6 h q0 qs0 H locs ls hl hP hS
  unfold bk_Md_put_72 at h
  refine lv_iconst (v := 2) hx hb dMd_put_72 (by decide) ?_
  obtain ⟨u1, v1, hc1, h⟩ := bd2_some h
  refine x_ci (u := u) (out := (u1, v1)) hA hD hS (va_runV (As := [.int s1, .int (2 : Int32)]) (rest := []) ⟨hx, hb, hml, hown, hts⟩ (ct_Md_fails hal hN F u s0 s1 (2 : Int32) (u1, v1) hc1 qs0 _) ⟨callB_of 2 hts gdMd_fails rfl rfl rfl (hts _ tw_11) (hts _ tw_890) hdMd_fails ⟨Nat.le_of_ble_eq_true rfl, Nat.le_of_ble_eq_true rfl⟩, (hts _ tw_892), (hts _ tp_52)⟩ (x_preV hK hD hNx hP (hal _ (okk_al qs0)) (okk_t qs0) rfl rfl) rfl rfl hl.1 rfl (lv_room (Nat.le_of_ble_eq_true rfl)) dMd_put_73 ⟨Nat.zero_le _, Nat.zero_le _⟩) (fun H locs hP hS => ?_)
  refine lv_if_eq (tgt := 81) hx hb dMd_put_76 rfl (fun hc => ?_) (fun hc => ?_)
  · replace h := it_t h hc
    refine lv_iconst (v := 0) hx hb dMd_put_81 (by decide) ?_
    refine lv_istore (lv' := [(7, .int (0 : Int32)), (0, .ref (ad x0)), (3, .long x3), (5, .int x5), (6, .int x6)]) hx hb dMd_put_82 hl (by decide) rfl (fun ls hl => ?_)
    exact wk_Md_put_84 ⟨hx, hb, hml, hown, hts, hr, hlocks, hK, hA, hD, hN, hal, hNx⟩ F out F u1 x0 x3 x5 x6 (0 : Int32) h q0 _ _ _ (lv_sub hl [1, 2, 3, 4, 0] rfl) hP hS
  · replace h := it_f h hc
    refine lv_iconst (v := 0) hx hb dMd_put_79 (by decide) ?_
    exact x_iret hx hb hr hlocks h hP hS dMd_put_80
def bk_Md_put_35 (F : Nat) (al : Nat → Bool) (u : Mr) (s0 : Nat) (s1 : Int32) (x0 : Nat) (x1 : Int32) (x2 : Int32) (x3 : Int64) (x5 : Int32) : Option (Mr × Int32) := bd2 (fn_Md_fails F al u s0 s1 (1 : Int32)) fun u1 v1 => (if v1 = 0 then (bd1 (rdR al u1 x0 1 33) fun y2 => (ck (inb (((2 : Int32) * x1) + x2) 8) (if ((u1.1 y2 (((2 : Int32) * x1) + x2)) + x5) ≤ (40 : Int32) then (bk_Md_put_72 F al u1 x0 (0 : Int32) x0 x3 x5 (((2 : Int32) * x1) + x2)) else (bk_Md_put_72 F al u1 x0 (1 : Int32) x0 x3 x5 (((2 : Int32) * x1) + x2))))) else (some (u1, (0 : Int32))))
set_option maxHeartbeats 4000000 in
set_option maxRecDepth 100000 in
theorem wk_Md_put_35 (cx : Cx p l e s m args below meth c cMd_put 8 bw "ImageForgeModel" (some .int) D cA ad L rs al A) (F : Nat) (out : Mr × Int32) : ∀ (u : Mr) (s0 : Nat) (s1 : Int32) (x0 : Nat) (x1 : Int32) (x2 : Int32) (x3 : Int64) (x5 : Int32), bk_Md_put_35 F al u s0 s1 x0 x1 x2 x3 x5 = some out → okk al 32 x0 = true → okk al 32 s0 = true → Wb p l e rm_Md_put s m args below meth c D cA ad L rs A (QI below args s D cA ad L rs A out) 8 35 [(0, .ref (ad x0)), (1, .int x1), (2, .int x2), (3, .long x3), (5, .int x5)] [.int s1, .ref (ad s0)] u := by
  obtain ⟨hx, hb, hml, hown, hts, hr, hlocks, hK, hA, hD, hN, hal, hNx⟩ := cx
  intro u s0 s1 x0 x1 x2 x3 x5 h q0 qs0 H locs ls hl hP hS
  unfold bk_Md_put_35 at h
  refine lv_iconst (v := 1) hx hb dMd_put_35 (by decide) ?_
  obtain ⟨u1, v1, hc1, h⟩ := bd2_some h
  refine x_ci (u := u) (out := (u1, v1)) hA hD hS (va_runV (As := [.int s1, .int (1 : Int32)]) (rest := []) ⟨hx, hb, hml, hown, hts⟩ (ct_Md_fails hal hN F u s0 s1 (1 : Int32) (u1, v1) hc1 qs0 _) ⟨callB_of 2 hts gdMd_fails rfl rfl rfl (hts _ tw_11) (hts _ tw_890) hdMd_fails ⟨Nat.le_of_ble_eq_true rfl, Nat.le_of_ble_eq_true rfl⟩, (hts _ tw_892), (hts _ tp_52)⟩ (x_preV hK hD hNx hP (hal _ (okk_al qs0)) (okk_t qs0) rfl rfl) rfl rfl hl.1 rfl (lv_room (Nat.le_of_ble_eq_true rfl)) dMd_put_36 ⟨Nat.zero_le _, Nat.zero_le _⟩) (fun H locs hP hS => ?_)
  refine lv_if_eq (tgt := 44) hx hb dMd_put_39 rfl (fun hc => ?_) (fun hc => ?_)
  · replace h := it_t h hc
    refine lv_iconst (v := 2) hx hb dMd_put_44 (by decide) ?_
    refine lv_iload_n hx hb dMd_put_45 rfl (lv_at hl 1 rfl) ?_
    refine lv_imul hx hb dMd_put_46 ?_
    refine lv_iload_n hx hb dMd_put_47 rfl (lv_at hl 2 rfl) ?_
    refine lv_iadd hx hb dMd_put_48 ?_
    refine lv_istore (lv' := [(6, .int (((2 : Int32) * x1) + x2)), (0, .ref (ad x0)), (1, .int x1), (2, .int x2), (3, .long x3), (5, .int x5)]) hx hb dMd_put_49 hl (by decide) rfl (fun ls hl => ?_)
    refine lv_aload_n hx hb dMd_put_51 rfl (lv_at hl 1 rfl) ?_
    refine lv_aload_n hx hb dMd_put_52 rfl (lv_at hl 1 rfl) ?_
    obtain ⟨y2, hy3, h⟩ := bd1_some h
    obtain ⟨hy3a, hy3⟩ := rdR_some hy3
    refine x_get hx hb hts in_Md hown hK hP (hal _ (okk_al q0)) (okk_t q0) rfl rfl 1 (by decide) (hts _ tw_783) (fun _ h9 => h9) (congrArg some (x_rf hy3a)) dMd_put_53 ?_
    refine lv_iload hx hb dMd_put_56 (lv_at hl 0 rfl) ?_
    obtain ⟨hi4, h⟩ := ck_some h
    refine x_iald hx hb hK hP (hal _ (okk_al hy3)) (okk_t hy3) 0 (fun _ _ _ => rfl) rfl (inb_in hi4) dMd_put_58 ?_
    refine lv_iload hx hb dMd_put_59 (lv_at hl 5 rfl) ?_
    refine lv_iadd hx hb dMd_put_61 ?_
    refine lv_bipush (v := 40) hx hb dMd_put_62 (by decide) ?_
    refine lv_icmp_le (tgt := 71) hx hb dMd_put_64 rfl (fun hc => ?_) (fun hc => ?_)
    · replace h := it_t h hc
      refine lv_iconst (v := 0) hx hb dMd_put_71 (by decide) ?_
      exact wk_Md_put_72 ⟨hx, hb, hml, hown, hts, hr, hlocks, hK, hA, hD, hN, hal, hNx⟩ F out u1 x0 (0 : Int32) x0 x3 x5 (((2 : Int32) * x1) + x2) h q0 q0 _ _ _ (lv_sub hl [1, 4, 5, 0] rfl) hP hS
    · replace h := it_f h hc
      refine lv_iconst (v := 1) hx hb dMd_put_67 (by decide) ?_
      refine lv_goto (tgt := 72) hx hb dMd_put_68 rfl ?_
      exact wk_Md_put_72 ⟨hx, hb, hml, hown, hts, hr, hlocks, hK, hA, hD, hN, hal, hNx⟩ F out u1 x0 (1 : Int32) x0 x3 x5 (((2 : Int32) * x1) + x2) h q0 q0 _ _ _ (lv_sub hl [1, 4, 5, 0] rfl) hP hS
  · replace h := it_f h hc
    refine lv_iconst (v := 0) hx hb dMd_put_42 (by decide) ?_
    exact x_iret hx hb hr hlocks h hP hS dMd_put_43
def bk_Md_put_30 (F : Nat) (al : Nat → Bool) (u : Mr) (s0 : Nat) (x0 : Nat) (x1 : Int32) (x2 : Int32) (x3 : Int64) (x5 : Int32) : Option (Mr × Int32) := bk_Md_put_35 F al u s0 (1 : Int32) x0 x1 x2 x3 x5
set_option maxHeartbeats 4000000 in
set_option maxRecDepth 100000 in
theorem wk_Md_put_30 (cx : Cx p l e s m args below meth c cMd_put 8 bw "ImageForgeModel" (some .int) D cA ad L rs al A) (F : Nat) (out : Mr × Int32) : ∀ (u : Mr) (s0 : Nat) (x0 : Nat) (x1 : Int32) (x2 : Int32) (x3 : Int64) (x5 : Int32), bk_Md_put_30 F al u s0 x0 x1 x2 x3 x5 = some out → okk al 32 x0 = true → okk al 32 s0 = true → Wb p l e rm_Md_put s m args below meth c D cA ad L rs A (QI below args s D cA ad L rs A out) 8 30 [(0, .ref (ad x0)), (1, .int x1), (2, .int x2), (3, .long x3), (5, .int x5)] [.ref (ad s0)] u := by
  obtain ⟨hx, hb, hml, hown, hts, hr, hlocks, hK, hA, hD, hN, hal, hNx⟩ := cx
  intro u s0 x0 x1 x2 x3 x5 h q0 qs0 H locs ls hl hP hS
  unfold bk_Md_put_30 at h
  refine lv_iconst (v := 1) hx hb dMd_put_30 (by decide) ?_
  refine lv_goto (tgt := 35) hx hb dMd_put_31 rfl ?_
  exact wk_Md_put_35 ⟨hx, hb, hml, hown, hts, hr, hlocks, hK, hA, hD, hN, hal, hNx⟩ F out u s0 (1 : Int32) x0 x1 x2 x3 x5 h q0 qs0 _ _ _ (lv_sub hl [0, 1, 2, 3, 4] rfl) hP hS
def bk_Md_put_0 (F : Nat) (al : Nat → Bool) (u : Mr) (x0 : Nat) (x1 : Int32) (x2 : Int32) (x3 : Int64) (x5 : Int32) : Option (Mr × Int32) := bd2 (fn_Md_out F al u x1 (4 : Int32)) fun u1 v1 => (if v1 = 0 then (bd2 (fn_Md_out F al u1 x2 (2 : Int32)) fun u2 v2 => (if v2 = 0 then (if x5 < (1 : Int32) then (bk_Md_put_30 F al u2 x0 x0 x1 x2 x3 x5) else (if x5 ≤ (8 : Int32) then (bk_Md_put_35 F al u2 x0 (0 : Int32) x0 x1 x2 x3 x5) else (bk_Md_put_30 F al u2 x0 x0 x1 x2 x3 x5))) else (bk_Md_put_30 F al u2 x0 x0 x1 x2 x3 x5))) else (bk_Md_put_30 F al u1 x0 x0 x1 x2 x3 x5))
set_option maxHeartbeats 4000000 in
set_option maxRecDepth 100000 in
theorem wk_Md_put_0 (cx : Cx p l e s m args below meth c cMd_put 8 bw "ImageForgeModel" (some .int) D cA ad L rs al A) (F : Nat) (out : Mr × Int32) : ∀ (u : Mr) (x0 : Nat) (x1 : Int32) (x2 : Int32) (x3 : Int64) (x5 : Int32), bk_Md_put_0 F al u x0 x1 x2 x3 x5 = some out → okk al 32 x0 = true → Wb p l e rm_Md_put s m args below meth c D cA ad L rs A (QI below args s D cA ad L rs A out) 8 0 [(0, .ref (ad x0)), (1, .int x1), (2, .int x2), (3, .long x3), (5, .int x5)] [] u := by
  obtain ⟨hx, hb, hml, hown, hts, hr, hlocks, hK, hA, hD, hN, hal, hNx⟩ := cx
  intro u x0 x1 x2 x3 x5 h q0 H locs ls hl hP hS
  unfold bk_Md_put_0 at h
  refine lv_aload_n hx hb dMd_put_0 rfl (lv_at hl 0 rfl) ?_
  refine lv_iload_n hx hb dMd_put_1 rfl (lv_at hl 1 rfl) ?_
  refine lv_iconst (v := 4) hx hb dMd_put_2 (by decide) ?_
  obtain ⟨u1, v1, hc1, h⟩ := bd2_some h
  refine x_ci (u := u) (out := (u1, v1)) hA hD hS (va_runS (As := [.int x1, .int (4 : Int32)]) (rest := [.ref (ad x0)]) ⟨hx, hb, hml, hown, hts⟩ (ct_Md_out hal hN F u x1 (4 : Int32) (u1, v1) hc1  _) ⟨callB_of 2 hts gdMd_out rfl rfl rfl (hts _ tw_11) (hts _ tw_887) hdMd_out ⟨Nat.le_of_ble_eq_true rfl, Nat.le_of_ble_eq_true rfl⟩, (hts _ tw_888)⟩ (x_preS hK hD hNx hP) rfl rfl hl.1 rfl (lv_room (Nat.le_of_ble_eq_true rfl)) dMd_put_3 ⟨Nat.zero_le _, Nat.zero_le _⟩) (fun H locs hP hS => ?_)
  refine lv_if_ne (tgt := 30) hx hb dMd_put_6 rfl (fun hc => ?_) (fun hc => ?_)
  · replace h := it_f h hc
    exact wk_Md_put_30 ⟨hx, hb, hml, hown, hts, hr, hlocks, hK, hA, hD, hN, hal, hNx⟩ F out u1 x0 x0 x1 x2 x3 x5 h q0 q0 _ _ _ (lv_sub hl [0, 1, 2, 3, 4] rfl) hP hS
  · replace h := it_t h hc
    refine lv_iload_n hx hb dMd_put_9 rfl (lv_at hl 2 rfl) ?_
    refine lv_iconst (v := 2) hx hb dMd_put_10 (by decide) ?_
    obtain ⟨u2, v2, hc2, h⟩ := bd2_some h
    refine x_ci (u := u1) (out := (u2, v2)) hA hD hS (va_runS (As := [.int x2, .int (2 : Int32)]) (rest := [.ref (ad x0)]) ⟨hx, hb, hml, hown, hts⟩ (ct_Md_out hal hN F u1 x2 (2 : Int32) (u2, v2) hc2  _) ⟨callB_of 2 hts gdMd_out rfl rfl rfl (hts _ tw_11) (hts _ tw_887) hdMd_out ⟨Nat.le_of_ble_eq_true rfl, Nat.le_of_ble_eq_true rfl⟩, (hts _ tw_888)⟩ (x_preS hK hD hNx hP) rfl rfl hl.1 rfl (lv_room (Nat.le_of_ble_eq_true rfl)) dMd_put_11 ⟨Nat.zero_le _, Nat.zero_le _⟩) (fun H locs hP hS => ?_)
    refine lv_if_ne (tgt := 30) hx hb dMd_put_14 rfl (fun hc => ?_) (fun hc => ?_)
    · replace h := it_f h hc
      exact wk_Md_put_30 ⟨hx, hb, hml, hown, hts, hr, hlocks, hK, hA, hD, hN, hal, hNx⟩ F out u2 x0 x0 x1 x2 x3 x5 h q0 q0 _ _ _ (lv_sub hl [0, 1, 2, 3, 4] rfl) hP hS
    · replace h := it_t h hc
      refine lv_iload hx hb dMd_put_17 (lv_at hl 4 rfl) ?_
      refine lv_iconst (v := 1) hx hb dMd_put_19 (by decide) ?_
      refine lv_icmp_lt (tgt := 30) hx hb dMd_put_20 rfl (fun hc => ?_) (fun hc => ?_)
      · replace h := it_t h hc
        exact wk_Md_put_30 ⟨hx, hb, hml, hown, hts, hr, hlocks, hK, hA, hD, hN, hal, hNx⟩ F out u2 x0 x0 x1 x2 x3 x5 h q0 q0 _ _ _ (lv_sub hl [0, 1, 2, 3, 4] rfl) hP hS
      · replace h := it_f h hc
        refine lv_iload hx hb dMd_put_23 (lv_at hl 4 rfl) ?_
        refine lv_bipush (v := 8) hx hb dMd_put_25 (by decide) ?_
        refine lv_icmp_le (tgt := 34) hx hb dMd_put_27 rfl (fun hc => ?_) (fun hc => ?_)
        · replace h := it_t h hc
          refine lv_iconst (v := 0) hx hb dMd_put_34 (by decide) ?_
          exact wk_Md_put_35 ⟨hx, hb, hml, hown, hts, hr, hlocks, hK, hA, hD, hN, hal, hNx⟩ F out u2 x0 (0 : Int32) x0 x1 x2 x3 x5 h q0 q0 _ _ _ (lv_sub hl [0, 1, 2, 3, 4] rfl) hP hS
        · replace h := it_f h hc
          exact wk_Md_put_30 ⟨hx, hb, hml, hown, hts, hr, hlocks, hK, hA, hD, hN, hal, hNx⟩ F out u2 x0 x0 x1 x2 x3 x5 h q0 q0 _ _ _ (lv_sub hl [0, 1, 2, 3, 4] rfl) hP hS
def fn_Md_put (F : Nat) (al : Nat → Bool) (u : Mr) (x0 : Nat) (x1 : Int32) (x2 : Int32) (x3 : Int64) (x5 : Int32) : Option (Mr × Int32) := bk_Md_put_0 F al u x0 x1 x2 x3 x5
set_option maxHeartbeats 4000000 in
set_option maxRecDepth 100000 in
theorem ct_Md_put {l : Launch} {D : va_G} {cA : Nat → ClassId} {ad : Nat → Nat} {L : List Nat} {rs : va_W} {al : Nat → Bool} (hal : ∀ k, al k = true → k ∈ L) (hN : L.Nodup) (F : Nat) (u : Mr) (x0 : Nat) (x1 : Int32) (x2 : Int32) (x3 : Int64) (x5 : Int32) (out : Mr × Int32) (h : fn_Md_put F al u x0 x1 x2 x3 x5 = some out) (q0 : okk al 32 x0 = true) : CtI l yMd_put wsMd_put rm_Md_put [.ref (ad x0), .int x1, .int x2, .long x3, .int x5] D cA ad L rs u out := by
  intro sz
  refine Met.ofW (cc := cMd_put) (maxL := 8) (ret := (some .int)) (by decide) rfl ?_
  intro p e s m args below meth c s₁ B hml hv
  obtain ⟨rfl, hsz, hP, hK, hD0, hNx⟩ := hv
  subst hsz
  have hD := hD0.self (sz := s.heap.size)
  generalize hAe : va_A (ww ad cA L rs u) s.heap.size = A at hD ⊢
  have hA : ∀ q, s.heap.size ≤ q → A q := fun q h => by rw [← hAe]; exact Or.inr h
  have hl := lv_entry ([.ref (ad x0), .int x1, .int x2, .long x3, .int x5]) (n := 8) (Nat.le_of_ble_eq_true rfl)
  rw [lg_entry_eq]
  generalize (lg_sl ([.ref (ad x0), .int x1, .int x2, .long x3, .int x5]) ++ List.replicate (8 - (lg_sl ([.ref (ad x0), .int x1, .int x2, .long x3, .int x5])).length) Slot.unset).toArray = ls at hl ⊢
  exact wk_Md_put_0 ⟨B.exec, B.bytes, hml, findClass_of_methodNamed B.named, hts_bw (atoms_spec (ws := wsMd_put) B.pre), B.returns, B.notSynchronized, hK, hA, fun v => ww_D hD, hN, hal, hNx⟩ F out u x0 x1 x2 x3 x5 h q0 _ _ _ (lv_sub hl [0, 1, 2, 3, 4] rfl) hP va_S.rf
abbrev rm_Md_define : Room := { frames := 1, cells := 0, slots := 0, locals := 22 }
def bk_Md_define_89 (F : Nat) (al : Nat → Bool) (u : Mr) (s0 : Nat) (s1 : Int32) (x0 : Nat) (x1 : Int32) (x2 : Int32) (x3 : Int32) (x4 : Int32) : Option (Mr × Int32) := bd2 (fn_Md_fails F al u s0 s1 (2 : Int32)) fun u1 v1 => (if v1 = 0 then (bd1 (rdR al u1 x0 3 35) fun y2 => (ck (inb x1 4) (bd1 (rdR al u1 x0 4 36) fun y5 => (ck (inb (((6 : Int32) * x1) + (u1.1 y2 x1)) 24) (bd1 (rdR al (stI u1 y5 (((6 : Int32) * x1) + (u1.1 y2 x1)) x2) x0 5 36) fun y8 => (ck (inb (((6 : Int32) * x1) + (u1.1 y2 x1)) 24) (bd1 (rdR al (stI (stI u1 y5 (((6 : Int32) * x1) + (u1.1 y2 x1)) x2) y8 (((6 : Int32) * x1) + (u1.1 y2 x1)) x3) x0 6 36) fun y11 => (ck (inb (((6 : Int32) * x1) + (u1.1 y2 x1)) 24) (bd1 (rdR al (stI (stI (stI u1 y5 (((6 : Int32) * x1) + (u1.1 y2 x1)) x2) y8 (((6 : Int32) * x1) + (u1.1 y2 x1)) x3) y11 (((6 : Int32) * x1) + (u1.1 y2 x1)) x4) x0 3 35) fun y14 => (ck (inb x1 4) (ck (inb x1 4) (some (stI (stI (stI (stI u1 y5 (((6 : Int32) * x1) + (u1.1 y2 x1)) x2) y8 (((6 : Int32) * x1) + (u1.1 y2 x1)) x3) y11 (((6 : Int32) * x1) + (u1.1 y2 x1)) x4) y14 x1 (((stI (stI (stI u1 y5 (((6 : Int32) * x1) + (u1.1 y2 x1)) x2) y8 (((6 : Int32) * x1) + (u1.1 y2 x1)) x3) y11 (((6 : Int32) * x1) + (u1.1 y2 x1)) x4).1 y14 x1) + (1 : Int32)), 0))))))))))))) else (some (u1, 0)))
set_option maxHeartbeats 4000000 in
set_option maxRecDepth 100000 in
theorem wk_Md_define_89 (cx : Cx p l e s m args below meth c cMd_define 6 bw "ImageForgeModel" none D cA ad L rs al A) (F : Nat) (out : Mr × Int32) : ∀ (u : Mr) (s0 : Nat) (s1 : Int32) (x0 : Nat) (x1 : Int32) (x2 : Int32) (x3 : Int32) (x4 : Int32), bk_Md_define_89 F al u s0 s1 x0 x1 x2 x3 x4 = some out → okk al 32 x0 = true → okk al 32 s0 = true → Wb p l e rm_Md_define s m args below meth c D cA ad L rs A (QV below args s D cA ad L rs A out) 6 89 [(0, .ref (ad x0)), (1, .int x1), (2, .int x2), (3, .int x3), (4, .int x4)] [.int s1, .ref (ad s0)] u := by
  obtain ⟨hx, hb, hml, hown, hts, hr, hlocks, hK, hA, hD, hN, hal, hNx⟩ := cx
  intro u s0 s1 x0 x1 x2 x3 x4 h q0 qs0 H locs ls hl hP hS
  unfold bk_Md_define_89 at h
  refine lv_iconst (v := 2) hx hb dMd_define_89 (by decide) ?_
  obtain ⟨u1, v1, hc1, h⟩ := bd2_some h
  refine x_ci (u := u) (out := (u1, v1)) hA hD hS (va_runV (As := [.int s1, .int (2 : Int32)]) (rest := []) ⟨hx, hb, hml, hown, hts⟩ (ct_Md_fails hal hN F u s0 s1 (2 : Int32) (u1, v1) hc1 qs0 _) ⟨callB_of 2 hts gdMd_fails rfl rfl rfl (hts _ tw_11) (hts _ tw_890) hdMd_fails ⟨Nat.le_of_ble_eq_true rfl, Nat.le_of_ble_eq_true rfl⟩, (hts _ tw_892), (hts _ tp_52)⟩ (x_preV hK hD hNx hP (hal _ (okk_al qs0)) (okk_t qs0) rfl rfl) rfl rfl hl.1 rfl (lv_room (Nat.le_of_ble_eq_true rfl)) dMd_define_90 ⟨Nat.zero_le _, Nat.zero_le _⟩) (fun H locs hP hS => ?_)
  refine lv_if_eq (tgt := 97) hx hb dMd_define_93 rfl (fun hc => ?_) (fun hc => ?_)
  · replace h := it_t h hc
    refine lv_bipush (v := 6) hx hb dMd_define_97 (by decide) ?_
    refine lv_iload_n hx hb dMd_define_99 rfl (lv_at hl 1 rfl) ?_
    refine lv_imul hx hb dMd_define_100 ?_
    refine lv_aload_n hx hb dMd_define_101 rfl (lv_at hl 0 rfl) ?_
    obtain ⟨y2, hy3, h⟩ := bd1_some h
    obtain ⟨hy3a, hy3⟩ := rdR_some hy3
    refine x_get hx hb hts in_Md hown hK hP (hal _ (okk_al q0)) (okk_t q0) rfl rfl 3 (by decide) (hts _ tw_785) (fun _ h9 => h9) (congrArg some (x_rf hy3a)) dMd_define_102 ?_
    refine lv_iload_n hx hb dMd_define_105 rfl (lv_at hl 1 rfl) ?_
    obtain ⟨hi4, h⟩ := ck_some h
    refine x_iald hx hb hK hP (hal _ (okk_al hy3)) (okk_t hy3) 0 (fun _ _ _ => rfl) rfl (inb_in hi4) dMd_define_106 ?_
    refine lv_iadd hx hb dMd_define_107 ?_
    refine lv_istore (lv' := [(5, .int (((6 : Int32) * x1) + (u1.1 y2 x1))), (0, .ref (ad x0)), (1, .int x1), (2, .int x2), (3, .int x3), (4, .int x4)]) hx hb dMd_define_108 hl (by decide) rfl (fun ls hl => ?_)
    refine lv_aload_n hx hb dMd_define_110 rfl (lv_at hl 1 rfl) ?_
    obtain ⟨y5, hy6, h⟩ := bd1_some h
    obtain ⟨hy6a, hy6⟩ := rdR_some hy6
    refine x_get hx hb hts in_Md hown hK hP (hal _ (okk_al q0)) (okk_t q0) rfl rfl 4 (by decide) (hts _ tw_786) (fun _ h9 => h9) (congrArg some (x_rf hy6a)) dMd_define_111 ?_
    refine lv_iload hx hb dMd_define_114 (lv_at hl 0 rfl) ?_
    refine lv_iload_n hx hb dMd_define_116 rfl (lv_at hl 3 rfl) ?_
    obtain ⟨hi7, h⟩ := ck_some h
    refine x_iast hx hb hK hD hN hP hS (hal _ (okk_al hy6)) (okk_t hy6) 0 (fun _ _ _ => rfl) rfl (by decide) (inb_in hi7) dMd_define_117 (fun H locs hP hS => ?_)
    refine lv_aload_n hx hb dMd_define_118 rfl (lv_at hl 1 rfl) ?_
    obtain ⟨y8, hy9, h⟩ := bd1_some h
    obtain ⟨hy9a, hy9⟩ := rdR_some hy9
    refine x_get hx hb hts in_Md hown hK hP (hal _ (okk_al q0)) (okk_t q0) rfl rfl 5 (by decide) (hts _ tw_787) (fun _ h9 => h9) (congrArg some (x_rf hy9a)) dMd_define_119 ?_
    refine lv_iload hx hb dMd_define_122 (lv_at hl 0 rfl) ?_
    refine lv_iload_n hx hb dMd_define_124 rfl (lv_at hl 4 rfl) ?_
    obtain ⟨hi10, h⟩ := ck_some h
    refine x_iast hx hb hK hD hN hP hS (hal _ (okk_al hy9)) (okk_t hy9) 0 (fun _ _ _ => rfl) rfl (by decide) (inb_in hi10) dMd_define_125 (fun H locs hP hS => ?_)
    refine lv_aload_n hx hb dMd_define_126 rfl (lv_at hl 1 rfl) ?_
    obtain ⟨y11, hy12, h⟩ := bd1_some h
    obtain ⟨hy12a, hy12⟩ := rdR_some hy12
    refine x_get hx hb hts in_Md hown hK hP (hal _ (okk_al q0)) (okk_t q0) rfl rfl 6 (by decide) (hts _ tw_788) (fun _ h9 => h9) (congrArg some (x_rf hy12a)) dMd_define_127 ?_
    refine lv_iload hx hb dMd_define_130 (lv_at hl 0 rfl) ?_
    refine lv_iload hx hb dMd_define_132 (lv_at hl 5 rfl) ?_
    obtain ⟨hi13, h⟩ := ck_some h
    refine x_iast hx hb hK hD hN hP hS (hal _ (okk_al hy12)) (okk_t hy12) 0 (fun _ _ _ => rfl) rfl (by decide) (inb_in hi13) dMd_define_134 (fun H locs hP hS => ?_)
    refine lv_aload_n hx hb dMd_define_135 rfl (lv_at hl 1 rfl) ?_
    obtain ⟨y14, hy15, h⟩ := bd1_some h
    obtain ⟨hy15a, hy15⟩ := rdR_some hy15
    refine x_get hx hb hts in_Md hown hK hP (hal _ (okk_al q0)) (okk_t q0) rfl rfl 3 (by decide) (hts _ tw_785) (fun _ h9 => h9) (congrArg some (x_rf hy15a)) dMd_define_136 ?_
    refine lv_iload_n hx hb dMd_define_139 rfl (lv_at hl 2 rfl) ?_
    refine lv_dup2_11 hx hb dMd_define_140 rfl rfl ?_
    obtain ⟨hi16, h⟩ := ck_some h
    refine x_iald hx hb hK hP (hal _ (okk_al hy15)) (okk_t hy15) 0 (fun _ _ _ => rfl) rfl (inb_in hi16) dMd_define_141 ?_
    refine lv_iconst (v := 1) hx hb dMd_define_142 (by decide) ?_
    refine lv_iadd hx hb dMd_define_143 ?_
    obtain ⟨hi17, h⟩ := ck_some h
    refine x_iast hx hb hK hD hN hP hS (hal _ (okk_al hy15)) (okk_t hy15) 0 (fun _ _ _ => rfl) rfl (by decide) (inb_in hi17) dMd_define_144 (fun H locs hP hS => ?_)
    exact x_vret hx hb hr hlocks h hP hS dMd_define_145
  · replace h := it_f h hc
    exact x_vret hx hb hr hlocks h hP hS dMd_define_96
def bk_Md_define_65 (F : Nat) (al : Nat → Bool) (u : Mr) (s0 : Nat) (s1 : Int32) (x0 : Nat) (x1 : Int32) (x2 : Int32) (x3 : Int32) (x4 : Int32) : Option (Mr × Int32) := bd2 (fn_Md_fails F al u s0 s1 (1 : Int32)) fun u1 v1 => (if v1 = 0 then (bd1 (rdR al u1 x0 3 35) fun y2 => (ck (inb x1 4) (if (u1.1 y2 x1) = (6 : Int32) then (bk_Md_define_89 F al u1 x0 (1 : Int32) x0 x1 x2 x3 x4) else (bk_Md_define_89 F al u1 x0 (0 : Int32) x0 x1 x2 x3 x4)))) else (some (u1, 0)))
set_option maxHeartbeats 4000000 in
set_option maxRecDepth 100000 in
theorem wk_Md_define_65 (cx : Cx p l e s m args below meth c cMd_define 6 bw "ImageForgeModel" none D cA ad L rs al A) (F : Nat) (out : Mr × Int32) : ∀ (u : Mr) (s0 : Nat) (s1 : Int32) (x0 : Nat) (x1 : Int32) (x2 : Int32) (x3 : Int32) (x4 : Int32), bk_Md_define_65 F al u s0 s1 x0 x1 x2 x3 x4 = some out → okk al 32 x0 = true → okk al 32 s0 = true → Wb p l e rm_Md_define s m args below meth c D cA ad L rs A (QV below args s D cA ad L rs A out) 6 65 [(0, .ref (ad x0)), (1, .int x1), (2, .int x2), (3, .int x3), (4, .int x4)] [.int s1, .ref (ad s0)] u := by
  obtain ⟨hx, hb, hml, hown, hts, hr, hlocks, hK, hA, hD, hN, hal, hNx⟩ := cx
  intro u s0 s1 x0 x1 x2 x3 x4 h q0 qs0 H locs ls hl hP hS
  unfold bk_Md_define_65 at h
  refine lv_iconst (v := 1) hx hb dMd_define_65 (by decide) ?_
  obtain ⟨u1, v1, hc1, h⟩ := bd2_some h
  refine x_ci (u := u) (out := (u1, v1)) hA hD hS (va_runV (As := [.int s1, .int (1 : Int32)]) (rest := []) ⟨hx, hb, hml, hown, hts⟩ (ct_Md_fails hal hN F u s0 s1 (1 : Int32) (u1, v1) hc1 qs0 _) ⟨callB_of 2 hts gdMd_fails rfl rfl rfl (hts _ tw_11) (hts _ tw_890) hdMd_fails ⟨Nat.le_of_ble_eq_true rfl, Nat.le_of_ble_eq_true rfl⟩, (hts _ tw_892), (hts _ tp_52)⟩ (x_preV hK hD hNx hP (hal _ (okk_al qs0)) (okk_t qs0) rfl rfl) rfl rfl hl.1 rfl (lv_room (Nat.le_of_ble_eq_true rfl)) dMd_define_66 ⟨Nat.zero_le _, Nat.zero_le _⟩) (fun H locs hP hS => ?_)
  refine lv_if_ne (tgt := 96) hx hb dMd_define_69 rfl (fun hc => ?_) (fun hc => ?_)
  · replace h := it_f h hc
    exact x_vret hx hb hr hlocks h hP hS dMd_define_96
  · replace h := it_t h hc
    refine lv_aload_n hx hb dMd_define_72 rfl (lv_at hl 0 rfl) ?_
    refine lv_aload_n hx hb dMd_define_73 rfl (lv_at hl 0 rfl) ?_
    obtain ⟨y2, hy3, h⟩ := bd1_some h
    obtain ⟨hy3a, hy3⟩ := rdR_some hy3
    refine x_get hx hb hts in_Md hown hK hP (hal _ (okk_al q0)) (okk_t q0) rfl rfl 3 (by decide) (hts _ tw_785) (fun _ h9 => h9) (congrArg some (x_rf hy3a)) dMd_define_74 ?_
    refine lv_iload_n hx hb dMd_define_77 rfl (lv_at hl 1 rfl) ?_
    obtain ⟨hi4, h⟩ := ck_some h
    refine x_iald hx hb hK hP (hal _ (okk_al hy3)) (okk_t hy3) 0 (fun _ _ _ => rfl) rfl (inb_in hi4) dMd_define_78 ?_
    refine lv_bipush (v := 6) hx hb dMd_define_79 (by decide) ?_
    refine lv_icmp_ne (tgt := 88) hx hb dMd_define_81 rfl (fun hc => ?_) (fun hc => ?_)
    · replace h := it_f h hc
      refine lv_iconst (v := 0) hx hb dMd_define_88 (by decide) ?_
      exact wk_Md_define_89 ⟨hx, hb, hml, hown, hts, hr, hlocks, hK, hA, hD, hN, hal, hNx⟩ F out u1 x0 (0 : Int32) x0 x1 x2 x3 x4 h q0 q0 _ _ _ (lv_sub hl [0, 1, 2, 3, 4] rfl) hP hS
    · replace h := it_t h hc
      refine lv_iconst (v := 1) hx hb dMd_define_84 (by decide) ?_
      refine lv_goto (tgt := 89) hx hb dMd_define_85 rfl ?_
      exact wk_Md_define_89 ⟨hx, hb, hml, hown, hts, hr, hlocks, hK, hA, hD, hN, hal, hNx⟩ F out u1 x0 (1 : Int32) x0 x1 x2 x3 x4 h q0 q0 _ _ _ (lv_sub hl [0, 1, 2, 3, 4] rfl) hP hS
def bk_Md_define_60 (F : Nat) (al : Nat → Bool) (u : Mr) (s0 : Nat) (x0 : Nat) (x1 : Int32) (x2 : Int32) (x3 : Int32) (x4 : Int32) : Option (Mr × Int32) := bk_Md_define_65 F al u s0 (1 : Int32) x0 x1 x2 x3 x4
set_option maxHeartbeats 4000000 in
set_option maxRecDepth 100000 in
theorem wk_Md_define_60 (cx : Cx p l e s m args below meth c cMd_define 6 bw "ImageForgeModel" none D cA ad L rs al A) (F : Nat) (out : Mr × Int32) : ∀ (u : Mr) (s0 : Nat) (x0 : Nat) (x1 : Int32) (x2 : Int32) (x3 : Int32) (x4 : Int32), bk_Md_define_60 F al u s0 x0 x1 x2 x3 x4 = some out → okk al 32 x0 = true → okk al 32 s0 = true → Wb p l e rm_Md_define s m args below meth c D cA ad L rs A (QV below args s D cA ad L rs A out) 6 60 [(0, .ref (ad x0)), (1, .int x1), (2, .int x2), (3, .int x3), (4, .int x4)] [.ref (ad s0)] u := by
  obtain ⟨hx, hb, hml, hown, hts, hr, hlocks, hK, hA, hD, hN, hal, hNx⟩ := cx
  intro u s0 x0 x1 x2 x3 x4 h q0 qs0 H locs ls hl hP hS
  unfold bk_Md_define_60 at h
  refine lv_iconst (v := 1) hx hb dMd_define_60 (by decide) ?_
  refine lv_goto (tgt := 65) hx hb dMd_define_61 rfl ?_
  exact wk_Md_define_65 ⟨hx, hb, hml, hown, hts, hr, hlocks, hK, hA, hD, hN, hal, hNx⟩ F out u s0 (1 : Int32) x0 x1 x2 x3 x4 h q0 qs0 _ _ _ (lv_sub hl [0, 1, 2, 3, 4] rfl) hP hS
def bk_Md_define_31 (F : Nat) (al : Nat → Bool) (u : Mr) (s0 : Nat) (s1 : Int32) (x0 : Nat) (x1 : Int32) (x2 : Int32) (x3 : Int32) (x4 : Int32) : Option (Mr × Int32) := bd2 (fn_Md_fails F al u s0 s1 (1 : Int32)) fun u1 v1 => (if v1 = 0 then (if x4 < 0 then (bk_Md_define_60 F al u1 x0 x0 x1 x2 x3 x4) else (bd1 (rdR al u1 x0 1 33) fun y2 => (ck (inb (((2 : Int32) * x1) + x3) 8) (if x4 ≤ (u1.1 y2 (((2 : Int32) * x1) + x3)) then (bk_Md_define_65 F al u1 x0 (0 : Int32) x0 x1 x2 x3 x4) else (bk_Md_define_60 F al u1 x0 x0 x1 x2 x3 x4))))) else (some (u1, 0)))
set_option maxHeartbeats 4000000 in
set_option maxRecDepth 100000 in
theorem wk_Md_define_31 (cx : Cx p l e s m args below meth c cMd_define 6 bw "ImageForgeModel" none D cA ad L rs al A) (F : Nat) (out : Mr × Int32) : ∀ (u : Mr) (s0 : Nat) (s1 : Int32) (x0 : Nat) (x1 : Int32) (x2 : Int32) (x3 : Int32) (x4 : Int32), bk_Md_define_31 F al u s0 s1 x0 x1 x2 x3 x4 = some out → okk al 32 x0 = true → okk al 32 s0 = true → Wb p l e rm_Md_define s m args below meth c D cA ad L rs A (QV below args s D cA ad L rs A out) 6 31 [(0, .ref (ad x0)), (1, .int x1), (2, .int x2), (3, .int x3), (4, .int x4)] [.int s1, .ref (ad s0)] u := by
  obtain ⟨hx, hb, hml, hown, hts, hr, hlocks, hK, hA, hD, hN, hal, hNx⟩ := cx
  intro u s0 s1 x0 x1 x2 x3 x4 h q0 qs0 H locs ls hl hP hS
  unfold bk_Md_define_31 at h
  refine lv_iconst (v := 1) hx hb dMd_define_31 (by decide) ?_
  obtain ⟨u1, v1, hc1, h⟩ := bd2_some h
  refine x_ci (u := u) (out := (u1, v1)) hA hD hS (va_runV (As := [.int s1, .int (1 : Int32)]) (rest := []) ⟨hx, hb, hml, hown, hts⟩ (ct_Md_fails hal hN F u s0 s1 (1 : Int32) (u1, v1) hc1 qs0 _) ⟨callB_of 2 hts gdMd_fails rfl rfl rfl (hts _ tw_11) (hts _ tw_890) hdMd_fails ⟨Nat.le_of_ble_eq_true rfl, Nat.le_of_ble_eq_true rfl⟩, (hts _ tw_892), (hts _ tp_52)⟩ (x_preV hK hD hNx hP (hal _ (okk_al qs0)) (okk_t qs0) rfl rfl) rfl rfl hl.1 rfl (lv_room (Nat.le_of_ble_eq_true rfl)) dMd_define_32 ⟨Nat.zero_le _, Nat.zero_le _⟩) (fun H locs hP hS => ?_)
  refine lv_if_eq (tgt := 39) hx hb dMd_define_35 rfl (fun hc => ?_) (fun hc => ?_)
  · replace h := it_t h hc
    refine lv_aload_n hx hb dMd_define_39 rfl (lv_at hl 0 rfl) ?_
    refine lv_iload hx hb dMd_define_40 (lv_at hl 4 rfl) ?_
    refine lv_if_lt (tgt := 60) hx hb dMd_define_42 rfl (fun hc => ?_) (fun hc => ?_)
    · replace h := it_t h hc
      exact wk_Md_define_60 ⟨hx, hb, hml, hown, hts, hr, hlocks, hK, hA, hD, hN, hal, hNx⟩ F out u1 x0 x0 x1 x2 x3 x4 h q0 q0 _ _ _ (lv_sub hl [0, 1, 2, 3, 4] rfl) hP hS
    · replace h := it_f h hc
      refine lv_iload hx hb dMd_define_45 (lv_at hl 4 rfl) ?_
      refine lv_aload_n hx hb dMd_define_47 rfl (lv_at hl 0 rfl) ?_
      obtain ⟨y2, hy3, h⟩ := bd1_some h
      obtain ⟨hy3a, hy3⟩ := rdR_some hy3
      refine x_get hx hb hts in_Md hown hK hP (hal _ (okk_al q0)) (okk_t q0) rfl rfl 1 (by decide) (hts _ tw_783) (fun _ h9 => h9) (congrArg some (x_rf hy3a)) dMd_define_48 ?_
      refine lv_iconst (v := 2) hx hb dMd_define_51 (by decide) ?_
      refine lv_iload_n hx hb dMd_define_52 rfl (lv_at hl 1 rfl) ?_
      refine lv_imul hx hb dMd_define_53 ?_
      refine lv_iload_n hx hb dMd_define_54 rfl (lv_at hl 3 rfl) ?_
      refine lv_iadd hx hb dMd_define_55 ?_
      obtain ⟨hi4, h⟩ := ck_some h
      refine x_iald hx hb hK hP (hal _ (okk_al hy3)) (okk_t hy3) 0 (fun _ _ _ => rfl) rfl (inb_in hi4) dMd_define_56 ?_
      refine lv_icmp_le (tgt := 64) hx hb dMd_define_57 rfl (fun hc => ?_) (fun hc => ?_)
      · replace h := it_t h hc
        refine lv_iconst (v := 0) hx hb dMd_define_64 (by decide) ?_
        exact wk_Md_define_65 ⟨hx, hb, hml, hown, hts, hr, hlocks, hK, hA, hD, hN, hal, hNx⟩ F out u1 x0 (0 : Int32) x0 x1 x2 x3 x4 h q0 q0 _ _ _ (lv_sub hl [0, 1, 2, 3, 4] rfl) hP hS
      · replace h := it_f h hc
        exact wk_Md_define_60 ⟨hx, hb, hml, hown, hts, hr, hlocks, hK, hA, hD, hN, hal, hNx⟩ F out u1 x0 x0 x1 x2 x3 x4 h q0 q0 _ _ _ (lv_sub hl [0, 1, 2, 3, 4] rfl) hP hS
  · replace h := it_f h hc
    exact x_vret hx hb hr hlocks h hP hS dMd_define_38
def bk_Md_define_26 (F : Nat) (al : Nat → Bool) (u : Mr) (s0 : Nat) (x0 : Nat) (x1 : Int32) (x2 : Int32) (x3 : Int32) (x4 : Int32) : Option (Mr × Int32) := bk_Md_define_31 F al u s0 (1 : Int32) x0 x1 x2 x3 x4
set_option maxHeartbeats 4000000 in
set_option maxRecDepth 100000 in
theorem wk_Md_define_26 (cx : Cx p l e s m args below meth c cMd_define 6 bw "ImageForgeModel" none D cA ad L rs al A) (F : Nat) (out : Mr × Int32) : ∀ (u : Mr) (s0 : Nat) (x0 : Nat) (x1 : Int32) (x2 : Int32) (x3 : Int32) (x4 : Int32), bk_Md_define_26 F al u s0 x0 x1 x2 x3 x4 = some out → okk al 32 x0 = true → okk al 32 s0 = true → Wb p l e rm_Md_define s m args below meth c D cA ad L rs A (QV below args s D cA ad L rs A out) 6 26 [(0, .ref (ad x0)), (1, .int x1), (2, .int x2), (3, .int x3), (4, .int x4)] [.ref (ad s0)] u := by
  obtain ⟨hx, hb, hml, hown, hts, hr, hlocks, hK, hA, hD, hN, hal, hNx⟩ := cx
  intro u s0 x0 x1 x2 x3 x4 h q0 qs0 H locs ls hl hP hS
  unfold bk_Md_define_26 at h
  refine lv_iconst (v := 1) hx hb dMd_define_26 (by decide) ?_
  refine lv_goto (tgt := 31) hx hb dMd_define_27 rfl ?_
  exact wk_Md_define_31 ⟨hx, hb, hml, hown, hts, hr, hlocks, hK, hA, hD, hN, hal, hNx⟩ F out u s0 (1 : Int32) x0 x1 x2 x3 x4 h q0 qs0 _ _ _ (lv_sub hl [0, 1, 2, 3, 4] rfl) hP hS
def bk_Md_define_0 (F : Nat) (al : Nat → Bool) (u : Mr) (x0 : Nat) (x1 : Int32) (x2 : Int32) (x3 : Int32) (x4 : Int32) : Option (Mr × Int32) := bd2 (fn_Md_out F al u x1 (4 : Int32)) fun u1 v1 => (if v1 = 0 then (bd2 (fn_Md_out F al u1 x2 (16 : Int32)) fun u2 v2 => (if v2 = 0 then (bd2 (fn_Md_out F al u2 x3 (2 : Int32)) fun u3 v3 => (if v3 = 0 then (bk_Md_define_31 F al u3 x0 (0 : Int32) x0 x1 x2 x3 x4) else (bk_Md_define_26 F al u3 x0 x0 x1 x2 x3 x4))) else (bk_Md_define_26 F al u2 x0 x0 x1 x2 x3 x4))) else (bk_Md_define_26 F al u1 x0 x0 x1 x2 x3 x4))
set_option maxHeartbeats 4000000 in
set_option maxRecDepth 100000 in
theorem wk_Md_define_0 (cx : Cx p l e s m args below meth c cMd_define 6 bw "ImageForgeModel" none D cA ad L rs al A) (F : Nat) (out : Mr × Int32) : ∀ (u : Mr) (x0 : Nat) (x1 : Int32) (x2 : Int32) (x3 : Int32) (x4 : Int32), bk_Md_define_0 F al u x0 x1 x2 x3 x4 = some out → okk al 32 x0 = true → Wb p l e rm_Md_define s m args below meth c D cA ad L rs A (QV below args s D cA ad L rs A out) 6 0 [(0, .ref (ad x0)), (1, .int x1), (2, .int x2), (3, .int x3), (4, .int x4)] [] u := by
  obtain ⟨hx, hb, hml, hown, hts, hr, hlocks, hK, hA, hD, hN, hal, hNx⟩ := cx
  intro u x0 x1 x2 x3 x4 h q0 H locs ls hl hP hS
  unfold bk_Md_define_0 at h
  refine lv_aload_n hx hb dMd_define_0 rfl (lv_at hl 0 rfl) ?_
  refine lv_iload_n hx hb dMd_define_1 rfl (lv_at hl 1 rfl) ?_
  refine lv_iconst (v := 4) hx hb dMd_define_2 (by decide) ?_
  obtain ⟨u1, v1, hc1, h⟩ := bd2_some h
  refine x_ci (u := u) (out := (u1, v1)) hA hD hS (va_runS (As := [.int x1, .int (4 : Int32)]) (rest := [.ref (ad x0)]) ⟨hx, hb, hml, hown, hts⟩ (ct_Md_out hal hN F u x1 (4 : Int32) (u1, v1) hc1  _) ⟨callB_of 2 hts gdMd_out rfl rfl rfl (hts _ tw_11) (hts _ tw_887) hdMd_out ⟨Nat.le_of_ble_eq_true rfl, Nat.le_of_ble_eq_true rfl⟩, (hts _ tw_888)⟩ (x_preS hK hD hNx hP) rfl rfl hl.1 rfl (lv_room (Nat.le_of_ble_eq_true rfl)) dMd_define_3 ⟨Nat.zero_le _, Nat.zero_le _⟩) (fun H locs hP hS => ?_)
  refine lv_if_ne (tgt := 26) hx hb dMd_define_6 rfl (fun hc => ?_) (fun hc => ?_)
  · replace h := it_f h hc
    exact wk_Md_define_26 ⟨hx, hb, hml, hown, hts, hr, hlocks, hK, hA, hD, hN, hal, hNx⟩ F out u1 x0 x0 x1 x2 x3 x4 h q0 q0 _ _ _ (lv_sub hl [0, 1, 2, 3, 4] rfl) hP hS
  · replace h := it_t h hc
    refine lv_iload_n hx hb dMd_define_9 rfl (lv_at hl 2 rfl) ?_
    refine lv_bipush (v := 16) hx hb dMd_define_10 (by decide) ?_
    obtain ⟨u2, v2, hc2, h⟩ := bd2_some h
    refine x_ci (u := u1) (out := (u2, v2)) hA hD hS (va_runS (As := [.int x2, .int (16 : Int32)]) (rest := [.ref (ad x0)]) ⟨hx, hb, hml, hown, hts⟩ (ct_Md_out hal hN F u1 x2 (16 : Int32) (u2, v2) hc2  _) ⟨callB_of 2 hts gdMd_out rfl rfl rfl (hts _ tw_11) (hts _ tw_887) hdMd_out ⟨Nat.le_of_ble_eq_true rfl, Nat.le_of_ble_eq_true rfl⟩, (hts _ tw_888)⟩ (x_preS hK hD hNx hP) rfl rfl hl.1 rfl (lv_room (Nat.le_of_ble_eq_true rfl)) dMd_define_12 ⟨Nat.zero_le _, Nat.zero_le _⟩) (fun H locs hP hS => ?_)
    refine lv_if_ne (tgt := 26) hx hb dMd_define_15 rfl (fun hc => ?_) (fun hc => ?_)
    · replace h := it_f h hc
      exact wk_Md_define_26 ⟨hx, hb, hml, hown, hts, hr, hlocks, hK, hA, hD, hN, hal, hNx⟩ F out u2 x0 x0 x1 x2 x3 x4 h q0 q0 _ _ _ (lv_sub hl [0, 1, 2, 3, 4] rfl) hP hS
    · replace h := it_t h hc
      refine lv_iload_n hx hb dMd_define_18 rfl (lv_at hl 3 rfl) ?_
      refine lv_iconst (v := 2) hx hb dMd_define_19 (by decide) ?_
      obtain ⟨u3, v3, hc3, h⟩ := bd2_some h
      refine x_ci (u := u2) (out := (u3, v3)) hA hD hS (va_runS (As := [.int x3, .int (2 : Int32)]) (rest := [.ref (ad x0)]) ⟨hx, hb, hml, hown, hts⟩ (ct_Md_out hal hN F u2 x3 (2 : Int32) (u3, v3) hc3  _) ⟨callB_of 2 hts gdMd_out rfl rfl rfl (hts _ tw_11) (hts _ tw_887) hdMd_out ⟨Nat.le_of_ble_eq_true rfl, Nat.le_of_ble_eq_true rfl⟩, (hts _ tw_888)⟩ (x_preS hK hD hNx hP) rfl rfl hl.1 rfl (lv_room (Nat.le_of_ble_eq_true rfl)) dMd_define_20 ⟨Nat.zero_le _, Nat.zero_le _⟩) (fun H locs hP hS => ?_)
      refine lv_if_eq (tgt := 30) hx hb dMd_define_23 rfl (fun hc => ?_) (fun hc => ?_)
      · replace h := it_t h hc
        refine lv_iconst (v := 0) hx hb dMd_define_30 (by decide) ?_
        exact wk_Md_define_31 ⟨hx, hb, hml, hown, hts, hr, hlocks, hK, hA, hD, hN, hal, hNx⟩ F out u3 x0 (0 : Int32) x0 x1 x2 x3 x4 h q0 q0 _ _ _ (lv_sub hl [0, 1, 2, 3, 4] rfl) hP hS
      · replace h := it_f h hc
        exact wk_Md_define_26 ⟨hx, hb, hml, hown, hts, hr, hlocks, hK, hA, hD, hN, hal, hNx⟩ F out u3 x0 x0 x1 x2 x3 x4 h q0 q0 _ _ _ (lv_sub hl [0, 1, 2, 3, 4] rfl) hP hS
def fn_Md_define (F : Nat) (al : Nat → Bool) (u : Mr) (x0 : Nat) (x1 : Int32) (x2 : Int32) (x3 : Int32) (x4 : Int32) : Option (Mr × Int32) := bk_Md_define_0 F al u x0 x1 x2 x3 x4
set_option maxHeartbeats 4000000 in
set_option maxRecDepth 100000 in
theorem ct_Md_define {l : Launch} {D : va_G} {cA : Nat → ClassId} {ad : Nat → Nat} {L : List Nat} {rs : va_W} {al : Nat → Bool} (hal : ∀ k, al k = true → k ∈ L) (hN : L.Nodup) (F : Nat) (u : Mr) (x0 : Nat) (x1 : Int32) (x2 : Int32) (x3 : Int32) (x4 : Int32) (out : Mr × Int32) (h : fn_Md_define F al u x0 x1 x2 x3 x4 = some out) (q0 : okk al 32 x0 = true) : CtV l yMd_define wsMd_define rm_Md_define [.ref (ad x0), .int x1, .int x2, .int x3, .int x4] D cA ad L rs u out := by
  intro sz
  refine Met.ofW (cc := cMd_define) (maxL := 6) (ret := none) (by decide) rfl ?_
  intro p e s m args below meth c s₁ B hml hv
  obtain ⟨rfl, hsz, hP, hK, hD0, hNx⟩ := hv
  subst hsz
  have hD := hD0.self (sz := s.heap.size)
  generalize hAe : va_A (ww ad cA L rs u) s.heap.size = A at hD ⊢
  have hA : ∀ q, s.heap.size ≤ q → A q := fun q h => by rw [← hAe]; exact Or.inr h
  have hl := lv_entry ([.ref (ad x0), .int x1, .int x2, .int x3, .int x4]) (n := 6) (Nat.le_of_ble_eq_true rfl)
  rw [lg_entry_eq]
  generalize (lg_sl ([.ref (ad x0), .int x1, .int x2, .int x3, .int x4]) ++ List.replicate (6 - (lg_sl ([.ref (ad x0), .int x1, .int x2, .int x3, .int x4])).length) Slot.unset).toArray = ls at hl ⊢
  exact wk_Md_define_0 ⟨B.exec, B.bytes, hml, findClass_of_methodNamed B.named, hts_bw (atoms_spec (ws := wsMd_define) B.pre), B.returns, B.notSynchronized, hK, hA, fun v => ww_D hD, hN, hal, hNx⟩ F out u x0 x1 x2 x3 x4 h q0 _ _ _ (lv_sub hl [0, 1, 2, 3, 4] rfl) hP va_S.rf
abbrev rm_Md_overlaps : Room := { frames := 0, cells := 0, slots := 0, locals := 0 }
def bk_Md_overlaps_72 (F : Nat) (al : Nat → Bool) (k9 : Mr → Nat → Int32 → Int32 → Int32 → Int32 → Int32 → Option (Mr × Int32)) (u : Mr) (s0 : Int32) (x0 : Nat) (x1 : Int32) (x2 : Int32) (x3 : Int32) (x5 : Int32) : Option (Mr × Int32) := k9 u x0 x1 x2 x3 s0 (x5 + (1 : Int32))
set_option maxHeartbeats 4000000 in
set_option maxRecDepth 100000 in
theorem wk_Md_overlaps_72 (cx : Cx p l e s m args below meth c cMd_overlaps 6 bw "ImageForgeModel" (some .boolean) D cA ad L rs al A) (F : Nat) (out : Mr × Int32) {k9 : Mr → Nat → Int32 → Int32 → Int32 → Int32 → Int32 → Option (Mr × Int32)} (hk9 : ∀ (u : Mr) (x0 : Nat) (x1 : Int32) (x2 : Int32) (x3 : Int32) (x4 : Int32) (x5 : Int32), k9 u x0 x1 x2 x3 x4 x5 = some out → okk al 32 x0 = true → Wb p l e rm_Md_overlaps s m args below meth c D cA ad L rs A (QI below args s D cA ad L rs A out) 6 9 [(0, .ref (ad x0)), (1, .int x1), (2, .int x2), (3, .int x3), (4, .int x4), (5, .int x5)] [] u) : ∀ (u : Mr) (s0 : Int32) (x0 : Nat) (x1 : Int32) (x2 : Int32) (x3 : Int32) (x5 : Int32), bk_Md_overlaps_72 F al k9 u s0 x0 x1 x2 x3 x5 = some out → okk al 32 x0 = true → Wb p l e rm_Md_overlaps s m args below meth c D cA ad L rs A (QI below args s D cA ad L rs A out) 6 72 [(0, .ref (ad x0)), (1, .int x1), (2, .int x2), (3, .int x3), (5, .int x5)] [.int s0] u := by
  obtain ⟨hx, hb, hml, hown, hts, hr, hlocks, hK, hA, hD, hN, hal, hNx⟩ := cx
  intro u s0 x0 x1 x2 x3 x5 h q0 H locs ls hl hP hS
  unfold bk_Md_overlaps_72 at h
  refine lv_istore (lv' := [(4, .int s0), (0, .ref (ad x0)), (1, .int x1), (2, .int x2), (3, .int x3), (5, .int x5)]) hx hb dMd_overlaps_72 hl (by decide) rfl (fun ls hl => ?_)
  refine lv_iinc (k := 5) (v := x5 + (1 : Int32)) (lv' := [(5, .int (x5 + (1 : Int32))), (4, .int s0), (0, .ref (ad x0)), (1, .int x1), (2, .int x2), (3, .int x3)]) hx hb dMd_overlaps_74 hl rfl (congrArg (fun z => _ + z) (show Int32.ofInt 1 = 1 by decide)) (by decide) rfl (fun ls hl => ?_)
  refine lv_goto (tgt := 9) hx hb dMd_overlaps_77 rfl ?_
  exact hk9 u x0 x1 x2 x3 s0 (x5 + (1 : Int32)) h q0 _ _ _ (lv_sub hl [2, 3, 4, 5, 1, 0] rfl) hP hS
def bk_Md_overlaps_67 (F : Nat) (al : Nat → Bool) (k9 : Mr → Nat → Int32 → Int32 → Int32 → Int32 → Int32 → Option (Mr × Int32)) (u : Mr) (x0 : Nat) (x1 : Int32) (x2 : Int32) (x3 : Int32) (x5 : Int32) : Option (Mr × Int32) := bk_Md_overlaps_72 F al k9 u (1 : Int32) x0 x1 x2 x3 x5
set_option maxHeartbeats 4000000 in
set_option maxRecDepth 100000 in
theorem wk_Md_overlaps_67 (cx : Cx p l e s m args below meth c cMd_overlaps 6 bw "ImageForgeModel" (some .boolean) D cA ad L rs al A) (F : Nat) (out : Mr × Int32) {k9 : Mr → Nat → Int32 → Int32 → Int32 → Int32 → Int32 → Option (Mr × Int32)} (hk9 : ∀ (u : Mr) (x0 : Nat) (x1 : Int32) (x2 : Int32) (x3 : Int32) (x4 : Int32) (x5 : Int32), k9 u x0 x1 x2 x3 x4 x5 = some out → okk al 32 x0 = true → Wb p l e rm_Md_overlaps s m args below meth c D cA ad L rs A (QI below args s D cA ad L rs A out) 6 9 [(0, .ref (ad x0)), (1, .int x1), (2, .int x2), (3, .int x3), (4, .int x4), (5, .int x5)] [] u) : ∀ (u : Mr) (x0 : Nat) (x1 : Int32) (x2 : Int32) (x3 : Int32) (x5 : Int32), bk_Md_overlaps_67 F al k9 u x0 x1 x2 x3 x5 = some out → okk al 32 x0 = true → Wb p l e rm_Md_overlaps s m args below meth c D cA ad L rs A (QI below args s D cA ad L rs A out) 6 67 [(0, .ref (ad x0)), (1, .int x1), (2, .int x2), (3, .int x3), (5, .int x5)] [] u := by
  obtain ⟨hx, hb, hml, hown, hts, hr, hlocks, hK, hA, hD, hN, hal, hNx⟩ := cx
  intro u x0 x1 x2 x3 x5 h q0 H locs ls hl hP hS
  unfold bk_Md_overlaps_67 at h
  refine lv_iconst (v := 1) hx hb dMd_overlaps_67 (by decide) ?_
  refine lv_goto (tgt := 72) hx hb dMd_overlaps_68 rfl ?_
  exact wk_Md_overlaps_72 ⟨hx, hb, hml, hown, hts, hr, hlocks, hK, hA, hD, hN, hal, hNx⟩ F out hk9 u (1 : Int32) x0 x1 x2 x3 x5 h q0 _ _ _ (lv_sub hl [0, 1, 2, 3, 4] rfl) hP hS
def bk_Md_overlaps_71 (F : Nat) (al : Nat → Bool) (k9 : Mr → Nat → Int32 → Int32 → Int32 → Int32 → Int32 → Option (Mr × Int32)) (u : Mr) (x0 : Nat) (x1 : Int32) (x2 : Int32) (x3 : Int32) (x5 : Int32) : Option (Mr × Int32) := bk_Md_overlaps_72 F al k9 u (0 : Int32) x0 x1 x2 x3 x5
set_option maxHeartbeats 4000000 in
set_option maxRecDepth 100000 in
theorem wk_Md_overlaps_71 (cx : Cx p l e s m args below meth c cMd_overlaps 6 bw "ImageForgeModel" (some .boolean) D cA ad L rs al A) (F : Nat) (out : Mr × Int32) {k9 : Mr → Nat → Int32 → Int32 → Int32 → Int32 → Int32 → Option (Mr × Int32)} (hk9 : ∀ (u : Mr) (x0 : Nat) (x1 : Int32) (x2 : Int32) (x3 : Int32) (x4 : Int32) (x5 : Int32), k9 u x0 x1 x2 x3 x4 x5 = some out → okk al 32 x0 = true → Wb p l e rm_Md_overlaps s m args below meth c D cA ad L rs A (QI below args s D cA ad L rs A out) 6 9 [(0, .ref (ad x0)), (1, .int x1), (2, .int x2), (3, .int x3), (4, .int x4), (5, .int x5)] [] u) : ∀ (u : Mr) (x0 : Nat) (x1 : Int32) (x2 : Int32) (x3 : Int32) (x5 : Int32), bk_Md_overlaps_71 F al k9 u x0 x1 x2 x3 x5 = some out → okk al 32 x0 = true → Wb p l e rm_Md_overlaps s m args below meth c D cA ad L rs A (QI below args s D cA ad L rs A out) 6 71 [(0, .ref (ad x0)), (1, .int x1), (2, .int x2), (3, .int x3), (5, .int x5)] [] u := by
  obtain ⟨hx, hb, hml, hown, hts, hr, hlocks, hK, hA, hD, hN, hal, hNx⟩ := cx
  intro u x0 x1 x2 x3 x5 h q0 H locs ls hl hP hS
  unfold bk_Md_overlaps_71 at h
  refine lv_iconst (v := 0) hx hb dMd_overlaps_71 (by decide) ?_
  exact wk_Md_overlaps_72 ⟨hx, hb, hml, hown, hts, hr, hlocks, hK, hA, hD, hN, hal, hNx⟩ F out hk9 u (0 : Int32) x0 x1 x2 x3 x5 h q0 _ _ _ (lv_sub hl [0, 1, 2, 3, 4] rfl) hP hS
def bk_Md_overlaps_9 (F : Nat) (al : Nat → Bool) : Nat → Mr → Nat → Int32 → Int32 → Int32 → Int32 → Int32 → Option (Mr × Int32)
  | 0, _, _, _, _, _, _, _ => none
  | n + 1, u, x0, x1, x2, x3, x4, x5 => bd1 (rdR al u x0 7 35) fun y1 => (ck (inb x1 4) (if (((8 : Int32) * x1) + (u.1 y1 x1)) ≤ x5 then (ck (isz x4) (some (u, x4))) else (if x4 = 0 then (bd1 (rdR al u x0 8 37) fun y4 => (ck (inb x5 32) (if (u.1 y4 x5) = x2 then (bd1 (rdR al u x0 9 37) fun y7 => (ck (inb x5 32) (if ((u.1 y7 x5) + (4 : Int32)) ≤ x3 then (bk_Md_overlaps_71 F al (bk_Md_overlaps_9 F al n) u x0 x1 x2 x3 x5) else (bd1 (rdR al u x0 9 37) fun y10 => (ck (inb x5 32) (if (x3 + (4 : Int32)) ≤ (u.1 y10 x5) then (bk_Md_overlaps_71 F al (bk_Md_overlaps_9 F al n) u x0 x1 x2 x3 x5) else (bk_Md_overlaps_67 F al (bk_Md_overlaps_9 F al n) u x0 x1 x2 x3 x5))))))) else (bk_Md_overlaps_71 F al (bk_Md_overlaps_9 F al n) u x0 x1 x2 x3 x5)))) else (bk_Md_overlaps_67 F al (bk_Md_overlaps_9 F al n) u x0 x1 x2 x3 x5))))
set_option maxHeartbeats 4000000 in
set_option maxRecDepth 100000 in
theorem wk_Md_overlaps_9 (cx : Cx p l e s m args below meth c cMd_overlaps 6 bw "ImageForgeModel" (some .boolean) D cA ad L rs al A) (F : Nat) (out : Mr × Int32) : ∀ n : Nat, ∀ (u : Mr) (x0 : Nat) (x1 : Int32) (x2 : Int32) (x3 : Int32) (x4 : Int32) (x5 : Int32), bk_Md_overlaps_9 F al n u x0 x1 x2 x3 x4 x5 = some out → okk al 32 x0 = true → Wb p l e rm_Md_overlaps s m args below meth c D cA ad L rs A (QI below args s D cA ad L rs A out) 6 9 [(0, .ref (ad x0)), (1, .int x1), (2, .int x2), (3, .int x3), (4, .int x4), (5, .int x5)] [] u := by
  obtain ⟨hx, hb, hml, hown, hts, hr, hlocks, hK, hA, hD, hN, hal, hNx⟩ := cx
  intro n
  induction n with
  | zero =>
    intro u x0 x1 x2 x3 x4 x5 h
    cases h
  | succ n ih =>
    intro u x0 x1 x2 x3 x4 x5 h q0 H locs ls hl hP hS
    rw [bk_Md_overlaps_9] at h
    refine lv_iload hx hb dMd_overlaps_9 (lv_at hl 5 rfl) ?_
    refine lv_bipush (v := 8) hx hb dMd_overlaps_11 (by decide) ?_
    refine lv_iload_n hx hb dMd_overlaps_13 rfl (lv_at hl 1 rfl) ?_
    refine lv_imul hx hb dMd_overlaps_14 ?_
    refine lv_aload_n hx hb dMd_overlaps_15 rfl (lv_at hl 0 rfl) ?_
    obtain ⟨y1, hy2, h⟩ := bd1_some h
    obtain ⟨hy2a, hy2⟩ := rdR_some hy2
    refine x_get hx hb hts in_Md hown hK hP (hal _ (okk_al q0)) (okk_t q0) rfl rfl 7 (by decide) (hts _ tw_789) (fun _ h9 => h9) (congrArg some (x_rf hy2a)) dMd_overlaps_16 ?_
    refine lv_iload_n hx hb dMd_overlaps_19 rfl (lv_at hl 1 rfl) ?_
    obtain ⟨hi3, h⟩ := ck_some h
    refine x_iald hx hb hK hP (hal _ (okk_al hy2)) (okk_t hy2) 0 (fun _ _ _ => rfl) rfl (inb_in hi3) dMd_overlaps_20 ?_
    refine lv_iadd hx hb dMd_overlaps_21 ?_
    refine lv_icmp_ge (tgt := 80) hx hb dMd_overlaps_22 rfl (fun hc => ?_) (fun hc => ?_)
    · replace h := it_t h hc
      refine lv_iload hx hb dMd_overlaps_80 (lv_at hl 4 rfl) ?_
      obtain ⟨h8, h⟩ := ck_some h
      exact x_zret hx hb hr hlocks (isz_nar h8) h hP hS dMd_overlaps_82
    · replace h := it_f h hc
      refine lv_iload hx hb dMd_overlaps_25 (lv_at hl 4 rfl) ?_
      refine lv_if_ne (tgt := 67) hx hb dMd_overlaps_27 rfl (fun hc => ?_) (fun hc => ?_)
      · replace h := it_f h hc
        exact wk_Md_overlaps_67 ⟨hx, hb, hml, hown, hts, hr, hlocks, hK, hA, hD, hN, hal, hNx⟩ F out ih u x0 x1 x2 x3 x5 h q0 _ _ _ (lv_sub hl [0, 1, 2, 3, 5] rfl) hP hS
      · replace h := it_t h hc
        refine lv_aload_n hx hb dMd_overlaps_30 rfl (lv_at hl 0 rfl) ?_
        obtain ⟨y4, hy5, h⟩ := bd1_some h
        obtain ⟨hy5a, hy5⟩ := rdR_some hy5
        refine x_get hx hb hts in_Md hown hK hP (hal _ (okk_al q0)) (okk_t q0) rfl rfl 8 (by decide) (hts _ tw_790) (fun _ h9 => h9) (congrArg some (x_rf hy5a)) dMd_overlaps_31 ?_
        refine lv_iload hx hb dMd_overlaps_34 (lv_at hl 5 rfl) ?_
        obtain ⟨hi6, h⟩ := ck_some h
        refine x_iald hx hb hK hP (hal _ (okk_al hy5)) (okk_t hy5) 0 (fun _ _ _ => rfl) rfl (inb_in hi6) dMd_overlaps_36 ?_
        refine lv_iload_n hx hb dMd_overlaps_37 rfl (lv_at hl 2 rfl) ?_
        refine lv_icmp_ne (tgt := 71) hx hb dMd_overlaps_38 rfl (fun hc => ?_) (fun hc => ?_)
        · replace h := it_f h hc
          exact wk_Md_overlaps_71 ⟨hx, hb, hml, hown, hts, hr, hlocks, hK, hA, hD, hN, hal, hNx⟩ F out ih u x0 x1 x2 x3 x5 h q0 _ _ _ (lv_sub hl [0, 1, 2, 3, 5] rfl) hP hS
        · replace h := it_t h hc
          refine lv_iload_n hx hb dMd_overlaps_41 rfl (lv_at hl 3 rfl) ?_
          refine lv_aload_n hx hb dMd_overlaps_42 rfl (lv_at hl 0 rfl) ?_
          obtain ⟨y7, hy8, h⟩ := bd1_some h
          obtain ⟨hy8a, hy8⟩ := rdR_some hy8
          refine x_get hx hb hts in_Md hown hK hP (hal _ (okk_al q0)) (okk_t q0) rfl rfl 9 (by decide) (hts _ tw_791) (fun _ h9 => h9) (congrArg some (x_rf hy8a)) dMd_overlaps_43 ?_
          refine lv_iload hx hb dMd_overlaps_46 (lv_at hl 5 rfl) ?_
          obtain ⟨hi9, h⟩ := ck_some h
          refine x_iald hx hb hK hP (hal _ (okk_al hy8)) (okk_t hy8) 0 (fun _ _ _ => rfl) rfl (inb_in hi9) dMd_overlaps_48 ?_
          refine lv_iconst (v := 4) hx hb dMd_overlaps_49 (by decide) ?_
          refine lv_iadd hx hb dMd_overlaps_50 ?_
          refine lv_icmp_ge (tgt := 71) hx hb dMd_overlaps_51 rfl (fun hc => ?_) (fun hc => ?_)
          · replace h := it_t h hc
            exact wk_Md_overlaps_71 ⟨hx, hb, hml, hown, hts, hr, hlocks, hK, hA, hD, hN, hal, hNx⟩ F out ih u x0 x1 x2 x3 x5 h q0 _ _ _ (lv_sub hl [0, 1, 2, 3, 5] rfl) hP hS
          · replace h := it_f h hc
            refine lv_aload_n hx hb dMd_overlaps_54 rfl (lv_at hl 0 rfl) ?_
            obtain ⟨y10, hy11, h⟩ := bd1_some h
            obtain ⟨hy11a, hy11⟩ := rdR_some hy11
            refine x_get hx hb hts in_Md hown hK hP (hal _ (okk_al q0)) (okk_t q0) rfl rfl 9 (by decide) (hts _ tw_791) (fun _ h9 => h9) (congrArg some (x_rf hy11a)) dMd_overlaps_55 ?_
            refine lv_iload hx hb dMd_overlaps_58 (lv_at hl 5 rfl) ?_
            obtain ⟨hi12, h⟩ := ck_some h
            refine x_iald hx hb hK hP (hal _ (okk_al hy11)) (okk_t hy11) 0 (fun _ _ _ => rfl) rfl (inb_in hi12) dMd_overlaps_60 ?_
            refine lv_iload_n hx hb dMd_overlaps_61 rfl (lv_at hl 3 rfl) ?_
            refine lv_iconst (v := 4) hx hb dMd_overlaps_62 (by decide) ?_
            refine lv_iadd hx hb dMd_overlaps_63 ?_
            refine lv_icmp_ge (tgt := 71) hx hb dMd_overlaps_64 rfl (fun hc => ?_) (fun hc => ?_)
            · replace h := it_t h hc
              exact wk_Md_overlaps_71 ⟨hx, hb, hml, hown, hts, hr, hlocks, hK, hA, hD, hN, hal, hNx⟩ F out ih u x0 x1 x2 x3 x5 h q0 _ _ _ (lv_sub hl [0, 1, 2, 3, 5] rfl) hP hS
            · replace h := it_f h hc
              exact wk_Md_overlaps_67 ⟨hx, hb, hml, hown, hts, hr, hlocks, hK, hA, hD, hN, hal, hNx⟩ F out ih u x0 x1 x2 x3 x5 h q0 _ _ _ (lv_sub hl [0, 1, 2, 3, 5] rfl) hP hS
def bk_Md_overlaps_0 (F : Nat) (al : Nat → Bool) (u : Mr) (x0 : Nat) (x1 : Int32) (x2 : Int32) (x3 : Int32) : Option (Mr × Int32) := bk_Md_overlaps_9 F al F u x0 x1 x2 x3 (0 : Int32) ((8 : Int32) * x1)
set_option maxHeartbeats 4000000 in
set_option maxRecDepth 100000 in
theorem wk_Md_overlaps_0 (cx : Cx p l e s m args below meth c cMd_overlaps 6 bw "ImageForgeModel" (some .boolean) D cA ad L rs al A) (F : Nat) (out : Mr × Int32) : ∀ (u : Mr) (x0 : Nat) (x1 : Int32) (x2 : Int32) (x3 : Int32), bk_Md_overlaps_0 F al u x0 x1 x2 x3 = some out → okk al 32 x0 = true → Wb p l e rm_Md_overlaps s m args below meth c D cA ad L rs A (QI below args s D cA ad L rs A out) 6 0 [(0, .ref (ad x0)), (1, .int x1), (2, .int x2), (3, .int x3)] [] u := by
  obtain ⟨hx, hb, hml, hown, hts, hr, hlocks, hK, hA, hD, hN, hal, hNx⟩ := cx
  intro u x0 x1 x2 x3 h q0 H locs ls hl hP hS
  unfold bk_Md_overlaps_0 at h
  refine lv_iconst (v := 0) hx hb dMd_overlaps_0 (by decide) ?_
  refine lv_istore (lv' := [(4, .int (0 : Int32)), (0, .ref (ad x0)), (1, .int x1), (2, .int x2), (3, .int x3)]) hx hb dMd_overlaps_1 hl (by decide) rfl (fun ls hl => ?_)
  refine lv_bipush (v := 8) hx hb dMd_overlaps_3 (by decide) ?_
  refine lv_iload_n hx hb dMd_overlaps_5 rfl (lv_at hl 2 rfl) ?_
  refine lv_imul hx hb dMd_overlaps_6 ?_
  refine lv_istore (lv' := [(5, .int ((8 : Int32) * x1)), (4, .int (0 : Int32)), (0, .ref (ad x0)), (1, .int x1), (2, .int x2), (3, .int x3)]) hx hb dMd_overlaps_7 hl (by decide) rfl (fun ls hl => ?_)
  exact wk_Md_overlaps_9 ⟨hx, hb, hml, hown, hts, hr, hlocks, hK, hA, hD, hN, hal, hNx⟩ F out F u x0 x1 x2 x3 (0 : Int32) ((8 : Int32) * x1) h q0 _ _ _ (lv_sub hl [2, 3, 4, 5, 1, 0] rfl) hP hS
def fn_Md_overlaps (F : Nat) (al : Nat → Bool) (u : Mr) (x0 : Nat) (x1 : Int32) (x2 : Int32) (x3 : Int32) : Option (Mr × Int32) := bk_Md_overlaps_0 F al u x0 x1 x2 x3
set_option maxHeartbeats 4000000 in
set_option maxRecDepth 100000 in
theorem ct_Md_overlaps {l : Launch} {D : va_G} {cA : Nat → ClassId} {ad : Nat → Nat} {L : List Nat} {rs : va_W} {al : Nat → Bool} (hal : ∀ k, al k = true → k ∈ L) (hN : L.Nodup) (F : Nat) (u : Mr) (x0 : Nat) (x1 : Int32) (x2 : Int32) (x3 : Int32) (out : Mr × Int32) (h : fn_Md_overlaps F al u x0 x1 x2 x3 = some out) (q0 : okk al 32 x0 = true) : CtI l yMd_overlaps wsMd_overlaps rm_Md_overlaps [.ref (ad x0), .int x1, .int x2, .int x3] D cA ad L rs u out := by
  intro sz
  refine Met.ofW (cc := cMd_overlaps) (maxL := 6) (ret := (some .boolean)) (by decide) rfl ?_
  intro p e s m args below meth c s₁ B hml hv
  obtain ⟨rfl, hsz, hP, hK, hD0, hNx⟩ := hv
  subst hsz
  have hD := hD0.self (sz := s.heap.size)
  generalize hAe : va_A (ww ad cA L rs u) s.heap.size = A at hD ⊢
  have hA : ∀ q, s.heap.size ≤ q → A q := fun q h => by rw [← hAe]; exact Or.inr h
  have hl := lv_entry ([.ref (ad x0), .int x1, .int x2, .int x3]) (n := 6) (Nat.le_of_ble_eq_true rfl)
  rw [lg_entry_eq]
  generalize (lg_sl ([.ref (ad x0), .int x1, .int x2, .int x3]) ++ List.replicate (6 - (lg_sl ([.ref (ad x0), .int x1, .int x2, .int x3])).length) Slot.unset).toArray = ls at hl ⊢
  exact wk_Md_overlaps_0 ⟨B.exec, B.bytes, hml, findClass_of_methodNamed B.named, hts_bw (atoms_spec (ws := wsMd_overlaps) B.pre), B.returns, B.notSynchronized, hK, hA, fun v => ww_D hD, hN, hal, hNx⟩ F out u x0 x1 x2 x3 h q0 _ _ _ (lv_sub hl [0, 1, 2, 3] rfl) hP va_S.rf
abbrev rm_Md_refer : Room := { frames := 1, cells := 0, slots := 0, locals := 25 }
def bk_Md_refer_115 (F : Nat) (al : Nat → Bool) (u : Mr) (s0 : Nat) (s1 : Int32) (x0 : Nat) (x1 : Int32) (x2 : Int32) (x3 : Int32) (x4 : Int32) (x5 : Int32) : Option (Mr × Int32) := bd2 (fn_Md_fails F al u s0 s1 (2 : Int32)) fun u1 v1 => (if v1 = 0 then (bd1 (rdR al u1 x0 7 35) fun y2 => (ck (inb x1 4) (bd1 (rdR al u1 x0 8 37) fun y5 => (ck (inb (((8 : Int32) * x1) + (u1.1 y2 x1)) 32) (bd1 (rdR al (stI u1 y5 (((8 : Int32) * x1) + (u1.1 y2 x1)) x2) x0 9 37) fun y8 => (ck (inb (((8 : Int32) * x1) + (u1.1 y2 x1)) 32) (bd1 (rdR al (stI (stI u1 y5 (((8 : Int32) * x1) + (u1.1 y2 x1)) x2) y8 (((8 : Int32) * x1) + (u1.1 y2 x1)) x3) x0 10 37) fun y11 => (ck (inb (((8 : Int32) * x1) + (u1.1 y2 x1)) 32) (bd1 (rdR al (stI (stI (stI u1 y5 (((8 : Int32) * x1) + (u1.1 y2 x1)) x2) y8 (((8 : Int32) * x1) + (u1.1 y2 x1)) x3) y11 (((8 : Int32) * x1) + (u1.1 y2 x1)) x4) x0 11 37) fun y14 => (ck (inb (((8 : Int32) * x1) + (u1.1 y2 x1)) 32) (bd1 (rdR al (stI (stI (stI (stI u1 y5 (((8 : Int32) * x1) + (u1.1 y2 x1)) x2) y8 (((8 : Int32) * x1) + (u1.1 y2 x1)) x3) y11 (((8 : Int32) * x1) + (u1.1 y2 x1)) x4) y14 (((8 : Int32) * x1) + (u1.1 y2 x1)) x5) x0 7 35) fun y17 => (ck (inb x1 4) (ck (inb x1 4) (some (stI (stI (stI (stI (stI u1 y5 (((8 : Int32) * x1) + (u1.1 y2 x1)) x2) y8 (((8 : Int32) * x1) + (u1.1 y2 x1)) x3) y11 (((8 : Int32) * x1) + (u1.1 y2 x1)) x4) y14 (((8 : Int32) * x1) + (u1.1 y2 x1)) x5) y17 x1 (((stI (stI (stI (stI u1 y5 (((8 : Int32) * x1) + (u1.1 y2 x1)) x2) y8 (((8 : Int32) * x1) + (u1.1 y2 x1)) x3) y11 (((8 : Int32) * x1) + (u1.1 y2 x1)) x4) y14 (((8 : Int32) * x1) + (u1.1 y2 x1)) x5).1 y17 x1) + (1 : Int32)), 0))))))))))))))) else (some (u1, 0)))
set_option maxHeartbeats 4000000 in
set_option maxRecDepth 100000 in
theorem wk_Md_refer_115 (cx : Cx p l e s m args below meth c cMd_refer 7 bw "ImageForgeModel" none D cA ad L rs al A) (F : Nat) (out : Mr × Int32) : ∀ (u : Mr) (s0 : Nat) (s1 : Int32) (x0 : Nat) (x1 : Int32) (x2 : Int32) (x3 : Int32) (x4 : Int32) (x5 : Int32), bk_Md_refer_115 F al u s0 s1 x0 x1 x2 x3 x4 x5 = some out → okk al 32 x0 = true → okk al 32 s0 = true → Wb p l e rm_Md_refer s m args below meth c D cA ad L rs A (QV below args s D cA ad L rs A out) 7 115 [(0, .ref (ad x0)), (1, .int x1), (2, .int x2), (3, .int x3), (4, .int x4), (5, .int x5)] [.int s1, .ref (ad s0)] u := by
  obtain ⟨hx, hb, hml, hown, hts, hr, hlocks, hK, hA, hD, hN, hal, hNx⟩ := cx
  intro u s0 s1 x0 x1 x2 x3 x4 x5 h q0 qs0 H locs ls hl hP hS
  unfold bk_Md_refer_115 at h
  refine lv_iconst (v := 2) hx hb dMd_refer_115 (by decide) ?_
  obtain ⟨u1, v1, hc1, h⟩ := bd2_some h
  refine x_ci (u := u) (out := (u1, v1)) hA hD hS (va_runV (As := [.int s1, .int (2 : Int32)]) (rest := []) ⟨hx, hb, hml, hown, hts⟩ (ct_Md_fails hal hN F u s0 s1 (2 : Int32) (u1, v1) hc1 qs0 _) ⟨callB_of 2 hts gdMd_fails rfl rfl rfl (hts _ tw_11) (hts _ tw_890) hdMd_fails ⟨Nat.le_of_ble_eq_true rfl, Nat.le_of_ble_eq_true rfl⟩, (hts _ tw_892), (hts _ tp_52)⟩ (x_preV hK hD hNx hP (hal _ (okk_al qs0)) (okk_t qs0) rfl rfl) rfl rfl hl.1 rfl (lv_room (Nat.le_of_ble_eq_true rfl)) dMd_refer_116 ⟨Nat.zero_le _, Nat.zero_le _⟩) (fun H locs hP hS => ?_)
  refine lv_if_eq (tgt := 123) hx hb dMd_refer_119 rfl (fun hc => ?_) (fun hc => ?_)
  · replace h := it_t h hc
    refine lv_bipush (v := 8) hx hb dMd_refer_123 (by decide) ?_
    refine lv_iload_n hx hb dMd_refer_125 rfl (lv_at hl 1 rfl) ?_
    refine lv_imul hx hb dMd_refer_126 ?_
    refine lv_aload_n hx hb dMd_refer_127 rfl (lv_at hl 0 rfl) ?_
    obtain ⟨y2, hy3, h⟩ := bd1_some h
    obtain ⟨hy3a, hy3⟩ := rdR_some hy3
    refine x_get hx hb hts in_Md hown hK hP (hal _ (okk_al q0)) (okk_t q0) rfl rfl 7 (by decide) (hts _ tw_789) (fun _ h9 => h9) (congrArg some (x_rf hy3a)) dMd_refer_128 ?_
    refine lv_iload_n hx hb dMd_refer_131 rfl (lv_at hl 1 rfl) ?_
    obtain ⟨hi4, h⟩ := ck_some h
    refine x_iald hx hb hK hP (hal _ (okk_al hy3)) (okk_t hy3) 0 (fun _ _ _ => rfl) rfl (inb_in hi4) dMd_refer_132 ?_
    refine lv_iadd hx hb dMd_refer_133 ?_
    refine lv_istore (lv' := [(6, .int (((8 : Int32) * x1) + (u1.1 y2 x1))), (0, .ref (ad x0)), (1, .int x1), (2, .int x2), (3, .int x3), (4, .int x4), (5, .int x5)]) hx hb dMd_refer_134 hl (by decide) rfl (fun ls hl => ?_)
    refine lv_aload_n hx hb dMd_refer_136 rfl (lv_at hl 1 rfl) ?_
    obtain ⟨y5, hy6, h⟩ := bd1_some h
    obtain ⟨hy6a, hy6⟩ := rdR_some hy6
    refine x_get hx hb hts in_Md hown hK hP (hal _ (okk_al q0)) (okk_t q0) rfl rfl 8 (by decide) (hts _ tw_790) (fun _ h9 => h9) (congrArg some (x_rf hy6a)) dMd_refer_137 ?_
    refine lv_iload hx hb dMd_refer_140 (lv_at hl 0 rfl) ?_
    refine lv_iload_n hx hb dMd_refer_142 rfl (lv_at hl 3 rfl) ?_
    obtain ⟨hi7, h⟩ := ck_some h
    refine x_iast hx hb hK hD hN hP hS (hal _ (okk_al hy6)) (okk_t hy6) 0 (fun _ _ _ => rfl) rfl (by decide) (inb_in hi7) dMd_refer_143 (fun H locs hP hS => ?_)
    refine lv_aload_n hx hb dMd_refer_144 rfl (lv_at hl 1 rfl) ?_
    obtain ⟨y8, hy9, h⟩ := bd1_some h
    obtain ⟨hy9a, hy9⟩ := rdR_some hy9
    refine x_get hx hb hts in_Md hown hK hP (hal _ (okk_al q0)) (okk_t q0) rfl rfl 9 (by decide) (hts _ tw_791) (fun _ h9 => h9) (congrArg some (x_rf hy9a)) dMd_refer_145 ?_
    refine lv_iload hx hb dMd_refer_148 (lv_at hl 0 rfl) ?_
    refine lv_iload_n hx hb dMd_refer_150 rfl (lv_at hl 4 rfl) ?_
    obtain ⟨hi10, h⟩ := ck_some h
    refine x_iast hx hb hK hD hN hP hS (hal _ (okk_al hy9)) (okk_t hy9) 0 (fun _ _ _ => rfl) rfl (by decide) (inb_in hi10) dMd_refer_151 (fun H locs hP hS => ?_)
    refine lv_aload_n hx hb dMd_refer_152 rfl (lv_at hl 1 rfl) ?_
    obtain ⟨y11, hy12, h⟩ := bd1_some h
    obtain ⟨hy12a, hy12⟩ := rdR_some hy12
    refine x_get hx hb hts in_Md hown hK hP (hal _ (okk_al q0)) (okk_t q0) rfl rfl 10 (by decide) (hts _ tw_792) (fun _ h9 => h9) (congrArg some (x_rf hy12a)) dMd_refer_153 ?_
    refine lv_iload hx hb dMd_refer_156 (lv_at hl 0 rfl) ?_
    refine lv_iload hx hb dMd_refer_158 (lv_at hl 5 rfl) ?_
    obtain ⟨hi13, h⟩ := ck_some h
    refine x_iast hx hb hK hD hN hP hS (hal _ (okk_al hy12)) (okk_t hy12) 0 (fun _ _ _ => rfl) rfl (by decide) (inb_in hi13) dMd_refer_160 (fun H locs hP hS => ?_)
    refine lv_aload_n hx hb dMd_refer_161 rfl (lv_at hl 1 rfl) ?_
    obtain ⟨y14, hy15, h⟩ := bd1_some h
    obtain ⟨hy15a, hy15⟩ := rdR_some hy15
    refine x_get hx hb hts in_Md hown hK hP (hal _ (okk_al q0)) (okk_t q0) rfl rfl 11 (by decide) (hts _ tw_793) (fun _ h9 => h9) (congrArg some (x_rf hy15a)) dMd_refer_162 ?_
    refine lv_iload hx hb dMd_refer_165 (lv_at hl 0 rfl) ?_
    refine lv_iload hx hb dMd_refer_167 (lv_at hl 6 rfl) ?_
    obtain ⟨hi16, h⟩ := ck_some h
    refine x_iast hx hb hK hD hN hP hS (hal _ (okk_al hy15)) (okk_t hy15) 0 (fun _ _ _ => rfl) rfl (by decide) (inb_in hi16) dMd_refer_169 (fun H locs hP hS => ?_)
    refine lv_aload_n hx hb dMd_refer_170 rfl (lv_at hl 1 rfl) ?_
    obtain ⟨y17, hy18, h⟩ := bd1_some h
    obtain ⟨hy18a, hy18⟩ := rdR_some hy18
    refine x_get hx hb hts in_Md hown hK hP (hal _ (okk_al q0)) (okk_t q0) rfl rfl 7 (by decide) (hts _ tw_789) (fun _ h9 => h9) (congrArg some (x_rf hy18a)) dMd_refer_171 ?_
    refine lv_iload_n hx hb dMd_refer_174 rfl (lv_at hl 2 rfl) ?_
    refine lv_dup2_11 hx hb dMd_refer_175 rfl rfl ?_
    obtain ⟨hi19, h⟩ := ck_some h
    refine x_iald hx hb hK hP (hal _ (okk_al hy18)) (okk_t hy18) 0 (fun _ _ _ => rfl) rfl (inb_in hi19) dMd_refer_176 ?_
    refine lv_iconst (v := 1) hx hb dMd_refer_177 (by decide) ?_
    refine lv_iadd hx hb dMd_refer_178 ?_
    obtain ⟨hi20, h⟩ := ck_some h
    refine x_iast hx hb hK hD hN hP hS (hal _ (okk_al hy18)) (okk_t hy18) 0 (fun _ _ _ => rfl) rfl (by decide) (inb_in hi20) dMd_refer_179 (fun H locs hP hS => ?_)
    exact x_vret hx hb hr hlocks h hP hS dMd_refer_180
  · replace h := it_f h hc
    exact x_vret hx hb hr hlocks h hP hS dMd_refer_122
def bk_Md_refer_75 (F : Nat) (al : Nat → Bool) (u : Mr) (s0 : Nat) (s1 : Int32) (x0 : Nat) (x1 : Int32) (x2 : Int32) (x3 : Int32) (x4 : Int32) (x5 : Int32) : Option (Mr × Int32) := bd2 (fn_Md_fails F al u s0 s1 (1 : Int32)) fun u1 v1 => (if v1 = 0 then (bd2 (fn_Md_overlaps F al u1 x0 x1 x2 x3) fun u2 v2 => (bd2 (fn_Md_fails F al u2 x0 v2 (1 : Int32)) fun u3 v3 => (if v3 = 0 then (bd1 (rdR al u3 x0 7 35) fun y4 => (ck (inb x1 4) (if (u3.1 y4 x1) = (8 : Int32) then (bk_Md_refer_115 F al u3 x0 (1 : Int32) x0 x1 x2 x3 x4 x5) else (bk_Md_refer_115 F al u3 x0 (0 : Int32) x0 x1 x2 x3 x4 x5)))) else (some (u3, 0))))) else (some (u1, 0)))
set_option maxHeartbeats 4000000 in
set_option maxRecDepth 100000 in
theorem wk_Md_refer_75 (cx : Cx p l e s m args below meth c cMd_refer 7 bw "ImageForgeModel" none D cA ad L rs al A) (F : Nat) (out : Mr × Int32) : ∀ (u : Mr) (s0 : Nat) (s1 : Int32) (x0 : Nat) (x1 : Int32) (x2 : Int32) (x3 : Int32) (x4 : Int32) (x5 : Int32), bk_Md_refer_75 F al u s0 s1 x0 x1 x2 x3 x4 x5 = some out → okk al 32 x0 = true → okk al 32 s0 = true → Wb p l e rm_Md_refer s m args below meth c D cA ad L rs A (QV below args s D cA ad L rs A out) 7 75 [(0, .ref (ad x0)), (1, .int x1), (2, .int x2), (3, .int x3), (4, .int x4), (5, .int x5)] [.int s1, .ref (ad s0)] u := by
  obtain ⟨hx, hb, hml, hown, hts, hr, hlocks, hK, hA, hD, hN, hal, hNx⟩ := cx
  intro u s0 s1 x0 x1 x2 x3 x4 x5 h q0 qs0 H locs ls hl hP hS
  unfold bk_Md_refer_75 at h
  refine lv_iconst (v := 1) hx hb dMd_refer_75 (by decide) ?_
  obtain ⟨u1, v1, hc1, h⟩ := bd2_some h
  refine x_ci (u := u) (out := (u1, v1)) hA hD hS (va_runV (As := [.int s1, .int (1 : Int32)]) (rest := []) ⟨hx, hb, hml, hown, hts⟩ (ct_Md_fails hal hN F u s0 s1 (1 : Int32) (u1, v1) hc1 qs0 _) ⟨callB_of 2 hts gdMd_fails rfl rfl rfl (hts _ tw_11) (hts _ tw_890) hdMd_fails ⟨Nat.le_of_ble_eq_true rfl, Nat.le_of_ble_eq_true rfl⟩, (hts _ tw_892), (hts _ tp_52)⟩ (x_preV hK hD hNx hP (hal _ (okk_al qs0)) (okk_t qs0) rfl rfl) rfl rfl hl.1 rfl (lv_room (Nat.le_of_ble_eq_true rfl)) dMd_refer_76 ⟨Nat.zero_le _, Nat.zero_le _⟩) (fun H locs hP hS => ?_)
  refine lv_if_eq (tgt := 83) hx hb dMd_refer_79 rfl (fun hc => ?_) (fun hc => ?_)
  · replace h := it_t h hc
    refine lv_aload_n hx hb dMd_refer_83 rfl (lv_at hl 0 rfl) ?_
    refine lv_aload_n hx hb dMd_refer_84 rfl (lv_at hl 0 rfl) ?_
    refine lv_iload_n hx hb dMd_refer_85 rfl (lv_at hl 1 rfl) ?_
    refine lv_iload_n hx hb dMd_refer_86 rfl (lv_at hl 2 rfl) ?_
    refine lv_iload_n hx hb dMd_refer_87 rfl (lv_at hl 3 rfl) ?_
    obtain ⟨u2, v2, hc2, h⟩ := bd2_some h
    refine x_ci (u := u1) (out := (u2, v2)) hA hD hS (va_runV (As := [.int x1, .int x2, .int x3]) (rest := [.ref (ad x0)]) ⟨hx, hb, hml, hown, hts⟩ (ct_Md_overlaps hal hN F u1 x0 x1 x2 x3 (u2, v2) hc2 q0 _) ⟨callB_of 3 hts gdMd_overlaps rfl rfl rfl (hts _ tw_11) (hts _ tw_903) hdMd_overlaps ⟨Nat.le_of_ble_eq_true rfl, Nat.le_of_ble_eq_true rfl⟩, (hts _ tw_905), (hts _ tp_53)⟩ (x_preV hK hD hNx hP (hal _ (okk_al q0)) (okk_t q0) rfl rfl) rfl rfl hl.1 rfl (lv_room (Nat.le_of_ble_eq_true rfl)) dMd_refer_88 ⟨Nat.zero_le _, Nat.zero_le _⟩) (fun H locs hP hS => ?_)
    refine lv_iconst (v := 1) hx hb dMd_refer_91 (by decide) ?_
    obtain ⟨u3, v3, hc3, h⟩ := bd2_some h
    refine x_ci (u := u2) (out := (u3, v3)) hA hD hS (va_runV (As := [.int v2, .int (1 : Int32)]) (rest := []) ⟨hx, hb, hml, hown, hts⟩ (ct_Md_fails hal hN F u2 x0 v2 (1 : Int32) (u3, v3) hc3 q0 _) ⟨callB_of 2 hts gdMd_fails rfl rfl rfl (hts _ tw_11) (hts _ tw_890) hdMd_fails ⟨Nat.le_of_ble_eq_true rfl, Nat.le_of_ble_eq_true rfl⟩, (hts _ tw_892), (hts _ tp_52)⟩ (x_preV hK hD hNx hP (hal _ (okk_al q0)) (okk_t q0) rfl rfl) rfl rfl hl.1 rfl (lv_room (Nat.le_of_ble_eq_true rfl)) dMd_refer_92 ⟨Nat.zero_le _, Nat.zero_le _⟩) (fun H locs hP hS => ?_)
    refine lv_if_ne (tgt := 122) hx hb dMd_refer_95 rfl (fun hc => ?_) (fun hc => ?_)
    · replace h := it_f h hc
      exact x_vret hx hb hr hlocks h hP hS dMd_refer_122
    · replace h := it_t h hc
      refine lv_aload_n hx hb dMd_refer_98 rfl (lv_at hl 0 rfl) ?_
      refine lv_aload_n hx hb dMd_refer_99 rfl (lv_at hl 0 rfl) ?_
      obtain ⟨y4, hy5, h⟩ := bd1_some h
      obtain ⟨hy5a, hy5⟩ := rdR_some hy5
      refine x_get hx hb hts in_Md hown hK hP (hal _ (okk_al q0)) (okk_t q0) rfl rfl 7 (by decide) (hts _ tw_789) (fun _ h9 => h9) (congrArg some (x_rf hy5a)) dMd_refer_100 ?_
      refine lv_iload_n hx hb dMd_refer_103 rfl (lv_at hl 1 rfl) ?_
      obtain ⟨hi6, h⟩ := ck_some h
      refine x_iald hx hb hK hP (hal _ (okk_al hy5)) (okk_t hy5) 0 (fun _ _ _ => rfl) rfl (inb_in hi6) dMd_refer_104 ?_
      refine lv_bipush (v := 8) hx hb dMd_refer_105 (by decide) ?_
      refine lv_icmp_ne (tgt := 114) hx hb dMd_refer_107 rfl (fun hc => ?_) (fun hc => ?_)
      · replace h := it_f h hc
        refine lv_iconst (v := 0) hx hb dMd_refer_114 (by decide) ?_
        exact wk_Md_refer_115 ⟨hx, hb, hml, hown, hts, hr, hlocks, hK, hA, hD, hN, hal, hNx⟩ F out u3 x0 (0 : Int32) x0 x1 x2 x3 x4 x5 h q0 q0 _ _ _ (lv_sub hl [0, 1, 2, 3, 4, 5] rfl) hP hS
      · replace h := it_t h hc
        refine lv_iconst (v := 1) hx hb dMd_refer_110 (by decide) ?_
        refine lv_goto (tgt := 115) hx hb dMd_refer_111 rfl ?_
        exact wk_Md_refer_115 ⟨hx, hb, hml, hown, hts, hr, hlocks, hK, hA, hD, hN, hal, hNx⟩ F out u3 x0 (1 : Int32) x0 x1 x2 x3 x4 x5 h q0 q0 _ _ _ (lv_sub hl [0, 1, 2, 3, 4, 5] rfl) hP hS
  · replace h := it_f h hc
    exact x_vret hx hb hr hlocks h hP hS dMd_refer_82
def bk_Md_refer_70 (F : Nat) (al : Nat → Bool) (u : Mr) (s0 : Nat) (x0 : Nat) (x1 : Int32) (x2 : Int32) (x3 : Int32) (x4 : Int32) (x5 : Int32) : Option (Mr × Int32) := bk_Md_refer_75 F al u s0 (1 : Int32) x0 x1 x2 x3 x4 x5
set_option maxHeartbeats 4000000 in
set_option maxRecDepth 100000 in
theorem wk_Md_refer_70 (cx : Cx p l e s m args below meth c cMd_refer 7 bw "ImageForgeModel" none D cA ad L rs al A) (F : Nat) (out : Mr × Int32) : ∀ (u : Mr) (s0 : Nat) (x0 : Nat) (x1 : Int32) (x2 : Int32) (x3 : Int32) (x4 : Int32) (x5 : Int32), bk_Md_refer_70 F al u s0 x0 x1 x2 x3 x4 x5 = some out → okk al 32 x0 = true → okk al 32 s0 = true → Wb p l e rm_Md_refer s m args below meth c D cA ad L rs A (QV below args s D cA ad L rs A out) 7 70 [(0, .ref (ad x0)), (1, .int x1), (2, .int x2), (3, .int x3), (4, .int x4), (5, .int x5)] [.ref (ad s0)] u := by
  obtain ⟨hx, hb, hml, hown, hts, hr, hlocks, hK, hA, hD, hN, hal, hNx⟩ := cx
  intro u s0 x0 x1 x2 x3 x4 x5 h q0 qs0 H locs ls hl hP hS
  unfold bk_Md_refer_70 at h
  refine lv_iconst (v := 1) hx hb dMd_refer_70 (by decide) ?_
  refine lv_goto (tgt := 75) hx hb dMd_refer_71 rfl ?_
  exact wk_Md_refer_75 ⟨hx, hb, hml, hown, hts, hr, hlocks, hK, hA, hD, hN, hal, hNx⟩ F out u s0 (1 : Int32) x0 x1 x2 x3 x4 x5 h q0 qs0 _ _ _ (lv_sub hl [0, 1, 2, 3, 4, 5] rfl) hP hS
def bk_Md_refer_41 (F : Nat) (al : Nat → Bool) (u : Mr) (s0 : Nat) (s1 : Int32) (x0 : Nat) (x1 : Int32) (x2 : Int32) (x3 : Int32) (x4 : Int32) (x5 : Int32) : Option (Mr × Int32) := bd2 (fn_Md_fails F al u s0 s1 (1 : Int32)) fun u1 v1 => (if v1 = 0 then (if x3 < 0 then (bk_Md_refer_70 F al u1 x0 x0 x1 x2 x3 x4 x5) else (bd1 (rdR al u1 x0 1 33) fun y2 => (ck (inb (((2 : Int32) * x1) + x2) 8) (if x3 ≤ ((u1.1 y2 (((2 : Int32) * x1) + x2)) - (4 : Int32)) then (bk_Md_refer_75 F al u1 x0 (0 : Int32) x0 x1 x2 x3 x4 x5) else (bk_Md_refer_70 F al u1 x0 x0 x1 x2 x3 x4 x5))))) else (some (u1, 0)))
set_option maxHeartbeats 4000000 in
set_option maxRecDepth 100000 in
theorem wk_Md_refer_41 (cx : Cx p l e s m args below meth c cMd_refer 7 bw "ImageForgeModel" none D cA ad L rs al A) (F : Nat) (out : Mr × Int32) : ∀ (u : Mr) (s0 : Nat) (s1 : Int32) (x0 : Nat) (x1 : Int32) (x2 : Int32) (x3 : Int32) (x4 : Int32) (x5 : Int32), bk_Md_refer_41 F al u s0 s1 x0 x1 x2 x3 x4 x5 = some out → okk al 32 x0 = true → okk al 32 s0 = true → Wb p l e rm_Md_refer s m args below meth c D cA ad L rs A (QV below args s D cA ad L rs A out) 7 41 [(0, .ref (ad x0)), (1, .int x1), (2, .int x2), (3, .int x3), (4, .int x4), (5, .int x5)] [.int s1, .ref (ad s0)] u := by
  obtain ⟨hx, hb, hml, hown, hts, hr, hlocks, hK, hA, hD, hN, hal, hNx⟩ := cx
  intro u s0 s1 x0 x1 x2 x3 x4 x5 h q0 qs0 H locs ls hl hP hS
  unfold bk_Md_refer_41 at h
  refine lv_iconst (v := 1) hx hb dMd_refer_41 (by decide) ?_
  obtain ⟨u1, v1, hc1, h⟩ := bd2_some h
  refine x_ci (u := u) (out := (u1, v1)) hA hD hS (va_runV (As := [.int s1, .int (1 : Int32)]) (rest := []) ⟨hx, hb, hml, hown, hts⟩ (ct_Md_fails hal hN F u s0 s1 (1 : Int32) (u1, v1) hc1 qs0 _) ⟨callB_of 2 hts gdMd_fails rfl rfl rfl (hts _ tw_11) (hts _ tw_890) hdMd_fails ⟨Nat.le_of_ble_eq_true rfl, Nat.le_of_ble_eq_true rfl⟩, (hts _ tw_892), (hts _ tp_52)⟩ (x_preV hK hD hNx hP (hal _ (okk_al qs0)) (okk_t qs0) rfl rfl) rfl rfl hl.1 rfl (lv_room (Nat.le_of_ble_eq_true rfl)) dMd_refer_42 ⟨Nat.zero_le _, Nat.zero_le _⟩) (fun H locs hP hS => ?_)
  refine lv_if_eq (tgt := 49) hx hb dMd_refer_45 rfl (fun hc => ?_) (fun hc => ?_)
  · replace h := it_t h hc
    refine lv_aload_n hx hb dMd_refer_49 rfl (lv_at hl 0 rfl) ?_
    refine lv_iload_n hx hb dMd_refer_50 rfl (lv_at hl 3 rfl) ?_
    refine lv_if_lt (tgt := 70) hx hb dMd_refer_51 rfl (fun hc => ?_) (fun hc => ?_)
    · replace h := it_t h hc
      exact wk_Md_refer_70 ⟨hx, hb, hml, hown, hts, hr, hlocks, hK, hA, hD, hN, hal, hNx⟩ F out u1 x0 x0 x1 x2 x3 x4 x5 h q0 q0 _ _ _ (lv_sub hl [0, 1, 2, 3, 4, 5] rfl) hP hS
    · replace h := it_f h hc
      refine lv_iload_n hx hb dMd_refer_54 rfl (lv_at hl 3 rfl) ?_
      refine lv_aload_n hx hb dMd_refer_55 rfl (lv_at hl 0 rfl) ?_
      obtain ⟨y2, hy3, h⟩ := bd1_some h
      obtain ⟨hy3a, hy3⟩ := rdR_some hy3
      refine x_get hx hb hts in_Md hown hK hP (hal _ (okk_al q0)) (okk_t q0) rfl rfl 1 (by decide) (hts _ tw_783) (fun _ h9 => h9) (congrArg some (x_rf hy3a)) dMd_refer_56 ?_
      refine lv_iconst (v := 2) hx hb dMd_refer_59 (by decide) ?_
      refine lv_iload_n hx hb dMd_refer_60 rfl (lv_at hl 1 rfl) ?_
      refine lv_imul hx hb dMd_refer_61 ?_
      refine lv_iload_n hx hb dMd_refer_62 rfl (lv_at hl 2 rfl) ?_
      refine lv_iadd hx hb dMd_refer_63 ?_
      obtain ⟨hi4, h⟩ := ck_some h
      refine x_iald hx hb hK hP (hal _ (okk_al hy3)) (okk_t hy3) 0 (fun _ _ _ => rfl) rfl (inb_in hi4) dMd_refer_64 ?_
      refine lv_iconst (v := 4) hx hb dMd_refer_65 (by decide) ?_
      refine lv_isub hx hb dMd_refer_66 ?_
      refine lv_icmp_le (tgt := 74) hx hb dMd_refer_67 rfl (fun hc => ?_) (fun hc => ?_)
      · replace h := it_t h hc
        refine lv_iconst (v := 0) hx hb dMd_refer_74 (by decide) ?_
        exact wk_Md_refer_75 ⟨hx, hb, hml, hown, hts, hr, hlocks, hK, hA, hD, hN, hal, hNx⟩ F out u1 x0 (0 : Int32) x0 x1 x2 x3 x4 x5 h q0 q0 _ _ _ (lv_sub hl [0, 1, 2, 3, 4, 5] rfl) hP hS
      · replace h := it_f h hc
        exact wk_Md_refer_70 ⟨hx, hb, hml, hown, hts, hr, hlocks, hK, hA, hD, hN, hal, hNx⟩ F out u1 x0 x0 x1 x2 x3 x4 x5 h q0 q0 _ _ _ (lv_sub hl [0, 1, 2, 3, 4, 5] rfl) hP hS
  · replace h := it_f h hc
    exact x_vret hx hb hr hlocks h hP hS dMd_refer_48
def bk_Md_refer_36 (F : Nat) (al : Nat → Bool) (u : Mr) (s0 : Nat) (x0 : Nat) (x1 : Int32) (x2 : Int32) (x3 : Int32) (x4 : Int32) (x5 : Int32) : Option (Mr × Int32) := bk_Md_refer_41 F al u s0 (1 : Int32) x0 x1 x2 x3 x4 x5
set_option maxHeartbeats 4000000 in
set_option maxRecDepth 100000 in
theorem wk_Md_refer_36 (cx : Cx p l e s m args below meth c cMd_refer 7 bw "ImageForgeModel" none D cA ad L rs al A) (F : Nat) (out : Mr × Int32) : ∀ (u : Mr) (s0 : Nat) (x0 : Nat) (x1 : Int32) (x2 : Int32) (x3 : Int32) (x4 : Int32) (x5 : Int32), bk_Md_refer_36 F al u s0 x0 x1 x2 x3 x4 x5 = some out → okk al 32 x0 = true → okk al 32 s0 = true → Wb p l e rm_Md_refer s m args below meth c D cA ad L rs A (QV below args s D cA ad L rs A out) 7 36 [(0, .ref (ad x0)), (1, .int x1), (2, .int x2), (3, .int x3), (4, .int x4), (5, .int x5)] [.ref (ad s0)] u := by
  obtain ⟨hx, hb, hml, hown, hts, hr, hlocks, hK, hA, hD, hN, hal, hNx⟩ := cx
  intro u s0 x0 x1 x2 x3 x4 x5 h q0 qs0 H locs ls hl hP hS
  unfold bk_Md_refer_36 at h
  refine lv_iconst (v := 1) hx hb dMd_refer_36 (by decide) ?_
  refine lv_goto (tgt := 41) hx hb dMd_refer_37 rfl ?_
  exact wk_Md_refer_41 ⟨hx, hb, hml, hown, hts, hr, hlocks, hK, hA, hD, hN, hal, hNx⟩ F out u s0 (1 : Int32) x0 x1 x2 x3 x4 x5 h q0 qs0 _ _ _ (lv_sub hl [0, 1, 2, 3, 4, 5] rfl) hP hS
def bk_Md_refer_0 (F : Nat) (al : Nat → Bool) (u : Mr) (x0 : Nat) (x1 : Int32) (x2 : Int32) (x3 : Int32) (x4 : Int32) (x5 : Int32) : Option (Mr × Int32) := bd2 (fn_Md_out F al u x1 (4 : Int32)) fun u1 v1 => (if v1 = 0 then (bd2 (fn_Md_out F al u1 x2 (2 : Int32)) fun u2 v2 => (if v2 = 0 then (bd2 (fn_Md_out F al u2 x4 (3 : Int32)) fun u3 v3 => (if v3 = 0 then (bd2 (fn_Md_out F al u3 x5 (16 : Int32)) fun u4 v4 => (if v4 = 0 then (bk_Md_refer_41 F al u4 x0 (0 : Int32) x0 x1 x2 x3 x4 x5) else (bk_Md_refer_36 F al u4 x0 x0 x1 x2 x3 x4 x5))) else (bk_Md_refer_36 F al u3 x0 x0 x1 x2 x3 x4 x5))) else (bk_Md_refer_36 F al u2 x0 x0 x1 x2 x3 x4 x5))) else (bk_Md_refer_36 F al u1 x0 x0 x1 x2 x3 x4 x5))
set_option maxHeartbeats 4000000 in
set_option maxRecDepth 100000 in
theorem wk_Md_refer_0 (cx : Cx p l e s m args below meth c cMd_refer 7 bw "ImageForgeModel" none D cA ad L rs al A) (F : Nat) (out : Mr × Int32) : ∀ (u : Mr) (x0 : Nat) (x1 : Int32) (x2 : Int32) (x3 : Int32) (x4 : Int32) (x5 : Int32), bk_Md_refer_0 F al u x0 x1 x2 x3 x4 x5 = some out → okk al 32 x0 = true → Wb p l e rm_Md_refer s m args below meth c D cA ad L rs A (QV below args s D cA ad L rs A out) 7 0 [(0, .ref (ad x0)), (1, .int x1), (2, .int x2), (3, .int x3), (4, .int x4), (5, .int x5)] [] u := by
  obtain ⟨hx, hb, hml, hown, hts, hr, hlocks, hK, hA, hD, hN, hal, hNx⟩ := cx
  intro u x0 x1 x2 x3 x4 x5 h q0 H locs ls hl hP hS
  unfold bk_Md_refer_0 at h
  refine lv_aload_n hx hb dMd_refer_0 rfl (lv_at hl 0 rfl) ?_
  refine lv_iload_n hx hb dMd_refer_1 rfl (lv_at hl 1 rfl) ?_
  refine lv_iconst (v := 4) hx hb dMd_refer_2 (by decide) ?_
  obtain ⟨u1, v1, hc1, h⟩ := bd2_some h
  refine x_ci (u := u) (out := (u1, v1)) hA hD hS (va_runS (As := [.int x1, .int (4 : Int32)]) (rest := [.ref (ad x0)]) ⟨hx, hb, hml, hown, hts⟩ (ct_Md_out hal hN F u x1 (4 : Int32) (u1, v1) hc1  _) ⟨callB_of 2 hts gdMd_out rfl rfl rfl (hts _ tw_11) (hts _ tw_887) hdMd_out ⟨Nat.le_of_ble_eq_true rfl, Nat.le_of_ble_eq_true rfl⟩, (hts _ tw_888)⟩ (x_preS hK hD hNx hP) rfl rfl hl.1 rfl (lv_room (Nat.le_of_ble_eq_true rfl)) dMd_refer_3 ⟨Nat.zero_le _, Nat.zero_le _⟩) (fun H locs hP hS => ?_)
  refine lv_if_ne (tgt := 36) hx hb dMd_refer_6 rfl (fun hc => ?_) (fun hc => ?_)
  · replace h := it_f h hc
    exact wk_Md_refer_36 ⟨hx, hb, hml, hown, hts, hr, hlocks, hK, hA, hD, hN, hal, hNx⟩ F out u1 x0 x0 x1 x2 x3 x4 x5 h q0 q0 _ _ _ (lv_sub hl [0, 1, 2, 3, 4, 5] rfl) hP hS
  · replace h := it_t h hc
    refine lv_iload_n hx hb dMd_refer_9 rfl (lv_at hl 2 rfl) ?_
    refine lv_iconst (v := 2) hx hb dMd_refer_10 (by decide) ?_
    obtain ⟨u2, v2, hc2, h⟩ := bd2_some h
    refine x_ci (u := u1) (out := (u2, v2)) hA hD hS (va_runS (As := [.int x2, .int (2 : Int32)]) (rest := [.ref (ad x0)]) ⟨hx, hb, hml, hown, hts⟩ (ct_Md_out hal hN F u1 x2 (2 : Int32) (u2, v2) hc2  _) ⟨callB_of 2 hts gdMd_out rfl rfl rfl (hts _ tw_11) (hts _ tw_887) hdMd_out ⟨Nat.le_of_ble_eq_true rfl, Nat.le_of_ble_eq_true rfl⟩, (hts _ tw_888)⟩ (x_preS hK hD hNx hP) rfl rfl hl.1 rfl (lv_room (Nat.le_of_ble_eq_true rfl)) dMd_refer_11 ⟨Nat.zero_le _, Nat.zero_le _⟩) (fun H locs hP hS => ?_)
    refine lv_if_ne (tgt := 36) hx hb dMd_refer_14 rfl (fun hc => ?_) (fun hc => ?_)
    · replace h := it_f h hc
      exact wk_Md_refer_36 ⟨hx, hb, hml, hown, hts, hr, hlocks, hK, hA, hD, hN, hal, hNx⟩ F out u2 x0 x0 x1 x2 x3 x4 x5 h q0 q0 _ _ _ (lv_sub hl [0, 1, 2, 3, 4, 5] rfl) hP hS
    · replace h := it_t h hc
      refine lv_iload hx hb dMd_refer_17 (lv_at hl 4 rfl) ?_
      refine lv_iconst (v := 3) hx hb dMd_refer_19 (by decide) ?_
      obtain ⟨u3, v3, hc3, h⟩ := bd2_some h
      refine x_ci (u := u2) (out := (u3, v3)) hA hD hS (va_runS (As := [.int x4, .int (3 : Int32)]) (rest := [.ref (ad x0)]) ⟨hx, hb, hml, hown, hts⟩ (ct_Md_out hal hN F u2 x4 (3 : Int32) (u3, v3) hc3  _) ⟨callB_of 2 hts gdMd_out rfl rfl rfl (hts _ tw_11) (hts _ tw_887) hdMd_out ⟨Nat.le_of_ble_eq_true rfl, Nat.le_of_ble_eq_true rfl⟩, (hts _ tw_888)⟩ (x_preS hK hD hNx hP) rfl rfl hl.1 rfl (lv_room (Nat.le_of_ble_eq_true rfl)) dMd_refer_20 ⟨Nat.zero_le _, Nat.zero_le _⟩) (fun H locs hP hS => ?_)
      refine lv_if_ne (tgt := 36) hx hb dMd_refer_23 rfl (fun hc => ?_) (fun hc => ?_)
      · replace h := it_f h hc
        exact wk_Md_refer_36 ⟨hx, hb, hml, hown, hts, hr, hlocks, hK, hA, hD, hN, hal, hNx⟩ F out u3 x0 x0 x1 x2 x3 x4 x5 h q0 q0 _ _ _ (lv_sub hl [0, 1, 2, 3, 4, 5] rfl) hP hS
      · replace h := it_t h hc
        refine lv_iload hx hb dMd_refer_26 (lv_at hl 5 rfl) ?_
        refine lv_bipush (v := 16) hx hb dMd_refer_28 (by decide) ?_
        obtain ⟨u4, v4, hc4, h⟩ := bd2_some h
        refine x_ci (u := u3) (out := (u4, v4)) hA hD hS (va_runS (As := [.int x5, .int (16 : Int32)]) (rest := [.ref (ad x0)]) ⟨hx, hb, hml, hown, hts⟩ (ct_Md_out hal hN F u3 x5 (16 : Int32) (u4, v4) hc4  _) ⟨callB_of 2 hts gdMd_out rfl rfl rfl (hts _ tw_11) (hts _ tw_887) hdMd_out ⟨Nat.le_of_ble_eq_true rfl, Nat.le_of_ble_eq_true rfl⟩, (hts _ tw_888)⟩ (x_preS hK hD hNx hP) rfl rfl hl.1 rfl (lv_room (Nat.le_of_ble_eq_true rfl)) dMd_refer_30 ⟨Nat.zero_le _, Nat.zero_le _⟩) (fun H locs hP hS => ?_)
        refine lv_if_eq (tgt := 40) hx hb dMd_refer_33 rfl (fun hc => ?_) (fun hc => ?_)
        · replace h := it_t h hc
          refine lv_iconst (v := 0) hx hb dMd_refer_40 (by decide) ?_
          exact wk_Md_refer_41 ⟨hx, hb, hml, hown, hts, hr, hlocks, hK, hA, hD, hN, hal, hNx⟩ F out u4 x0 (0 : Int32) x0 x1 x2 x3 x4 x5 h q0 q0 _ _ _ (lv_sub hl [0, 1, 2, 3, 4, 5] rfl) hP hS
        · replace h := it_f h hc
          exact wk_Md_refer_36 ⟨hx, hb, hml, hown, hts, hr, hlocks, hK, hA, hD, hN, hal, hNx⟩ F out u4 x0 x0 x1 x2 x3 x4 x5 h q0 q0 _ _ _ (lv_sub hl [0, 1, 2, 3, 4, 5] rfl) hP hS
def fn_Md_refer (F : Nat) (al : Nat → Bool) (u : Mr) (x0 : Nat) (x1 : Int32) (x2 : Int32) (x3 : Int32) (x4 : Int32) (x5 : Int32) : Option (Mr × Int32) := bk_Md_refer_0 F al u x0 x1 x2 x3 x4 x5
set_option maxHeartbeats 4000000 in
set_option maxRecDepth 100000 in
theorem ct_Md_refer {l : Launch} {D : va_G} {cA : Nat → ClassId} {ad : Nat → Nat} {L : List Nat} {rs : va_W} {al : Nat → Bool} (hal : ∀ k, al k = true → k ∈ L) (hN : L.Nodup) (F : Nat) (u : Mr) (x0 : Nat) (x1 : Int32) (x2 : Int32) (x3 : Int32) (x4 : Int32) (x5 : Int32) (out : Mr × Int32) (h : fn_Md_refer F al u x0 x1 x2 x3 x4 x5 = some out) (q0 : okk al 32 x0 = true) : CtV l yMd_refer wsMd_refer rm_Md_refer [.ref (ad x0), .int x1, .int x2, .int x3, .int x4, .int x5] D cA ad L rs u out := by
  intro sz
  refine Met.ofW (cc := cMd_refer) (maxL := 7) (ret := none) (by decide) rfl ?_
  intro p e s m args below meth c s₁ B hml hv
  obtain ⟨rfl, hsz, hP, hK, hD0, hNx⟩ := hv
  subst hsz
  have hD := hD0.self (sz := s.heap.size)
  generalize hAe : va_A (ww ad cA L rs u) s.heap.size = A at hD ⊢
  have hA : ∀ q, s.heap.size ≤ q → A q := fun q h => by rw [← hAe]; exact Or.inr h
  have hl := lv_entry ([.ref (ad x0), .int x1, .int x2, .int x3, .int x4, .int x5]) (n := 7) (Nat.le_of_ble_eq_true rfl)
  rw [lg_entry_eq]
  generalize (lg_sl ([.ref (ad x0), .int x1, .int x2, .int x3, .int x4, .int x5]) ++ List.replicate (7 - (lg_sl ([.ref (ad x0), .int x1, .int x2, .int x3, .int x4, .int x5])).length) Slot.unset).toArray = ls at hl ⊢
  exact wk_Md_refer_0 ⟨B.exec, B.bytes, hml, findClass_of_methodNamed B.named, hts_bw (atoms_spec (ws := wsMd_refer) B.pre), B.returns, B.notSynchronized, hK, hA, fun v => ww_D hD, hN, hal, hNx⟩ F out u x0 x1 x2 x3 x4 x5 h q0 _ _ _ (lv_sub hl [0, 1, 2, 3, 4, 5] rfl) hP va_S.rf
abbrev rm_Md_imported : Room := { frames := 1, cells := 0, slots := 0, locals := 22 }
def bk_Md_imported_41 (F : Nat) (al : Nat → Bool) (u : Mr) (s0 : Nat) (s1 : Int32) (x0 : Nat) (x1 : Int32) (x2 : Int32) (x3 : Int32) : Option (Mr × Int32) := bd2 (fn_Md_fails F al u s0 s1 (1 : Int32)) fun u1 v1 => (if v1 = 0 then (bd1 (rdR al u1 x0 12 38) fun y2 => (ck (inb x1 16) (bd1 (rdR al (stI u1 y2 x1 (x2 + (1 : Int32))) x0 13 38) fun y5 => (if 0 ≤ x2 then (ck (inb x1 16) (some (stI (stI u1 y2 x1 (x2 + (1 : Int32))) y5 x1 x3, 0))) else (ck (inb x1 16) (some (stI (stI u1 y2 x1 (x2 + (1 : Int32))) y5 x1 (0 : Int32), 0))))))) else (some (u1, 0)))
set_option maxHeartbeats 4000000 in
set_option maxRecDepth 100000 in
theorem wk_Md_imported_41 (cx : Cx p l e s m args below meth c cMd_imported 4 bw "ImageForgeModel" none D cA ad L rs al A) (F : Nat) (out : Mr × Int32) : ∀ (u : Mr) (s0 : Nat) (s1 : Int32) (x0 : Nat) (x1 : Int32) (x2 : Int32) (x3 : Int32), bk_Md_imported_41 F al u s0 s1 x0 x1 x2 x3 = some out → okk al 32 x0 = true → okk al 32 s0 = true → Wb p l e rm_Md_imported s m args below meth c D cA ad L rs A (QV below args s D cA ad L rs A out) 4 41 [(0, .ref (ad x0)), (1, .int x1), (2, .int x2), (3, .int x3)] [.int s1, .ref (ad s0)] u := by
  obtain ⟨hx, hb, hml, hown, hts, hr, hlocks, hK, hA, hD, hN, hal, hNx⟩ := cx
  intro u s0 s1 x0 x1 x2 x3 h q0 qs0 H locs ls hl hP hS
  unfold bk_Md_imported_41 at h
  refine lv_iconst (v := 1) hx hb dMd_imported_41 (by decide) ?_
  obtain ⟨u1, v1, hc1, h⟩ := bd2_some h
  refine x_ci (u := u) (out := (u1, v1)) hA hD hS (va_runV (As := [.int s1, .int (1 : Int32)]) (rest := []) ⟨hx, hb, hml, hown, hts⟩ (ct_Md_fails hal hN F u s0 s1 (1 : Int32) (u1, v1) hc1 qs0 _) ⟨callB_of 2 hts gdMd_fails rfl rfl rfl (hts _ tw_11) (hts _ tw_890) hdMd_fails ⟨Nat.le_of_ble_eq_true rfl, Nat.le_of_ble_eq_true rfl⟩, (hts _ tw_892), (hts _ tp_52)⟩ (x_preV hK hD hNx hP (hal _ (okk_al qs0)) (okk_t qs0) rfl rfl) rfl rfl hl.1 rfl (lv_room (Nat.le_of_ble_eq_true rfl)) dMd_imported_42 ⟨Nat.zero_le _, Nat.zero_le _⟩) (fun H locs hP hS => ?_)
  refine lv_if_eq (tgt := 49) hx hb dMd_imported_45 rfl (fun hc => ?_) (fun hc => ?_)
  · replace h := it_t h hc
    refine lv_aload_n hx hb dMd_imported_49 rfl (lv_at hl 0 rfl) ?_
    obtain ⟨y2, hy3, h⟩ := bd1_some h
    obtain ⟨hy3a, hy3⟩ := rdR_some hy3
    refine x_get hx hb hts in_Md hown hK hP (hal _ (okk_al q0)) (okk_t q0) rfl rfl 12 (by decide) (hts _ tw_794) (fun _ h9 => h9) (congrArg some (x_rf hy3a)) dMd_imported_50 ?_
    refine lv_iload_n hx hb dMd_imported_53 rfl (lv_at hl 1 rfl) ?_
    refine lv_iload_n hx hb dMd_imported_54 rfl (lv_at hl 2 rfl) ?_
    refine lv_iconst (v := 1) hx hb dMd_imported_55 (by decide) ?_
    refine lv_iadd hx hb dMd_imported_56 ?_
    obtain ⟨hi4, h⟩ := ck_some h
    refine x_iast hx hb hK hD hN hP hS (hal _ (okk_al hy3)) (okk_t hy3) 0 (fun _ _ _ => rfl) rfl (by decide) (inb_in hi4) dMd_imported_57 (fun H locs hP hS => ?_)
    refine lv_aload_n hx hb dMd_imported_58 rfl (lv_at hl 0 rfl) ?_
    obtain ⟨y5, hy6, h⟩ := bd1_some h
    obtain ⟨hy6a, hy6⟩ := rdR_some hy6
    refine x_get hx hb hts in_Md hown hK hP (hal _ (okk_al q0)) (okk_t q0) rfl rfl 13 (by decide) (hts _ tw_795) (fun _ h9 => h9) (congrArg some (x_rf hy6a)) dMd_imported_59 ?_
    refine lv_iload_n hx hb dMd_imported_62 rfl (lv_at hl 1 rfl) ?_
    refine lv_iload_n hx hb dMd_imported_63 rfl (lv_at hl 2 rfl) ?_
    refine lv_if_ge (tgt := 71) hx hb dMd_imported_64 rfl (fun hc => ?_) (fun hc => ?_)
    · replace h := it_t h hc
      refine lv_iload_n hx hb dMd_imported_71 rfl (lv_at hl 3 rfl) ?_
      obtain ⟨hi7, h⟩ := ck_some h
      refine x_iast hx hb hK hD hN hP hS (hal _ (okk_al hy6)) (okk_t hy6) 0 (fun _ _ _ => rfl) rfl (by decide) (inb_in hi7) dMd_imported_72 (fun H locs hP hS => ?_)
      exact x_vret hx hb hr hlocks h hP hS dMd_imported_73
    · replace h := it_f h hc
      refine lv_iconst (v := 0) hx hb dMd_imported_67 (by decide) ?_
      refine lv_goto (tgt := 72) hx hb dMd_imported_68 rfl ?_
      obtain ⟨hi8, h⟩ := ck_some h
      refine x_iast hx hb hK hD hN hP hS (hal _ (okk_al hy6)) (okk_t hy6) 0 (fun _ _ _ => rfl) rfl (by decide) (inb_in hi8) dMd_imported_72 (fun H locs hP hS => ?_)
      exact x_vret hx hb hr hlocks h hP hS dMd_imported_73
  · replace h := it_f h hc
    exact x_vret hx hb hr hlocks h hP hS dMd_imported_48
def bk_Md_imported_36 (F : Nat) (al : Nat → Bool) (u : Mr) (s0 : Nat) (x0 : Nat) (x1 : Int32) (x2 : Int32) (x3 : Int32) : Option (Mr × Int32) := bk_Md_imported_41 F al u s0 (1 : Int32) x0 x1 x2 x3
set_option maxHeartbeats 4000000 in
set_option maxRecDepth 100000 in
theorem wk_Md_imported_36 (cx : Cx p l e s m args below meth c cMd_imported 4 bw "ImageForgeModel" none D cA ad L rs al A) (F : Nat) (out : Mr × Int32) : ∀ (u : Mr) (s0 : Nat) (x0 : Nat) (x1 : Int32) (x2 : Int32) (x3 : Int32), bk_Md_imported_36 F al u s0 x0 x1 x2 x3 = some out → okk al 32 x0 = true → okk al 32 s0 = true → Wb p l e rm_Md_imported s m args below meth c D cA ad L rs A (QV below args s D cA ad L rs A out) 4 36 [(0, .ref (ad x0)), (1, .int x1), (2, .int x2), (3, .int x3)] [.ref (ad s0)] u := by
  obtain ⟨hx, hb, hml, hown, hts, hr, hlocks, hK, hA, hD, hN, hal, hNx⟩ := cx
  intro u s0 x0 x1 x2 x3 h q0 qs0 H locs ls hl hP hS
  unfold bk_Md_imported_36 at h
  refine lv_iconst (v := 1) hx hb dMd_imported_36 (by decide) ?_
  refine lv_goto (tgt := 41) hx hb dMd_imported_37 rfl ?_
  exact wk_Md_imported_41 ⟨hx, hb, hml, hown, hts, hr, hlocks, hK, hA, hD, hN, hal, hNx⟩ F out u s0 (1 : Int32) x0 x1 x2 x3 h q0 qs0 _ _ _ (lv_sub hl [0, 1, 2, 3] rfl) hP hS
def bk_Md_imported_40 (F : Nat) (al : Nat → Bool) (u : Mr) (s0 : Nat) (x0 : Nat) (x1 : Int32) (x2 : Int32) (x3 : Int32) : Option (Mr × Int32) := bk_Md_imported_41 F al u s0 (0 : Int32) x0 x1 x2 x3
set_option maxHeartbeats 4000000 in
set_option maxRecDepth 100000 in
theorem wk_Md_imported_40 (cx : Cx p l e s m args below meth c cMd_imported 4 bw "ImageForgeModel" none D cA ad L rs al A) (F : Nat) (out : Mr × Int32) : ∀ (u : Mr) (s0 : Nat) (x0 : Nat) (x1 : Int32) (x2 : Int32) (x3 : Int32), bk_Md_imported_40 F al u s0 x0 x1 x2 x3 = some out → okk al 32 x0 = true → okk al 32 s0 = true → Wb p l e rm_Md_imported s m args below meth c D cA ad L rs A (QV below args s D cA ad L rs A out) 4 40 [(0, .ref (ad x0)), (1, .int x1), (2, .int x2), (3, .int x3)] [.ref (ad s0)] u := by
  obtain ⟨hx, hb, hml, hown, hts, hr, hlocks, hK, hA, hD, hN, hal, hNx⟩ := cx
  intro u s0 x0 x1 x2 x3 h q0 qs0 H locs ls hl hP hS
  unfold bk_Md_imported_40 at h
  refine lv_iconst (v := 0) hx hb dMd_imported_40 (by decide) ?_
  exact wk_Md_imported_41 ⟨hx, hb, hml, hown, hts, hr, hlocks, hK, hA, hD, hN, hal, hNx⟩ F out u s0 (0 : Int32) x0 x1 x2 x3 h q0 qs0 _ _ _ (lv_sub hl [0, 1, 2, 3] rfl) hP hS
def bk_Md_imported_23 (F : Nat) (al : Nat → Bool) (u : Mr) (s0 : Nat) (x0 : Nat) (x1 : Int32) (x2 : Int32) (x3 : Int32) : Option (Mr × Int32) := if x2 < 0 then (bk_Md_imported_40 F al u s0 x0 x1 x2 x3) else (bd2 (fn_Md_out F al u x3 (100 : Int32)) fun u1 v1 => (if v1 = 0 then (bk_Md_imported_40 F al u1 s0 x0 x1 x2 x3) else (bk_Md_imported_36 F al u1 s0 x0 x1 x2 x3)))
set_option maxHeartbeats 4000000 in
set_option maxRecDepth 100000 in
theorem wk_Md_imported_23 (cx : Cx p l e s m args below meth c cMd_imported 4 bw "ImageForgeModel" none D cA ad L rs al A) (F : Nat) (out : Mr × Int32) : ∀ (u : Mr) (s0 : Nat) (x0 : Nat) (x1 : Int32) (x2 : Int32) (x3 : Int32), bk_Md_imported_23 F al u s0 x0 x1 x2 x3 = some out → okk al 32 x0 = true → okk al 32 s0 = true → Wb p l e rm_Md_imported s m args below meth c D cA ad L rs A (QV below args s D cA ad L rs A out) 4 23 [(0, .ref (ad x0)), (1, .int x1), (2, .int x2), (3, .int x3)] [.ref (ad s0)] u := by
  obtain ⟨hx, hb, hml, hown, hts, hr, hlocks, hK, hA, hD, hN, hal, hNx⟩ := cx
  intro u s0 x0 x1 x2 x3 h q0 qs0 H locs ls hl hP hS
  unfold bk_Md_imported_23 at h
  refine lv_iload_n hx hb dMd_imported_23 rfl (lv_at hl 2 rfl) ?_
  refine lv_if_lt (tgt := 40) hx hb dMd_imported_24 rfl (fun hc => ?_) (fun hc => ?_)
  · replace h := it_t h hc
    exact wk_Md_imported_40 ⟨hx, hb, hml, hown, hts, hr, hlocks, hK, hA, hD, hN, hal, hNx⟩ F out u s0 x0 x1 x2 x3 h q0 qs0 _ _ _ (lv_sub hl [0, 1, 2, 3] rfl) hP hS
  · replace h := it_f h hc
    refine lv_iload_n hx hb dMd_imported_27 rfl (lv_at hl 3 rfl) ?_
    refine lv_bipush (v := 100) hx hb dMd_imported_28 (by decide) ?_
    obtain ⟨u1, v1, hc1, h⟩ := bd2_some h
    refine x_ci (u := u) (out := (u1, v1)) hA hD hS (va_runS (As := [.int x3, .int (100 : Int32)]) (rest := [.ref (ad s0)]) ⟨hx, hb, hml, hown, hts⟩ (ct_Md_out hal hN F u x3 (100 : Int32) (u1, v1) hc1  _) ⟨callB_of 2 hts gdMd_out rfl rfl rfl (hts _ tw_11) (hts _ tw_887) hdMd_out ⟨Nat.le_of_ble_eq_true rfl, Nat.le_of_ble_eq_true rfl⟩, (hts _ tw_888)⟩ (x_preS hK hD hNx hP) rfl rfl hl.1 rfl (lv_room (Nat.le_of_ble_eq_true rfl)) dMd_imported_30 ⟨Nat.zero_le _, Nat.zero_le _⟩) (fun H locs hP hS => ?_)
    refine lv_if_eq (tgt := 40) hx hb dMd_imported_33 rfl (fun hc => ?_) (fun hc => ?_)
    · replace h := it_t h hc
      exact wk_Md_imported_40 ⟨hx, hb, hml, hown, hts, hr, hlocks, hK, hA, hD, hN, hal, hNx⟩ F out u1 s0 x0 x1 x2 x3 h q0 qs0 _ _ _ (lv_sub hl [0, 1, 2, 3] rfl) hP hS
    · replace h := it_f h hc
      exact wk_Md_imported_36 ⟨hx, hb, hml, hown, hts, hr, hlocks, hK, hA, hD, hN, hal, hNx⟩ F out u1 s0 x0 x1 x2 x3 h q0 qs0 _ _ _ (lv_sub hl [0, 1, 2, 3] rfl) hP hS
def bk_Md_imported_0 (F : Nat) (al : Nat → Bool) (u : Mr) (x0 : Nat) (x1 : Int32) (x2 : Int32) (x3 : Int32) : Option (Mr × Int32) := bd2 (fn_Md_out F al u x1 (16 : Int32)) fun u1 v1 => (if v1 = 0 then (bd2 (fn_Md_out F al u1 x2 (4 : Int32)) fun u2 v2 => (if v2 = 0 then (bk_Md_imported_23 F al u2 x0 x0 x1 x2 x3) else (if x2 = (-1 : Int32) then (bk_Md_imported_23 F al u2 x0 x0 x1 x2 x3) else (bk_Md_imported_36 F al u2 x0 x0 x1 x2 x3)))) else (bk_Md_imported_36 F al u1 x0 x0 x1 x2 x3))
set_option maxHeartbeats 4000000 in
set_option maxRecDepth 100000 in
theorem wk_Md_imported_0 (cx : Cx p l e s m args below meth c cMd_imported 4 bw "ImageForgeModel" none D cA ad L rs al A) (F : Nat) (out : Mr × Int32) : ∀ (u : Mr) (x0 : Nat) (x1 : Int32) (x2 : Int32) (x3 : Int32), bk_Md_imported_0 F al u x0 x1 x2 x3 = some out → okk al 32 x0 = true → Wb p l e rm_Md_imported s m args below meth c D cA ad L rs A (QV below args s D cA ad L rs A out) 4 0 [(0, .ref (ad x0)), (1, .int x1), (2, .int x2), (3, .int x3)] [] u := by
  obtain ⟨hx, hb, hml, hown, hts, hr, hlocks, hK, hA, hD, hN, hal, hNx⟩ := cx
  intro u x0 x1 x2 x3 h q0 H locs ls hl hP hS
  unfold bk_Md_imported_0 at h
  refine lv_aload_n hx hb dMd_imported_0 rfl (lv_at hl 0 rfl) ?_
  refine lv_iload_n hx hb dMd_imported_1 rfl (lv_at hl 1 rfl) ?_
  refine lv_bipush (v := 16) hx hb dMd_imported_2 (by decide) ?_
  obtain ⟨u1, v1, hc1, h⟩ := bd2_some h
  refine x_ci (u := u) (out := (u1, v1)) hA hD hS (va_runS (As := [.int x1, .int (16 : Int32)]) (rest := [.ref (ad x0)]) ⟨hx, hb, hml, hown, hts⟩ (ct_Md_out hal hN F u x1 (16 : Int32) (u1, v1) hc1  _) ⟨callB_of 2 hts gdMd_out rfl rfl rfl (hts _ tw_11) (hts _ tw_887) hdMd_out ⟨Nat.le_of_ble_eq_true rfl, Nat.le_of_ble_eq_true rfl⟩, (hts _ tw_888)⟩ (x_preS hK hD hNx hP) rfl rfl hl.1 rfl (lv_room (Nat.le_of_ble_eq_true rfl)) dMd_imported_4 ⟨Nat.zero_le _, Nat.zero_le _⟩) (fun H locs hP hS => ?_)
  refine lv_if_ne (tgt := 36) hx hb dMd_imported_7 rfl (fun hc => ?_) (fun hc => ?_)
  · replace h := it_f h hc
    exact wk_Md_imported_36 ⟨hx, hb, hml, hown, hts, hr, hlocks, hK, hA, hD, hN, hal, hNx⟩ F out u1 x0 x0 x1 x2 x3 h q0 q0 _ _ _ (lv_sub hl [0, 1, 2, 3] rfl) hP hS
  · replace h := it_t h hc
    refine lv_iload_n hx hb dMd_imported_10 rfl (lv_at hl 2 rfl) ?_
    refine lv_iconst (v := 4) hx hb dMd_imported_11 (by decide) ?_
    obtain ⟨u2, v2, hc2, h⟩ := bd2_some h
    refine x_ci (u := u1) (out := (u2, v2)) hA hD hS (va_runS (As := [.int x2, .int (4 : Int32)]) (rest := [.ref (ad x0)]) ⟨hx, hb, hml, hown, hts⟩ (ct_Md_out hal hN F u1 x2 (4 : Int32) (u2, v2) hc2  _) ⟨callB_of 2 hts gdMd_out rfl rfl rfl (hts _ tw_11) (hts _ tw_887) hdMd_out ⟨Nat.le_of_ble_eq_true rfl, Nat.le_of_ble_eq_true rfl⟩, (hts _ tw_888)⟩ (x_preS hK hD hNx hP) rfl rfl hl.1 rfl (lv_room (Nat.le_of_ble_eq_true rfl)) dMd_imported_12 ⟨Nat.zero_le _, Nat.zero_le _⟩) (fun H locs hP hS => ?_)
    refine lv_if_eq (tgt := 23) hx hb dMd_imported_15 rfl (fun hc => ?_) (fun hc => ?_)
    · replace h := it_t h hc
      exact wk_Md_imported_23 ⟨hx, hb, hml, hown, hts, hr, hlocks, hK, hA, hD, hN, hal, hNx⟩ F out u2 x0 x0 x1 x2 x3 h q0 q0 _ _ _ (lv_sub hl [0, 1, 2, 3] rfl) hP hS
    · replace h := it_f h hc
      refine lv_iload_n hx hb dMd_imported_18 rfl (lv_at hl 2 rfl) ?_
      refine lv_iconst (v := (-1)) hx hb dMd_imported_19 (by decide) ?_
      refine lv_icmp_ne (tgt := 36) hx hb dMd_imported_20 rfl (fun hc => ?_) (fun hc => ?_)
      · replace h := it_f h hc
        exact wk_Md_imported_36 ⟨hx, hb, hml, hown, hts, hr, hlocks, hK, hA, hD, hN, hal, hNx⟩ F out u2 x0 x0 x1 x2 x3 h q0 q0 _ _ _ (lv_sub hl [0, 1, 2, 3] rfl) hP hS
      · replace h := it_t h hc
        exact wk_Md_imported_23 ⟨hx, hb, hml, hown, hts, hr, hlocks, hK, hA, hD, hN, hal, hNx⟩ F out u2 x0 x0 x1 x2 x3 h q0 q0 _ _ _ (lv_sub hl [0, 1, 2, 3] rfl) hP hS
def fn_Md_imported (F : Nat) (al : Nat → Bool) (u : Mr) (x0 : Nat) (x1 : Int32) (x2 : Int32) (x3 : Int32) : Option (Mr × Int32) := bk_Md_imported_0 F al u x0 x1 x2 x3
set_option maxHeartbeats 4000000 in
set_option maxRecDepth 100000 in
theorem ct_Md_imported {l : Launch} {D : va_G} {cA : Nat → ClassId} {ad : Nat → Nat} {L : List Nat} {rs : va_W} {al : Nat → Bool} (hal : ∀ k, al k = true → k ∈ L) (hN : L.Nodup) (F : Nat) (u : Mr) (x0 : Nat) (x1 : Int32) (x2 : Int32) (x3 : Int32) (out : Mr × Int32) (h : fn_Md_imported F al u x0 x1 x2 x3 = some out) (q0 : okk al 32 x0 = true) : CtV l yMd_imported wsMd_imported rm_Md_imported [.ref (ad x0), .int x1, .int x2, .int x3] D cA ad L rs u out := by
  intro sz
  refine Met.ofW (cc := cMd_imported) (maxL := 4) (ret := none) (by decide) rfl ?_
  intro p e s m args below meth c s₁ B hml hv
  obtain ⟨rfl, hsz, hP, hK, hD0, hNx⟩ := hv
  subst hsz
  have hD := hD0.self (sz := s.heap.size)
  generalize hAe : va_A (ww ad cA L rs u) s.heap.size = A at hD ⊢
  have hA : ∀ q, s.heap.size ≤ q → A q := fun q h => by rw [← hAe]; exact Or.inr h
  have hl := lv_entry ([.ref (ad x0), .int x1, .int x2, .int x3]) (n := 4) (Nat.le_of_ble_eq_true rfl)
  rw [lg_entry_eq]
  generalize (lg_sl ([.ref (ad x0), .int x1, .int x2, .int x3]) ++ List.replicate (4 - (lg_sl ([.ref (ad x0), .int x1, .int x2, .int x3])).length) Slot.unset).toArray = ls at hl ⊢
  exact wk_Md_imported_0 ⟨B.exec, B.bytes, hml, findClass_of_methodNamed B.named, hts_bw (atoms_spec (ws := wsMd_imported) B.pre), B.returns, B.notSynchronized, hK, hA, fun v => ww_D hD, hN, hal, hNx⟩ F out u x0 x1 x2 x3 h q0 _ _ _ (lv_sub hl [0, 1, 2, 3] rfl) hP va_S.rf
abbrev rm_Md_exported : Room := { frames := 1, cells := 0, slots := 0, locals := 22 }
def bk_Md_exported_0 (F : Nat) (al : Nat → Bool) (u : Mr) (x0 : Nat) (x1 : Int32) (x2 : Int32) : Option (Mr × Int32) := bd2 (fn_Md_out F al u x1 (16 : Int32)) fun u1 v1 => (bd2 (fn_Md_fails F al u1 x0 v1 (1 : Int32)) fun u2 v2 => (if v2 = 0 then (bd1 (rdR al u2 x0 14 39) fun y3 => (ck (inb x1 16) (ck (isz x2) (some (stI u2 y3 x1 x2, 0))))) else (some (u2, 0))))
set_option maxHeartbeats 4000000 in
set_option maxRecDepth 100000 in
theorem wk_Md_exported_0 (cx : Cx p l e s m args below meth c cMd_exported 3 bw "ImageForgeModel" none D cA ad L rs al A) (F : Nat) (out : Mr × Int32) : ∀ (u : Mr) (x0 : Nat) (x1 : Int32) (x2 : Int32), bk_Md_exported_0 F al u x0 x1 x2 = some out → okk al 32 x0 = true → Wb p l e rm_Md_exported s m args below meth c D cA ad L rs A (QV below args s D cA ad L rs A out) 3 0 [(0, .ref (ad x0)), (1, .int x1), (2, .int x2)] [] u := by
  obtain ⟨hx, hb, hml, hown, hts, hr, hlocks, hK, hA, hD, hN, hal, hNx⟩ := cx
  intro u x0 x1 x2 h q0 H locs ls hl hP hS
  unfold bk_Md_exported_0 at h
  refine lv_aload_n hx hb dMd_exported_0 rfl (lv_at hl 0 rfl) ?_
  refine lv_iload_n hx hb dMd_exported_1 rfl (lv_at hl 1 rfl) ?_
  refine lv_bipush (v := 16) hx hb dMd_exported_2 (by decide) ?_
  obtain ⟨u1, v1, hc1, h⟩ := bd2_some h
  refine x_ci (u := u) (out := (u1, v1)) hA hD hS (va_runS (As := [.int x1, .int (16 : Int32)]) (rest := [.ref (ad x0)]) ⟨hx, hb, hml, hown, hts⟩ (ct_Md_out hal hN F u x1 (16 : Int32) (u1, v1) hc1  _) ⟨callB_of 2 hts gdMd_out rfl rfl rfl (hts _ tw_11) (hts _ tw_887) hdMd_out ⟨Nat.le_of_ble_eq_true rfl, Nat.le_of_ble_eq_true rfl⟩, (hts _ tw_888)⟩ (x_preS hK hD hNx hP) rfl rfl hl.1 rfl (lv_room (Nat.le_of_ble_eq_true rfl)) dMd_exported_4 ⟨Nat.zero_le _, Nat.zero_le _⟩) (fun H locs hP hS => ?_)
  refine lv_iconst (v := 1) hx hb dMd_exported_7 (by decide) ?_
  obtain ⟨u2, v2, hc2, h⟩ := bd2_some h
  refine x_ci (u := u1) (out := (u2, v2)) hA hD hS (va_runV (As := [.int v1, .int (1 : Int32)]) (rest := []) ⟨hx, hb, hml, hown, hts⟩ (ct_Md_fails hal hN F u1 x0 v1 (1 : Int32) (u2, v2) hc2 q0 _) ⟨callB_of 2 hts gdMd_fails rfl rfl rfl (hts _ tw_11) (hts _ tw_890) hdMd_fails ⟨Nat.le_of_ble_eq_true rfl, Nat.le_of_ble_eq_true rfl⟩, (hts _ tw_892), (hts _ tp_52)⟩ (x_preV hK hD hNx hP (hal _ (okk_al q0)) (okk_t q0) rfl rfl) rfl rfl hl.1 rfl (lv_room (Nat.le_of_ble_eq_true rfl)) dMd_exported_8 ⟨Nat.zero_le _, Nat.zero_le _⟩) (fun H locs hP hS => ?_)
  refine lv_if_eq (tgt := 15) hx hb dMd_exported_11 rfl (fun hc => ?_) (fun hc => ?_)
  · replace h := it_t h hc
    refine lv_aload_n hx hb dMd_exported_15 rfl (lv_at hl 0 rfl) ?_
    obtain ⟨y3, hy4, h⟩ := bd1_some h
    obtain ⟨hy4a, hy4⟩ := rdR_some hy4
    refine x_get hx hb hts in_Md hown hK hP (hal _ (okk_al q0)) (okk_t q0) rfl rfl 14 (by decide) (hts _ tw_796) (fun _ h9 => h9) (congrArg some (x_rf hy4a)) dMd_exported_16 ?_
    refine lv_iload_n hx hb dMd_exported_19 rfl (lv_at hl 1 rfl) ?_
    refine lv_iload_n hx hb dMd_exported_20 rfl (lv_at hl 2 rfl) ?_
    obtain ⟨hi5, h⟩ := ck_some h
    obtain ⟨hz6, h⟩ := ck_some h
    refine x_zast hx hb hK hD hN hP hS (hal _ (okk_al hy4)) (okk_t hy4) 2 (fun _ _ _ => rfl) rfl (by decide) (inb_in hi5) (isz_vp hz6) dMd_exported_21 (fun H locs hP hS => ?_)
    exact x_vret hx hb hr hlocks h hP hS dMd_exported_22
  · replace h := it_f h hc
    exact x_vret hx hb hr hlocks h hP hS dMd_exported_14
def fn_Md_exported (F : Nat) (al : Nat → Bool) (u : Mr) (x0 : Nat) (x1 : Int32) (x2 : Int32) : Option (Mr × Int32) := bk_Md_exported_0 F al u x0 x1 x2
set_option maxHeartbeats 4000000 in
set_option maxRecDepth 100000 in
theorem ct_Md_exported {l : Launch} {D : va_G} {cA : Nat → ClassId} {ad : Nat → Nat} {L : List Nat} {rs : va_W} {al : Nat → Bool} (hal : ∀ k, al k = true → k ∈ L) (hN : L.Nodup) (F : Nat) (u : Mr) (x0 : Nat) (x1 : Int32) (x2 : Int32) (out : Mr × Int32) (h : fn_Md_exported F al u x0 x1 x2 = some out) (q0 : okk al 32 x0 = true) : CtV l yMd_exported wsMd_exported rm_Md_exported [.ref (ad x0), .int x1, .int x2] D cA ad L rs u out := by
  intro sz
  refine Met.ofW (cc := cMd_exported) (maxL := 3) (ret := none) (by decide) rfl ?_
  intro p e s m args below meth c s₁ B hml hv
  obtain ⟨rfl, hsz, hP, hK, hD0, hNx⟩ := hv
  subst hsz
  have hD := hD0.self (sz := s.heap.size)
  generalize hAe : va_A (ww ad cA L rs u) s.heap.size = A at hD ⊢
  have hA : ∀ q, s.heap.size ≤ q → A q := fun q h => by rw [← hAe]; exact Or.inr h
  have hl := lv_entry ([.ref (ad x0), .int x1, .int x2]) (n := 3) (Nat.le_of_ble_eq_true rfl)
  rw [lg_entry_eq]
  generalize (lg_sl ([.ref (ad x0), .int x1, .int x2]) ++ List.replicate (3 - (lg_sl ([.ref (ad x0), .int x1, .int x2])).length) Slot.unset).toArray = ls at hl ⊢
  exact wk_Md_exported_0 ⟨B.exec, B.bytes, hml, findClass_of_methodNamed B.named, hts_bw (atoms_spec (ws := wsMd_exported) B.pre), B.returns, B.notSynchronized, hK, hA, fun v => ww_D hD, hN, hal, hNx⟩ F out u x0 x1 x2 h q0 _ _ _ (lv_sub hl [0, 1, 2] rfl) hP va_S.rf
abbrev rm_Md_offer : Room := { frames := 1, cells := 0, slots := 0, locals := 22 }
def bk_Md_offer_23 (F : Nat) (al : Nat → Bool) (u : Mr) (s0 : Nat) (s1 : Int32) (x0 : Nat) (x1 : Int32) (x2 : Int32) (x3 : Int32) : Option (Mr × Int32) := bd2 (fn_Md_fails F al u s0 s1 (1 : Int32)) fun u1 v1 => (if v1 = 0 then (bd1 (rdR al u1 x0 15 40) fun y2 => (ck (inb (((100 : Int32) * x1) + x2) 400) (some (stI u1 y2 (((100 : Int32) * x1) + x2) x3, 0)))) else (some (u1, 0)))
set_option maxHeartbeats 4000000 in
set_option maxRecDepth 100000 in
theorem wk_Md_offer_23 (cx : Cx p l e s m args below meth c cMd_offer 4 bw "ImageForgeModel" none D cA ad L rs al A) (F : Nat) (out : Mr × Int32) : ∀ (u : Mr) (s0 : Nat) (s1 : Int32) (x0 : Nat) (x1 : Int32) (x2 : Int32) (x3 : Int32), bk_Md_offer_23 F al u s0 s1 x0 x1 x2 x3 = some out → okk al 32 x0 = true → okk al 32 s0 = true → Wb p l e rm_Md_offer s m args below meth c D cA ad L rs A (QV below args s D cA ad L rs A out) 4 23 [(0, .ref (ad x0)), (1, .int x1), (2, .int x2), (3, .int x3)] [.int s1, .ref (ad s0)] u := by
  obtain ⟨hx, hb, hml, hown, hts, hr, hlocks, hK, hA, hD, hN, hal, hNx⟩ := cx
  intro u s0 s1 x0 x1 x2 x3 h q0 qs0 H locs ls hl hP hS
  unfold bk_Md_offer_23 at h
  refine lv_iconst (v := 1) hx hb dMd_offer_23 (by decide) ?_
  obtain ⟨u1, v1, hc1, h⟩ := bd2_some h
  refine x_ci (u := u) (out := (u1, v1)) hA hD hS (va_runV (As := [.int s1, .int (1 : Int32)]) (rest := []) ⟨hx, hb, hml, hown, hts⟩ (ct_Md_fails hal hN F u s0 s1 (1 : Int32) (u1, v1) hc1 qs0 _) ⟨callB_of 2 hts gdMd_fails rfl rfl rfl (hts _ tw_11) (hts _ tw_890) hdMd_fails ⟨Nat.le_of_ble_eq_true rfl, Nat.le_of_ble_eq_true rfl⟩, (hts _ tw_892), (hts _ tp_52)⟩ (x_preV hK hD hNx hP (hal _ (okk_al qs0)) (okk_t qs0) rfl rfl) rfl rfl hl.1 rfl (lv_room (Nat.le_of_ble_eq_true rfl)) dMd_offer_24 ⟨Nat.zero_le _, Nat.zero_le _⟩) (fun H locs hP hS => ?_)
  refine lv_if_eq (tgt := 31) hx hb dMd_offer_27 rfl (fun hc => ?_) (fun hc => ?_)
  · replace h := it_t h hc
    refine lv_aload_n hx hb dMd_offer_31 rfl (lv_at hl 0 rfl) ?_
    obtain ⟨y2, hy3, h⟩ := bd1_some h
    obtain ⟨hy3a, hy3⟩ := rdR_some hy3
    refine x_get hx hb hts in_Md hown hK hP (hal _ (okk_al q0)) (okk_t q0) rfl rfl 15 (by decide) (hts _ tw_797) (fun _ h9 => h9) (congrArg some (x_rf hy3a)) dMd_offer_32 ?_
    refine lv_bipush (v := 100) hx hb dMd_offer_35 (by decide) ?_
    refine lv_iload_n hx hb dMd_offer_37 rfl (lv_at hl 1 rfl) ?_
    refine lv_imul hx hb dMd_offer_38 ?_
    refine lv_iload_n hx hb dMd_offer_39 rfl (lv_at hl 2 rfl) ?_
    refine lv_iadd hx hb dMd_offer_40 ?_
    refine lv_iload_n hx hb dMd_offer_41 rfl (lv_at hl 3 rfl) ?_
    obtain ⟨hi4, h⟩ := ck_some h
    refine x_iast hx hb hK hD hN hP hS (hal _ (okk_al hy3)) (okk_t hy3) 0 (fun _ _ _ => rfl) rfl (by decide) (inb_in hi4) dMd_offer_42 (fun H locs hP hS => ?_)
    exact x_vret hx hb hr hlocks h hP hS dMd_offer_43
  · replace h := it_f h hc
    exact x_vret hx hb hr hlocks h hP hS dMd_offer_30
def bk_Md_offer_18 (F : Nat) (al : Nat → Bool) (u : Mr) (s0 : Nat) (x0 : Nat) (x1 : Int32) (x2 : Int32) (x3 : Int32) : Option (Mr × Int32) := bk_Md_offer_23 F al u s0 (1 : Int32) x0 x1 x2 x3
set_option maxHeartbeats 4000000 in
set_option maxRecDepth 100000 in
theorem wk_Md_offer_18 (cx : Cx p l e s m args below meth c cMd_offer 4 bw "ImageForgeModel" none D cA ad L rs al A) (F : Nat) (out : Mr × Int32) : ∀ (u : Mr) (s0 : Nat) (x0 : Nat) (x1 : Int32) (x2 : Int32) (x3 : Int32), bk_Md_offer_18 F al u s0 x0 x1 x2 x3 = some out → okk al 32 x0 = true → okk al 32 s0 = true → Wb p l e rm_Md_offer s m args below meth c D cA ad L rs A (QV below args s D cA ad L rs A out) 4 18 [(0, .ref (ad x0)), (1, .int x1), (2, .int x2), (3, .int x3)] [.ref (ad s0)] u := by
  obtain ⟨hx, hb, hml, hown, hts, hr, hlocks, hK, hA, hD, hN, hal, hNx⟩ := cx
  intro u s0 x0 x1 x2 x3 h q0 qs0 H locs ls hl hP hS
  unfold bk_Md_offer_18 at h
  refine lv_iconst (v := 1) hx hb dMd_offer_18 (by decide) ?_
  refine lv_goto (tgt := 23) hx hb dMd_offer_19 rfl ?_
  exact wk_Md_offer_23 ⟨hx, hb, hml, hown, hts, hr, hlocks, hK, hA, hD, hN, hal, hNx⟩ F out u s0 (1 : Int32) x0 x1 x2 x3 h q0 qs0 _ _ _ (lv_sub hl [0, 1, 2, 3] rfl) hP hS
def bk_Md_offer_0 (F : Nat) (al : Nat → Bool) (u : Mr) (x0 : Nat) (x1 : Int32) (x2 : Int32) (x3 : Int32) : Option (Mr × Int32) := bd2 (fn_Md_out F al u x1 (4 : Int32)) fun u1 v1 => (if v1 = 0 then (bd2 (fn_Md_out F al u1 x2 (100 : Int32)) fun u2 v2 => (if v2 = 0 then (bk_Md_offer_23 F al u2 x0 (0 : Int32) x0 x1 x2 x3) else (bk_Md_offer_18 F al u2 x0 x0 x1 x2 x3))) else (bk_Md_offer_18 F al u1 x0 x0 x1 x2 x3))
set_option maxHeartbeats 4000000 in
set_option maxRecDepth 100000 in
theorem wk_Md_offer_0 (cx : Cx p l e s m args below meth c cMd_offer 4 bw "ImageForgeModel" none D cA ad L rs al A) (F : Nat) (out : Mr × Int32) : ∀ (u : Mr) (x0 : Nat) (x1 : Int32) (x2 : Int32) (x3 : Int32), bk_Md_offer_0 F al u x0 x1 x2 x3 = some out → okk al 32 x0 = true → Wb p l e rm_Md_offer s m args below meth c D cA ad L rs A (QV below args s D cA ad L rs A out) 4 0 [(0, .ref (ad x0)), (1, .int x1), (2, .int x2), (3, .int x3)] [] u := by
  obtain ⟨hx, hb, hml, hown, hts, hr, hlocks, hK, hA, hD, hN, hal, hNx⟩ := cx
  intro u x0 x1 x2 x3 h q0 H locs ls hl hP hS
  unfold bk_Md_offer_0 at h
  refine lv_aload_n hx hb dMd_offer_0 rfl (lv_at hl 0 rfl) ?_
  refine lv_iload_n hx hb dMd_offer_1 rfl (lv_at hl 1 rfl) ?_
  refine lv_iconst (v := 4) hx hb dMd_offer_2 (by decide) ?_
  obtain ⟨u1, v1, hc1, h⟩ := bd2_some h
  refine x_ci (u := u) (out := (u1, v1)) hA hD hS (va_runS (As := [.int x1, .int (4 : Int32)]) (rest := [.ref (ad x0)]) ⟨hx, hb, hml, hown, hts⟩ (ct_Md_out hal hN F u x1 (4 : Int32) (u1, v1) hc1  _) ⟨callB_of 2 hts gdMd_out rfl rfl rfl (hts _ tw_11) (hts _ tw_887) hdMd_out ⟨Nat.le_of_ble_eq_true rfl, Nat.le_of_ble_eq_true rfl⟩, (hts _ tw_888)⟩ (x_preS hK hD hNx hP) rfl rfl hl.1 rfl (lv_room (Nat.le_of_ble_eq_true rfl)) dMd_offer_3 ⟨Nat.zero_le _, Nat.zero_le _⟩) (fun H locs hP hS => ?_)
  refine lv_if_ne (tgt := 18) hx hb dMd_offer_6 rfl (fun hc => ?_) (fun hc => ?_)
  · replace h := it_f h hc
    exact wk_Md_offer_18 ⟨hx, hb, hml, hown, hts, hr, hlocks, hK, hA, hD, hN, hal, hNx⟩ F out u1 x0 x0 x1 x2 x3 h q0 q0 _ _ _ (lv_sub hl [0, 1, 2, 3] rfl) hP hS
  · replace h := it_t h hc
    refine lv_iload_n hx hb dMd_offer_9 rfl (lv_at hl 2 rfl) ?_
    refine lv_bipush (v := 100) hx hb dMd_offer_10 (by decide) ?_
    obtain ⟨u2, v2, hc2, h⟩ := bd2_some h
    refine x_ci (u := u1) (out := (u2, v2)) hA hD hS (va_runS (As := [.int x2, .int (100 : Int32)]) (rest := [.ref (ad x0)]) ⟨hx, hb, hml, hown, hts⟩ (ct_Md_out hal hN F u1 x2 (100 : Int32) (u2, v2) hc2  _) ⟨callB_of 2 hts gdMd_out rfl rfl rfl (hts _ tw_11) (hts _ tw_887) hdMd_out ⟨Nat.le_of_ble_eq_true rfl, Nat.le_of_ble_eq_true rfl⟩, (hts _ tw_888)⟩ (x_preS hK hD hNx hP) rfl rfl hl.1 rfl (lv_room (Nat.le_of_ble_eq_true rfl)) dMd_offer_12 ⟨Nat.zero_le _, Nat.zero_le _⟩) (fun H locs hP hS => ?_)
    refine lv_if_eq (tgt := 22) hx hb dMd_offer_15 rfl (fun hc => ?_) (fun hc => ?_)
    · replace h := it_t h hc
      refine lv_iconst (v := 0) hx hb dMd_offer_22 (by decide) ?_
      exact wk_Md_offer_23 ⟨hx, hb, hml, hown, hts, hr, hlocks, hK, hA, hD, hN, hal, hNx⟩ F out u2 x0 (0 : Int32) x0 x1 x2 x3 h q0 q0 _ _ _ (lv_sub hl [0, 1, 2, 3] rfl) hP hS
    · replace h := it_f h hc
      exact wk_Md_offer_18 ⟨hx, hb, hml, hown, hts, hr, hlocks, hK, hA, hD, hN, hal, hNx⟩ F out u2 x0 x0 x1 x2 x3 h q0 q0 _ _ _ (lv_sub hl [0, 1, 2, 3] rfl) hP hS
def fn_Md_offer (F : Nat) (al : Nat → Bool) (u : Mr) (x0 : Nat) (x1 : Int32) (x2 : Int32) (x3 : Int32) : Option (Mr × Int32) := bk_Md_offer_0 F al u x0 x1 x2 x3
set_option maxHeartbeats 4000000 in
set_option maxRecDepth 100000 in
theorem ct_Md_offer {l : Launch} {D : va_G} {cA : Nat → ClassId} {ad : Nat → Nat} {L : List Nat} {rs : va_W} {al : Nat → Bool} (hal : ∀ k, al k = true → k ∈ L) (hN : L.Nodup) (F : Nat) (u : Mr) (x0 : Nat) (x1 : Int32) (x2 : Int32) (x3 : Int32) (out : Mr × Int32) (h : fn_Md_offer F al u x0 x1 x2 x3 = some out) (q0 : okk al 32 x0 = true) : CtV l yMd_offer wsMd_offer rm_Md_offer [.ref (ad x0), .int x1, .int x2, .int x3] D cA ad L rs u out := by
  intro sz
  refine Met.ofW (cc := cMd_offer) (maxL := 4) (ret := none) (by decide) rfl ?_
  intro p e s m args below meth c s₁ B hml hv
  obtain ⟨rfl, hsz, hP, hK, hD0, hNx⟩ := hv
  subst hsz
  have hD := hD0.self (sz := s.heap.size)
  generalize hAe : va_A (ww ad cA L rs u) s.heap.size = A at hD ⊢
  have hA : ∀ q, s.heap.size ≤ q → A q := fun q h => by rw [← hAe]; exact Or.inr h
  have hl := lv_entry ([.ref (ad x0), .int x1, .int x2, .int x3]) (n := 4) (Nat.le_of_ble_eq_true rfl)
  rw [lg_entry_eq]
  generalize (lg_sl ([.ref (ad x0), .int x1, .int x2, .int x3]) ++ List.replicate (4 - (lg_sl ([.ref (ad x0), .int x1, .int x2, .int x3])).length) Slot.unset).toArray = ls at hl ⊢
  exact wk_Md_offer_0 ⟨B.exec, B.bytes, hml, findClass_of_methodNamed B.named, hts_bw (atoms_spec (ws := wsMd_offer) B.pre), B.returns, B.notSynchronized, hK, hA, fun v => ww_D hD, hN, hal, hNx⟩ F out u x0 x1 x2 x3 h q0 _ _ _ (lv_sub hl [0, 1, 2, 3] rfl) hP va_S.rf
abbrev rm_Md_defined : Room := { frames := 0, cells := 0, slots := 0, locals := 0 }
def bk_Md_defined_48 (F : Nat) (al : Nat → Bool) (k4 : Mr → Nat → Int32 → Int32 → Int32 → Option (Mr × Int32)) (k15 : Mr → Nat → Int32 → Int32 → Int32 → Int32 → Option (Mr × Int32)) (u : Mr) (s0 : Int32) (s1 : Int32) (x0 : Nat) (x1 : Int32) (x3 : Int32) (x4 : Int32) : Option (Mr × Int32) := k15 u x0 x1 (s0 + s1) x3 (x4 + (1 : Int32))
set_option maxHeartbeats 4000000 in
set_option maxRecDepth 100000 in
theorem wk_Md_defined_48 (cx : Cx p l e s m args below meth c cMd_defined 5 bw "ImageForgeModel" (some .int) D cA ad L rs al A) (F : Nat) (out : Mr × Int32) {k4 : Mr → Nat → Int32 → Int32 → Int32 → Option (Mr × Int32)} {k15 : Mr → Nat → Int32 → Int32 → Int32 → Int32 → Option (Mr × Int32)} (hk4 : ∀ (u : Mr) (x0 : Nat) (x1 : Int32) (x2 : Int32) (x3 : Int32), k4 u x0 x1 x2 x3 = some out → okk al 32 x0 = true → Wb p l e rm_Md_defined s m args below meth c D cA ad L rs A (QI below args s D cA ad L rs A out) 5 4 [(0, .ref (ad x0)), (1, .int x1), (2, .int x2), (3, .int x3)] [] u) (hk15 : ∀ (u : Mr) (x0 : Nat) (x1 : Int32) (x2 : Int32) (x3 : Int32) (x4 : Int32), k15 u x0 x1 x2 x3 x4 = some out → okk al 32 x0 = true → Wb p l e rm_Md_defined s m args below meth c D cA ad L rs A (QI below args s D cA ad L rs A out) 5 15 [(0, .ref (ad x0)), (1, .int x1), (2, .int x2), (3, .int x3), (4, .int x4)] [] u) : ∀ (u : Mr) (s0 : Int32) (s1 : Int32) (x0 : Nat) (x1 : Int32) (x3 : Int32) (x4 : Int32), bk_Md_defined_48 F al k4 k15 u s0 s1 x0 x1 x3 x4 = some out → okk al 32 x0 = true → Wb p l e rm_Md_defined s m args below meth c D cA ad L rs A (QI below args s D cA ad L rs A out) 5 48 [(0, .ref (ad x0)), (1, .int x1), (3, .int x3), (4, .int x4)] [.int s1, .int s0] u := by
  obtain ⟨hx, hb, hml, hown, hts, hr, hlocks, hK, hA, hD, hN, hal, hNx⟩ := cx
  intro u s0 s1 x0 x1 x3 x4 h q0 H locs ls hl hP hS
  unfold bk_Md_defined_48 at h
  refine lv_iadd hx hb dMd_defined_48 ?_
  refine lv_istore_n (lv' := [(2, .int (s0 + s1)), (0, .ref (ad x0)), (1, .int x1), (3, .int x3), (4, .int x4)]) hx hb dMd_defined_49 rfl hl (by decide) rfl (fun ls hl => ?_)
  refine lv_iinc (k := 4) (v := x4 + (1 : Int32)) (lv' := [(4, .int (x4 + (1 : Int32))), (2, .int (s0 + s1)), (0, .ref (ad x0)), (1, .int x1), (3, .int x3)]) hx hb dMd_defined_50 hl rfl (congrArg (fun z => _ + z) (show Int32.ofInt 1 = 1 by decide)) (by decide) rfl (fun ls hl => ?_)
  refine lv_goto (tgt := 15) hx hb dMd_defined_53 rfl ?_
  exact hk15 u x0 x1 (s0 + s1) x3 (x4 + (1 : Int32)) h q0 _ _ _ (lv_sub hl [2, 3, 1, 4, 0] rfl) hP hS
def bk_Md_defined_15 (F : Nat) (al : Nat → Bool) (k4 : Mr → Nat → Int32 → Int32 → Int32 → Option (Mr × Int32)) : Nat → Mr → Nat → Int32 → Int32 → Int32 → Int32 → Option (Mr × Int32)
  | 0, _, _, _, _, _, _ => none
  | n + 1, u, x0, x1, x2, x3, x4 => bd1 (rdR al u x0 3 35) fun y1 => (ck (inb x3 4) (if (((6 : Int32) * x3) + (u.1 y1 x3)) ≤ x4 then (k4 u x0 x1 x2 (x3 + (1 : Int32))) else (bd1 (rdR al u x0 4 36) fun y4 => (ck (inb x4 24) (if (u.1 y4 x4) = x1 then (bk_Md_defined_48 F al k4 (bk_Md_defined_15 F al k4 n) u x2 (1 : Int32) x0 x1 x3 x4) else (bk_Md_defined_48 F al k4 (bk_Md_defined_15 F al k4 n) u x2 (0 : Int32) x0 x1 x3 x4))))))
set_option maxHeartbeats 4000000 in
set_option maxRecDepth 100000 in
theorem wk_Md_defined_15 (cx : Cx p l e s m args below meth c cMd_defined 5 bw "ImageForgeModel" (some .int) D cA ad L rs al A) (F : Nat) (out : Mr × Int32) {k4 : Mr → Nat → Int32 → Int32 → Int32 → Option (Mr × Int32)} (hk4 : ∀ (u : Mr) (x0 : Nat) (x1 : Int32) (x2 : Int32) (x3 : Int32), k4 u x0 x1 x2 x3 = some out → okk al 32 x0 = true → Wb p l e rm_Md_defined s m args below meth c D cA ad L rs A (QI below args s D cA ad L rs A out) 5 4 [(0, .ref (ad x0)), (1, .int x1), (2, .int x2), (3, .int x3)] [] u) : ∀ n : Nat, ∀ (u : Mr) (x0 : Nat) (x1 : Int32) (x2 : Int32) (x3 : Int32) (x4 : Int32), bk_Md_defined_15 F al k4 n u x0 x1 x2 x3 x4 = some out → okk al 32 x0 = true → Wb p l e rm_Md_defined s m args below meth c D cA ad L rs A (QI below args s D cA ad L rs A out) 5 15 [(0, .ref (ad x0)), (1, .int x1), (2, .int x2), (3, .int x3), (4, .int x4)] [] u := by
  obtain ⟨hx, hb, hml, hown, hts, hr, hlocks, hK, hA, hD, hN, hal, hNx⟩ := cx
  intro n
  induction n with
  | zero =>
    intro u x0 x1 x2 x3 x4 h
    cases h
  | succ n ih =>
    intro u x0 x1 x2 x3 x4 h q0 H locs ls hl hP hS
    rw [bk_Md_defined_15] at h
    refine lv_iload hx hb dMd_defined_15 (lv_at hl 4 rfl) ?_
    refine lv_bipush (v := 6) hx hb dMd_defined_17 (by decide) ?_
    refine lv_iload_n hx hb dMd_defined_19 rfl (lv_at hl 3 rfl) ?_
    refine lv_imul hx hb dMd_defined_20 ?_
    refine lv_aload_n hx hb dMd_defined_21 rfl (lv_at hl 0 rfl) ?_
    obtain ⟨y1, hy2, h⟩ := bd1_some h
    obtain ⟨hy2a, hy2⟩ := rdR_some hy2
    refine x_get hx hb hts in_Md hown hK hP (hal _ (okk_al q0)) (okk_t q0) rfl rfl 3 (by decide) (hts _ tw_785) (fun _ h9 => h9) (congrArg some (x_rf hy2a)) dMd_defined_22 ?_
    refine lv_iload_n hx hb dMd_defined_25 rfl (lv_at hl 3 rfl) ?_
    obtain ⟨hi3, h⟩ := ck_some h
    refine x_iald hx hb hK hP (hal _ (okk_al hy2)) (okk_t hy2) 0 (fun _ _ _ => rfl) rfl (inb_in hi3) dMd_defined_26 ?_
    refine lv_iadd hx hb dMd_defined_27 ?_
    refine lv_icmp_ge (tgt := 56) hx hb dMd_defined_28 rfl (fun hc => ?_) (fun hc => ?_)
    · replace h := it_t h hc
      refine lv_iinc (k := 3) (v := x3 + (1 : Int32)) (lv' := [(3, .int (x3 + (1 : Int32))), (0, .ref (ad x0)), (1, .int x1), (2, .int x2), (4, .int x4)]) hx hb dMd_defined_56 hl rfl (congrArg (fun z => _ + z) (show Int32.ofInt 1 = 1 by decide)) (by decide) rfl (fun ls hl => ?_)
      refine lv_goto (tgt := 4) hx hb dMd_defined_59 rfl ?_
      exact hk4 u x0 x1 x2 (x3 + (1 : Int32)) h q0 _ _ _ (lv_sub hl [1, 2, 3, 0] rfl) hP hS
    · replace h := it_f h hc
      refine lv_iload_n hx hb dMd_defined_31 rfl (lv_at hl 2 rfl) ?_
      refine lv_aload_n hx hb dMd_defined_32 rfl (lv_at hl 0 rfl) ?_
      obtain ⟨y4, hy5, h⟩ := bd1_some h
      obtain ⟨hy5a, hy5⟩ := rdR_some hy5
      refine x_get hx hb hts in_Md hown hK hP (hal _ (okk_al q0)) (okk_t q0) rfl rfl 4 (by decide) (hts _ tw_786) (fun _ h9 => h9) (congrArg some (x_rf hy5a)) dMd_defined_33 ?_
      refine lv_iload hx hb dMd_defined_36 (lv_at hl 4 rfl) ?_
      obtain ⟨hi6, h⟩ := ck_some h
      refine x_iald hx hb hK hP (hal _ (okk_al hy5)) (okk_t hy5) 0 (fun _ _ _ => rfl) rfl (inb_in hi6) dMd_defined_38 ?_
      refine lv_iload_n hx hb dMd_defined_39 rfl (lv_at hl 1 rfl) ?_
      refine lv_icmp_ne (tgt := 47) hx hb dMd_defined_40 rfl (fun hc => ?_) (fun hc => ?_)
      · replace h := it_f h hc
        refine lv_iconst (v := 0) hx hb dMd_defined_47 (by decide) ?_
        exact wk_Md_defined_48 ⟨hx, hb, hml, hown, hts, hr, hlocks, hK, hA, hD, hN, hal, hNx⟩ F out hk4 ih u x2 (0 : Int32) x0 x1 x3 x4 h q0 _ _ _ (lv_sub hl [0, 1, 3, 4] rfl) hP hS
      · replace h := it_t h hc
        refine lv_iconst (v := 1) hx hb dMd_defined_43 (by decide) ?_
        refine lv_goto (tgt := 48) hx hb dMd_defined_44 rfl ?_
        exact wk_Md_defined_48 ⟨hx, hb, hml, hown, hts, hr, hlocks, hK, hA, hD, hN, hal, hNx⟩ F out hk4 ih u x2 (1 : Int32) x0 x1 x3 x4 h q0 _ _ _ (lv_sub hl [0, 1, 3, 4] rfl) hP hS
def bk_Md_defined_4 (F : Nat) (al : Nat → Bool) : Nat → Mr → Nat → Int32 → Int32 → Int32 → Option (Mr × Int32)
  | 0, _, _, _, _, _ => none
  | n + 1, u, x0, x1, x2, x3 => if (4 : Int32) ≤ x3 then (some (u, x2)) else (bk_Md_defined_15 F al (bk_Md_defined_4 F al n) F u x0 x1 x2 x3 ((6 : Int32) * x3))
set_option maxHeartbeats 4000000 in
set_option maxRecDepth 100000 in
theorem wk_Md_defined_4 (cx : Cx p l e s m args below meth c cMd_defined 5 bw "ImageForgeModel" (some .int) D cA ad L rs al A) (F : Nat) (out : Mr × Int32) : ∀ n : Nat, ∀ (u : Mr) (x0 : Nat) (x1 : Int32) (x2 : Int32) (x3 : Int32), bk_Md_defined_4 F al n u x0 x1 x2 x3 = some out → okk al 32 x0 = true → Wb p l e rm_Md_defined s m args below meth c D cA ad L rs A (QI below args s D cA ad L rs A out) 5 4 [(0, .ref (ad x0)), (1, .int x1), (2, .int x2), (3, .int x3)] [] u := by
  obtain ⟨hx, hb, hml, hown, hts, hr, hlocks, hK, hA, hD, hN, hal, hNx⟩ := cx
  intro n
  induction n with
  | zero =>
    intro u x0 x1 x2 x3 h
    cases h
  | succ n ih =>
    intro u x0 x1 x2 x3 h q0 H locs ls hl hP hS
    rw [bk_Md_defined_4] at h
    refine lv_iload_n hx hb dMd_defined_4 rfl (lv_at hl 3 rfl) ?_
    refine lv_iconst (v := 4) hx hb dMd_defined_5 (by decide) ?_
    refine lv_icmp_ge (tgt := 62) hx hb dMd_defined_6 rfl (fun hc => ?_) (fun hc => ?_)
    · replace h := it_t h hc
      refine lv_iload_n hx hb dMd_defined_62 rfl (lv_at hl 2 rfl) ?_
      exact x_iret hx hb hr hlocks h hP hS dMd_defined_63
    · replace h := it_f h hc
      refine lv_bipush (v := 6) hx hb dMd_defined_9 (by decide) ?_
      refine lv_iload_n hx hb dMd_defined_11 rfl (lv_at hl 3 rfl) ?_
      refine lv_imul hx hb dMd_defined_12 ?_
      refine lv_istore (lv' := [(4, .int ((6 : Int32) * x3)), (0, .ref (ad x0)), (1, .int x1), (2, .int x2), (3, .int x3)]) hx hb dMd_defined_13 hl (by decide) rfl (fun ls hl => ?_)
      exact wk_Md_defined_15 ⟨hx, hb, hml, hown, hts, hr, hlocks, hK, hA, hD, hN, hal, hNx⟩ F out ih F u x0 x1 x2 x3 ((6 : Int32) * x3) h q0 _ _ _ (lv_sub hl [1, 2, 3, 4, 0] rfl) hP hS
def bk_Md_defined_0 (F : Nat) (al : Nat → Bool) (u : Mr) (x0 : Nat) (x1 : Int32) : Option (Mr × Int32) := bk_Md_defined_4 F al F u x0 x1 (0 : Int32) (0 : Int32)
set_option maxHeartbeats 4000000 in
set_option maxRecDepth 100000 in
theorem wk_Md_defined_0 (cx : Cx p l e s m args below meth c cMd_defined 5 bw "ImageForgeModel" (some .int) D cA ad L rs al A) (F : Nat) (out : Mr × Int32) : ∀ (u : Mr) (x0 : Nat) (x1 : Int32), bk_Md_defined_0 F al u x0 x1 = some out → okk al 32 x0 = true → Wb p l e rm_Md_defined s m args below meth c D cA ad L rs A (QI below args s D cA ad L rs A out) 5 0 [(0, .ref (ad x0)), (1, .int x1)] [] u := by
  obtain ⟨hx, hb, hml, hown, hts, hr, hlocks, hK, hA, hD, hN, hal, hNx⟩ := cx
  intro u x0 x1 h q0 H locs ls hl hP hS
  unfold bk_Md_defined_0 at h
  refine lv_iconst (v := 0) hx hb dMd_defined_0 (by decide) ?_
  refine lv_istore_n (lv' := [(2, .int (0 : Int32)), (0, .ref (ad x0)), (1, .int x1)]) hx hb dMd_defined_1 rfl hl (by decide) rfl (fun ls hl => ?_)
  refine lv_iconst (v := 0) hx hb dMd_defined_2 (by decide) ?_
  refine lv_istore_n (lv' := [(3, .int (0 : Int32)), (2, .int (0 : Int32)), (0, .ref (ad x0)), (1, .int x1)]) hx hb dMd_defined_3 rfl hl (by decide) rfl (fun ls hl => ?_)
  exact wk_Md_defined_4 ⟨hx, hb, hml, hown, hts, hr, hlocks, hK, hA, hD, hN, hal, hNx⟩ F out F u x0 x1 (0 : Int32) (0 : Int32) h q0 _ _ _ (lv_sub hl [2, 3, 1, 0] rfl) hP hS
def fn_Md_defined (F : Nat) (al : Nat → Bool) (u : Mr) (x0 : Nat) (x1 : Int32) : Option (Mr × Int32) := bk_Md_defined_0 F al u x0 x1
set_option maxHeartbeats 4000000 in
set_option maxRecDepth 100000 in
theorem ct_Md_defined {l : Launch} {D : va_G} {cA : Nat → ClassId} {ad : Nat → Nat} {L : List Nat} {rs : va_W} {al : Nat → Bool} (hal : ∀ k, al k = true → k ∈ L) (hN : L.Nodup) (F : Nat) (u : Mr) (x0 : Nat) (x1 : Int32) (out : Mr × Int32) (h : fn_Md_defined F al u x0 x1 = some out) (q0 : okk al 32 x0 = true) : CtI l yMd_defined wsMd_defined rm_Md_defined [.ref (ad x0), .int x1] D cA ad L rs u out := by
  intro sz
  refine Met.ofW (cc := cMd_defined) (maxL := 5) (ret := (some .int)) (by decide) rfl ?_
  intro p e s m args below meth c s₁ B hml hv
  obtain ⟨rfl, hsz, hP, hK, hD0, hNx⟩ := hv
  subst hsz
  have hD := hD0.self (sz := s.heap.size)
  generalize hAe : va_A (ww ad cA L rs u) s.heap.size = A at hD ⊢
  have hA : ∀ q, s.heap.size ≤ q → A q := fun q h => by rw [← hAe]; exact Or.inr h
  have hl := lv_entry ([.ref (ad x0), .int x1]) (n := 5) (Nat.le_of_ble_eq_true rfl)
  rw [lg_entry_eq]
  generalize (lg_sl ([.ref (ad x0), .int x1]) ++ List.replicate (5 - (lg_sl ([.ref (ad x0), .int x1])).length) Slot.unset).toArray = ls at hl ⊢
  exact wk_Md_defined_0 ⟨B.exec, B.bytes, hml, findClass_of_methodNamed B.named, hts_bw (atoms_spec (ws := wsMd_defined) B.pre), B.returns, B.notSynchronized, hK, hA, fun v => ww_D hD, hN, hal, hNx⟩ F out u x0 x1 h q0 _ _ _ (lv_sub hl [0, 1] rfl) hP va_S.rf
abbrev rm_Md_isMeant : Room := { frames := 0, cells := 0, slots := 0, locals := 0 }
def bk_Md_isMeant_51 (F : Nat) (al : Nat → Bool) (k4 : Mr → Nat → Int32 → Int32 → Int32 → Option (Mr × Int32)) (k15 : Mr → Nat → Int32 → Int32 → Int32 → Int32 → Option (Mr × Int32)) (u : Mr) (s0 : Int32) (x0 : Nat) (x1 : Int32) (x3 : Int32) (x4 : Int32) : Option (Mr × Int32) := k15 u x0 x1 s0 x3 (x4 + (1 : Int32))
set_option maxHeartbeats 4000000 in
set_option maxRecDepth 100000 in
theorem wk_Md_isMeant_51 (cx : Cx p l e s m args below meth c cMd_isMeant 5 bw "ImageForgeModel" (some .boolean) D cA ad L rs al A) (F : Nat) (out : Mr × Int32) {k4 : Mr → Nat → Int32 → Int32 → Int32 → Option (Mr × Int32)} {k15 : Mr → Nat → Int32 → Int32 → Int32 → Int32 → Option (Mr × Int32)} (hk4 : ∀ (u : Mr) (x0 : Nat) (x1 : Int32) (x2 : Int32) (x3 : Int32), k4 u x0 x1 x2 x3 = some out → okk al 32 x0 = true → Wb p l e rm_Md_isMeant s m args below meth c D cA ad L rs A (QI below args s D cA ad L rs A out) 5 4 [(0, .ref (ad x0)), (1, .int x1), (2, .int x2), (3, .int x3)] [] u) (hk15 : ∀ (u : Mr) (x0 : Nat) (x1 : Int32) (x2 : Int32) (x3 : Int32) (x4 : Int32), k15 u x0 x1 x2 x3 x4 = some out → okk al 32 x0 = true → Wb p l e rm_Md_isMeant s m args below meth c D cA ad L rs A (QI below args s D cA ad L rs A out) 5 15 [(0, .ref (ad x0)), (1, .int x1), (2, .int x2), (3, .int x3), (4, .int x4)] [] u) : ∀ (u : Mr) (s0 : Int32) (x0 : Nat) (x1 : Int32) (x3 : Int32) (x4 : Int32), bk_Md_isMeant_51 F al k4 k15 u s0 x0 x1 x3 x4 = some out → okk al 32 x0 = true → Wb p l e rm_Md_isMeant s m args below meth c D cA ad L rs A (QI below args s D cA ad L rs A out) 5 51 [(0, .ref (ad x0)), (1, .int x1), (3, .int x3), (4, .int x4)] [.int s0] u := by
  obtain ⟨hx, hb, hml, hown, hts, hr, hlocks, hK, hA, hD, hN, hal, hNx⟩ := cx
  intro u s0 x0 x1 x3 x4 h q0 H locs ls hl hP hS
  unfold bk_Md_isMeant_51 at h
  refine lv_istore_n (lv' := [(2, .int s0), (0, .ref (ad x0)), (1, .int x1), (3, .int x3), (4, .int x4)]) hx hb dMd_isMeant_51 rfl hl (by decide) rfl (fun ls hl => ?_)
  refine lv_iinc (k := 4) (v := x4 + (1 : Int32)) (lv' := [(4, .int (x4 + (1 : Int32))), (2, .int s0), (0, .ref (ad x0)), (1, .int x1), (3, .int x3)]) hx hb dMd_isMeant_52 hl rfl (congrArg (fun z => _ + z) (show Int32.ofInt 1 = 1 by decide)) (by decide) rfl (fun ls hl => ?_)
  refine lv_goto (tgt := 15) hx hb dMd_isMeant_55 rfl ?_
  exact hk15 u x0 x1 s0 x3 (x4 + (1 : Int32)) h q0 _ _ _ (lv_sub hl [2, 3, 1, 4, 0] rfl) hP hS
def bk_Md_isMeant_46 (F : Nat) (al : Nat → Bool) (k4 : Mr → Nat → Int32 → Int32 → Int32 → Option (Mr × Int32)) (k15 : Mr → Nat → Int32 → Int32 → Int32 → Int32 → Option (Mr × Int32)) (u : Mr) (x0 : Nat) (x1 : Int32) (x3 : Int32) (x4 : Int32) : Option (Mr × Int32) := bk_Md_isMeant_51 F al k4 k15 u (1 : Int32) x0 x1 x3 x4
set_option maxHeartbeats 4000000 in
set_option maxRecDepth 100000 in
theorem wk_Md_isMeant_46 (cx : Cx p l e s m args below meth c cMd_isMeant 5 bw "ImageForgeModel" (some .boolean) D cA ad L rs al A) (F : Nat) (out : Mr × Int32) {k4 : Mr → Nat → Int32 → Int32 → Int32 → Option (Mr × Int32)} {k15 : Mr → Nat → Int32 → Int32 → Int32 → Int32 → Option (Mr × Int32)} (hk4 : ∀ (u : Mr) (x0 : Nat) (x1 : Int32) (x2 : Int32) (x3 : Int32), k4 u x0 x1 x2 x3 = some out → okk al 32 x0 = true → Wb p l e rm_Md_isMeant s m args below meth c D cA ad L rs A (QI below args s D cA ad L rs A out) 5 4 [(0, .ref (ad x0)), (1, .int x1), (2, .int x2), (3, .int x3)] [] u) (hk15 : ∀ (u : Mr) (x0 : Nat) (x1 : Int32) (x2 : Int32) (x3 : Int32) (x4 : Int32), k15 u x0 x1 x2 x3 x4 = some out → okk al 32 x0 = true → Wb p l e rm_Md_isMeant s m args below meth c D cA ad L rs A (QI below args s D cA ad L rs A out) 5 15 [(0, .ref (ad x0)), (1, .int x1), (2, .int x2), (3, .int x3), (4, .int x4)] [] u) : ∀ (u : Mr) (x0 : Nat) (x1 : Int32) (x3 : Int32) (x4 : Int32), bk_Md_isMeant_46 F al k4 k15 u x0 x1 x3 x4 = some out → okk al 32 x0 = true → Wb p l e rm_Md_isMeant s m args below meth c D cA ad L rs A (QI below args s D cA ad L rs A out) 5 46 [(0, .ref (ad x0)), (1, .int x1), (3, .int x3), (4, .int x4)] [] u := by
  obtain ⟨hx, hb, hml, hown, hts, hr, hlocks, hK, hA, hD, hN, hal, hNx⟩ := cx
  intro u x0 x1 x3 x4 h q0 H locs ls hl hP hS
  unfold bk_Md_isMeant_46 at h
  refine lv_iconst (v := 1) hx hb dMd_isMeant_46 (by decide) ?_
  refine lv_goto (tgt := 51) hx hb dMd_isMeant_47 rfl ?_
  exact wk_Md_isMeant_51 ⟨hx, hb, hml, hown, hts, hr, hlocks, hK, hA, hD, hN, hal, hNx⟩ F out hk4 hk15 u (1 : Int32) x0 x1 x3 x4 h q0 _ _ _ (lv_sub hl [0, 1, 2, 3] rfl) hP hS
def bk_Md_isMeant_15 (F : Nat) (al : Nat → Bool) (k4 : Mr → Nat → Int32 → Int32 → Int32 → Option (Mr × Int32)) : Nat → Mr → Nat → Int32 → Int32 → Int32 → Int32 → Option (Mr × Int32)
  | 0, _, _, _, _, _, _ => none
  | n + 1, u, x0, x1, x2, x3, x4 => bd1 (rdR al u x0 7 35) fun y1 => (ck (inb x3 4) (if (((8 : Int32) * x3) + (u.1 y1 x3)) ≤ x4 then (k4 u x0 x1 x2 (x3 + (1 : Int32))) else (if x2 = 0 then (bd1 (rdR al u x0 11 37) fun y4 => (ck (inb x4 32) (if (u.1 y4 x4) = x1 then (bk_Md_isMeant_46 F al k4 (bk_Md_isMeant_15 F al k4 n) u x0 x1 x3 x4) else (bk_Md_isMeant_51 F al k4 (bk_Md_isMeant_15 F al k4 n) u (0 : Int32) x0 x1 x3 x4)))) else (bk_Md_isMeant_46 F al k4 (bk_Md_isMeant_15 F al k4 n) u x0 x1 x3 x4))))
set_option maxHeartbeats 4000000 in
set_option maxRecDepth 100000 in
theorem wk_Md_isMeant_15 (cx : Cx p l e s m args below meth c cMd_isMeant 5 bw "ImageForgeModel" (some .boolean) D cA ad L rs al A) (F : Nat) (out : Mr × Int32) {k4 : Mr → Nat → Int32 → Int32 → Int32 → Option (Mr × Int32)} (hk4 : ∀ (u : Mr) (x0 : Nat) (x1 : Int32) (x2 : Int32) (x3 : Int32), k4 u x0 x1 x2 x3 = some out → okk al 32 x0 = true → Wb p l e rm_Md_isMeant s m args below meth c D cA ad L rs A (QI below args s D cA ad L rs A out) 5 4 [(0, .ref (ad x0)), (1, .int x1), (2, .int x2), (3, .int x3)] [] u) : ∀ n : Nat, ∀ (u : Mr) (x0 : Nat) (x1 : Int32) (x2 : Int32) (x3 : Int32) (x4 : Int32), bk_Md_isMeant_15 F al k4 n u x0 x1 x2 x3 x4 = some out → okk al 32 x0 = true → Wb p l e rm_Md_isMeant s m args below meth c D cA ad L rs A (QI below args s D cA ad L rs A out) 5 15 [(0, .ref (ad x0)), (1, .int x1), (2, .int x2), (3, .int x3), (4, .int x4)] [] u := by
  obtain ⟨hx, hb, hml, hown, hts, hr, hlocks, hK, hA, hD, hN, hal, hNx⟩ := cx
  intro n
  induction n with
  | zero =>
    intro u x0 x1 x2 x3 x4 h
    cases h
  | succ n ih =>
    intro u x0 x1 x2 x3 x4 h q0 H locs ls hl hP hS
    rw [bk_Md_isMeant_15] at h
    refine lv_iload hx hb dMd_isMeant_15 (lv_at hl 4 rfl) ?_
    refine lv_bipush (v := 8) hx hb dMd_isMeant_17 (by decide) ?_
    refine lv_iload_n hx hb dMd_isMeant_19 rfl (lv_at hl 3 rfl) ?_
    refine lv_imul hx hb dMd_isMeant_20 ?_
    refine lv_aload_n hx hb dMd_isMeant_21 rfl (lv_at hl 0 rfl) ?_
    obtain ⟨y1, hy2, h⟩ := bd1_some h
    obtain ⟨hy2a, hy2⟩ := rdR_some hy2
    refine x_get hx hb hts in_Md hown hK hP (hal _ (okk_al q0)) (okk_t q0) rfl rfl 7 (by decide) (hts _ tw_789) (fun _ h9 => h9) (congrArg some (x_rf hy2a)) dMd_isMeant_22 ?_
    refine lv_iload_n hx hb dMd_isMeant_25 rfl (lv_at hl 3 rfl) ?_
    obtain ⟨hi3, h⟩ := ck_some h
    refine x_iald hx hb hK hP (hal _ (okk_al hy2)) (okk_t hy2) 0 (fun _ _ _ => rfl) rfl (inb_in hi3) dMd_isMeant_26 ?_
    refine lv_iadd hx hb dMd_isMeant_27 ?_
    refine lv_icmp_ge (tgt := 58) hx hb dMd_isMeant_28 rfl (fun hc => ?_) (fun hc => ?_)
    · replace h := it_t h hc
      refine lv_iinc (k := 3) (v := x3 + (1 : Int32)) (lv' := [(3, .int (x3 + (1 : Int32))), (0, .ref (ad x0)), (1, .int x1), (2, .int x2), (4, .int x4)]) hx hb dMd_isMeant_58 hl rfl (congrArg (fun z => _ + z) (show Int32.ofInt 1 = 1 by decide)) (by decide) rfl (fun ls hl => ?_)
      refine lv_goto (tgt := 4) hx hb dMd_isMeant_61 rfl ?_
      exact hk4 u x0 x1 x2 (x3 + (1 : Int32)) h q0 _ _ _ (lv_sub hl [1, 2, 3, 0] rfl) hP hS
    · replace h := it_f h hc
      refine lv_iload_n hx hb dMd_isMeant_31 rfl (lv_at hl 2 rfl) ?_
      refine lv_if_ne (tgt := 46) hx hb dMd_isMeant_32 rfl (fun hc => ?_) (fun hc => ?_)
      · replace h := it_f h hc
        exact wk_Md_isMeant_46 ⟨hx, hb, hml, hown, hts, hr, hlocks, hK, hA, hD, hN, hal, hNx⟩ F out hk4 ih u x0 x1 x3 x4 h q0 _ _ _ (lv_sub hl [0, 1, 3, 4] rfl) hP hS
      · replace h := it_t h hc
        refine lv_aload_n hx hb dMd_isMeant_35 rfl (lv_at hl 0 rfl) ?_
        obtain ⟨y4, hy5, h⟩ := bd1_some h
        obtain ⟨hy5a, hy5⟩ := rdR_some hy5
        refine x_get hx hb hts in_Md hown hK hP (hal _ (okk_al q0)) (okk_t q0) rfl rfl 11 (by decide) (hts _ tw_793) (fun _ h9 => h9) (congrArg some (x_rf hy5a)) dMd_isMeant_36 ?_
        refine lv_iload hx hb dMd_isMeant_39 (lv_at hl 4 rfl) ?_
        obtain ⟨hi6, h⟩ := ck_some h
        refine x_iald hx hb hK hP (hal _ (okk_al hy5)) (okk_t hy5) 0 (fun _ _ _ => rfl) rfl (inb_in hi6) dMd_isMeant_41 ?_
        refine lv_iload_n hx hb dMd_isMeant_42 rfl (lv_at hl 1 rfl) ?_
        refine lv_icmp_ne (tgt := 50) hx hb dMd_isMeant_43 rfl (fun hc => ?_) (fun hc => ?_)
        · replace h := it_f h hc
          refine lv_iconst (v := 0) hx hb dMd_isMeant_50 (by decide) ?_
          exact wk_Md_isMeant_51 ⟨hx, hb, hml, hown, hts, hr, hlocks, hK, hA, hD, hN, hal, hNx⟩ F out hk4 ih u (0 : Int32) x0 x1 x3 x4 h q0 _ _ _ (lv_sub hl [0, 1, 3, 4] rfl) hP hS
        · replace h := it_t h hc
          exact wk_Md_isMeant_46 ⟨hx, hb, hml, hown, hts, hr, hlocks, hK, hA, hD, hN, hal, hNx⟩ F out hk4 ih u x0 x1 x3 x4 h q0 _ _ _ (lv_sub hl [0, 1, 3, 4] rfl) hP hS
def bk_Md_isMeant_4 (F : Nat) (al : Nat → Bool) : Nat → Mr → Nat → Int32 → Int32 → Int32 → Option (Mr × Int32)
  | 0, _, _, _, _, _ => none
  | n + 1, u, x0, x1, x2, x3 => if (4 : Int32) ≤ x3 then (ck (isz x2) (some (u, x2))) else (bk_Md_isMeant_15 F al (bk_Md_isMeant_4 F al n) F u x0 x1 x2 x3 ((8 : Int32) * x3))
set_option maxHeartbeats 4000000 in
set_option maxRecDepth 100000 in
theorem wk_Md_isMeant_4 (cx : Cx p l e s m args below meth c cMd_isMeant 5 bw "ImageForgeModel" (some .boolean) D cA ad L rs al A) (F : Nat) (out : Mr × Int32) : ∀ n : Nat, ∀ (u : Mr) (x0 : Nat) (x1 : Int32) (x2 : Int32) (x3 : Int32), bk_Md_isMeant_4 F al n u x0 x1 x2 x3 = some out → okk al 32 x0 = true → Wb p l e rm_Md_isMeant s m args below meth c D cA ad L rs A (QI below args s D cA ad L rs A out) 5 4 [(0, .ref (ad x0)), (1, .int x1), (2, .int x2), (3, .int x3)] [] u := by
  obtain ⟨hx, hb, hml, hown, hts, hr, hlocks, hK, hA, hD, hN, hal, hNx⟩ := cx
  intro n
  induction n with
  | zero =>
    intro u x0 x1 x2 x3 h
    cases h
  | succ n ih =>
    intro u x0 x1 x2 x3 h q0 H locs ls hl hP hS
    rw [bk_Md_isMeant_4] at h
    refine lv_iload_n hx hb dMd_isMeant_4 rfl (lv_at hl 3 rfl) ?_
    refine lv_iconst (v := 4) hx hb dMd_isMeant_5 (by decide) ?_
    refine lv_icmp_ge (tgt := 64) hx hb dMd_isMeant_6 rfl (fun hc => ?_) (fun hc => ?_)
    · replace h := it_t h hc
      refine lv_iload_n hx hb dMd_isMeant_64 rfl (lv_at hl 2 rfl) ?_
      obtain ⟨h8, h⟩ := ck_some h
      exact x_zret hx hb hr hlocks (isz_nar h8) h hP hS dMd_isMeant_65
    · replace h := it_f h hc
      refine lv_bipush (v := 8) hx hb dMd_isMeant_9 (by decide) ?_
      refine lv_iload_n hx hb dMd_isMeant_11 rfl (lv_at hl 3 rfl) ?_
      refine lv_imul hx hb dMd_isMeant_12 ?_
      refine lv_istore (lv' := [(4, .int ((8 : Int32) * x3)), (0, .ref (ad x0)), (1, .int x1), (2, .int x2), (3, .int x3)]) hx hb dMd_isMeant_13 hl (by decide) rfl (fun ls hl => ?_)
      exact wk_Md_isMeant_15 ⟨hx, hb, hml, hown, hts, hr, hlocks, hK, hA, hD, hN, hal, hNx⟩ F out ih F u x0 x1 x2 x3 ((8 : Int32) * x3) h q0 _ _ _ (lv_sub hl [1, 2, 3, 4, 0] rfl) hP hS
def bk_Md_isMeant_0 (F : Nat) (al : Nat → Bool) (u : Mr) (x0 : Nat) (x1 : Int32) : Option (Mr × Int32) := bk_Md_isMeant_4 F al F u x0 x1 (0 : Int32) (0 : Int32)
set_option maxHeartbeats 4000000 in
set_option maxRecDepth 100000 in
theorem wk_Md_isMeant_0 (cx : Cx p l e s m args below meth c cMd_isMeant 5 bw "ImageForgeModel" (some .boolean) D cA ad L rs al A) (F : Nat) (out : Mr × Int32) : ∀ (u : Mr) (x0 : Nat) (x1 : Int32), bk_Md_isMeant_0 F al u x0 x1 = some out → okk al 32 x0 = true → Wb p l e rm_Md_isMeant s m args below meth c D cA ad L rs A (QI below args s D cA ad L rs A out) 5 0 [(0, .ref (ad x0)), (1, .int x1)] [] u := by
  obtain ⟨hx, hb, hml, hown, hts, hr, hlocks, hK, hA, hD, hN, hal, hNx⟩ := cx
  intro u x0 x1 h q0 H locs ls hl hP hS
  unfold bk_Md_isMeant_0 at h
  refine lv_iconst (v := 0) hx hb dMd_isMeant_0 (by decide) ?_
  refine lv_istore_n (lv' := [(2, .int (0 : Int32)), (0, .ref (ad x0)), (1, .int x1)]) hx hb dMd_isMeant_1 rfl hl (by decide) rfl (fun ls hl => ?_)
  refine lv_iconst (v := 0) hx hb dMd_isMeant_2 (by decide) ?_
  refine lv_istore_n (lv' := [(3, .int (0 : Int32)), (2, .int (0 : Int32)), (0, .ref (ad x0)), (1, .int x1)]) hx hb dMd_isMeant_3 rfl hl (by decide) rfl (fun ls hl => ?_)
  exact wk_Md_isMeant_4 ⟨hx, hb, hml, hown, hts, hr, hlocks, hK, hA, hD, hN, hal, hNx⟩ F out F u x0 x1 (0 : Int32) (0 : Int32) h q0 _ _ _ (lv_sub hl [2, 3, 1, 0] rfl) hP hS
def fn_Md_isMeant (F : Nat) (al : Nat → Bool) (u : Mr) (x0 : Nat) (x1 : Int32) : Option (Mr × Int32) := bk_Md_isMeant_0 F al u x0 x1
set_option maxHeartbeats 4000000 in
set_option maxRecDepth 100000 in
theorem ct_Md_isMeant {l : Launch} {D : va_G} {cA : Nat → ClassId} {ad : Nat → Nat} {L : List Nat} {rs : va_W} {al : Nat → Bool} (hal : ∀ k, al k = true → k ∈ L) (hN : L.Nodup) (F : Nat) (u : Mr) (x0 : Nat) (x1 : Int32) (out : Mr × Int32) (h : fn_Md_isMeant F al u x0 x1 = some out) (q0 : okk al 32 x0 = true) : CtI l yMd_isMeant wsMd_isMeant rm_Md_isMeant [.ref (ad x0), .int x1] D cA ad L rs u out := by
  intro sz
  refine Met.ofW (cc := cMd_isMeant) (maxL := 5) (ret := (some .boolean)) (by decide) rfl ?_
  intro p e s m args below meth c s₁ B hml hv
  obtain ⟨rfl, hsz, hP, hK, hD0, hNx⟩ := hv
  subst hsz
  have hD := hD0.self (sz := s.heap.size)
  generalize hAe : va_A (ww ad cA L rs u) s.heap.size = A at hD ⊢
  have hA : ∀ q, s.heap.size ≤ q → A q := fun q h => by rw [← hAe]; exact Or.inr h
  have hl := lv_entry ([.ref (ad x0), .int x1]) (n := 5) (Nat.le_of_ble_eq_true rfl)
  rw [lg_entry_eq]
  generalize (lg_sl ([.ref (ad x0), .int x1]) ++ List.replicate (5 - (lg_sl ([.ref (ad x0), .int x1])).length) Slot.unset).toArray = ls at hl ⊢
  exact wk_Md_isMeant_0 ⟨B.exec, B.bytes, hml, findClass_of_methodNamed B.named, hts_bw (atoms_spec (ws := wsMd_isMeant) B.pre), B.returns, B.notSynchronized, hK, hA, fun v => ww_D hD, hN, hal, hNx⟩ F out u x0 x1 h q0 _ _ _ (lv_sub hl [0, 1] rfl) hP va_S.rf
end

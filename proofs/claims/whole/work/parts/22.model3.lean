abbrev yMd_findPlaces : MethodName := ⟨"ImageForgeModel", "findPlaces", "()V"⟩
abbrev cMd_findPlaces : ByteArray := prog_10_method_26_code
abbrev wsMd_findPlaces : List Cond := .code yMd_findPlaces cMd_findPlaces 3 none :: bw
theorem gdMd_findPlaces : GoodIn bw wsMd_findPlaces := gd_of tw_945
theorem hdMd_findPlaces : yMd_findPlaces.cls ≠ "java/lang/invoke/MethodHandle" ∧ yMd_findPlaces.cls ≠ "java/lang/invoke/VarHandle" ∧ (parseMethodDescriptor yMd_findPlaces.desc).map (fun d => d.parameters.length) = some 0 := by decide +kernel
theorem dMd_findPlaces_0 : decode cMd_findPlaces 0 = .ok (.iconst 0, 1) := by decide +kernel
theorem dMd_findPlaces_1 : decode cMd_findPlaces 1 = .ok (.istore_n 1, 1) := by decide +kernel
theorem dMd_findPlaces_2 : decode cMd_findPlaces 2 = .ok (.iload_n 1, 1) := by decide +kernel
theorem dMd_findPlaces_3 : decode cMd_findPlaces 3 = .ok (.bipush 16, 2) := by decide +kernel
theorem dMd_findPlaces_5 : decode cMd_findPlaces 5 = .ok (.if_icmp .ge 16, 3) := by decide +kernel
theorem dMd_findPlaces_8 : decode cMd_findPlaces 8 = .ok (.aload_n 0, 1) := by decide +kernel
theorem dMd_findPlaces_9 : decode cMd_findPlaces 9 = .ok (.getfield 71, 3) := by decide +kernel
theorem dMd_findPlaces_12 : decode cMd_findPlaces 12 = .ok (.iload_n 1, 1) := by decide +kernel
theorem dMd_findPlaces_13 : decode cMd_findPlaces 13 = .ok (.iconst 0, 1) := by decide +kernel
theorem dMd_findPlaces_14 : decode cMd_findPlaces 14 = .ok (.iastore, 1) := by decide +kernel
theorem dMd_findPlaces_15 : decode cMd_findPlaces 15 = .ok (.iinc 1 1, 3) := by decide +kernel
theorem dMd_findPlaces_18 : decode cMd_findPlaces 18 = .ok (.goto (-16), 3) := by decide +kernel
theorem dMd_findPlaces_21 : decode cMd_findPlaces 21 = .ok (.iconst 0, 1) := by decide +kernel
theorem dMd_findPlaces_22 : decode cMd_findPlaces 22 = .ok (.istore_n 1, 1) := by decide +kernel
theorem dMd_findPlaces_23 : decode cMd_findPlaces 23 = .ok (.iload_n 1, 1) := by decide +kernel
theorem dMd_findPlaces_24 : decode cMd_findPlaces 24 = .ok (.iconst 4, 1) := by decide +kernel
theorem dMd_findPlaces_25 : decode cMd_findPlaces 25 = .ok (.if_icmp .ge 68, 3) := by decide +kernel
theorem dMd_findPlaces_28 : decode cMd_findPlaces 28 = .ok (.bipush 6, 2) := by decide +kernel
theorem dMd_findPlaces_30 : decode cMd_findPlaces 30 = .ok (.iload_n 1, 1) := by decide +kernel
theorem dMd_findPlaces_31 : decode cMd_findPlaces 31 = .ok (.imul, 1) := by decide +kernel
theorem dMd_findPlaces_32 : decode cMd_findPlaces 32 = .ok (.istore_n 2, 1) := by decide +kernel
theorem dMd_findPlaces_33 : decode cMd_findPlaces 33 = .ok (.iload_n 2, 1) := by decide +kernel
theorem dMd_findPlaces_34 : decode cMd_findPlaces 34 = .ok (.bipush 6, 2) := by decide +kernel
theorem dMd_findPlaces_36 : decode cMd_findPlaces 36 = .ok (.iload_n 1, 1) := by decide +kernel
theorem dMd_findPlaces_37 : decode cMd_findPlaces 37 = .ok (.imul, 1) := by decide +kernel
theorem dMd_findPlaces_38 : decode cMd_findPlaces 38 = .ok (.aload_n 0, 1) := by decide +kernel
theorem dMd_findPlaces_39 : decode cMd_findPlaces 39 = .ok (.getfield 16, 3) := by decide +kernel
theorem dMd_findPlaces_42 : decode cMd_findPlaces 42 = .ok (.iload_n 1, 1) := by decide +kernel
theorem dMd_findPlaces_43 : decode cMd_findPlaces 43 = .ok (.iaload, 1) := by decide +kernel
theorem dMd_findPlaces_44 : decode cMd_findPlaces 44 = .ok (.iadd, 1) := by decide +kernel
theorem dMd_findPlaces_45 : decode cMd_findPlaces 45 = .ok (.if_icmp .ge 42, 3) := by decide +kernel
theorem dMd_findPlaces_48 : decode cMd_findPlaces 48 = .ok (.aload_n 0, 1) := by decide +kernel
theorem dMd_findPlaces_49 : decode cMd_findPlaces 49 = .ok (.getfield 71, 3) := by decide +kernel
theorem dMd_findPlaces_52 : decode cMd_findPlaces 52 = .ok (.aload_n 0, 1) := by decide +kernel
theorem dMd_findPlaces_53 : decode cMd_findPlaces 53 = .ok (.getfield 19, 3) := by decide +kernel
theorem dMd_findPlaces_56 : decode cMd_findPlaces 56 = .ok (.iload_n 2, 1) := by decide +kernel
theorem dMd_findPlaces_57 : decode cMd_findPlaces 57 = .ok (.iaload, 1) := by decide +kernel
theorem dMd_findPlaces_58 : decode cMd_findPlaces 58 = .ok (.aload_n 0, 1) := by decide +kernel
theorem dMd_findPlaces_59 : decode cMd_findPlaces 59 = .ok (.getfield 68, 3) := by decide +kernel
theorem dMd_findPlaces_62 : decode cMd_findPlaces 62 = .ok (.iconst 2, 1) := by decide +kernel
theorem dMd_findPlaces_63 : decode cMd_findPlaces 63 = .ok (.iload_n 1, 1) := by decide +kernel
theorem dMd_findPlaces_64 : decode cMd_findPlaces 64 = .ok (.imul, 1) := by decide +kernel
theorem dMd_findPlaces_65 : decode cMd_findPlaces 65 = .ok (.aload_n 0, 1) := by decide +kernel
theorem dMd_findPlaces_66 : decode cMd_findPlaces 66 = .ok (.getfield 22, 3) := by decide +kernel
theorem dMd_findPlaces_69 : decode cMd_findPlaces 69 = .ok (.iload_n 2, 1) := by decide +kernel
theorem dMd_findPlaces_70 : decode cMd_findPlaces 70 = .ok (.iaload, 1) := by decide +kernel
theorem dMd_findPlaces_71 : decode cMd_findPlaces 71 = .ok (.iadd, 1) := by decide +kernel
theorem dMd_findPlaces_72 : decode cMd_findPlaces 72 = .ok (.iaload, 1) := by decide +kernel
theorem dMd_findPlaces_73 : decode cMd_findPlaces 73 = .ok (.aload_n 0, 1) := by decide +kernel
theorem dMd_findPlaces_74 : decode cMd_findPlaces 74 = .ok (.getfield 25, 3) := by decide +kernel
theorem dMd_findPlaces_77 : decode cMd_findPlaces 77 = .ok (.iload_n 2, 1) := by decide +kernel
theorem dMd_findPlaces_78 : decode cMd_findPlaces 78 = .ok (.iaload, 1) := by decide +kernel
theorem dMd_findPlaces_79 : decode cMd_findPlaces 79 = .ok (.iadd, 1) := by decide +kernel
theorem dMd_findPlaces_80 : decode cMd_findPlaces 80 = .ok (.iastore, 1) := by decide +kernel
theorem dMd_findPlaces_81 : decode cMd_findPlaces 81 = .ok (.iinc 2 1, 3) := by decide +kernel
theorem dMd_findPlaces_84 : decode cMd_findPlaces 84 = .ok (.goto (-51), 3) := by decide +kernel
theorem dMd_findPlaces_87 : decode cMd_findPlaces 87 = .ok (.iinc 1 1, 3) := by decide +kernel
theorem dMd_findPlaces_90 : decode cMd_findPlaces 90 = .ok (.goto (-67), 3) := by decide +kernel
theorem dMd_findPlaces_93 : decode cMd_findPlaces 93 = .ok (.return_, 1) := by decide +kernel
abbrev yMd_resolve : MethodName := ⟨"ImageForgeModel", "resolve", "()V"⟩
abbrev cMd_resolve : ByteArray := prog_10_method_27_code
abbrev wsMd_resolve : List Cond := .code yMd_resolve cMd_resolve 6 none :: bw
theorem gdMd_resolve : GoodIn bw wsMd_resolve := gd_of tw_982
theorem hdMd_resolve : yMd_resolve.cls ≠ "java/lang/invoke/MethodHandle" ∧ yMd_resolve.cls ≠ "java/lang/invoke/VarHandle" ∧ (parseMethodDescriptor yMd_resolve.desc).map (fun d => d.parameters.length) = some 0 := by decide +kernel
theorem dMd_resolve_0 : decode cMd_resolve 0 = .ok (.iconst 0, 1) := by decide +kernel
theorem dMd_resolve_1 : decode cMd_resolve 1 = .ok (.istore_n 1, 1) := by decide +kernel
theorem dMd_resolve_2 : decode cMd_resolve 2 = .ok (.iload_n 1, 1) := by decide +kernel
theorem dMd_resolve_3 : decode cMd_resolve 3 = .ok (.iconst 4, 1) := by decide +kernel
theorem dMd_resolve_4 : decode cMd_resolve 4 = .ok (.if_icmp .ge 128, 3) := by decide +kernel
theorem dMd_resolve_7 : decode cMd_resolve 7 = .ok (.bipush 8, 2) := by decide +kernel
theorem dMd_resolve_9 : decode cMd_resolve 9 = .ok (.iload_n 1, 1) := by decide +kernel
theorem dMd_resolve_10 : decode cMd_resolve 10 = .ok (.imul, 1) := by decide +kernel
theorem dMd_resolve_11 : decode cMd_resolve 11 = .ok (.istore_n 2, 1) := by decide +kernel
theorem dMd_resolve_12 : decode cMd_resolve 12 = .ok (.iload_n 2, 1) := by decide +kernel
theorem dMd_resolve_13 : decode cMd_resolve 13 = .ok (.bipush 8, 2) := by decide +kernel
theorem dMd_resolve_15 : decode cMd_resolve 15 = .ok (.iload_n 1, 1) := by decide +kernel
theorem dMd_resolve_16 : decode cMd_resolve 16 = .ok (.imul, 1) := by decide +kernel
theorem dMd_resolve_17 : decode cMd_resolve 17 = .ok (.aload_n 0, 1) := by decide +kernel
theorem dMd_resolve_18 : decode cMd_resolve 18 = .ok (.getfield 28, 3) := by decide +kernel
theorem dMd_resolve_21 : decode cMd_resolve 21 = .ok (.iload_n 1, 1) := by decide +kernel
theorem dMd_resolve_22 : decode cMd_resolve 22 = .ok (.iaload, 1) := by decide +kernel
theorem dMd_resolve_23 : decode cMd_resolve 23 = .ok (.iadd, 1) := by decide +kernel
theorem dMd_resolve_24 : decode cMd_resolve 24 = .ok (.if_icmp .ge 102, 3) := by decide +kernel
theorem dMd_resolve_27 : decode cMd_resolve 27 = .ok (.aload_n 0, 1) := by decide +kernel
theorem dMd_resolve_28 : decode cMd_resolve 28 = .ok (.getfield 68, 3) := by decide +kernel
theorem dMd_resolve_31 : decode cMd_resolve 31 = .ok (.iconst 2, 1) := by decide +kernel
theorem dMd_resolve_32 : decode cMd_resolve 32 = .ok (.iload_n 1, 1) := by decide +kernel
theorem dMd_resolve_33 : decode cMd_resolve 33 = .ok (.imul, 1) := by decide +kernel
theorem dMd_resolve_34 : decode cMd_resolve 34 = .ok (.aload_n 0, 1) := by decide +kernel
theorem dMd_resolve_35 : decode cMd_resolve 35 = .ok (.getfield 31, 3) := by decide +kernel
theorem dMd_resolve_38 : decode cMd_resolve 38 = .ok (.iload_n 2, 1) := by decide +kernel
theorem dMd_resolve_39 : decode cMd_resolve 39 = .ok (.iaload, 1) := by decide +kernel
theorem dMd_resolve_40 : decode cMd_resolve 40 = .ok (.iadd, 1) := by decide +kernel
theorem dMd_resolve_41 : decode cMd_resolve 41 = .ok (.iaload, 1) := by decide +kernel
theorem dMd_resolve_42 : decode cMd_resolve 42 = .ok (.aload_n 0, 1) := by decide +kernel
theorem dMd_resolve_43 : decode cMd_resolve 43 = .ok (.getfield 34, 3) := by decide +kernel
theorem dMd_resolve_46 : decode cMd_resolve 46 = .ok (.iload_n 2, 1) := by decide +kernel
theorem dMd_resolve_47 : decode cMd_resolve 47 = .ok (.iaload, 1) := by decide +kernel
theorem dMd_resolve_48 : decode cMd_resolve 48 = .ok (.iadd, 1) := by decide +kernel
theorem dMd_resolve_49 : decode cMd_resolve 49 = .ok (.istore_n 3, 1) := by decide +kernel
theorem dMd_resolve_50 : decode cMd_resolve 50 = .ok (.aload_n 0, 1) := by decide +kernel
theorem dMd_resolve_51 : decode cMd_resolve 51 = .ok (.getfield 71, 3) := by decide +kernel
theorem dMd_resolve_54 : decode cMd_resolve 54 = .ok (.aload_n 0, 1) := by decide +kernel
theorem dMd_resolve_55 : decode cMd_resolve 55 = .ok (.getfield 40, 3) := by decide +kernel
theorem dMd_resolve_58 : decode cMd_resolve 58 = .ok (.iload_n 2, 1) := by decide +kernel
theorem dMd_resolve_59 : decode cMd_resolve 59 = .ok (.iaload, 1) := by decide +kernel
theorem dMd_resolve_60 : decode cMd_resolve 60 = .ok (.iaload, 1) := by decide +kernel
theorem dMd_resolve_61 : decode cMd_resolve 61 = .ok (.istore 4, 2) := by decide +kernel
theorem dMd_resolve_63 : decode cMd_resolve 63 = .ok (.aload_n 0, 1) := by decide +kernel
theorem dMd_resolve_64 : decode cMd_resolve 64 = .ok (.getfield 59, 3) := by decide +kernel
theorem dMd_resolve_67 : decode cMd_resolve 67 = .ok (.iload_n 3, 1) := by decide +kernel
theorem dMd_resolve_68 : decode cMd_resolve 68 = .ok (.invokestatic 128, 3) := by decide +kernel
theorem dMd_resolve_71 : decode cMd_resolve 71 = .ok (.iload 4, 2) := by decide +kernel
theorem dMd_resolve_73 : decode cMd_resolve 73 = .ok (.iadd, 1) := by decide +kernel
theorem dMd_resolve_74 : decode cMd_resolve 74 = .ok (.istore 5, 2) := by decide +kernel
theorem dMd_resolve_76 : decode cMd_resolve 76 = .ok (.aload_n 0, 1) := by decide +kernel
theorem dMd_resolve_77 : decode cMd_resolve 77 = .ok (.iload_n 3, 1) := by decide +kernel
theorem dMd_resolve_78 : decode cMd_resolve 78 = .ok (.aload_n 0, 1) := by decide +kernel
theorem dMd_resolve_79 : decode cMd_resolve 79 = .ok (.getfield 37, 3) := by decide +kernel
theorem dMd_resolve_82 : decode cMd_resolve 82 = .ok (.iload_n 2, 1) := by decide +kernel
theorem dMd_resolve_83 : decode cMd_resolve 83 = .ok (.iaload, 1) := by decide +kernel
theorem dMd_resolve_84 : decode cMd_resolve 84 = .ok (.ifCond .ne 12, 3) := by decide +kernel
theorem dMd_resolve_87 : decode cMd_resolve 87 = .ok (.iload 5, 2) := by decide +kernel
theorem dMd_resolve_89 : decode cMd_resolve 89 = .ok (.sipush 4096, 3) := by decide +kernel
theorem dMd_resolve_92 : decode cMd_resolve 92 = .ok (.iadd, 1) := by decide +kernel
theorem dMd_resolve_93 : decode cMd_resolve 93 = .ok (.goto 24, 3) := by decide +kernel
theorem dMd_resolve_96 : decode cMd_resolve 96 = .ok (.aload_n 0, 1) := by decide +kernel
theorem dMd_resolve_97 : decode cMd_resolve 97 = .ok (.getfield 37, 3) := by decide +kernel
theorem dMd_resolve_100 : decode cMd_resolve 100 = .ok (.iload_n 2, 1) := by decide +kernel
theorem dMd_resolve_101 : decode cMd_resolve 101 = .ok (.iaload, 1) := by decide +kernel
theorem dMd_resolve_102 : decode cMd_resolve 102 = .ok (.iconst 1, 1) := by decide +kernel
theorem dMd_resolve_103 : decode cMd_resolve 103 = .ok (.if_icmp .ne 12, 3) := by decide +kernel
theorem dMd_resolve_106 : decode cMd_resolve 106 = .ok (.iload 5, 2) := by decide +kernel
theorem dMd_resolve_108 : decode cMd_resolve 108 = .ok (.iload_n 3, 1) := by decide +kernel
theorem dMd_resolve_109 : decode cMd_resolve 109 = .ok (.isub, 1) := by decide +kernel
theorem dMd_resolve_110 : decode cMd_resolve 110 = .ok (.iconst 4, 1) := by decide +kernel
theorem dMd_resolve_111 : decode cMd_resolve 111 = .ok (.isub, 1) := by decide +kernel
theorem dMd_resolve_112 : decode cMd_resolve 112 = .ok (.goto 5, 3) := by decide +kernel
theorem dMd_resolve_115 : decode cMd_resolve 115 = .ok (.iload 5, 2) := by decide +kernel
theorem dMd_resolve_117 : decode cMd_resolve 117 = .ok (.invokevirtual 101, 3) := by decide +kernel
theorem dMd_resolve_120 : decode cMd_resolve 120 = .ok (.iinc 2 1, 3) := by decide +kernel
theorem dMd_resolve_123 : decode cMd_resolve 123 = .ok (.goto (-111), 3) := by decide +kernel
theorem dMd_resolve_126 : decode cMd_resolve 126 = .ok (.iinc 1 1, 3) := by decide +kernel
theorem dMd_resolve_129 : decode cMd_resolve 129 = .ok (.goto (-127), 3) := by decide +kernel
theorem dMd_resolve_132 : decode cMd_resolve 132 = .ok (.return_, 1) := by decide +kernel
abbrev yMd_sumOf : MethodName := ⟨"ImageForgeModel", "sumOf", "([II)I"⟩
abbrev cMd_sumOf : ByteArray := prog_10_method_28_code
abbrev wsMd_sumOf : List Cond := .code yMd_sumOf cMd_sumOf 5 (some .int) :: bw
theorem gdMd_sumOf : GoodIn bw wsMd_sumOf := gd_of tw_993
theorem hdMd_sumOf : yMd_sumOf.cls ≠ "java/lang/invoke/MethodHandle" ∧ yMd_sumOf.cls ≠ "java/lang/invoke/VarHandle" ∧ (parseMethodDescriptor yMd_sumOf.desc).map (fun d => d.parameters.length) = some 2 := by decide +kernel
theorem dMd_sumOf_0 : decode cMd_sumOf 0 = .ok (.iconst 0, 1) := by decide +kernel
theorem dMd_sumOf_1 : decode cMd_sumOf 1 = .ok (.istore_n 3, 1) := by decide +kernel
theorem dMd_sumOf_2 : decode cMd_sumOf 2 = .ok (.iconst 0, 1) := by decide +kernel
theorem dMd_sumOf_3 : decode cMd_sumOf 3 = .ok (.istore 4, 2) := by decide +kernel
theorem dMd_sumOf_5 : decode cMd_sumOf 5 = .ok (.iload 4, 2) := by decide +kernel
theorem dMd_sumOf_7 : decode cMd_sumOf 7 = .ok (.iload_n 2, 1) := by decide +kernel
theorem dMd_sumOf_8 : decode cMd_sumOf 8 = .ok (.if_icmp .ge 53, 3) := by decide +kernel
theorem dMd_sumOf_11 : decode cMd_sumOf 11 = .ok (.iload 4, 2) := by decide +kernel
theorem dMd_sumOf_13 : decode cMd_sumOf 13 = .ok (.bipush 20, 2) := by decide +kernel
theorem dMd_sumOf_15 : decode cMd_sumOf 15 = .ok (.if_icmp .eq 40, 3) := by decide +kernel
theorem dMd_sumOf_18 : decode cMd_sumOf 18 = .ok (.iload 4, 2) := by decide +kernel
theorem dMd_sumOf_20 : decode cMd_sumOf 20 = .ok (.bipush 22, 2) := by decide +kernel
theorem dMd_sumOf_22 : decode cMd_sumOf 22 = .ok (.if_icmp .ne 6, 3) := by decide +kernel
theorem dMd_sumOf_25 : decode cMd_sumOf 25 = .ok (.goto 30, 3) := by decide +kernel
theorem dMd_sumOf_28 : decode cMd_sumOf 28 = .ok (.iload_n 3, 1) := by decide +kernel
theorem dMd_sumOf_29 : decode cMd_sumOf 29 = .ok (.aload_n 1, 1) := by decide +kernel
theorem dMd_sumOf_30 : decode cMd_sumOf 30 = .ok (.iload 4, 2) := by decide +kernel
theorem dMd_sumOf_32 : decode cMd_sumOf 32 = .ok (.iaload, 1) := by decide +kernel
theorem dMd_sumOf_33 : decode cMd_sumOf 33 = .ok (.aload_n 1, 1) := by decide +kernel
theorem dMd_sumOf_34 : decode cMd_sumOf 34 = .ok (.iload 4, 2) := by decide +kernel
theorem dMd_sumOf_36 : decode cMd_sumOf 36 = .ok (.iconst 1, 1) := by decide +kernel
theorem dMd_sumOf_37 : decode cMd_sumOf 37 = .ok (.iadd, 1) := by decide +kernel
theorem dMd_sumOf_38 : decode cMd_sumOf 38 = .ok (.iaload, 1) := by decide +kernel
theorem dMd_sumOf_39 : decode cMd_sumOf 39 = .ok (.bipush 8, 2) := by decide +kernel
theorem dMd_sumOf_41 : decode cMd_sumOf 41 = .ok (.ishl, 1) := by decide +kernel
theorem dMd_sumOf_42 : decode cMd_sumOf 42 = .ok (.ior, 1) := by decide +kernel
theorem dMd_sumOf_43 : decode cMd_sumOf 43 = .ok (.iadd, 1) := by decide +kernel
theorem dMd_sumOf_44 : decode cMd_sumOf 44 = .ok (.istore_n 3, 1) := by decide +kernel
theorem dMd_sumOf_45 : decode cMd_sumOf 45 = .ok (.iload_n 3, 1) := by decide +kernel
theorem dMd_sumOf_46 : decode cMd_sumOf 46 = .ok (.ldc 132, 2) := by decide +kernel
theorem dMd_sumOf_48 : decode cMd_sumOf 48 = .ok (.iand, 1) := by decide +kernel
theorem dMd_sumOf_49 : decode cMd_sumOf 49 = .ok (.iload_n 3, 1) := by decide +kernel
theorem dMd_sumOf_50 : decode cMd_sumOf 50 = .ok (.bipush 16, 2) := by decide +kernel
theorem dMd_sumOf_52 : decode cMd_sumOf 52 = .ok (.ishr, 1) := by decide +kernel
theorem dMd_sumOf_53 : decode cMd_sumOf 53 = .ok (.iadd, 1) := by decide +kernel
theorem dMd_sumOf_54 : decode cMd_sumOf 54 = .ok (.istore_n 3, 1) := by decide +kernel
theorem dMd_sumOf_55 : decode cMd_sumOf 55 = .ok (.iinc 4 2, 3) := by decide +kernel
theorem dMd_sumOf_58 : decode cMd_sumOf 58 = .ok (.goto (-53), 3) := by decide +kernel
theorem dMd_sumOf_61 : decode cMd_sumOf 61 = .ok (.iload_n 3, 1) := by decide +kernel
theorem dMd_sumOf_62 : decode cMd_sumOf 62 = .ok (.iload_n 2, 1) := by decide +kernel
theorem dMd_sumOf_63 : decode cMd_sumOf 63 = .ok (.iadd, 1) := by decide +kernel
theorem dMd_sumOf_64 : decode cMd_sumOf 64 = .ok (.ireturn, 1) := by decide +kernel
abbrev yMd_header : MethodName := ⟨"ImageForgeModel", "header", "()V"⟩
abbrev cMd_header : ByteArray := prog_10_method_29_code
abbrev wsMd_header : List Cond := .code yMd_header cMd_header 2 none :: bw
theorem gdMd_header : GoodIn bw wsMd_header := gd_of tw_989
theorem hdMd_header : yMd_header.cls ≠ "java/lang/invoke/MethodHandle" ∧ yMd_header.cls ≠ "java/lang/invoke/VarHandle" ∧ (parseMethodDescriptor yMd_header.desc).map (fun d => d.parameters.length) = some 0 := by decide +kernel
theorem dMd_header_0 : decode cMd_header 0 = .ok (.aload_n 0, 1) := by decide +kernel
theorem dMd_header_1 : decode cMd_header 1 = .ok (.getfield 59, 3) := by decide +kernel
theorem dMd_header_4 : decode cMd_header 4 = .ok (.iconst 0, 1) := by decide +kernel
theorem dMd_header_5 : decode cMd_header 5 = .ok (.bipush 77, 2) := by decide +kernel
theorem dMd_header_7 : decode cMd_header 7 = .ok (.iastore, 1) := by decide +kernel
theorem dMd_header_8 : decode cMd_header 8 = .ok (.aload_n 0, 1) := by decide +kernel
theorem dMd_header_9 : decode cMd_header 9 = .ok (.getfield 59, 3) := by decide +kernel
theorem dMd_header_12 : decode cMd_header 12 = .ok (.iconst 1, 1) := by decide +kernel
theorem dMd_header_13 : decode cMd_header 13 = .ok (.bipush 90, 2) := by decide +kernel
theorem dMd_header_15 : decode cMd_header 15 = .ok (.iastore, 1) := by decide +kernel
theorem dMd_header_16 : decode cMd_header 16 = .ok (.aload_n 0, 1) := by decide +kernel
theorem dMd_header_17 : decode cMd_header 17 = .ok (.iconst 4, 1) := by decide +kernel
theorem dMd_header_18 : decode cMd_header 18 = .ok (.iconst 5, 1) := by decide +kernel
theorem dMd_header_19 : decode cMd_header 19 = .ok (.invokevirtual 101, 3) := by decide +kernel
theorem dMd_header_22 : decode cMd_header 22 = .ok (.aload_n 0, 1) := by decide +kernel
theorem dMd_header_23 : decode cMd_header 23 = .ok (.bipush 8, 2) := by decide +kernel
theorem dMd_header_25 : decode cMd_header 25 = .ok (.sipush 4096, 3) := by decide +kernel
theorem dMd_header_28 : decode cMd_header 28 = .ok (.invokevirtual 101, 3) := by decide +kernel
theorem dMd_header_31 : decode cMd_header 31 = .ok (.aload_n 0, 1) := by decide +kernel
theorem dMd_header_32 : decode cMd_header 32 = .ok (.bipush 12, 2) := by decide +kernel
theorem dMd_header_34 : decode cMd_header 34 = .ok (.aload_n 0, 1) := by decide +kernel
theorem dMd_header_35 : decode cMd_header 35 = .ok (.getfield 98, 3) := by decide +kernel
theorem dMd_header_38 : decode cMd_header 38 = .ok (.invokevirtual 101, 3) := by decide +kernel
theorem dMd_header_41 : decode cMd_header 41 = .ok (.aload_n 0, 1) := by decide +kernel
theorem dMd_header_42 : decode cMd_header 42 = .ok (.bipush 16, 2) := by decide +kernel
theorem dMd_header_44 : decode cMd_header 44 = .ok (.aload_n 0, 1) := by decide +kernel
theorem dMd_header_45 : decode cMd_header 45 = .ok (.iconst 0, 1) := by decide +kernel
theorem dMd_header_46 : decode cMd_header 46 = .ok (.invokevirtual 133, 3) := by decide +kernel
theorem dMd_header_49 : decode cMd_header 49 = .ok (.ifCond .le 12, 3) := by decide +kernel
theorem dMd_header_52 : decode cMd_header 52 = .ok (.aload_n 0, 1) := by decide +kernel
theorem dMd_header_53 : decode cMd_header 53 = .ok (.getfield 71, 3) := by decide +kernel
theorem dMd_header_56 : decode cMd_header 56 = .ok (.iconst 0, 1) := by decide +kernel
theorem dMd_header_57 : decode cMd_header 57 = .ok (.iaload, 1) := by decide +kernel
theorem dMd_header_58 : decode cMd_header 58 = .ok (.goto 4, 3) := by decide +kernel
theorem dMd_header_61 : decode cMd_header 61 = .ok (.iconst 0, 1) := by decide +kernel
theorem dMd_header_62 : decode cMd_header 62 = .ok (.invokevirtual 101, 3) := by decide +kernel
theorem dMd_header_65 : decode cMd_header 65 = .ok (.iconst 0, 1) := by decide +kernel
theorem dMd_header_66 : decode cMd_header 66 = .ok (.istore_n 1, 1) := by decide +kernel
theorem dMd_header_67 : decode cMd_header 67 = .ok (.iload_n 1, 1) := by decide +kernel
theorem dMd_header_68 : decode cMd_header 68 = .ok (.iconst 5, 1) := by decide +kernel
theorem dMd_header_69 : decode cMd_header 69 = .ok (.if_icmp .ge 50, 3) := by decide +kernel
theorem dMd_header_72 : decode cMd_header 72 = .ok (.aload_n 0, 1) := by decide +kernel
theorem dMd_header_73 : decode cMd_header 73 = .ok (.bipush 24, 2) := by decide +kernel
theorem dMd_header_75 : decode cMd_header 75 = .ok (.bipush 8, 2) := by decide +kernel
theorem dMd_header_77 : decode cMd_header 77 = .ok (.iload_n 1, 1) := by decide +kernel
theorem dMd_header_78 : decode cMd_header 78 = .ok (.imul, 1) := by decide +kernel
theorem dMd_header_79 : decode cMd_header 79 = .ok (.iadd, 1) := by decide +kernel
theorem dMd_header_80 : decode cMd_header 80 = .ok (.aload_n 0, 1) := by decide +kernel
theorem dMd_header_81 : decode cMd_header 81 = .ok (.getfield 62, 3) := by decide +kernel
theorem dMd_header_84 : decode cMd_header 84 = .ok (.iload_n 1, 1) := by decide +kernel
theorem dMd_header_85 : decode cMd_header 85 = .ok (.iaload, 1) := by decide +kernel
theorem dMd_header_86 : decode cMd_header 86 = .ok (.invokevirtual 101, 3) := by decide +kernel
theorem dMd_header_89 : decode cMd_header 89 = .ok (.aload_n 0, 1) := by decide +kernel
theorem dMd_header_90 : decode cMd_header 90 = .ok (.bipush 28, 2) := by decide +kernel
theorem dMd_header_92 : decode cMd_header 92 = .ok (.bipush 8, 2) := by decide +kernel
theorem dMd_header_94 : decode cMd_header 94 = .ok (.iload_n 1, 1) := by decide +kernel
theorem dMd_header_95 : decode cMd_header 95 = .ok (.imul, 1) := by decide +kernel
theorem dMd_header_96 : decode cMd_header 96 = .ok (.iadd, 1) := by decide +kernel
theorem dMd_header_97 : decode cMd_header 97 = .ok (.aload_n 0, 1) := by decide +kernel
theorem dMd_header_98 : decode cMd_header 98 = .ok (.getfield 65, 3) := by decide +kernel
theorem dMd_header_101 : decode cMd_header 101 = .ok (.iload_n 1, 1) := by decide +kernel
theorem dMd_header_102 : decode cMd_header 102 = .ok (.iaload, 1) := by decide +kernel
theorem dMd_header_103 : decode cMd_header 103 = .ok (.aload_n 0, 1) := by decide +kernel
theorem dMd_header_104 : decode cMd_header 104 = .ok (.getfield 62, 3) := by decide +kernel
theorem dMd_header_107 : decode cMd_header 107 = .ok (.iload_n 1, 1) := by decide +kernel
theorem dMd_header_108 : decode cMd_header 108 = .ok (.iaload, 1) := by decide +kernel
theorem dMd_header_109 : decode cMd_header 109 = .ok (.isub, 1) := by decide +kernel
theorem dMd_header_110 : decode cMd_header 110 = .ok (.invokevirtual 101, 3) := by decide +kernel
theorem dMd_header_113 : decode cMd_header 113 = .ok (.iinc 1 1, 3) := by decide +kernel
theorem dMd_header_116 : decode cMd_header 116 = .ok (.goto (-49), 3) := by decide +kernel
theorem dMd_header_119 : decode cMd_header 119 = .ok (.aload_n 0, 1) := by decide +kernel
theorem dMd_header_120 : decode cMd_header 120 = .ok (.bipush 20, 2) := by decide +kernel
theorem dMd_header_122 : decode cMd_header 122 = .ok (.aload_n 0, 1) := by decide +kernel
theorem dMd_header_123 : decode cMd_header 123 = .ok (.aload_n 0, 1) := by decide +kernel
theorem dMd_header_124 : decode cMd_header 124 = .ok (.getfield 59, 3) := by decide +kernel
theorem dMd_header_127 : decode cMd_header 127 = .ok (.aload_n 0, 1) := by decide +kernel
theorem dMd_header_128 : decode cMd_header 128 = .ok (.getfield 98, 3) := by decide +kernel
theorem dMd_header_131 : decode cMd_header 131 = .ok (.invokevirtual 136, 3) := by decide +kernel
theorem dMd_header_134 : decode cMd_header 134 = .ok (.invokevirtual 101, 3) := by decide +kernel
theorem dMd_header_137 : decode cMd_header 137 = .ok (.return_, 1) := by decide +kernel
abbrev yMd_link : MethodName := ⟨"ImageForgeModel", "link", "()I"⟩
abbrev cMd_link : ByteArray := prog_10_method_30_code
abbrev wsMd_link : List Cond := .code yMd_link cMd_link 5 (some .int) :: bw
theorem gdMd_link : GoodIn bw wsMd_link := gd_of tw_922
theorem hdMd_link : yMd_link.cls ≠ "java/lang/invoke/MethodHandle" ∧ yMd_link.cls ≠ "java/lang/invoke/VarHandle" ∧ (parseMethodDescriptor yMd_link.desc).map (fun d => d.parameters.length) = some 0 := by decide +kernel
theorem dMd_link_0 : decode cMd_link 0 = .ok (.iconst 0, 1) := by decide +kernel
theorem dMd_link_1 : decode cMd_link 1 = .ok (.istore_n 1, 1) := by decide +kernel
theorem dMd_link_2 : decode cMd_link 2 = .ok (.iconst 0, 1) := by decide +kernel
theorem dMd_link_3 : decode cMd_link 3 = .ok (.istore_n 2, 1) := by decide +kernel
theorem dMd_link_4 : decode cMd_link 4 = .ok (.iconst 0, 1) := by decide +kernel
theorem dMd_link_5 : decode cMd_link 5 = .ok (.istore_n 3, 1) := by decide +kernel
theorem dMd_link_6 : decode cMd_link 6 = .ok (.iload_n 3, 1) := by decide +kernel
theorem dMd_link_7 : decode cMd_link 7 = .ok (.bipush 16, 2) := by decide +kernel
theorem dMd_link_9 : decode cMd_link 9 = .ok (.if_icmp .ge 93, 3) := by decide +kernel
theorem dMd_link_12 : decode cMd_link 12 = .ok (.aload_n 0, 1) := by decide +kernel
theorem dMd_link_13 : decode cMd_link 13 = .ok (.iload_n 3, 1) := by decide +kernel
theorem dMd_link_14 : decode cMd_link 14 = .ok (.invokevirtual 133, 3) := by decide +kernel
theorem dMd_link_17 : decode cMd_link 17 = .ok (.istore 4, 2) := by decide +kernel
theorem dMd_link_19 : decode cMd_link 19 = .ok (.iload_n 1, 1) := by decide +kernel
theorem dMd_link_20 : decode cMd_link 20 = .ok (.ifCond .ne 24, 3) := by decide +kernel
theorem dMd_link_23 : decode cMd_link 23 = .ok (.iload 4, 2) := by decide +kernel
theorem dMd_link_25 : decode cMd_link 25 = .ok (.iconst 1, 1) := by decide +kernel
theorem dMd_link_26 : decode cMd_link 26 = .ok (.if_icmp .gt 18, 3) := by decide +kernel
theorem dMd_link_29 : decode cMd_link 29 = .ok (.iload 4, 2) := by decide +kernel
theorem dMd_link_31 : decode cMd_link 31 = .ok (.iconst 1, 1) := by decide +kernel
theorem dMd_link_32 : decode cMd_link 32 = .ok (.if_icmp .ne 16, 3) := by decide +kernel
theorem dMd_link_35 : decode cMd_link 35 = .ok (.aload_n 0, 1) := by decide +kernel
theorem dMd_link_36 : decode cMd_link 36 = .ok (.getfield 43, 3) := by decide +kernel
theorem dMd_link_39 : decode cMd_link 39 = .ok (.iload_n 3, 1) := by decide +kernel
theorem dMd_link_40 : decode cMd_link 40 = .ok (.iaload, 1) := by decide +kernel
theorem dMd_link_41 : decode cMd_link 41 = .ok (.ifCond .le 7, 3) := by decide +kernel
theorem dMd_link_44 : decode cMd_link 44 = .ok (.iconst 1, 1) := by decide +kernel
theorem dMd_link_45 : decode cMd_link 45 = .ok (.goto 4, 3) := by decide +kernel
theorem dMd_link_48 : decode cMd_link 48 = .ok (.iconst 0, 1) := by decide +kernel
theorem dMd_link_49 : decode cMd_link 49 = .ok (.istore_n 1, 1) := by decide +kernel
theorem dMd_link_50 : decode cMd_link 50 = .ok (.iload_n 2, 1) := by decide +kernel
theorem dMd_link_51 : decode cMd_link 51 = .ok (.ifCond .ne 39, 3) := by decide +kernel
theorem dMd_link_54 : decode cMd_link 54 = .ok (.aload_n 0, 1) := by decide +kernel
theorem dMd_link_55 : decode cMd_link 55 = .ok (.getfield 49, 3) := by decide +kernel
theorem dMd_link_58 : decode cMd_link 58 = .ok (.iload_n 3, 1) := by decide +kernel
theorem dMd_link_59 : decode cMd_link 59 = .ok (.baload, 1) := by decide +kernel
theorem dMd_link_60 : decode cMd_link 60 = .ok (.ifCond .eq 8, 3) := by decide +kernel
theorem dMd_link_63 : decode cMd_link 63 = .ok (.iload 4, 2) := by decide +kernel
theorem dMd_link_65 : decode cMd_link 65 = .ok (.ifCond .eq 25, 3) := by decide +kernel
theorem dMd_link_68 : decode cMd_link 68 = .ok (.aload_n 0, 1) := by decide +kernel
theorem dMd_link_69 : decode cMd_link 69 = .ok (.iload_n 3, 1) := by decide +kernel
theorem dMd_link_70 : decode cMd_link 70 = .ok (.invokevirtual 139, 3) := by decide +kernel
theorem dMd_link_73 : decode cMd_link 73 = .ok (.ifCond .eq 21, 3) := by decide +kernel
theorem dMd_link_76 : decode cMd_link 76 = .ok (.iload 4, 2) := by decide +kernel
theorem dMd_link_78 : decode cMd_link 78 = .ok (.ifCond .ne 16, 3) := by decide +kernel
theorem dMd_link_81 : decode cMd_link 81 = .ok (.aload_n 0, 1) := by decide +kernel
theorem dMd_link_82 : decode cMd_link 82 = .ok (.getfield 43, 3) := by decide +kernel
theorem dMd_link_85 : decode cMd_link 85 = .ok (.iload_n 3, 1) := by decide +kernel
theorem dMd_link_86 : decode cMd_link 86 = .ok (.iaload, 1) := by decide +kernel
theorem dMd_link_87 : decode cMd_link 87 = .ok (.ifCond .ne 7, 3) := by decide +kernel
theorem dMd_link_90 : decode cMd_link 90 = .ok (.iconst 1, 1) := by decide +kernel
theorem dMd_link_91 : decode cMd_link 91 = .ok (.goto 4, 3) := by decide +kernel
theorem dMd_link_94 : decode cMd_link 94 = .ok (.iconst 0, 1) := by decide +kernel
theorem dMd_link_95 : decode cMd_link 95 = .ok (.istore_n 2, 1) := by decide +kernel
theorem dMd_link_96 : decode cMd_link 96 = .ok (.iinc 3 1, 3) := by decide +kernel
theorem dMd_link_99 : decode cMd_link 99 = .ok (.goto (-93), 3) := by decide +kernel
theorem dMd_link_102 : decode cMd_link 102 = .ok (.aload_n 0, 1) := by decide +kernel
theorem dMd_link_103 : decode cMd_link 103 = .ok (.iload_n 1, 1) := by decide +kernel
theorem dMd_link_104 : decode cMd_link 104 = .ok (.iconst 1, 1) := by decide +kernel
theorem dMd_link_105 : decode cMd_link 105 = .ok (.invokevirtual 88, 3) := by decide +kernel
theorem dMd_link_108 : decode cMd_link 108 = .ok (.ifCond .ne 12, 3) := by decide +kernel
theorem dMd_link_111 : decode cMd_link 111 = .ok (.aload_n 0, 1) := by decide +kernel
theorem dMd_link_112 : decode cMd_link 112 = .ok (.iload_n 2, 1) := by decide +kernel
theorem dMd_link_113 : decode cMd_link 113 = .ok (.iconst 2, 1) := by decide +kernel
theorem dMd_link_114 : decode cMd_link 114 = .ok (.invokevirtual 88, 3) := by decide +kernel
theorem dMd_link_117 : decode cMd_link 117 = .ok (.ifCond .eq 5, 3) := by decide +kernel
theorem dMd_link_120 : decode cMd_link 120 = .ok (.iconst 0, 1) := by decide +kernel
theorem dMd_link_121 : decode cMd_link 121 = .ok (.ireturn, 1) := by decide +kernel
theorem dMd_link_122 : decode cMd_link 122 = .ok (.iconst 0, 1) := by decide +kernel
theorem dMd_link_123 : decode cMd_link 123 = .ok (.istore_n 3, 1) := by decide +kernel
theorem dMd_link_124 : decode cMd_link 124 = .ok (.iload_n 3, 1) := by decide +kernel
theorem dMd_link_125 : decode cMd_link 125 = .ok (.sipush 2048, 3) := by decide +kernel
theorem dMd_link_128 : decode cMd_link 128 = .ok (.if_icmp .ge 16, 3) := by decide +kernel
theorem dMd_link_131 : decode cMd_link 131 = .ok (.aload_n 0, 1) := by decide +kernel
theorem dMd_link_132 : decode cMd_link 132 = .ok (.getfield 59, 3) := by decide +kernel
theorem dMd_link_135 : decode cMd_link 135 = .ok (.iload_n 3, 1) := by decide +kernel
theorem dMd_link_136 : decode cMd_link 136 = .ok (.iconst 0, 1) := by decide +kernel
theorem dMd_link_137 : decode cMd_link 137 = .ok (.iastore, 1) := by decide +kernel
theorem dMd_link_138 : decode cMd_link 138 = .ok (.iinc 3 1, 3) := by decide +kernel
theorem dMd_link_141 : decode cMd_link 141 = .ok (.goto (-17), 3) := by decide +kernel
theorem dMd_link_144 : decode cMd_link 144 = .ok (.aload_n 0, 1) := by decide +kernel
theorem dMd_link_145 : decode cMd_link 145 = .ok (.bipush 64, 2) := by decide +kernel
theorem dMd_link_147 : decode cMd_link 147 = .ok (.putfield 98, 3) := by decide +kernel
theorem dMd_link_150 : decode cMd_link 150 = .ok (.aload_n 0, 1) := by decide +kernel
theorem dMd_link_151 : decode cMd_link 151 = .ok (.iconst 0, 1) := by decide +kernel
theorem dMd_link_152 : decode cMd_link 152 = .ok (.invokevirtual 142, 3) := by decide +kernel
theorem dMd_link_155 : decode cMd_link 155 = .ok (.aload_n 0, 1) := by decide +kernel
theorem dMd_link_156 : decode cMd_link 156 = .ok (.iconst 1, 1) := by decide +kernel
theorem dMd_link_157 : decode cMd_link 157 = .ok (.invokevirtual 142, 3) := by decide +kernel
theorem dMd_link_160 : decode cMd_link 160 = .ok (.aload_n 0, 1) := by decide +kernel
theorem dMd_link_161 : decode cMd_link 161 = .ok (.invokevirtual 145, 3) := by decide +kernel
theorem dMd_link_164 : decode cMd_link 164 = .ok (.aload_n 0, 1) := by decide +kernel
theorem dMd_link_165 : decode cMd_link 165 = .ok (.invokevirtual 148, 3) := by decide +kernel
theorem dMd_link_168 : decode cMd_link 168 = .ok (.aload_n 0, 1) := by decide +kernel
theorem dMd_link_169 : decode cMd_link 169 = .ok (.invokevirtual 151, 3) := by decide +kernel
theorem dMd_link_172 : decode cMd_link 172 = .ok (.aload_n 0, 1) := by decide +kernel
theorem dMd_link_173 : decode cMd_link 173 = .ok (.invokevirtual 154, 3) := by decide +kernel
theorem dMd_link_176 : decode cMd_link 176 = .ok (.aload_n 0, 1) := by decide +kernel
theorem dMd_link_177 : decode cMd_link 177 = .ok (.aload_n 0, 1) := by decide +kernel
theorem dMd_link_178 : decode cMd_link 178 = .ok (.getfield 98, 3) := by decide +kernel
theorem dMd_link_181 : decode cMd_link 181 = .ok (.bipush 64, 2) := by decide +kernel
theorem dMd_link_183 : decode cMd_link 183 = .ok (.invokestatic 105, 3) := by decide +kernel
theorem dMd_link_186 : decode cMd_link 186 = .ok (.putfield 98, 3) := by decide +kernel
theorem dMd_link_189 : decode cMd_link 189 = .ok (.aload_n 0, 1) := by decide +kernel
theorem dMd_link_190 : decode cMd_link 190 = .ok (.invokevirtual 157, 3) := by decide +kernel
theorem dMd_link_193 : decode cMd_link 193 = .ok (.aload_n 0, 1) := by decide +kernel
theorem dMd_link_194 : decode cMd_link 194 = .ok (.invokevirtual 160, 3) := by decide +kernel
theorem dMd_link_197 : decode cMd_link 197 = .ok (.aload_n 0, 1) := by decide +kernel
theorem dMd_link_198 : decode cMd_link 198 = .ok (.aload_n 0, 1) := by decide +kernel
theorem dMd_link_199 : decode cMd_link 199 = .ok (.getfield 98, 3) := by decide +kernel
theorem dMd_link_202 : decode cMd_link 202 = .ok (.putfield 163, 3) := by decide +kernel
theorem dMd_link_205 : decode cMd_link 205 = .ok (.iconst 0, 1) := by decide +kernel
theorem dMd_link_206 : decode cMd_link 206 = .ok (.istore_n 3, 1) := by decide +kernel
theorem dMd_link_207 : decode cMd_link 207 = .ok (.iload_n 3, 1) := by decide +kernel
theorem dMd_link_208 : decode cMd_link 208 = .ok (.aload_n 0, 1) := by decide +kernel
theorem dMd_link_209 : decode cMd_link 209 = .ok (.getfield 163, 3) := by decide +kernel
theorem dMd_link_212 : decode cMd_link 212 = .ok (.if_icmp .ge 21, 3) := by decide +kernel
theorem dMd_link_215 : decode cMd_link 215 = .ok (.aload_n 0, 1) := by decide +kernel
theorem dMd_link_216 : decode cMd_link 216 = .ok (.getfield 56, 3) := by decide +kernel
theorem dMd_link_219 : decode cMd_link 219 = .ok (.iload_n 3, 1) := by decide +kernel
theorem dMd_link_220 : decode cMd_link 220 = .ok (.aload_n 0, 1) := by decide +kernel
theorem dMd_link_221 : decode cMd_link 221 = .ok (.getfield 59, 3) := by decide +kernel
theorem dMd_link_224 : decode cMd_link 224 = .ok (.iload_n 3, 1) := by decide +kernel
theorem dMd_link_225 : decode cMd_link 225 = .ok (.iaload, 1) := by decide +kernel
theorem dMd_link_226 : decode cMd_link 226 = .ok (.iastore, 1) := by decide +kernel
theorem dMd_link_227 : decode cMd_link 227 = .ok (.iinc 3 1, 3) := by decide +kernel
theorem dMd_link_230 : decode cMd_link 230 = .ok (.goto (-23), 3) := by decide +kernel
theorem dMd_link_233 : decode cMd_link 233 = .ok (.aload_n 0, 1) := by decide +kernel
theorem dMd_link_234 : decode cMd_link 234 = .ok (.getfield 163, 3) := by decide +kernel
theorem dMd_link_237 : decode cMd_link 237 = .ok (.ireturn, 1) := by decide +kernel
abbrev yMd_image : MethodName := ⟨"ImageForgeModel", "image", "(I)I"⟩
abbrev cMd_image : ByteArray := prog_10_method_31_code
abbrev wsMd_image : List Cond := .code yMd_image cMd_image 2 (some .int) :: bw
theorem gdMd_image : GoodIn bw wsMd_image := gd_of tw_998
theorem hdMd_image : yMd_image.cls ≠ "java/lang/invoke/MethodHandle" ∧ yMd_image.cls ≠ "java/lang/invoke/VarHandle" ∧ (parseMethodDescriptor yMd_image.desc).map (fun d => d.parameters.length) = some 1 := by decide +kernel
theorem dMd_image_0 : decode cMd_image 0 = .ok (.aload_n 0, 1) := by decide +kernel
theorem dMd_image_1 : decode cMd_image 1 = .ok (.iload_n 1, 1) := by decide +kernel
theorem dMd_image_2 : decode cMd_image 2 = .ok (.aload_n 0, 1) := by decide +kernel
theorem dMd_image_3 : decode cMd_image 3 = .ok (.getfield 163, 3) := by decide +kernel
theorem dMd_image_6 : decode cMd_image 6 = .ok (.invokestatic 84, 3) := by decide +kernel
theorem dMd_image_9 : decode cMd_image 9 = .ok (.iconst 1, 1) := by decide +kernel
theorem dMd_image_10 : decode cMd_image 10 = .ok (.invokevirtual 88, 3) := by decide +kernel
theorem dMd_image_13 : decode cMd_image 13 = .ok (.ifCond .eq 7, 3) := by decide +kernel
theorem dMd_image_16 : decode cMd_image 16 = .ok (.iconst 0, 1) := by decide +kernel
theorem dMd_image_17 : decode cMd_image 17 = .ok (.goto 9, 3) := by decide +kernel
theorem dMd_image_20 : decode cMd_image 20 = .ok (.aload_n 0, 1) := by decide +kernel
theorem dMd_image_21 : decode cMd_image 21 = .ok (.getfield 56, 3) := by decide +kernel
theorem dMd_image_24 : decode cMd_image 24 = .ok (.iload_n 1, 1) := by decide +kernel
theorem dMd_image_25 : decode cMd_image 25 = .ok (.iaload, 1) := by decide +kernel
theorem dMd_image_26 : decode cMd_image 26 = .ok (.ireturn, 1) := by decide +kernel
abbrev yMd_spoil : MethodName := ⟨"ImageForgeModel", "spoil", "(II)V"⟩
abbrev cMd_spoil : ByteArray := prog_10_method_32_code
abbrev wsMd_spoil : List Cond := .code yMd_spoil cMd_spoil 3 none :: bw
theorem gdMd_spoil : GoodIn bw wsMd_spoil := gd_of tw_1002
theorem hdMd_spoil : yMd_spoil.cls ≠ "java/lang/invoke/MethodHandle" ∧ yMd_spoil.cls ≠ "java/lang/invoke/VarHandle" ∧ (parseMethodDescriptor yMd_spoil.desc).map (fun d => d.parameters.length) = some 2 := by decide +kernel
theorem dMd_spoil_0 : decode cMd_spoil 0 = .ok (.aload_n 0, 1) := by decide +kernel
theorem dMd_spoil_1 : decode cMd_spoil 1 = .ok (.iload_n 1, 1) := by decide +kernel
theorem dMd_spoil_2 : decode cMd_spoil 2 = .ok (.aload_n 0, 1) := by decide +kernel
theorem dMd_spoil_3 : decode cMd_spoil 3 = .ok (.getfield 163, 3) := by decide +kernel
theorem dMd_spoil_6 : decode cMd_spoil 6 = .ok (.invokestatic 84, 3) := by decide +kernel
theorem dMd_spoil_9 : decode cMd_spoil 9 = .ok (.iconst 1, 1) := by decide +kernel
theorem dMd_spoil_10 : decode cMd_spoil 10 = .ok (.invokevirtual 88, 3) := by decide +kernel
theorem dMd_spoil_13 : decode cMd_spoil 13 = .ok (.ifCond .eq 4, 3) := by decide +kernel
theorem dMd_spoil_16 : decode cMd_spoil 16 = .ok (.return_, 1) := by decide +kernel
theorem dMd_spoil_17 : decode cMd_spoil 17 = .ok (.aload_n 0, 1) := by decide +kernel
theorem dMd_spoil_18 : decode cMd_spoil 18 = .ok (.getfield 56, 3) := by decide +kernel
theorem dMd_spoil_21 : decode cMd_spoil 21 = .ok (.iload_n 1, 1) := by decide +kernel
theorem dMd_spoil_22 : decode cMd_spoil 22 = .ok (.aload_n 0, 1) := by decide +kernel
theorem dMd_spoil_23 : decode cMd_spoil 23 = .ok (.getfield 56, 3) := by decide +kernel
theorem dMd_spoil_26 : decode cMd_spoil 26 = .ok (.iload_n 1, 1) := by decide +kernel
theorem dMd_spoil_27 : decode cMd_spoil 27 = .ok (.iaload, 1) := by decide +kernel
theorem dMd_spoil_28 : decode cMd_spoil 28 = .ok (.iload_n 2, 1) := by decide +kernel
theorem dMd_spoil_29 : decode cMd_spoil 29 = .ok (.sipush 255, 3) := by decide +kernel
theorem dMd_spoil_32 : decode cMd_spoil 32 = .ok (.iand, 1) := by decide +kernel
theorem dMd_spoil_33 : decode cMd_spoil 33 = .ok (.ixor, 1) := by decide +kernel
theorem dMd_spoil_34 : decode cMd_spoil 34 = .ok (.iastore, 1) := by decide +kernel
theorem dMd_spoil_35 : decode cMd_spoil 35 = .ok (.return_, 1) := by decide +kernel
abbrev yMd_seal : MethodName := ⟨"ImageForgeModel", "seal", "()I"⟩
abbrev cMd_seal : ByteArray := prog_10_method_33_code
abbrev wsMd_seal : List Cond := .code yMd_seal cMd_seal 3 (some .int) :: bw
theorem gdMd_seal : GoodIn bw wsMd_seal := gd_of tw_1006
theorem hdMd_seal : yMd_seal.cls ≠ "java/lang/invoke/MethodHandle" ∧ yMd_seal.cls ≠ "java/lang/invoke/VarHandle" ∧ (parseMethodDescriptor yMd_seal.desc).map (fun d => d.parameters.length) = some 0 := by decide +kernel
theorem dMd_seal_0 : decode cMd_seal 0 = .ok (.aload_n 0, 1) := by decide +kernel
theorem dMd_seal_1 : decode cMd_seal 1 = .ok (.aload_n 0, 1) := by decide +kernel
theorem dMd_seal_2 : decode cMd_seal 2 = .ok (.getfield 163, 3) := by decide +kernel
theorem dMd_seal_5 : decode cMd_seal 5 = .ok (.ifCond .ne 7, 3) := by decide +kernel
theorem dMd_seal_8 : decode cMd_seal 8 = .ok (.iconst 1, 1) := by decide +kernel
theorem dMd_seal_9 : decode cMd_seal 9 = .ok (.goto 4, 3) := by decide +kernel
theorem dMd_seal_12 : decode cMd_seal 12 = .ok (.iconst 0, 1) := by decide +kernel
theorem dMd_seal_13 : decode cMd_seal 13 = .ok (.iconst 1, 1) := by decide +kernel
theorem dMd_seal_14 : decode cMd_seal 14 = .ok (.invokevirtual 88, 3) := by decide +kernel
theorem dMd_seal_17 : decode cMd_seal 17 = .ok (.ifCond .eq 5, 3) := by decide +kernel
theorem dMd_seal_20 : decode cMd_seal 20 = .ok (.iconst 0, 1) := by decide +kernel
theorem dMd_seal_21 : decode cMd_seal 21 = .ok (.ireturn, 1) := by decide +kernel
theorem dMd_seal_22 : decode cMd_seal 22 = .ok (.aload_n 0, 1) := by decide +kernel
theorem dMd_seal_23 : decode cMd_seal 23 = .ok (.aload_n 0, 1) := by decide +kernel
theorem dMd_seal_24 : decode cMd_seal 24 = .ok (.getfield 56, 3) := by decide +kernel
theorem dMd_seal_27 : decode cMd_seal 27 = .ok (.aload_n 0, 1) := by decide +kernel
theorem dMd_seal_28 : decode cMd_seal 28 = .ok (.getfield 163, 3) := by decide +kernel
theorem dMd_seal_31 : decode cMd_seal 31 = .ok (.invokevirtual 136, 3) := by decide +kernel
theorem dMd_seal_34 : decode cMd_seal 34 = .ok (.istore_n 1, 1) := by decide +kernel
theorem dMd_seal_35 : decode cMd_seal 35 = .ok (.iconst 0, 1) := by decide +kernel
theorem dMd_seal_36 : decode cMd_seal 36 = .ok (.istore_n 2, 1) := by decide +kernel
theorem dMd_seal_37 : decode cMd_seal 37 = .ok (.iload_n 2, 1) := by decide +kernel
theorem dMd_seal_38 : decode cMd_seal 38 = .ok (.iconst 4, 1) := by decide +kernel
theorem dMd_seal_39 : decode cMd_seal 39 = .ok (.if_icmp .ge 28, 3) := by decide +kernel
theorem dMd_seal_42 : decode cMd_seal 42 = .ok (.aload_n 0, 1) := by decide +kernel
theorem dMd_seal_43 : decode cMd_seal 43 = .ok (.getfield 56, 3) := by decide +kernel
theorem dMd_seal_46 : decode cMd_seal 46 = .ok (.bipush 20, 2) := by decide +kernel
theorem dMd_seal_48 : decode cMd_seal 48 = .ok (.iload_n 2, 1) := by decide +kernel
theorem dMd_seal_49 : decode cMd_seal 49 = .ok (.iadd, 1) := by decide +kernel
theorem dMd_seal_50 : decode cMd_seal 50 = .ok (.iload_n 1, 1) := by decide +kernel
theorem dMd_seal_51 : decode cMd_seal 51 = .ok (.bipush 8, 2) := by decide +kernel
theorem dMd_seal_53 : decode cMd_seal 53 = .ok (.iload_n 2, 1) := by decide +kernel
theorem dMd_seal_54 : decode cMd_seal 54 = .ok (.imul, 1) := by decide +kernel
theorem dMd_seal_55 : decode cMd_seal 55 = .ok (.ishr, 1) := by decide +kernel
theorem dMd_seal_56 : decode cMd_seal 56 = .ok (.sipush 255, 3) := by decide +kernel
theorem dMd_seal_59 : decode cMd_seal 59 = .ok (.iand, 1) := by decide +kernel
theorem dMd_seal_60 : decode cMd_seal 60 = .ok (.iastore, 1) := by decide +kernel
theorem dMd_seal_61 : decode cMd_seal 61 = .ok (.iinc 2 1, 3) := by decide +kernel
theorem dMd_seal_64 : decode cMd_seal 64 = .ok (.goto (-27), 3) := by decide +kernel
theorem dMd_seal_67 : decode cMd_seal 67 = .ok (.iload_n 1, 1) := by decide +kernel
theorem dMd_seal_68 : decode cMd_seal 68 = .ok (.ireturn, 1) := by decide +kernel
section
variable {p : Program} {l : Launch} {e : Env} {s : State} {m : MethodId} {args : Array Value} {below : List Frame} {meth : Method} {c : Code} {D : va_G} {cA : Nat → ClassId} {ad : Nat → Nat} {L : List Nat} {rs : va_W} {al : Nat → Bool} {A : Nat → Prop}
abbrev rm_Md_findPlaces : Room := { frames := 0, cells := 0, slots := 0, locals := 0 }
def bk_Md_findPlaces_33 (F : Nat) (al : Nat → Bool) (k23 : Mr → Nat → Int32 → Option (Mr × Int32)) : Nat → Mr → Nat → Int32 → Int32 → Option (Mr × Int32)
  | 0, _, _, _, _ => none
  | n + 1, u, x0, x1, x2 => bd1 (rdR al u x0 3 35) fun y1 => (ck (inb x1 4) (if (((6 : Int32) * x1) + (u.1 y1 x1)) ≤ x2 then (k23 u x0 (x1 + (1 : Int32))) else (bd1 (rdR al u x0 23 38) fun y4 => (bd1 (rdR al u x0 4 36) fun y6 => (ck (inb x2 24) (bd1 (rdR al u x0 22 33) fun y9 => (bd1 (rdR al u x0 5 36) fun y11 => (ck (inb x2 24) (ck (inb (((2 : Int32) * x1) + (u.1 y11 x2)) 8) (bd1 (rdR al u x0 6 36) fun y15 => (ck (inb x2 24) (ck (inb (u.1 y6 x2) 16) (bk_Md_findPlaces_33 F al k23 n (stI u y4 (u.1 y6 x2) ((u.1 y9 (((2 : Int32) * x1) + (u.1 y11 x2))) + (u.1 y15 x2))) x0 x1 (x2 + (1 : Int32)))))))))))))))
set_option maxHeartbeats 4000000 in
set_option maxRecDepth 100000 in
theorem wk_Md_findPlaces_33 (cx : Cx p l e s m args below meth c cMd_findPlaces 3 bw "ImageForgeModel" none D cA ad L rs al A) (F : Nat) (out : Mr × Int32) {k23 : Mr → Nat → Int32 → Option (Mr × Int32)} (hk23 : ∀ (u : Mr) (x0 : Nat) (x1 : Int32), k23 u x0 x1 = some out → okk al 32 x0 = true → Wb p l e rm_Md_findPlaces s m args below meth c D cA ad L rs A (QV below args s D cA ad L rs A out) 3 23 [(0, .ref (ad x0)), (1, .int x1)] [] u) : ∀ n : Nat, ∀ (u : Mr) (x0 : Nat) (x1 : Int32) (x2 : Int32), bk_Md_findPlaces_33 F al k23 n u x0 x1 x2 = some out → okk al 32 x0 = true → Wb p l e rm_Md_findPlaces s m args below meth c D cA ad L rs A (QV below args s D cA ad L rs A out) 3 33 [(0, .ref (ad x0)), (1, .int x1), (2, .int x2)] [] u := by
  obtain ⟨hx, hb, hml, hown, hts, hr, hlocks, hK, hA, hD, hN, hal, hNx⟩ := cx
  intro n
  induction n with
  | zero =>
    intro u x0 x1 x2 h
    cases h
  | succ n ih =>
    intro u x0 x1 x2 h q0 H locs ls hl hP hS
    rw [bk_Md_findPlaces_33] at h
    refine lv_iload_n hx hb dMd_findPlaces_33 rfl (lv_at hl 2 rfl) ?_
    refine lv_bipush (v := 6) hx hb dMd_findPlaces_34 (by decide) ?_
    refine lv_iload_n hx hb dMd_findPlaces_36 rfl (lv_at hl 1 rfl) ?_
    refine lv_imul hx hb dMd_findPlaces_37 ?_
    refine lv_aload_n hx hb dMd_findPlaces_38 rfl (lv_at hl 0 rfl) ?_
    obtain ⟨y1, hy2, h⟩ := bd1_some h
    obtain ⟨hy2a, hy2⟩ := rdR_some hy2
    refine x_get hx hb hts in_Md hown hK hP (hal _ (okk_al q0)) (okk_t q0) rfl rfl 3 (by decide) (hts _ tw_785) (fun _ h9 => h9) (congrArg some (x_rf hy2a)) dMd_findPlaces_39 ?_
    refine lv_iload_n hx hb dMd_findPlaces_42 rfl (lv_at hl 1 rfl) ?_
    obtain ⟨hi3, h⟩ := ck_some h
    refine x_iald hx hb hK hP (hal _ (okk_al hy2)) (okk_t hy2) 0 (fun _ _ _ => rfl) rfl (inb_in hi3) dMd_findPlaces_43 ?_
    refine lv_iadd hx hb dMd_findPlaces_44 ?_
    refine lv_icmp_ge (tgt := 87) hx hb dMd_findPlaces_45 rfl (fun hc => ?_) (fun hc => ?_)
    · replace h := it_t h hc
      refine lv_iinc (k := 1) (v := x1 + (1 : Int32)) (lv' := [(1, .int (x1 + (1 : Int32))), (0, .ref (ad x0)), (2, .int x2)]) hx hb dMd_findPlaces_87 hl rfl (congrArg (fun z => _ + z) (show Int32.ofInt 1 = 1 by decide)) (by decide) rfl (fun ls hl => ?_)
      refine lv_goto (tgt := 23) hx hb dMd_findPlaces_90 rfl ?_
      exact hk23 u x0 (x1 + (1 : Int32)) h q0 _ _ _ (lv_sub hl [1, 0] rfl) hP hS
    · replace h := it_f h hc
      refine lv_aload_n hx hb dMd_findPlaces_48 rfl (lv_at hl 0 rfl) ?_
      obtain ⟨y4, hy5, h⟩ := bd1_some h
      obtain ⟨hy5a, hy5⟩ := rdR_some hy5
      refine x_get hx hb hts in_Md hown hK hP (hal _ (okk_al q0)) (okk_t q0) rfl rfl 23 (by decide) (hts _ tw_805) (fun _ h9 => h9) (congrArg some (x_rf hy5a)) dMd_findPlaces_49 ?_
      refine lv_aload_n hx hb dMd_findPlaces_52 rfl (lv_at hl 0 rfl) ?_
      obtain ⟨y6, hy7, h⟩ := bd1_some h
      obtain ⟨hy7a, hy7⟩ := rdR_some hy7
      refine x_get hx hb hts in_Md hown hK hP (hal _ (okk_al q0)) (okk_t q0) rfl rfl 4 (by decide) (hts _ tw_786) (fun _ h9 => h9) (congrArg some (x_rf hy7a)) dMd_findPlaces_53 ?_
      refine lv_iload_n hx hb dMd_findPlaces_56 rfl (lv_at hl 2 rfl) ?_
      obtain ⟨hi8, h⟩ := ck_some h
      refine x_iald hx hb hK hP (hal _ (okk_al hy7)) (okk_t hy7) 0 (fun _ _ _ => rfl) rfl (inb_in hi8) dMd_findPlaces_57 ?_
      refine lv_aload_n hx hb dMd_findPlaces_58 rfl (lv_at hl 0 rfl) ?_
      obtain ⟨y9, hy10, h⟩ := bd1_some h
      obtain ⟨hy10a, hy10⟩ := rdR_some hy10
      refine x_get hx hb hts in_Md hown hK hP (hal _ (okk_al q0)) (okk_t q0) rfl rfl 22 (by decide) (hts _ tw_804) (fun _ h9 => h9) (congrArg some (x_rf hy10a)) dMd_findPlaces_59 ?_
      refine lv_iconst (v := 2) hx hb dMd_findPlaces_62 (by decide) ?_
      refine lv_iload_n hx hb dMd_findPlaces_63 rfl (lv_at hl 1 rfl) ?_
      refine lv_imul hx hb dMd_findPlaces_64 ?_
      refine lv_aload_n hx hb dMd_findPlaces_65 rfl (lv_at hl 0 rfl) ?_
      obtain ⟨y11, hy12, h⟩ := bd1_some h
      obtain ⟨hy12a, hy12⟩ := rdR_some hy12
      refine x_get hx hb hts in_Md hown hK hP (hal _ (okk_al q0)) (okk_t q0) rfl rfl 5 (by decide) (hts _ tw_787) (fun _ h9 => h9) (congrArg some (x_rf hy12a)) dMd_findPlaces_66 ?_
      refine lv_iload_n hx hb dMd_findPlaces_69 rfl (lv_at hl 2 rfl) ?_
      obtain ⟨hi13, h⟩ := ck_some h
      refine x_iald hx hb hK hP (hal _ (okk_al hy12)) (okk_t hy12) 0 (fun _ _ _ => rfl) rfl (inb_in hi13) dMd_findPlaces_70 ?_
      refine lv_iadd hx hb dMd_findPlaces_71 ?_
      obtain ⟨hi14, h⟩ := ck_some h
      refine x_iald hx hb hK hP (hal _ (okk_al hy10)) (okk_t hy10) 0 (fun _ _ _ => rfl) rfl (inb_in hi14) dMd_findPlaces_72 ?_
      refine lv_aload_n hx hb dMd_findPlaces_73 rfl (lv_at hl 0 rfl) ?_
      obtain ⟨y15, hy16, h⟩ := bd1_some h
      obtain ⟨hy16a, hy16⟩ := rdR_some hy16
      refine x_get hx hb hts in_Md hown hK hP (hal _ (okk_al q0)) (okk_t q0) rfl rfl 6 (by decide) (hts _ tw_788) (fun _ h9 => h9) (congrArg some (x_rf hy16a)) dMd_findPlaces_74 ?_
      refine lv_iload_n hx hb dMd_findPlaces_77 rfl (lv_at hl 2 rfl) ?_
      obtain ⟨hi17, h⟩ := ck_some h
      refine x_iald hx hb hK hP (hal _ (okk_al hy16)) (okk_t hy16) 0 (fun _ _ _ => rfl) rfl (inb_in hi17) dMd_findPlaces_78 ?_
      refine lv_iadd hx hb dMd_findPlaces_79 ?_
      obtain ⟨hi18, h⟩ := ck_some h
      refine x_iast hx hb hK hD hN hP hS (hal _ (okk_al hy5)) (okk_t hy5) 0 (fun _ _ _ => rfl) rfl (by decide) (inb_in hi18) dMd_findPlaces_80 (fun H locs hP hS => ?_)
      refine lv_iinc (k := 2) (v := x2 + (1 : Int32)) (lv' := [(2, .int (x2 + (1 : Int32))), (0, .ref (ad x0)), (1, .int x1)]) hx hb dMd_findPlaces_81 hl rfl (congrArg (fun z => _ + z) (show Int32.ofInt 1 = 1 by decide)) (by decide) rfl (fun ls hl => ?_)
      refine lv_goto (tgt := 33) hx hb dMd_findPlaces_84 rfl ?_
      exact ih (stI u y4 (u.1 y6 x2) ((u.1 y9 (((2 : Int32) * x1) + (u.1 y11 x2))) + (u.1 y15 x2))) x0 x1 (x2 + (1 : Int32)) h q0 _ _ _ (lv_sub hl [1, 2, 0] rfl) hP hS
def bk_Md_findPlaces_23 (F : Nat) (al : Nat → Bool) : Nat → Mr → Nat → Int32 → Option (Mr × Int32)
  | 0, _, _, _ => none
  | n + 1, u, x0, x1 => if (4 : Int32) ≤ x1 then (some (u, 0)) else (bk_Md_findPlaces_33 F al (bk_Md_findPlaces_23 F al n) F u x0 x1 ((6 : Int32) * x1))
set_option maxHeartbeats 4000000 in
set_option maxRecDepth 100000 in
theorem wk_Md_findPlaces_23 (cx : Cx p l e s m args below meth c cMd_findPlaces 3 bw "ImageForgeModel" none D cA ad L rs al A) (F : Nat) (out : Mr × Int32) : ∀ n : Nat, ∀ (u : Mr) (x0 : Nat) (x1 : Int32), bk_Md_findPlaces_23 F al n u x0 x1 = some out → okk al 32 x0 = true → Wb p l e rm_Md_findPlaces s m args below meth c D cA ad L rs A (QV below args s D cA ad L rs A out) 3 23 [(0, .ref (ad x0)), (1, .int x1)] [] u := by
  obtain ⟨hx, hb, hml, hown, hts, hr, hlocks, hK, hA, hD, hN, hal, hNx⟩ := cx
  intro n
  induction n with
  | zero =>
    intro u x0 x1 h
    cases h
  | succ n ih =>
    intro u x0 x1 h q0 H locs ls hl hP hS
    rw [bk_Md_findPlaces_23] at h
    refine lv_iload_n hx hb dMd_findPlaces_23 rfl (lv_at hl 1 rfl) ?_
    refine lv_iconst (v := 4) hx hb dMd_findPlaces_24 (by decide) ?_
    refine lv_icmp_ge (tgt := 93) hx hb dMd_findPlaces_25 rfl (fun hc => ?_) (fun hc => ?_)
    · replace h := it_t h hc
      exact x_vret hx hb hr hlocks h hP hS dMd_findPlaces_93
    · replace h := it_f h hc
      refine lv_bipush (v := 6) hx hb dMd_findPlaces_28 (by decide) ?_
      refine lv_iload_n hx hb dMd_findPlaces_30 rfl (lv_at hl 1 rfl) ?_
      refine lv_imul hx hb dMd_findPlaces_31 ?_
      refine lv_istore_n (lv' := [(2, .int ((6 : Int32) * x1)), (0, .ref (ad x0)), (1, .int x1)]) hx hb dMd_findPlaces_32 rfl hl (by decide) rfl (fun ls hl => ?_)
      exact wk_Md_findPlaces_33 ⟨hx, hb, hml, hown, hts, hr, hlocks, hK, hA, hD, hN, hal, hNx⟩ F out ih F u x0 x1 ((6 : Int32) * x1) h q0 _ _ _ (lv_sub hl [1, 2, 0] rfl) hP hS
def bk_Md_findPlaces_2 (F : Nat) (al : Nat → Bool) : Nat → Mr → Nat → Int32 → Option (Mr × Int32)
  | 0, _, _, _ => none
  | n + 1, u, x0, x1 => if (16 : Int32) ≤ x1 then (bk_Md_findPlaces_23 F al F u x0 (0 : Int32)) else (bd1 (rdR al u x0 23 38) fun y1 => (ck (inb x1 16) (bk_Md_findPlaces_2 F al n (stI u y1 x1 (0 : Int32)) x0 (x1 + (1 : Int32)))))
set_option maxHeartbeats 4000000 in
set_option maxRecDepth 100000 in
theorem wk_Md_findPlaces_2 (cx : Cx p l e s m args below meth c cMd_findPlaces 3 bw "ImageForgeModel" none D cA ad L rs al A) (F : Nat) (out : Mr × Int32) : ∀ n : Nat, ∀ (u : Mr) (x0 : Nat) (x1 : Int32), bk_Md_findPlaces_2 F al n u x0 x1 = some out → okk al 32 x0 = true → Wb p l e rm_Md_findPlaces s m args below meth c D cA ad L rs A (QV below args s D cA ad L rs A out) 3 2 [(0, .ref (ad x0)), (1, .int x1)] [] u := by
  obtain ⟨hx, hb, hml, hown, hts, hr, hlocks, hK, hA, hD, hN, hal, hNx⟩ := cx
  intro n
  induction n with
  | zero =>
    intro u x0 x1 h
    cases h
  | succ n ih =>
    intro u x0 x1 h q0 H locs ls hl hP hS
    rw [bk_Md_findPlaces_2] at h
    refine lv_iload_n hx hb dMd_findPlaces_2 rfl (lv_at hl 1 rfl) ?_
    refine lv_bipush (v := 16) hx hb dMd_findPlaces_3 (by decide) ?_
    refine lv_icmp_ge (tgt := 21) hx hb dMd_findPlaces_5 rfl (fun hc => ?_) (fun hc => ?_)
    · replace h := it_t h hc
      refine lv_iconst (v := 0) hx hb dMd_findPlaces_21 (by decide) ?_
      refine lv_istore_n (lv' := [(1, .int (0 : Int32)), (0, .ref (ad x0))]) hx hb dMd_findPlaces_22 rfl hl (by decide) rfl (fun ls hl => ?_)
      exact wk_Md_findPlaces_23 ⟨hx, hb, hml, hown, hts, hr, hlocks, hK, hA, hD, hN, hal, hNx⟩ F out F u x0 (0 : Int32) h q0 _ _ _ (lv_sub hl [1, 0] rfl) hP hS
    · replace h := it_f h hc
      refine lv_aload_n hx hb dMd_findPlaces_8 rfl (lv_at hl 0 rfl) ?_
      obtain ⟨y1, hy2, h⟩ := bd1_some h
      obtain ⟨hy2a, hy2⟩ := rdR_some hy2
      refine x_get hx hb hts in_Md hown hK hP (hal _ (okk_al q0)) (okk_t q0) rfl rfl 23 (by decide) (hts _ tw_805) (fun _ h9 => h9) (congrArg some (x_rf hy2a)) dMd_findPlaces_9 ?_
      refine lv_iload_n hx hb dMd_findPlaces_12 rfl (lv_at hl 1 rfl) ?_
      refine lv_iconst (v := 0) hx hb dMd_findPlaces_13 (by decide) ?_
      obtain ⟨hi3, h⟩ := ck_some h
      refine x_iast hx hb hK hD hN hP hS (hal _ (okk_al hy2)) (okk_t hy2) 0 (fun _ _ _ => rfl) rfl (by decide) (inb_in hi3) dMd_findPlaces_14 (fun H locs hP hS => ?_)
      refine lv_iinc (k := 1) (v := x1 + (1 : Int32)) (lv' := [(1, .int (x1 + (1 : Int32))), (0, .ref (ad x0))]) hx hb dMd_findPlaces_15 hl rfl (congrArg (fun z => _ + z) (show Int32.ofInt 1 = 1 by decide)) (by decide) rfl (fun ls hl => ?_)
      refine lv_goto (tgt := 2) hx hb dMd_findPlaces_18 rfl ?_
      exact ih (stI u y1 x1 (0 : Int32)) x0 (x1 + (1 : Int32)) h q0 _ _ _ (lv_sub hl [1, 0] rfl) hP hS
def bk_Md_findPlaces_0 (F : Nat) (al : Nat → Bool) (u : Mr) (x0 : Nat) : Option (Mr × Int32) := bk_Md_findPlaces_2 F al F u x0 (0 : Int32)
set_option maxHeartbeats 4000000 in
set_option maxRecDepth 100000 in
theorem wk_Md_findPlaces_0 (cx : Cx p l e s m args below meth c cMd_findPlaces 3 bw "ImageForgeModel" none D cA ad L rs al A) (F : Nat) (out : Mr × Int32) : ∀ (u : Mr) (x0 : Nat), bk_Md_findPlaces_0 F al u x0 = some out → okk al 32 x0 = true → Wb p l e rm_Md_findPlaces s m args below meth c D cA ad L rs A (QV below args s D cA ad L rs A out) 3 0 [(0, .ref (ad x0))] [] u := by
  obtain ⟨hx, hb, hml, hown, hts, hr, hlocks, hK, hA, hD, hN, hal, hNx⟩ := cx
  intro u x0 h q0 H locs ls hl hP hS
  unfold bk_Md_findPlaces_0 at h
  refine lv_iconst (v := 0) hx hb dMd_findPlaces_0 (by decide) ?_
  refine lv_istore_n (lv' := [(1, .int (0 : Int32)), (0, .ref (ad x0))]) hx hb dMd_findPlaces_1 rfl hl (by decide) rfl (fun ls hl => ?_)
  exact wk_Md_findPlaces_2 ⟨hx, hb, hml, hown, hts, hr, hlocks, hK, hA, hD, hN, hal, hNx⟩ F out F u x0 (0 : Int32) h q0 _ _ _ (lv_sub hl [1, 0] rfl) hP hS
def fn_Md_findPlaces (F : Nat) (al : Nat → Bool) (u : Mr) (x0 : Nat) : Option (Mr × Int32) := bk_Md_findPlaces_0 F al u x0
set_option maxHeartbeats 4000000 in
set_option maxRecDepth 100000 in
theorem ct_Md_findPlaces {l : Launch} {D : va_G} {cA : Nat → ClassId} {ad : Nat → Nat} {L : List Nat} {rs : va_W} {al : Nat → Bool} (hal : ∀ k, al k = true → k ∈ L) (hN : L.Nodup) (F : Nat) (u : Mr) (x0 : Nat) (out : Mr × Int32) (h : fn_Md_findPlaces F al u x0 = some out) (q0 : okk al 32 x0 = true) : CtV l yMd_findPlaces wsMd_findPlaces rm_Md_findPlaces [.ref (ad x0)] D cA ad L rs u out := by
  intro sz
  refine Met.ofW (cc := cMd_findPlaces) (maxL := 3) (ret := none) (by decide) rfl ?_
  intro p e s m args below meth c s₁ B hml hv
  obtain ⟨rfl, hsz, hP, hK, hD0, hNx⟩ := hv
  subst hsz
  have hD := hD0.self (sz := s.heap.size)
  generalize hAe : va_A (ww ad cA L rs u) s.heap.size = A at hD ⊢
  have hA : ∀ q, s.heap.size ≤ q → A q := fun q h => by rw [← hAe]; exact Or.inr h
  have hl := lv_entry ([.ref (ad x0)]) (n := 3) (Nat.le_of_ble_eq_true rfl)
  rw [lg_entry_eq]
  generalize (lg_sl ([.ref (ad x0)]) ++ List.replicate (3 - (lg_sl ([.ref (ad x0)])).length) Slot.unset).toArray = ls at hl ⊢
  exact wk_Md_findPlaces_0 ⟨B.exec, B.bytes, hml, findClass_of_methodNamed B.named, hts_bw (atoms_spec (ws := wsMd_findPlaces) B.pre), B.returns, B.notSynchronized, hK, hA, fun v => ww_D hD, hN, hal, hNx⟩ F out u x0 h q0 _ _ _ (lv_sub hl [0] rfl) hP va_S.rf
abbrev rm_Md_resolve : Room := { frames := 1, cells := 0, slots := 0, locals := 23 }
def bk_Md_resolve_117 (F : Nat) (al : Nat → Bool) (k2 : Mr → Nat → Int32 → Option (Mr × Int32)) (k12 : Mr → Nat → Int32 → Int32 → Option (Mr × Int32)) (u : Mr) (s0 : Nat) (s1 : Int32) (s2 : Int32) (x0 : Nat) (x1 : Int32) (x2 : Int32) : Option (Mr × Int32) := bd2 (fn_Md_word F al u s0 s1 s2) fun u1 v1 => (k12 u1 x0 x1 (x2 + (1 : Int32)))
set_option maxHeartbeats 4000000 in
set_option maxRecDepth 100000 in
theorem wk_Md_resolve_117 (cx : Cx p l e s m args below meth c cMd_resolve 6 bw "ImageForgeModel" none D cA ad L rs al A) (F : Nat) (out : Mr × Int32) {k2 : Mr → Nat → Int32 → Option (Mr × Int32)} {k12 : Mr → Nat → Int32 → Int32 → Option (Mr × Int32)} (hk2 : ∀ (u : Mr) (x0 : Nat) (x1 : Int32), k2 u x0 x1 = some out → okk al 32 x0 = true → Wb p l e rm_Md_resolve s m args below meth c D cA ad L rs A (QV below args s D cA ad L rs A out) 6 2 [(0, .ref (ad x0)), (1, .int x1)] [] u) (hk12 : ∀ (u : Mr) (x0 : Nat) (x1 : Int32) (x2 : Int32), k12 u x0 x1 x2 = some out → okk al 32 x0 = true → Wb p l e rm_Md_resolve s m args below meth c D cA ad L rs A (QV below args s D cA ad L rs A out) 6 12 [(0, .ref (ad x0)), (1, .int x1), (2, .int x2)] [] u) : ∀ (u : Mr) (s0 : Nat) (s1 : Int32) (s2 : Int32) (x0 : Nat) (x1 : Int32) (x2 : Int32), bk_Md_resolve_117 F al k2 k12 u s0 s1 s2 x0 x1 x2 = some out → okk al 32 x0 = true → okk al 32 s0 = true → Wb p l e rm_Md_resolve s m args below meth c D cA ad L rs A (QV below args s D cA ad L rs A out) 6 117 [(0, .ref (ad x0)), (1, .int x1), (2, .int x2)] [.int s2, .int s1, .ref (ad s0)] u := by
  obtain ⟨hx, hb, hml, hown, hts, hr, hlocks, hK, hA, hD, hN, hal, hNx⟩ := cx
  intro u s0 s1 s2 x0 x1 x2 h q0 qs0 H locs ls hl hP hS
  unfold bk_Md_resolve_117 at h
  obtain ⟨u1, v1, hc1, h⟩ := bd2_some h
  refine x_cv (u := u) (out := (u1, v1)) hA hD hS (va_runV (As := [.int s1, .int s2]) (rest := []) ⟨hx, hb, hml, hown, hts⟩ (ct_Md_word hal hN F u s0 s1 s2 (u1, v1) hc1 qs0 _) ⟨callB_of 2 hts gdMd_word rfl rfl rfl (hts _ tw_11) (hts _ tw_958) hdMd_word ⟨Nat.le_of_ble_eq_true rfl, Nat.le_of_ble_eq_true rfl⟩, (hts _ tw_960), (hts _ tp_62)⟩ (x_preV hK hD hNx hP (hal _ (okk_al qs0)) (okk_t qs0) rfl rfl) rfl rfl hl.1 rfl (lv_room (Nat.le_of_ble_eq_true rfl)) dMd_resolve_117 ⟨Nat.zero_le _, Nat.zero_le _⟩) (fun H locs hP hS => ?_)
  refine lv_iinc (k := 2) (v := x2 + (1 : Int32)) (lv' := [(2, .int (x2 + (1 : Int32))), (0, .ref (ad x0)), (1, .int x1)]) hx hb dMd_resolve_120 hl rfl (congrArg (fun z => _ + z) (show Int32.ofInt 1 = 1 by decide)) (by decide) rfl (fun ls hl => ?_)
  refine lv_goto (tgt := 12) hx hb dMd_resolve_123 rfl ?_
  exact hk12 u1 x0 x1 (x2 + (1 : Int32)) h q0 _ _ _ (lv_sub hl [1, 2, 0] rfl) hP hS
def bk_Md_resolve_12 (F : Nat) (al : Nat → Bool) (k2 : Mr → Nat → Int32 → Option (Mr × Int32)) : Nat → Mr → Nat → Int32 → Int32 → Option (Mr × Int32)
  | 0, _, _, _, _ => none
  | n + 1, u, x0, x1, x2 => bd1 (rdR al u x0 7 35) fun y1 => (ck (inb x1 4) (if (((8 : Int32) * x1) + (u.1 y1 x1)) ≤ x2 then (k2 u x0 (x1 + (1 : Int32))) else (bd1 (rdR al u x0 22 33) fun y4 => (bd1 (rdR al u x0 8 37) fun y6 => (ck (inb x2 32) (ck (inb (((2 : Int32) * x1) + (u.1 y6 x2)) 8) (bd1 (rdR al u x0 9 37) fun y10 => (ck (inb x2 32) (bd1 (rdR al u x0 23 38) fun y13 => (bd1 (rdR al u x0 11 37) fun y15 => (ck (inb x2 32) (ck (inb (u.1 y15 x2) 16) (bd1 (rdR al u x0 19 41) fun y19 => (bd2 (fn_Md_wordIn F al u y19 ((u.1 y4 (((2 : Int32) * x1) + (u.1 y6 x2))) + (u.1 y10 x2))) fun u21 v21 => (bd1 (rdR al u21 x0 10 37) fun y22 => (ck (inb x2 32) (if (u21.1 y22 x2) = 0 then (bk_Md_resolve_117 F al k2 (bk_Md_resolve_12 F al k2 n) u21 x0 ((u.1 y4 (((2 : Int32) * x1) + (u.1 y6 x2))) + (u.1 y10 x2)) ((v21 + (u.1 y13 (u.1 y15 x2))) + (4096 : Int32)) x0 x1 x2) else (bd1 (rdR al u21 x0 10 37) fun y25 => (ck (inb x2 32) (if (u21.1 y25 x2) = (1 : Int32) then (bk_Md_resolve_117 F al k2 (bk_Md_resolve_12 F al k2 n) u21 x0 ((u.1 y4 (((2 : Int32) * x1) + (u.1 y6 x2))) + (u.1 y10 x2)) (((v21 + (u.1 y13 (u.1 y15 x2))) - ((u.1 y4 (((2 : Int32) * x1) + (u.1 y6 x2))) + (u.1 y10 x2))) - (4 : Int32)) x0 x1 x2) else (bk_Md_resolve_117 F al k2 (bk_Md_resolve_12 F al k2 n) u21 x0 ((u.1 y4 (((2 : Int32) * x1) + (u.1 y6 x2))) + (u.1 y10 x2)) (v21 + (u.1 y13 (u.1 y15 x2))) x0 x1 x2)))))))))))))))))))))
set_option maxHeartbeats 4000000 in
set_option maxRecDepth 100000 in
theorem wk_Md_resolve_12 (cx : Cx p l e s m args below meth c cMd_resolve 6 bw "ImageForgeModel" none D cA ad L rs al A) (F : Nat) (out : Mr × Int32) {k2 : Mr → Nat → Int32 → Option (Mr × Int32)} (hk2 : ∀ (u : Mr) (x0 : Nat) (x1 : Int32), k2 u x0 x1 = some out → okk al 32 x0 = true → Wb p l e rm_Md_resolve s m args below meth c D cA ad L rs A (QV below args s D cA ad L rs A out) 6 2 [(0, .ref (ad x0)), (1, .int x1)] [] u) : ∀ n : Nat, ∀ (u : Mr) (x0 : Nat) (x1 : Int32) (x2 : Int32), bk_Md_resolve_12 F al k2 n u x0 x1 x2 = some out → okk al 32 x0 = true → Wb p l e rm_Md_resolve s m args below meth c D cA ad L rs A (QV below args s D cA ad L rs A out) 6 12 [(0, .ref (ad x0)), (1, .int x1), (2, .int x2)] [] u := by
  obtain ⟨hx, hb, hml, hown, hts, hr, hlocks, hK, hA, hD, hN, hal, hNx⟩ := cx
  intro n
  induction n with
  | zero =>
    intro u x0 x1 x2 h
    cases h
  | succ n ih =>
    intro u x0 x1 x2 h q0 H locs ls hl hP hS
    rw [bk_Md_resolve_12] at h
    refine lv_iload_n hx hb dMd_resolve_12 rfl (lv_at hl 2 rfl) ?_
    refine lv_bipush (v := 8) hx hb dMd_resolve_13 (by decide) ?_
    refine lv_iload_n hx hb dMd_resolve_15 rfl (lv_at hl 1 rfl) ?_
    refine lv_imul hx hb dMd_resolve_16 ?_
    refine lv_aload_n hx hb dMd_resolve_17 rfl (lv_at hl 0 rfl) ?_
    obtain ⟨y1, hy2, h⟩ := bd1_some h
    obtain ⟨hy2a, hy2⟩ := rdR_some hy2
    refine x_get hx hb hts in_Md hown hK hP (hal _ (okk_al q0)) (okk_t q0) rfl rfl 7 (by decide) (hts _ tw_789) (fun _ h9 => h9) (congrArg some (x_rf hy2a)) dMd_resolve_18 ?_
    refine lv_iload_n hx hb dMd_resolve_21 rfl (lv_at hl 1 rfl) ?_
    obtain ⟨hi3, h⟩ := ck_some h
    refine x_iald hx hb hK hP (hal _ (okk_al hy2)) (okk_t hy2) 0 (fun _ _ _ => rfl) rfl (inb_in hi3) dMd_resolve_22 ?_
    refine lv_iadd hx hb dMd_resolve_23 ?_
    refine lv_icmp_ge (tgt := 126) hx hb dMd_resolve_24 rfl (fun hc => ?_) (fun hc => ?_)
    · replace h := it_t h hc
      refine lv_iinc (k := 1) (v := x1 + (1 : Int32)) (lv' := [(1, .int (x1 + (1 : Int32))), (0, .ref (ad x0)), (2, .int x2)]) hx hb dMd_resolve_126 hl rfl (congrArg (fun z => _ + z) (show Int32.ofInt 1 = 1 by decide)) (by decide) rfl (fun ls hl => ?_)
      refine lv_goto (tgt := 2) hx hb dMd_resolve_129 rfl ?_
      exact hk2 u x0 (x1 + (1 : Int32)) h q0 _ _ _ (lv_sub hl [1, 0] rfl) hP hS
    · replace h := it_f h hc
      refine lv_aload_n hx hb dMd_resolve_27 rfl (lv_at hl 0 rfl) ?_
      obtain ⟨y4, hy5, h⟩ := bd1_some h
      obtain ⟨hy5a, hy5⟩ := rdR_some hy5
      refine x_get hx hb hts in_Md hown hK hP (hal _ (okk_al q0)) (okk_t q0) rfl rfl 22 (by decide) (hts _ tw_804) (fun _ h9 => h9) (congrArg some (x_rf hy5a)) dMd_resolve_28 ?_
      refine lv_iconst (v := 2) hx hb dMd_resolve_31 (by decide) ?_
      refine lv_iload_n hx hb dMd_resolve_32 rfl (lv_at hl 1 rfl) ?_
      refine lv_imul hx hb dMd_resolve_33 ?_
      refine lv_aload_n hx hb dMd_resolve_34 rfl (lv_at hl 0 rfl) ?_
      obtain ⟨y6, hy7, h⟩ := bd1_some h
      obtain ⟨hy7a, hy7⟩ := rdR_some hy7
      refine x_get hx hb hts in_Md hown hK hP (hal _ (okk_al q0)) (okk_t q0) rfl rfl 8 (by decide) (hts _ tw_790) (fun _ h9 => h9) (congrArg some (x_rf hy7a)) dMd_resolve_35 ?_
      refine lv_iload_n hx hb dMd_resolve_38 rfl (lv_at hl 2 rfl) ?_
      obtain ⟨hi8, h⟩ := ck_some h
      refine x_iald hx hb hK hP (hal _ (okk_al hy7)) (okk_t hy7) 0 (fun _ _ _ => rfl) rfl (inb_in hi8) dMd_resolve_39 ?_
      refine lv_iadd hx hb dMd_resolve_40 ?_
      obtain ⟨hi9, h⟩ := ck_some h
      refine x_iald hx hb hK hP (hal _ (okk_al hy5)) (okk_t hy5) 0 (fun _ _ _ => rfl) rfl (inb_in hi9) dMd_resolve_41 ?_
      refine lv_aload_n hx hb dMd_resolve_42 rfl (lv_at hl 0 rfl) ?_
      obtain ⟨y10, hy11, h⟩ := bd1_some h
      obtain ⟨hy11a, hy11⟩ := rdR_some hy11
      refine x_get hx hb hts in_Md hown hK hP (hal _ (okk_al q0)) (okk_t q0) rfl rfl 9 (by decide) (hts _ tw_791) (fun _ h9 => h9) (congrArg some (x_rf hy11a)) dMd_resolve_43 ?_
      refine lv_iload_n hx hb dMd_resolve_46 rfl (lv_at hl 2 rfl) ?_
      obtain ⟨hi12, h⟩ := ck_some h
      refine x_iald hx hb hK hP (hal _ (okk_al hy11)) (okk_t hy11) 0 (fun _ _ _ => rfl) rfl (inb_in hi12) dMd_resolve_47 ?_
      refine lv_iadd hx hb dMd_resolve_48 ?_
      refine lv_istore_n (lv' := [(3, .int ((u.1 y4 (((2 : Int32) * x1) + (u.1 y6 x2))) + (u.1 y10 x2))), (0, .ref (ad x0)), (1, .int x1), (2, .int x2)]) hx hb dMd_resolve_49 rfl hl (by decide) rfl (fun ls hl => ?_)
      refine lv_aload_n hx hb dMd_resolve_50 rfl (lv_at hl 1 rfl) ?_
      obtain ⟨y13, hy14, h⟩ := bd1_some h
      obtain ⟨hy14a, hy14⟩ := rdR_some hy14
      refine x_get hx hb hts in_Md hown hK hP (hal _ (okk_al q0)) (okk_t q0) rfl rfl 23 (by decide) (hts _ tw_805) (fun _ h9 => h9) (congrArg some (x_rf hy14a)) dMd_resolve_51 ?_
      refine lv_aload_n hx hb dMd_resolve_54 rfl (lv_at hl 1 rfl) ?_
      obtain ⟨y15, hy16, h⟩ := bd1_some h
      obtain ⟨hy16a, hy16⟩ := rdR_some hy16
      refine x_get hx hb hts in_Md hown hK hP (hal _ (okk_al q0)) (okk_t q0) rfl rfl 11 (by decide) (hts _ tw_793) (fun _ h9 => h9) (congrArg some (x_rf hy16a)) dMd_resolve_55 ?_
      refine lv_iload_n hx hb dMd_resolve_58 rfl (lv_at hl 3 rfl) ?_
      obtain ⟨hi17, h⟩ := ck_some h
      refine x_iald hx hb hK hP (hal _ (okk_al hy16)) (okk_t hy16) 0 (fun _ _ _ => rfl) rfl (inb_in hi17) dMd_resolve_59 ?_
      obtain ⟨hi18, h⟩ := ck_some h
      refine x_iald hx hb hK hP (hal _ (okk_al hy14)) (okk_t hy14) 0 (fun _ _ _ => rfl) rfl (inb_in hi18) dMd_resolve_60 ?_
      refine lv_istore (lv' := [(4, .int (u.1 y13 (u.1 y15 x2))), (3, .int ((u.1 y4 (((2 : Int32) * x1) + (u.1 y6 x2))) + (u.1 y10 x2))), (0, .ref (ad x0)), (1, .int x1), (2, .int x2)]) hx hb dMd_resolve_61 hl (by decide) rfl (fun ls hl => ?_)
      refine lv_aload_n hx hb dMd_resolve_63 rfl (lv_at hl 2 rfl) ?_
      obtain ⟨y19, hy20, h⟩ := bd1_some h
      obtain ⟨hy20a, hy20⟩ := rdR_some hy20
      refine x_get hx hb hts in_Md hown hK hP (hal _ (okk_al q0)) (okk_t q0) rfl rfl 19 (by decide) (hts _ tw_801) (fun _ h9 => h9) (congrArg some (x_rf hy20a)) dMd_resolve_64 ?_
      refine lv_iload_n hx hb dMd_resolve_67 rfl (lv_at hl 1 rfl) ?_
      obtain ⟨u21, v21, hc21, h⟩ := bd2_some h
      refine x_ci (u := u) (out := (u21, v21)) hA hD hS (va_runS (As := [.ref (ad y19), .int ((u.1 y4 (((2 : Int32) * x1) + (u.1 y6 x2))) + (u.1 y10 x2))]) (rest := []) ⟨hx, hb, hml, hown, hts⟩ (ct_Md_wordIn hal hN F u y19 ((u.1 y4 (((2 : Int32) * x1) + (u.1 y6 x2))) + (u.1 y10 x2)) (u21, v21) hc21 hy20 _) ⟨callB_of 2 hts gdMd_wordIn rfl rfl rfl (hts _ tw_11) (hts _ tw_983) hdMd_wordIn ⟨Nat.le_of_ble_eq_true rfl, Nat.le_of_ble_eq_true rfl⟩, (hts _ tw_984)⟩ (x_preS hK hD hNx hP) rfl rfl hl.1 rfl (lv_room (Nat.le_of_ble_eq_true rfl)) dMd_resolve_68 ⟨Nat.zero_le _, Nat.zero_le _⟩) (fun H locs hP hS => ?_)
      refine lv_iload hx hb dMd_resolve_71 (lv_at hl 0 rfl) ?_
      refine lv_iadd hx hb dMd_resolve_73 ?_
      refine lv_istore (lv' := [(5, .int (v21 + (u.1 y13 (u.1 y15 x2)))), (4, .int (u.1 y13 (u.1 y15 x2))), (3, .int ((u.1 y4 (((2 : Int32) * x1) + (u.1 y6 x2))) + (u.1 y10 x2))), (0, .ref (ad x0)), (1, .int x1), (2, .int x2)]) hx hb dMd_resolve_74 hl (by decide) rfl (fun ls hl => ?_)
      refine lv_aload_n hx hb dMd_resolve_76 rfl (lv_at hl 3 rfl) ?_
      refine lv_iload_n hx hb dMd_resolve_77 rfl (lv_at hl 2 rfl) ?_
      refine lv_aload_n hx hb dMd_resolve_78 rfl (lv_at hl 3 rfl) ?_
      obtain ⟨y22, hy23, h⟩ := bd1_some h
      obtain ⟨hy23a, hy23⟩ := rdR_some hy23
      refine x_get hx hb hts in_Md hown hK hP (hal _ (okk_al q0)) (okk_t q0) rfl rfl 10 (by decide) (hts _ tw_792) (fun _ h9 => h9) (congrArg some (x_rf hy23a)) dMd_resolve_79 ?_
      refine lv_iload_n hx hb dMd_resolve_82 rfl (lv_at hl 5 rfl) ?_
      obtain ⟨hi24, h⟩ := ck_some h
      refine x_iald hx hb hK hP (hal _ (okk_al hy23)) (okk_t hy23) 0 (fun _ _ _ => rfl) rfl (inb_in hi24) dMd_resolve_83 ?_
      refine lv_if_ne (tgt := 96) hx hb dMd_resolve_84 rfl (fun hc => ?_) (fun hc => ?_)
      · replace h := it_f h hc
        refine lv_aload_n hx hb dMd_resolve_96 rfl (lv_at hl 3 rfl) ?_
        obtain ⟨y25, hy26, h⟩ := bd1_some h
        obtain ⟨hy26a, hy26⟩ := rdR_some hy26
        refine x_get hx hb hts in_Md hown hK hP (hal _ (okk_al q0)) (okk_t q0) rfl rfl 10 (by decide) (hts _ tw_792) (fun _ h9 => h9) (congrArg some (x_rf hy26a)) dMd_resolve_97 ?_
        refine lv_iload_n hx hb dMd_resolve_100 rfl (lv_at hl 5 rfl) ?_
        obtain ⟨hi27, h⟩ := ck_some h
        refine x_iald hx hb hK hP (hal _ (okk_al hy26)) (okk_t hy26) 0 (fun _ _ _ => rfl) rfl (inb_in hi27) dMd_resolve_101 ?_
        refine lv_iconst (v := 1) hx hb dMd_resolve_102 (by decide) ?_
        refine lv_icmp_ne (tgt := 115) hx hb dMd_resolve_103 rfl (fun hc => ?_) (fun hc => ?_)
        · replace h := it_f h hc
          refine lv_iload hx hb dMd_resolve_115 (lv_at hl 0 rfl) ?_
          exact wk_Md_resolve_117 ⟨hx, hb, hml, hown, hts, hr, hlocks, hK, hA, hD, hN, hal, hNx⟩ F out hk2 ih u21 x0 ((u.1 y4 (((2 : Int32) * x1) + (u.1 y6 x2))) + (u.1 y10 x2)) (v21 + (u.1 y13 (u.1 y15 x2))) x0 x1 x2 h q0 q0 _ _ _ (lv_sub hl [3, 4, 5] rfl) hP hS
        · replace h := it_t h hc
          refine lv_iload hx hb dMd_resolve_106 (lv_at hl 0 rfl) ?_
          refine lv_iload_n hx hb dMd_resolve_108 rfl (lv_at hl 2 rfl) ?_
          refine lv_isub hx hb dMd_resolve_109 ?_
          refine lv_iconst (v := 4) hx hb dMd_resolve_110 (by decide) ?_
          refine lv_isub hx hb dMd_resolve_111 ?_
          refine lv_goto (tgt := 117) hx hb dMd_resolve_112 rfl ?_
          exact wk_Md_resolve_117 ⟨hx, hb, hml, hown, hts, hr, hlocks, hK, hA, hD, hN, hal, hNx⟩ F out hk2 ih u21 x0 ((u.1 y4 (((2 : Int32) * x1) + (u.1 y6 x2))) + (u.1 y10 x2)) (((v21 + (u.1 y13 (u.1 y15 x2))) - ((u.1 y4 (((2 : Int32) * x1) + (u.1 y6 x2))) + (u.1 y10 x2))) - (4 : Int32)) x0 x1 x2 h q0 q0 _ _ _ (lv_sub hl [3, 4, 5] rfl) hP hS
      · replace h := it_t h hc
        refine lv_iload hx hb dMd_resolve_87 (lv_at hl 0 rfl) ?_
        refine lv_sipush (v := 4096) hx hb dMd_resolve_89 (by decide) ?_
        refine lv_iadd hx hb dMd_resolve_92 ?_
        refine lv_goto (tgt := 117) hx hb dMd_resolve_93 rfl ?_
        exact wk_Md_resolve_117 ⟨hx, hb, hml, hown, hts, hr, hlocks, hK, hA, hD, hN, hal, hNx⟩ F out hk2 ih u21 x0 ((u.1 y4 (((2 : Int32) * x1) + (u.1 y6 x2))) + (u.1 y10 x2)) ((v21 + (u.1 y13 (u.1 y15 x2))) + (4096 : Int32)) x0 x1 x2 h q0 q0 _ _ _ (lv_sub hl [3, 4, 5] rfl) hP hS
def bk_Md_resolve_2 (F : Nat) (al : Nat → Bool) : Nat → Mr → Nat → Int32 → Option (Mr × Int32)
  | 0, _, _, _ => none
  | n + 1, u, x0, x1 => if (4 : Int32) ≤ x1 then (some (u, 0)) else (bk_Md_resolve_12 F al (bk_Md_resolve_2 F al n) F u x0 x1 ((8 : Int32) * x1))
set_option maxHeartbeats 4000000 in
set_option maxRecDepth 100000 in
theorem wk_Md_resolve_2 (cx : Cx p l e s m args below meth c cMd_resolve 6 bw "ImageForgeModel" none D cA ad L rs al A) (F : Nat) (out : Mr × Int32) : ∀ n : Nat, ∀ (u : Mr) (x0 : Nat) (x1 : Int32), bk_Md_resolve_2 F al n u x0 x1 = some out → okk al 32 x0 = true → Wb p l e rm_Md_resolve s m args below meth c D cA ad L rs A (QV below args s D cA ad L rs A out) 6 2 [(0, .ref (ad x0)), (1, .int x1)] [] u := by
  obtain ⟨hx, hb, hml, hown, hts, hr, hlocks, hK, hA, hD, hN, hal, hNx⟩ := cx
  intro n
  induction n with
  | zero =>
    intro u x0 x1 h
    cases h
  | succ n ih =>
    intro u x0 x1 h q0 H locs ls hl hP hS
    rw [bk_Md_resolve_2] at h
    refine lv_iload_n hx hb dMd_resolve_2 rfl (lv_at hl 1 rfl) ?_
    refine lv_iconst (v := 4) hx hb dMd_resolve_3 (by decide) ?_
    refine lv_icmp_ge (tgt := 132) hx hb dMd_resolve_4 rfl (fun hc => ?_) (fun hc => ?_)
    · replace h := it_t h hc
      exact x_vret hx hb hr hlocks h hP hS dMd_resolve_132
    · replace h := it_f h hc
      refine lv_bipush (v := 8) hx hb dMd_resolve_7 (by decide) ?_
      refine lv_iload_n hx hb dMd_resolve_9 rfl (lv_at hl 1 rfl) ?_
      refine lv_imul hx hb dMd_resolve_10 ?_
      refine lv_istore_n (lv' := [(2, .int ((8 : Int32) * x1)), (0, .ref (ad x0)), (1, .int x1)]) hx hb dMd_resolve_11 rfl hl (by decide) rfl (fun ls hl => ?_)
      exact wk_Md_resolve_12 ⟨hx, hb, hml, hown, hts, hr, hlocks, hK, hA, hD, hN, hal, hNx⟩ F out ih F u x0 x1 ((8 : Int32) * x1) h q0 _ _ _ (lv_sub hl [1, 2, 0] rfl) hP hS
def bk_Md_resolve_0 (F : Nat) (al : Nat → Bool) (u : Mr) (x0 : Nat) : Option (Mr × Int32) := bk_Md_resolve_2 F al F u x0 (0 : Int32)
set_option maxHeartbeats 4000000 in
set_option maxRecDepth 100000 in
theorem wk_Md_resolve_0 (cx : Cx p l e s m args below meth c cMd_resolve 6 bw "ImageForgeModel" none D cA ad L rs al A) (F : Nat) (out : Mr × Int32) : ∀ (u : Mr) (x0 : Nat), bk_Md_resolve_0 F al u x0 = some out → okk al 32 x0 = true → Wb p l e rm_Md_resolve s m args below meth c D cA ad L rs A (QV below args s D cA ad L rs A out) 6 0 [(0, .ref (ad x0))] [] u := by
  obtain ⟨hx, hb, hml, hown, hts, hr, hlocks, hK, hA, hD, hN, hal, hNx⟩ := cx
  intro u x0 h q0 H locs ls hl hP hS
  unfold bk_Md_resolve_0 at h
  refine lv_iconst (v := 0) hx hb dMd_resolve_0 (by decide) ?_
  refine lv_istore_n (lv' := [(1, .int (0 : Int32)), (0, .ref (ad x0))]) hx hb dMd_resolve_1 rfl hl (by decide) rfl (fun ls hl => ?_)
  exact wk_Md_resolve_2 ⟨hx, hb, hml, hown, hts, hr, hlocks, hK, hA, hD, hN, hal, hNx⟩ F out F u x0 (0 : Int32) h q0 _ _ _ (lv_sub hl [1, 0] rfl) hP hS
def fn_Md_resolve (F : Nat) (al : Nat → Bool) (u : Mr) (x0 : Nat) : Option (Mr × Int32) := bk_Md_resolve_0 F al u x0
set_option maxHeartbeats 4000000 in
set_option maxRecDepth 100000 in
theorem ct_Md_resolve {l : Launch} {D : va_G} {cA : Nat → ClassId} {ad : Nat → Nat} {L : List Nat} {rs : va_W} {al : Nat → Bool} (hal : ∀ k, al k = true → k ∈ L) (hN : L.Nodup) (F : Nat) (u : Mr) (x0 : Nat) (out : Mr × Int32) (h : fn_Md_resolve F al u x0 = some out) (q0 : okk al 32 x0 = true) : CtV l yMd_resolve wsMd_resolve rm_Md_resolve [.ref (ad x0)] D cA ad L rs u out := by
  intro sz
  refine Met.ofW (cc := cMd_resolve) (maxL := 6) (ret := none) (by decide) rfl ?_
  intro p e s m args below meth c s₁ B hml hv
  obtain ⟨rfl, hsz, hP, hK, hD0, hNx⟩ := hv
  subst hsz
  have hD := hD0.self (sz := s.heap.size)
  generalize hAe : va_A (ww ad cA L rs u) s.heap.size = A at hD ⊢
  have hA : ∀ q, s.heap.size ≤ q → A q := fun q h => by rw [← hAe]; exact Or.inr h
  have hl := lv_entry ([.ref (ad x0)]) (n := 6) (Nat.le_of_ble_eq_true rfl)
  rw [lg_entry_eq]
  generalize (lg_sl ([.ref (ad x0)]) ++ List.replicate (6 - (lg_sl ([.ref (ad x0)])).length) Slot.unset).toArray = ls at hl ⊢
  exact wk_Md_resolve_0 ⟨B.exec, B.bytes, hml, findClass_of_methodNamed B.named, hts_bw (atoms_spec (ws := wsMd_resolve) B.pre), B.returns, B.notSynchronized, hK, hA, fun v => ww_D hD, hN, hal, hNx⟩ F out u x0 h q0 _ _ _ (lv_sub hl [0] rfl) hP va_S.rf
abbrev rm_Md_sumOf : Room := { frames := 0, cells := 0, slots := 0, locals := 0 }
def bk_Md_sumOf_55 (F : Nat) (al : Nat → Bool) (k5 : Mr → Nat → Int32 → Int32 → Int32 → Option (Mr × Int32)) (u : Mr) (x1 : Nat) (x2 : Int32) (x3 : Int32) (x4 : Int32) : Option (Mr × Int32) := k5 u x1 x2 x3 (x4 + (2 : Int32))
set_option maxHeartbeats 4000000 in
set_option maxRecDepth 100000 in
theorem wk_Md_sumOf_55 (cx : Cx p l e s m args below meth c cMd_sumOf 5 bw "ImageForgeModel" (some .int) D cA ad L rs al A) (F : Nat) (out : Mr × Int32) {k5 : Mr → Nat → Int32 → Int32 → Int32 → Option (Mr × Int32)} (hk5 : ∀ (u : Mr) (x1 : Nat) (x2 : Int32) (x3 : Int32) (x4 : Int32), k5 u x1 x2 x3 x4 = some out → okk al 41 x1 = true → Wb p l e rm_Md_sumOf s m args below meth c D cA ad L rs A (QI below args s D cA ad L rs A out) 5 5 [(1, .ref (ad x1)), (2, .int x2), (3, .int x3), (4, .int x4)] [] u) : ∀ (u : Mr) (x1 : Nat) (x2 : Int32) (x3 : Int32) (x4 : Int32), bk_Md_sumOf_55 F al k5 u x1 x2 x3 x4 = some out → okk al 41 x1 = true → Wb p l e rm_Md_sumOf s m args below meth c D cA ad L rs A (QI below args s D cA ad L rs A out) 5 55 [(1, .ref (ad x1)), (2, .int x2), (3, .int x3), (4, .int x4)] [] u := by
  obtain ⟨hx, hb, hml, hown, hts, hr, hlocks, hK, hA, hD, hN, hal, hNx⟩ := cx
  intro u x1 x2 x3 x4 h q1 H locs ls hl hP hS
  unfold bk_Md_sumOf_55 at h
  refine lv_iinc (k := 3) (v := x4 + (2 : Int32)) (lv' := [(4, .int (x4 + (2 : Int32))), (1, .ref (ad x1)), (2, .int x2), (3, .int x3)]) hx hb dMd_sumOf_55 hl rfl (congrArg (fun z => _ + z) (show Int32.ofInt 2 = 2 by decide)) (by decide) rfl (fun ls hl => ?_)
  refine lv_goto (tgt := 5) hx hb dMd_sumOf_58 rfl ?_
  exact hk5 u x1 x2 x3 (x4 + (2 : Int32)) h q1 _ _ _ (lv_sub hl [1, 2, 3, 0] rfl) hP hS
def bk_Md_sumOf_5 (F : Nat) (al : Nat → Bool) : Nat → Mr → Nat → Int32 → Int32 → Int32 → Option (Mr × Int32)
  | 0, _, _, _, _, _ => none
  | n + 1, u, x1, x2, x3, x4 => if x2 ≤ x4 then (some (u, x3 + x2)) else (if x4 = (20 : Int32) then (bk_Md_sumOf_55 F al (bk_Md_sumOf_5 F al n) u x1 x2 x3 x4) else (if x4 = (22 : Int32) then (bk_Md_sumOf_55 F al (bk_Md_sumOf_5 F al n) u x1 x2 x3 x4) else (ck (inb x4 2048) (ck (inb (x4 + (1 : Int32)) 2048) (bk_Md_sumOf_55 F al (bk_Md_sumOf_5 F al n) u x1 x2 (((x3 + ((u.1 x1 x4) ||| ((u.1 x1 (x4 + (1 : Int32))) <<< ((8 : Int32) &&& 31)))) &&& (65535 : Int32)) + ((x3 + ((u.1 x1 x4) ||| ((u.1 x1 (x4 + (1 : Int32))) <<< ((8 : Int32) &&& 31)))) >>> ((16 : Int32) &&& 31))) x4)))))
set_option maxHeartbeats 4000000 in
set_option maxRecDepth 100000 in
theorem wk_Md_sumOf_5 (cx : Cx p l e s m args below meth c cMd_sumOf 5 bw "ImageForgeModel" (some .int) D cA ad L rs al A) (F : Nat) (out : Mr × Int32) : ∀ n : Nat, ∀ (u : Mr) (x1 : Nat) (x2 : Int32) (x3 : Int32) (x4 : Int32), bk_Md_sumOf_5 F al n u x1 x2 x3 x4 = some out → okk al 41 x1 = true → Wb p l e rm_Md_sumOf s m args below meth c D cA ad L rs A (QI below args s D cA ad L rs A out) 5 5 [(1, .ref (ad x1)), (2, .int x2), (3, .int x3), (4, .int x4)] [] u := by
  obtain ⟨hx, hb, hml, hown, hts, hr, hlocks, hK, hA, hD, hN, hal, hNx⟩ := cx
  intro n
  induction n with
  | zero =>
    intro u x1 x2 x3 x4 h
    cases h
  | succ n ih =>
    intro u x1 x2 x3 x4 h q1 H locs ls hl hP hS
    rw [bk_Md_sumOf_5] at h
    refine lv_iload hx hb dMd_sumOf_5 (lv_at hl 3 rfl) ?_
    refine lv_iload_n hx hb dMd_sumOf_7 rfl (lv_at hl 1 rfl) ?_
    refine lv_icmp_ge (tgt := 61) hx hb dMd_sumOf_8 rfl (fun hc => ?_) (fun hc => ?_)
    · replace h := it_t h hc
      refine lv_iload_n hx hb dMd_sumOf_61 rfl (lv_at hl 2 rfl) ?_
      refine lv_iload_n hx hb dMd_sumOf_62 rfl (lv_at hl 1 rfl) ?_
      refine lv_iadd hx hb dMd_sumOf_63 ?_
      exact x_iret hx hb hr hlocks h hP hS dMd_sumOf_64
    · replace h := it_f h hc
      refine lv_iload hx hb dMd_sumOf_11 (lv_at hl 3 rfl) ?_
      refine lv_bipush (v := 20) hx hb dMd_sumOf_13 (by decide) ?_
      refine lv_icmp_eq (tgt := 55) hx hb dMd_sumOf_15 rfl (fun hc => ?_) (fun hc => ?_)
      · replace h := it_t h hc
        exact wk_Md_sumOf_55 ⟨hx, hb, hml, hown, hts, hr, hlocks, hK, hA, hD, hN, hal, hNx⟩ F out ih u x1 x2 x3 x4 h q1 _ _ _ (lv_sub hl [0, 1, 2, 3] rfl) hP hS
      · replace h := it_f h hc
        refine lv_iload hx hb dMd_sumOf_18 (lv_at hl 3 rfl) ?_
        refine lv_bipush (v := 22) hx hb dMd_sumOf_20 (by decide) ?_
        refine lv_icmp_ne (tgt := 28) hx hb dMd_sumOf_22 rfl (fun hc => ?_) (fun hc => ?_)
        · replace h := it_f h hc
          refine lv_iload_n hx hb dMd_sumOf_28 rfl (lv_at hl 2 rfl) ?_
          refine lv_aload_n hx hb dMd_sumOf_29 rfl (lv_at hl 0 rfl) ?_
          refine lv_iload hx hb dMd_sumOf_30 (lv_at hl 3 rfl) ?_
          obtain ⟨hi1, h⟩ := ck_some h
          refine x_iald hx hb hK hP (hal _ (okk_al q1)) (okk_t q1) 0 (fun _ _ _ => rfl) rfl (inb_in hi1) dMd_sumOf_32 ?_
          refine lv_aload_n hx hb dMd_sumOf_33 rfl (lv_at hl 0 rfl) ?_
          refine lv_iload hx hb dMd_sumOf_34 (lv_at hl 3 rfl) ?_
          refine lv_iconst (v := 1) hx hb dMd_sumOf_36 (by decide) ?_
          refine lv_iadd hx hb dMd_sumOf_37 ?_
          obtain ⟨hi2, h⟩ := ck_some h
          refine x_iald hx hb hK hP (hal _ (okk_al q1)) (okk_t q1) 0 (fun _ _ _ => rfl) rfl (inb_in hi2) dMd_sumOf_38 ?_
          refine lv_bipush (v := 8) hx hb dMd_sumOf_39 (by decide) ?_
          refine lv_ishl hx hb dMd_sumOf_41 ?_
          refine lv_ior hx hb dMd_sumOf_42 ?_
          refine lv_iadd hx hb dMd_sumOf_43 ?_
          refine lv_istore_n (lv' := [(3, .int (x3 + ((u.1 x1 x4) ||| ((u.1 x1 (x4 + (1 : Int32))) <<< ((8 : Int32) &&& 31))))), (1, .ref (ad x1)), (2, .int x2), (4, .int x4)]) hx hb dMd_sumOf_44 rfl hl (by decide) rfl (fun ls hl => ?_)
          refine lv_iload_n hx hb dMd_sumOf_45 rfl (lv_at hl 0 rfl) ?_
          refine lv_ldc (v := 65535) hx hb hown (hts _ tw_994) dMd_sumOf_46 ?_
          refine lv_iand hx hb dMd_sumOf_48 ?_
          refine lv_iload_n hx hb dMd_sumOf_49 rfl (lv_at hl 0 rfl) ?_
          refine lv_bipush (v := 16) hx hb dMd_sumOf_50 (by decide) ?_
          refine lv_ishr hx hb dMd_sumOf_52 ?_
          refine lv_iadd hx hb dMd_sumOf_53 ?_
          refine lv_istore_n (lv' := [(3, .int (((x3 + ((u.1 x1 x4) ||| ((u.1 x1 (x4 + (1 : Int32))) <<< ((8 : Int32) &&& 31)))) &&& (65535 : Int32)) + ((x3 + ((u.1 x1 x4) ||| ((u.1 x1 (x4 + (1 : Int32))) <<< ((8 : Int32) &&& 31)))) >>> ((16 : Int32) &&& 31)))), (1, .ref (ad x1)), (2, .int x2), (4, .int x4)]) hx hb dMd_sumOf_54 rfl hl (by decide) rfl (fun ls hl => ?_)
          exact wk_Md_sumOf_55 ⟨hx, hb, hml, hown, hts, hr, hlocks, hK, hA, hD, hN, hal, hNx⟩ F out ih u x1 x2 (((x3 + ((u.1 x1 x4) ||| ((u.1 x1 (x4 + (1 : Int32))) <<< ((8 : Int32) &&& 31)))) &&& (65535 : Int32)) + ((x3 + ((u.1 x1 x4) ||| ((u.1 x1 (x4 + (1 : Int32))) <<< ((8 : Int32) &&& 31)))) >>> ((16 : Int32) &&& 31))) x4 h q1 _ _ _ (lv_sub hl [1, 2, 0, 3] rfl) hP hS
        · replace h := it_t h hc
          refine lv_goto (tgt := 55) hx hb dMd_sumOf_25 rfl ?_
          exact wk_Md_sumOf_55 ⟨hx, hb, hml, hown, hts, hr, hlocks, hK, hA, hD, hN, hal, hNx⟩ F out ih u x1 x2 x3 x4 h q1 _ _ _ (lv_sub hl [0, 1, 2, 3] rfl) hP hS
def bk_Md_sumOf_0 (F : Nat) (al : Nat → Bool) (u : Mr) (x1 : Nat) (x2 : Int32) : Option (Mr × Int32) := bk_Md_sumOf_5 F al F u x1 x2 (0 : Int32) (0 : Int32)
set_option maxHeartbeats 4000000 in
set_option maxRecDepth 100000 in
theorem wk_Md_sumOf_0 (cx : Cx p l e s m args below meth c cMd_sumOf 5 bw "ImageForgeModel" (some .int) D cA ad L rs al A) (F : Nat) (out : Mr × Int32) : ∀ (u : Mr) (x1 : Nat) (x2 : Int32), bk_Md_sumOf_0 F al u x1 x2 = some out → okk al 41 x1 = true → Wb p l e rm_Md_sumOf s m args below meth c D cA ad L rs A (QI below args s D cA ad L rs A out) 5 0 [(1, .ref (ad x1)), (2, .int x2)] [] u := by
  obtain ⟨hx, hb, hml, hown, hts, hr, hlocks, hK, hA, hD, hN, hal, hNx⟩ := cx
  intro u x1 x2 h q1 H locs ls hl hP hS
  unfold bk_Md_sumOf_0 at h
  refine lv_iconst (v := 0) hx hb dMd_sumOf_0 (by decide) ?_
  refine lv_istore_n (lv' := [(3, .int (0 : Int32)), (1, .ref (ad x1)), (2, .int x2)]) hx hb dMd_sumOf_1 rfl hl (by decide) rfl (fun ls hl => ?_)
  refine lv_iconst (v := 0) hx hb dMd_sumOf_2 (by decide) ?_
  refine lv_istore (lv' := [(4, .int (0 : Int32)), (3, .int (0 : Int32)), (1, .ref (ad x1)), (2, .int x2)]) hx hb dMd_sumOf_3 hl (by decide) rfl (fun ls hl => ?_)
  exact wk_Md_sumOf_5 ⟨hx, hb, hml, hown, hts, hr, hlocks, hK, hA, hD, hN, hal, hNx⟩ F out F u x1 x2 (0 : Int32) (0 : Int32) h q1 _ _ _ (lv_sub hl [2, 3, 1, 0] rfl) hP hS
def fn_Md_sumOf (F : Nat) (al : Nat → Bool) (u : Mr) (x0 : Nat) (x1 : Nat) (x2 : Int32) : Option (Mr × Int32) := bk_Md_sumOf_0 F al u x1 x2
set_option maxHeartbeats 4000000 in
set_option maxRecDepth 100000 in
theorem ct_Md_sumOf {l : Launch} {D : va_G} {cA : Nat → ClassId} {ad : Nat → Nat} {L : List Nat} {rs : va_W} {al : Nat → Bool} (hal : ∀ k, al k = true → k ∈ L) (hN : L.Nodup) (F : Nat) (u : Mr) (x0 : Nat) (x1 : Nat) (x2 : Int32) (out : Mr × Int32) (h : fn_Md_sumOf F al u x0 x1 x2 = some out) (q0 : okk al 32 x0 = true) (q1 : okk al 41 x1 = true) : CtI l yMd_sumOf wsMd_sumOf rm_Md_sumOf [.ref (ad x0), .ref (ad x1), .int x2] D cA ad L rs u out := by
  intro sz
  refine Met.ofW (cc := cMd_sumOf) (maxL := 5) (ret := (some .int)) (by decide) rfl ?_
  intro p e s m args below meth c s₁ B hml hv
  obtain ⟨rfl, hsz, hP, hK, hD0, hNx⟩ := hv
  subst hsz
  have hD := hD0.self (sz := s.heap.size)
  generalize hAe : va_A (ww ad cA L rs u) s.heap.size = A at hD ⊢
  have hA : ∀ q, s.heap.size ≤ q → A q := fun q h => by rw [← hAe]; exact Or.inr h
  have hl := lv_entry ([.ref (ad x0), .ref (ad x1), .int x2]) (n := 5) (Nat.le_of_ble_eq_true rfl)
  rw [lg_entry_eq]
  generalize (lg_sl ([.ref (ad x0), .ref (ad x1), .int x2]) ++ List.replicate (5 - (lg_sl ([.ref (ad x0), .ref (ad x1), .int x2])).length) Slot.unset).toArray = ls at hl ⊢
  exact wk_Md_sumOf_0 ⟨B.exec, B.bytes, hml, findClass_of_methodNamed B.named, hts_bw (atoms_spec (ws := wsMd_sumOf) B.pre), B.returns, B.notSynchronized, hK, hA, fun v => ww_D hD, hN, hal, hNx⟩ F out u x1 x2 h q1 _ _ _ (lv_sub hl [1, 2] rfl) hP va_S.rf
abbrev rm_Md_header : Room := { frames := 1, cells := 0, slots := 0, locals := 24 }
def bk_Md_header_67 (F : Nat) (al : Nat → Bool) : Nat → Mr → Nat → Int32 → Option (Mr × Int32)
  | 0, _, _, _ => none
  | n + 1, u, x0, x1 => if (5 : Int32) ≤ x1 then (bd1 (rdR al u x0 19 41) fun y1 => (bd2 (fn_Md_sumOf F al u x0 y1 (u.1 x0 18)) fun u3 v3 => (bd2 (fn_Md_word F al u3 x0 (20 : Int32) v3) fun u4 v4 => (some (u4, 0))))) else (bd1 (rdR al u x0 20 42) fun y5 => (ck (inb x1 5) (bd2 (fn_Md_word F al u x0 ((24 : Int32) + ((8 : Int32) * x1)) (u.1 y5 x1)) fun u8 v8 => (bd1 (rdR al u8 x0 21 42) fun y9 => (ck (inb x1 5) (bd1 (rdR al u8 x0 20 42) fun y12 => (ck (inb x1 5) (bd2 (fn_Md_word F al u8 x0 ((28 : Int32) + ((8 : Int32) * x1)) ((u8.1 y9 x1) - (u8.1 y12 x1))) fun u15 v15 => (bk_Md_header_67 F al n u15 x0 (x1 + (1 : Int32)))))))))))
set_option maxHeartbeats 4000000 in
set_option maxRecDepth 100000 in
theorem wk_Md_header_67 (cx : Cx p l e s m args below meth c cMd_header 2 bw "ImageForgeModel" none D cA ad L rs al A) (F : Nat) (out : Mr × Int32) : ∀ n : Nat, ∀ (u : Mr) (x0 : Nat) (x1 : Int32), bk_Md_header_67 F al n u x0 x1 = some out → okk al 32 x0 = true → Wb p l e rm_Md_header s m args below meth c D cA ad L rs A (QV below args s D cA ad L rs A out) 2 67 [(0, .ref (ad x0)), (1, .int x1)] [] u := by
  obtain ⟨hx, hb, hml, hown, hts, hr, hlocks, hK, hA, hD, hN, hal, hNx⟩ := cx
  intro n
  induction n with
  | zero =>
    intro u x0 x1 h
    cases h
  | succ n ih =>
    intro u x0 x1 h q0 H locs ls hl hP hS
    rw [bk_Md_header_67] at h
    refine lv_iload_n hx hb dMd_header_67 rfl (lv_at hl 1 rfl) ?_
    refine lv_iconst (v := 5) hx hb dMd_header_68 (by decide) ?_
    refine lv_icmp_ge (tgt := 119) hx hb dMd_header_69 rfl (fun hc => ?_) (fun hc => ?_)
    · replace h := it_t h hc
      refine lv_aload_n hx hb dMd_header_119 rfl (lv_at hl 0 rfl) ?_
      refine lv_bipush (v := 20) hx hb dMd_header_120 (by decide) ?_
      refine lv_aload_n hx hb dMd_header_122 rfl (lv_at hl 0 rfl) ?_
      refine lv_aload_n hx hb dMd_header_123 rfl (lv_at hl 0 rfl) ?_
      obtain ⟨y1, hy2, h⟩ := bd1_some h
      obtain ⟨hy2a, hy2⟩ := rdR_some hy2
      refine x_get hx hb hts in_Md hown hK hP (hal _ (okk_al q0)) (okk_t q0) rfl rfl 19 (by decide) (hts _ tw_801) (fun _ h9 => h9) (congrArg some (x_rf hy2a)) dMd_header_124 ?_
      refine lv_aload_n hx hb dMd_header_127 rfl (lv_at hl 0 rfl) ?_
      refine x_get hx hb hts in_Md hown hK hP (hal _ (okk_al q0)) (okk_t q0) rfl rfl 18 (by decide) (hts _ tw_800) (fun _ h9 => h9) rfl dMd_header_128 ?_
      obtain ⟨u3, v3, hc3, h⟩ := bd2_some h
      refine x_ci (u := u) (out := (u3, v3)) hA hD hS (va_runV (As := [.ref (ad y1), .int (u.1 x0 18)]) (rest := [.int (20 : Int32), .ref (ad x0)]) ⟨hx, hb, hml, hown, hts⟩ (ct_Md_sumOf hal hN F u x0 y1 (u.1 x0 18) (u3, v3) hc3 q0 hy2 _) ⟨callB_of 2 hts gdMd_sumOf rfl rfl rfl (hts _ tw_11) (hts _ tw_990) hdMd_sumOf ⟨Nat.le_of_ble_eq_true rfl, Nat.le_of_ble_eq_true rfl⟩, (hts _ tw_992), (hts _ tp_69)⟩ (x_preV hK hD hNx hP (hal _ (okk_al q0)) (okk_t q0) rfl rfl) rfl rfl hl.1 rfl (lv_room (Nat.le_of_ble_eq_true rfl)) dMd_header_131 ⟨Nat.zero_le _, Nat.zero_le _⟩) (fun H locs hP hS => ?_)
      obtain ⟨u4, v4, hc4, h⟩ := bd2_some h
      refine x_cv (u := u3) (out := (u4, v4)) hA hD hS (va_runV (As := [.int (20 : Int32), .int v3]) (rest := []) ⟨hx, hb, hml, hown, hts⟩ (ct_Md_word hal hN F u3 x0 (20 : Int32) v3 (u4, v4) hc4 q0 _) ⟨callB_of 2 hts gdMd_word rfl rfl rfl (hts _ tw_11) (hts _ tw_958) hdMd_word ⟨Nat.le_of_ble_eq_true rfl, Nat.le_of_ble_eq_true rfl⟩, (hts _ tw_960), (hts _ tp_62)⟩ (x_preV hK hD hNx hP (hal _ (okk_al q0)) (okk_t q0) rfl rfl) rfl rfl hl.1 rfl (lv_room (Nat.le_of_ble_eq_true rfl)) dMd_header_134 ⟨Nat.zero_le _, Nat.zero_le _⟩) (fun H locs hP hS => ?_)
      exact x_vret hx hb hr hlocks h hP hS dMd_header_137
    · replace h := it_f h hc
      refine lv_aload_n hx hb dMd_header_72 rfl (lv_at hl 0 rfl) ?_
      refine lv_bipush (v := 24) hx hb dMd_header_73 (by decide) ?_
      refine lv_bipush (v := 8) hx hb dMd_header_75 (by decide) ?_
      refine lv_iload_n hx hb dMd_header_77 rfl (lv_at hl 1 rfl) ?_
      refine lv_imul hx hb dMd_header_78 ?_
      refine lv_iadd hx hb dMd_header_79 ?_
      refine lv_aload_n hx hb dMd_header_80 rfl (lv_at hl 0 rfl) ?_
      obtain ⟨y5, hy6, h⟩ := bd1_some h
      obtain ⟨hy6a, hy6⟩ := rdR_some hy6
      refine x_get hx hb hts in_Md hown hK hP (hal _ (okk_al q0)) (okk_t q0) rfl rfl 20 (by decide) (hts _ tw_802) (fun _ h9 => h9) (congrArg some (x_rf hy6a)) dMd_header_81 ?_
      refine lv_iload_n hx hb dMd_header_84 rfl (lv_at hl 1 rfl) ?_
      obtain ⟨hi7, h⟩ := ck_some h
      refine x_iald hx hb hK hP (hal _ (okk_al hy6)) (okk_t hy6) 0 (fun _ _ _ => rfl) rfl (inb_in hi7) dMd_header_85 ?_
      obtain ⟨u8, v8, hc8, h⟩ := bd2_some h
      refine x_cv (u := u) (out := (u8, v8)) hA hD hS (va_runV (As := [.int ((24 : Int32) + ((8 : Int32) * x1)), .int (u.1 y5 x1)]) (rest := []) ⟨hx, hb, hml, hown, hts⟩ (ct_Md_word hal hN F u x0 ((24 : Int32) + ((8 : Int32) * x1)) (u.1 y5 x1) (u8, v8) hc8 q0 _) ⟨callB_of 2 hts gdMd_word rfl rfl rfl (hts _ tw_11) (hts _ tw_958) hdMd_word ⟨Nat.le_of_ble_eq_true rfl, Nat.le_of_ble_eq_true rfl⟩, (hts _ tw_960), (hts _ tp_62)⟩ (x_preV hK hD hNx hP (hal _ (okk_al q0)) (okk_t q0) rfl rfl) rfl rfl hl.1 rfl (lv_room (Nat.le_of_ble_eq_true rfl)) dMd_header_86 ⟨Nat.zero_le _, Nat.zero_le _⟩) (fun H locs hP hS => ?_)
      refine lv_aload_n hx hb dMd_header_89 rfl (lv_at hl 0 rfl) ?_
      refine lv_bipush (v := 28) hx hb dMd_header_90 (by decide) ?_
      refine lv_bipush (v := 8) hx hb dMd_header_92 (by decide) ?_
      refine lv_iload_n hx hb dMd_header_94 rfl (lv_at hl 1 rfl) ?_
      refine lv_imul hx hb dMd_header_95 ?_
      refine lv_iadd hx hb dMd_header_96 ?_
      refine lv_aload_n hx hb dMd_header_97 rfl (lv_at hl 0 rfl) ?_
      obtain ⟨y9, hy10, h⟩ := bd1_some h
      obtain ⟨hy10a, hy10⟩ := rdR_some hy10
      refine x_get hx hb hts in_Md hown hK hP (hal _ (okk_al q0)) (okk_t q0) rfl rfl 21 (by decide) (hts _ tw_803) (fun _ h9 => h9) (congrArg some (x_rf hy10a)) dMd_header_98 ?_
      refine lv_iload_n hx hb dMd_header_101 rfl (lv_at hl 1 rfl) ?_
      obtain ⟨hi11, h⟩ := ck_some h
      refine x_iald hx hb hK hP (hal _ (okk_al hy10)) (okk_t hy10) 0 (fun _ _ _ => rfl) rfl (inb_in hi11) dMd_header_102 ?_
      refine lv_aload_n hx hb dMd_header_103 rfl (lv_at hl 0 rfl) ?_
      obtain ⟨y12, hy13, h⟩ := bd1_some h
      obtain ⟨hy13a, hy13⟩ := rdR_some hy13
      refine x_get hx hb hts in_Md hown hK hP (hal _ (okk_al q0)) (okk_t q0) rfl rfl 20 (by decide) (hts _ tw_802) (fun _ h9 => h9) (congrArg some (x_rf hy13a)) dMd_header_104 ?_
      refine lv_iload_n hx hb dMd_header_107 rfl (lv_at hl 1 rfl) ?_
      obtain ⟨hi14, h⟩ := ck_some h
      refine x_iald hx hb hK hP (hal _ (okk_al hy13)) (okk_t hy13) 0 (fun _ _ _ => rfl) rfl (inb_in hi14) dMd_header_108 ?_
      refine lv_isub hx hb dMd_header_109 ?_
      obtain ⟨u15, v15, hc15, h⟩ := bd2_some h
      refine x_cv (u := u8) (out := (u15, v15)) hA hD hS (va_runV (As := [.int ((28 : Int32) + ((8 : Int32) * x1)), .int ((u8.1 y9 x1) - (u8.1 y12 x1))]) (rest := []) ⟨hx, hb, hml, hown, hts⟩ (ct_Md_word hal hN F u8 x0 ((28 : Int32) + ((8 : Int32) * x1)) ((u8.1 y9 x1) - (u8.1 y12 x1)) (u15, v15) hc15 q0 _) ⟨callB_of 2 hts gdMd_word rfl rfl rfl (hts _ tw_11) (hts _ tw_958) hdMd_word ⟨Nat.le_of_ble_eq_true rfl, Nat.le_of_ble_eq_true rfl⟩, (hts _ tw_960), (hts _ tp_62)⟩ (x_preV hK hD hNx hP (hal _ (okk_al q0)) (okk_t q0) rfl rfl) rfl rfl hl.1 rfl (lv_room (Nat.le_of_ble_eq_true rfl)) dMd_header_110 ⟨Nat.zero_le _, Nat.zero_le _⟩) (fun H locs hP hS => ?_)
      refine lv_iinc (k := 1) (v := x1 + (1 : Int32)) (lv' := [(1, .int (x1 + (1 : Int32))), (0, .ref (ad x0))]) hx hb dMd_header_113 hl rfl (congrArg (fun z => _ + z) (show Int32.ofInt 1 = 1 by decide)) (by decide) rfl (fun ls hl => ?_)
      refine lv_goto (tgt := 67) hx hb dMd_header_116 rfl ?_
      exact ih u15 x0 (x1 + (1 : Int32)) h q0 _ _ _ (lv_sub hl [1, 0] rfl) hP hS
def bk_Md_header_62 (F : Nat) (al : Nat → Bool) (u : Mr) (s0 : Nat) (s1 : Int32) (s2 : Int32) (x0 : Nat) : Option (Mr × Int32) := bd2 (fn_Md_word F al u s0 s1 s2) fun u1 v1 => (bk_Md_header_67 F al F u1 x0 (0 : Int32))
set_option maxHeartbeats 4000000 in
set_option maxRecDepth 100000 in
theorem wk_Md_header_62 (cx : Cx p l e s m args below meth c cMd_header 2 bw "ImageForgeModel" none D cA ad L rs al A) (F : Nat) (out : Mr × Int32) : ∀ (u : Mr) (s0 : Nat) (s1 : Int32) (s2 : Int32) (x0 : Nat), bk_Md_header_62 F al u s0 s1 s2 x0 = some out → okk al 32 x0 = true → okk al 32 s0 = true → Wb p l e rm_Md_header s m args below meth c D cA ad L rs A (QV below args s D cA ad L rs A out) 2 62 [(0, .ref (ad x0))] [.int s2, .int s1, .ref (ad s0)] u := by
  obtain ⟨hx, hb, hml, hown, hts, hr, hlocks, hK, hA, hD, hN, hal, hNx⟩ := cx
  intro u s0 s1 s2 x0 h q0 qs0 H locs ls hl hP hS
  unfold bk_Md_header_62 at h
  obtain ⟨u1, v1, hc1, h⟩ := bd2_some h
  refine x_cv (u := u) (out := (u1, v1)) hA hD hS (va_runV (As := [.int s1, .int s2]) (rest := []) ⟨hx, hb, hml, hown, hts⟩ (ct_Md_word hal hN F u s0 s1 s2 (u1, v1) hc1 qs0 _) ⟨callB_of 2 hts gdMd_word rfl rfl rfl (hts _ tw_11) (hts _ tw_958) hdMd_word ⟨Nat.le_of_ble_eq_true rfl, Nat.le_of_ble_eq_true rfl⟩, (hts _ tw_960), (hts _ tp_62)⟩ (x_preV hK hD hNx hP (hal _ (okk_al qs0)) (okk_t qs0) rfl rfl) rfl rfl hl.1 rfl (lv_room (Nat.le_of_ble_eq_true rfl)) dMd_header_62 ⟨Nat.zero_le _, Nat.zero_le _⟩) (fun H locs hP hS => ?_)
  refine lv_iconst (v := 0) hx hb dMd_header_65 (by decide) ?_
  refine lv_istore_n (lv' := [(1, .int (0 : Int32)), (0, .ref (ad x0))]) hx hb dMd_header_66 rfl hl (by decide) rfl (fun ls hl => ?_)
  exact wk_Md_header_67 ⟨hx, hb, hml, hown, hts, hr, hlocks, hK, hA, hD, hN, hal, hNx⟩ F out F u1 x0 (0 : Int32) h q0 _ _ _ (lv_sub hl [1, 0] rfl) hP hS
def bk_Md_header_0 (F : Nat) (al : Nat → Bool) (u : Mr) (x0 : Nat) : Option (Mr × Int32) := bd1 (rdR al u x0 19 41) fun y1 => (bd1 (rdR al (stI u y1 (0 : Int32) (77 : Int32)) x0 19 41) fun y3 => (bd2 (fn_Md_word F al (stI (stI u y1 (0 : Int32) (77 : Int32)) y3 (1 : Int32) (90 : Int32)) x0 (4 : Int32) (5 : Int32)) fun u5 v5 => (bd2 (fn_Md_word F al u5 x0 (8 : Int32) (4096 : Int32)) fun u6 v6 => (bd2 (fn_Md_word F al u6 x0 (12 : Int32) (u6.1 x0 18)) fun u7 v7 => (bd2 (fn_Md_defined F al u7 x0 (0 : Int32)) fun u8 v8 => (if v8 ≤ 0 then (bk_Md_header_62 F al u8 x0 (16 : Int32) (0 : Int32) x0) else (bd1 (rdR al u8 x0 23 38) fun y9 => (bk_Md_header_62 F al u8 x0 (16 : Int32) (u8.1 y9 (0 : Int32)) x0))))))))
set_option maxHeartbeats 4000000 in
set_option maxRecDepth 100000 in
theorem wk_Md_header_0 (cx : Cx p l e s m args below meth c cMd_header 2 bw "ImageForgeModel" none D cA ad L rs al A) (F : Nat) (out : Mr × Int32) : ∀ (u : Mr) (x0 : Nat), bk_Md_header_0 F al u x0 = some out → okk al 32 x0 = true → Wb p l e rm_Md_header s m args below meth c D cA ad L rs A (QV below args s D cA ad L rs A out) 2 0 [(0, .ref (ad x0))] [] u := by
  obtain ⟨hx, hb, hml, hown, hts, hr, hlocks, hK, hA, hD, hN, hal, hNx⟩ := cx
  intro u x0 h q0 H locs ls hl hP hS
  unfold bk_Md_header_0 at h
  refine lv_aload_n hx hb dMd_header_0 rfl (lv_at hl 0 rfl) ?_
  obtain ⟨y1, hy2, h⟩ := bd1_some h
  obtain ⟨hy2a, hy2⟩ := rdR_some hy2
  refine x_get hx hb hts in_Md hown hK hP (hal _ (okk_al q0)) (okk_t q0) rfl rfl 19 (by decide) (hts _ tw_801) (fun _ h9 => h9) (congrArg some (x_rf hy2a)) dMd_header_1 ?_
  refine lv_iconst (v := 0) hx hb dMd_header_4 (by decide) ?_
  refine lv_bipush (v := 77) hx hb dMd_header_5 (by decide) ?_
  refine x_iast hx hb hK hD hN hP hS (hal _ (okk_al hy2)) (okk_t hy2) 0 (fun _ _ _ => rfl) rfl (by decide) (inb_in (show inb (0 : Int32) 2048 = true by decide)) dMd_header_7 (fun H locs hP hS => ?_)
  refine lv_aload_n hx hb dMd_header_8 rfl (lv_at hl 0 rfl) ?_
  obtain ⟨y3, hy4, h⟩ := bd1_some h
  obtain ⟨hy4a, hy4⟩ := rdR_some hy4
  refine x_get hx hb hts in_Md hown hK hP (hal _ (okk_al q0)) (okk_t q0) rfl rfl 19 (by decide) (hts _ tw_801) (fun _ h9 => h9) (congrArg some (x_rf hy4a)) dMd_header_9 ?_
  refine lv_iconst (v := 1) hx hb dMd_header_12 (by decide) ?_
  refine lv_bipush (v := 90) hx hb dMd_header_13 (by decide) ?_
  refine x_iast hx hb hK hD hN hP hS (hal _ (okk_al hy4)) (okk_t hy4) 0 (fun _ _ _ => rfl) rfl (by decide) (inb_in (show inb (1 : Int32) 2048 = true by decide)) dMd_header_15 (fun H locs hP hS => ?_)
  refine lv_aload_n hx hb dMd_header_16 rfl (lv_at hl 0 rfl) ?_
  refine lv_iconst (v := 4) hx hb dMd_header_17 (by decide) ?_
  refine lv_iconst (v := 5) hx hb dMd_header_18 (by decide) ?_
  obtain ⟨u5, v5, hc5, h⟩ := bd2_some h
  refine x_cv (u := stI (stI u y1 (0 : Int32) (77 : Int32)) y3 (1 : Int32) (90 : Int32)) (out := (u5, v5)) hA hD hS (va_runV (As := [.int (4 : Int32), .int (5 : Int32)]) (rest := []) ⟨hx, hb, hml, hown, hts⟩ (ct_Md_word hal hN F (stI (stI u y1 (0 : Int32) (77 : Int32)) y3 (1 : Int32) (90 : Int32)) x0 (4 : Int32) (5 : Int32) (u5, v5) hc5 q0 _) ⟨callB_of 2 hts gdMd_word rfl rfl rfl (hts _ tw_11) (hts _ tw_958) hdMd_word ⟨Nat.le_of_ble_eq_true rfl, Nat.le_of_ble_eq_true rfl⟩, (hts _ tw_960), (hts _ tp_62)⟩ (x_preV hK hD hNx hP (hal _ (okk_al q0)) (okk_t q0) rfl rfl) rfl rfl hl.1 rfl (lv_room (Nat.le_of_ble_eq_true rfl)) dMd_header_19 ⟨Nat.zero_le _, Nat.zero_le _⟩) (fun H locs hP hS => ?_)
  refine lv_aload_n hx hb dMd_header_22 rfl (lv_at hl 0 rfl) ?_
  refine lv_bipush (v := 8) hx hb dMd_header_23 (by decide) ?_
  refine lv_sipush (v := 4096) hx hb dMd_header_25 (by decide) ?_
  obtain ⟨u6, v6, hc6, h⟩ := bd2_some h
  refine x_cv (u := u5) (out := (u6, v6)) hA hD hS (va_runV (As := [.int (8 : Int32), .int (4096 : Int32)]) (rest := []) ⟨hx, hb, hml, hown, hts⟩ (ct_Md_word hal hN F u5 x0 (8 : Int32) (4096 : Int32) (u6, v6) hc6 q0 _) ⟨callB_of 2 hts gdMd_word rfl rfl rfl (hts _ tw_11) (hts _ tw_958) hdMd_word ⟨Nat.le_of_ble_eq_true rfl, Nat.le_of_ble_eq_true rfl⟩, (hts _ tw_960), (hts _ tp_62)⟩ (x_preV hK hD hNx hP (hal _ (okk_al q0)) (okk_t q0) rfl rfl) rfl rfl hl.1 rfl (lv_room (Nat.le_of_ble_eq_true rfl)) dMd_header_28 ⟨Nat.zero_le _, Nat.zero_le _⟩) (fun H locs hP hS => ?_)
  refine lv_aload_n hx hb dMd_header_31 rfl (lv_at hl 0 rfl) ?_
  refine lv_bipush (v := 12) hx hb dMd_header_32 (by decide) ?_
  refine lv_aload_n hx hb dMd_header_34 rfl (lv_at hl 0 rfl) ?_
  refine x_get hx hb hts in_Md hown hK hP (hal _ (okk_al q0)) (okk_t q0) rfl rfl 18 (by decide) (hts _ tw_800) (fun _ h9 => h9) rfl dMd_header_35 ?_
  obtain ⟨u7, v7, hc7, h⟩ := bd2_some h
  refine x_cv (u := u6) (out := (u7, v7)) hA hD hS (va_runV (As := [.int (12 : Int32), .int (u6.1 x0 18)]) (rest := []) ⟨hx, hb, hml, hown, hts⟩ (ct_Md_word hal hN F u6 x0 (12 : Int32) (u6.1 x0 18) (u7, v7) hc7 q0 _) ⟨callB_of 2 hts gdMd_word rfl rfl rfl (hts _ tw_11) (hts _ tw_958) hdMd_word ⟨Nat.le_of_ble_eq_true rfl, Nat.le_of_ble_eq_true rfl⟩, (hts _ tw_960), (hts _ tp_62)⟩ (x_preV hK hD hNx hP (hal _ (okk_al q0)) (okk_t q0) rfl rfl) rfl rfl hl.1 rfl (lv_room (Nat.le_of_ble_eq_true rfl)) dMd_header_38 ⟨Nat.zero_le _, Nat.zero_le _⟩) (fun H locs hP hS => ?_)
  refine lv_aload_n hx hb dMd_header_41 rfl (lv_at hl 0 rfl) ?_
  refine lv_bipush (v := 16) hx hb dMd_header_42 (by decide) ?_
  refine lv_aload_n hx hb dMd_header_44 rfl (lv_at hl 0 rfl) ?_
  refine lv_iconst (v := 0) hx hb dMd_header_45 (by decide) ?_
  obtain ⟨u8, v8, hc8, h⟩ := bd2_some h
  refine x_ci (u := u7) (out := (u8, v8)) hA hD hS (va_runV (As := [.int (0 : Int32)]) (rest := [.int (16 : Int32), .ref (ad x0)]) ⟨hx, hb, hml, hown, hts⟩ (ct_Md_defined hal hN F u7 x0 (0 : Int32) (u8, v8) hc8 q0 _) ⟨callB_of 1 hts gdMd_defined rfl rfl rfl (hts _ tw_11) (hts _ tw_923) hdMd_defined ⟨Nat.le_of_ble_eq_true rfl, Nat.le_of_ble_eq_true rfl⟩, (hts _ tw_925), (hts _ tp_54)⟩ (x_preV hK hD hNx hP (hal _ (okk_al q0)) (okk_t q0) rfl rfl) rfl rfl hl.1 rfl (lv_room (Nat.le_of_ble_eq_true rfl)) dMd_header_46 ⟨Nat.zero_le _, Nat.zero_le _⟩) (fun H locs hP hS => ?_)
  refine lv_if_le (tgt := 61) hx hb dMd_header_49 rfl (fun hc => ?_) (fun hc => ?_)
  · replace h := it_t h hc
    refine lv_iconst (v := 0) hx hb dMd_header_61 (by decide) ?_
    exact wk_Md_header_62 ⟨hx, hb, hml, hown, hts, hr, hlocks, hK, hA, hD, hN, hal, hNx⟩ F out u8 x0 (16 : Int32) (0 : Int32) x0 h q0 q0 _ _ _ (lv_sub hl [0] rfl) hP hS
  · replace h := it_f h hc
    refine lv_aload_n hx hb dMd_header_52 rfl (lv_at hl 0 rfl) ?_
    obtain ⟨y9, hy10, h⟩ := bd1_some h
    obtain ⟨hy10a, hy10⟩ := rdR_some hy10
    refine x_get hx hb hts in_Md hown hK hP (hal _ (okk_al q0)) (okk_t q0) rfl rfl 23 (by decide) (hts _ tw_805) (fun _ h9 => h9) (congrArg some (x_rf hy10a)) dMd_header_53 ?_
    refine lv_iconst (v := 0) hx hb dMd_header_56 (by decide) ?_
    refine x_iald hx hb hK hP (hal _ (okk_al hy10)) (okk_t hy10) 0 (fun _ _ _ => rfl) rfl (inb_in (show inb (0 : Int32) 16 = true by decide)) dMd_header_57 ?_
    refine lv_goto (tgt := 62) hx hb dMd_header_58 rfl ?_
    exact wk_Md_header_62 ⟨hx, hb, hml, hown, hts, hr, hlocks, hK, hA, hD, hN, hal, hNx⟩ F out u8 x0 (16 : Int32) (u8.1 y9 (0 : Int32)) x0 h q0 q0 _ _ _ (lv_sub hl [0] rfl) hP hS
def fn_Md_header (F : Nat) (al : Nat → Bool) (u : Mr) (x0 : Nat) : Option (Mr × Int32) := bk_Md_header_0 F al u x0
set_option maxHeartbeats 4000000 in
set_option maxRecDepth 100000 in
theorem ct_Md_header {l : Launch} {D : va_G} {cA : Nat → ClassId} {ad : Nat → Nat} {L : List Nat} {rs : va_W} {al : Nat → Bool} (hal : ∀ k, al k = true → k ∈ L) (hN : L.Nodup) (F : Nat) (u : Mr) (x0 : Nat) (out : Mr × Int32) (h : fn_Md_header F al u x0 = some out) (q0 : okk al 32 x0 = true) : CtV l yMd_header wsMd_header rm_Md_header [.ref (ad x0)] D cA ad L rs u out := by
  intro sz
  refine Met.ofW (cc := cMd_header) (maxL := 2) (ret := none) (by decide) rfl ?_
  intro p e s m args below meth c s₁ B hml hv
  obtain ⟨rfl, hsz, hP, hK, hD0, hNx⟩ := hv
  subst hsz
  have hD := hD0.self (sz := s.heap.size)
  generalize hAe : va_A (ww ad cA L rs u) s.heap.size = A at hD ⊢
  have hA : ∀ q, s.heap.size ≤ q → A q := fun q h => by rw [← hAe]; exact Or.inr h
  have hl := lv_entry ([.ref (ad x0)]) (n := 2) (Nat.le_of_ble_eq_true rfl)
  rw [lg_entry_eq]
  generalize (lg_sl ([.ref (ad x0)]) ++ List.replicate (2 - (lg_sl ([.ref (ad x0)])).length) Slot.unset).toArray = ls at hl ⊢
  exact wk_Md_header_0 ⟨B.exec, B.bytes, hml, findClass_of_methodNamed B.named, hts_bw (atoms_spec (ws := wsMd_header) B.pre), B.returns, B.notSynchronized, hK, hA, fun v => ww_D hD, hN, hal, hNx⟩ F out u x0 h q0 _ _ _ (lv_sub hl [0] rfl) hP va_S.rf
abbrev rm_Md_link : Room := { frames := 3, cells := 0, slots := 0, locals := 68 }
def bk_Md_link_207 (F : Nat) (al : Nat → Bool) : Nat → Mr → Nat → Int32 → Option (Mr × Int32)
  | 0, _, _, _ => none
  | n + 1, u, x0, x3 => if (u.1 x0 16) ≤ x3 then (some (u, u.1 x0 16)) else (bd1 (rdR al u x0 17 41) fun y1 => (bd1 (rdR al u x0 19 41) fun y3 => (ck (inb x3 2048) (ck (inb x3 2048) (bk_Md_link_207 F al n (stI u y1 x3 (u.1 y3 x3)) x0 (x3 + (1 : Int32)))))))
set_option maxHeartbeats 4000000 in
set_option maxRecDepth 100000 in
theorem wk_Md_link_207 (cx : Cx p l e s m args below meth c cMd_link 5 bw "ImageForgeModel" (some .int) D cA ad L rs al A) (F : Nat) (out : Mr × Int32) : ∀ n : Nat, ∀ (u : Mr) (x0 : Nat) (x3 : Int32), bk_Md_link_207 F al n u x0 x3 = some out → okk al 32 x0 = true → Wb p l e rm_Md_link s m args below meth c D cA ad L rs A (QI below args s D cA ad L rs A out) 5 207 [(0, .ref (ad x0)), (3, .int x3)] [] u := by
  obtain ⟨hx, hb, hml, hown, hts, hr, hlocks, hK, hA, hD, hN, hal, hNx⟩ := cx
  intro n
  induction n with
  | zero =>
    intro u x0 x3 h
    cases h
  | succ n ih =>
    intro u x0 x3 h q0 H locs ls hl hP hS
    rw [bk_Md_link_207] at h
    refine lv_iload_n hx hb dMd_link_207 rfl (lv_at hl 1 rfl) ?_
    refine lv_aload_n hx hb dMd_link_208 rfl (lv_at hl 0 rfl) ?_
    refine x_get hx hb hts in_Md hown hK hP (hal _ (okk_al q0)) (okk_t q0) rfl rfl 16 (by decide) (hts _ tw_798) (fun _ h9 => h9) rfl dMd_link_209 ?_
    refine lv_icmp_ge (tgt := 233) hx hb dMd_link_212 rfl (fun hc => ?_) (fun hc => ?_)
    · replace h := it_t h hc
      refine lv_aload_n hx hb dMd_link_233 rfl (lv_at hl 0 rfl) ?_
      refine x_get hx hb hts in_Md hown hK hP (hal _ (okk_al q0)) (okk_t q0) rfl rfl 16 (by decide) (hts _ tw_798) (fun _ h9 => h9) rfl dMd_link_234 ?_
      exact x_iret hx hb hr hlocks h hP hS dMd_link_237
    · replace h := it_f h hc
      refine lv_aload_n hx hb dMd_link_215 rfl (lv_at hl 0 rfl) ?_
      obtain ⟨y1, hy2, h⟩ := bd1_some h
      obtain ⟨hy2a, hy2⟩ := rdR_some hy2
      refine x_get hx hb hts in_Md hown hK hP (hal _ (okk_al q0)) (okk_t q0) rfl rfl 17 (by decide) (hts _ tw_799) (fun _ h9 => h9) (congrArg some (x_rf hy2a)) dMd_link_216 ?_
      refine lv_iload_n hx hb dMd_link_219 rfl (lv_at hl 1 rfl) ?_
      refine lv_aload_n hx hb dMd_link_220 rfl (lv_at hl 0 rfl) ?_
      obtain ⟨y3, hy4, h⟩ := bd1_some h
      obtain ⟨hy4a, hy4⟩ := rdR_some hy4
      refine x_get hx hb hts in_Md hown hK hP (hal _ (okk_al q0)) (okk_t q0) rfl rfl 19 (by decide) (hts _ tw_801) (fun _ h9 => h9) (congrArg some (x_rf hy4a)) dMd_link_221 ?_
      refine lv_iload_n hx hb dMd_link_224 rfl (lv_at hl 1 rfl) ?_
      obtain ⟨hi5, h⟩ := ck_some h
      refine x_iald hx hb hK hP (hal _ (okk_al hy4)) (okk_t hy4) 0 (fun _ _ _ => rfl) rfl (inb_in hi5) dMd_link_225 ?_
      obtain ⟨hi6, h⟩ := ck_some h
      refine x_iast hx hb hK hD hN hP hS (hal _ (okk_al hy2)) (okk_t hy2) 0 (fun _ _ _ => rfl) rfl (by decide) (inb_in hi6) dMd_link_226 (fun H locs hP hS => ?_)
      refine lv_iinc (k := 1) (v := x3 + (1 : Int32)) (lv' := [(3, .int (x3 + (1 : Int32))), (0, .ref (ad x0))]) hx hb dMd_link_227 hl rfl (congrArg (fun z => _ + z) (show Int32.ofInt 1 = 1 by decide)) (by decide) rfl (fun ls hl => ?_)
      refine lv_goto (tgt := 207) hx hb dMd_link_230 rfl ?_
      exact ih (stI u y1 x3 (u.1 y3 x3)) x0 (x3 + (1 : Int32)) h q0 _ _ _ (lv_sub hl [1, 0] rfl) hP hS
def bk_Md_link_124 (F : Nat) (al : Nat → Bool) : Nat → Mr → Nat → Int32 → Option (Mr × Int32)
  | 0, _, _, _ => none
  | n + 1, u, x0, x3 => if (2048 : Int32) ≤ x3 then (bd2 (fn_Md_layParts F al (stI u x0 18 (64 : Int32)) x0 (0 : Int32)) fun u1 v1 => (bd2 (fn_Md_layParts F al u1 x0 (1 : Int32)) fun u2 v2 => (bd2 (fn_Md_findPlaces F al u2 x0) fun u3 v3 => (bd2 (fn_Md_layImports F al u3 x0) fun u4 v4 => (bd2 (fn_Md_layExports F al u4 x0) fun u5 v5 => (bd2 (fn_Md_layRelocations F al u5 x0) fun u6 v6 => (bd2 (fn_Md_up F al u6 (u6.1 x0 18) (64 : Int32)) fun u7 v7 => (bd2 (fn_Md_resolve F al (stI u7 x0 18 v7) x0) fun u8 v8 => (bd2 (fn_Md_header F al u8 x0) fun u9 v9 => (bk_Md_link_207 F al F (stI u9 x0 16 (u9.1 x0 18)) x0 (0 : Int32))))))))))) else (bd1 (rdR al u x0 19 41) fun y10 => (ck (inb x3 2048) (bk_Md_link_124 F al n (stI u y10 x3 (0 : Int32)) x0 (x3 + (1 : Int32)))))
set_option maxHeartbeats 4000000 in
set_option maxRecDepth 100000 in
theorem wk_Md_link_124 (cx : Cx p l e s m args below meth c cMd_link 5 bw "ImageForgeModel" (some .int) D cA ad L rs al A) (F : Nat) (out : Mr × Int32) : ∀ n : Nat, ∀ (u : Mr) (x0 : Nat) (x3 : Int32), bk_Md_link_124 F al n u x0 x3 = some out → okk al 32 x0 = true → Wb p l e rm_Md_link s m args below meth c D cA ad L rs A (QI below args s D cA ad L rs A out) 5 124 [(0, .ref (ad x0)), (3, .int x3)] [] u := by
  obtain ⟨hx, hb, hml, hown, hts, hr, hlocks, hK, hA, hD, hN, hal, hNx⟩ := cx
  intro n
  induction n with
  | zero =>
    intro u x0 x3 h
    cases h
  | succ n ih =>
    intro u x0 x3 h q0 H locs ls hl hP hS
    rw [bk_Md_link_124] at h
    refine lv_iload_n hx hb dMd_link_124 rfl (lv_at hl 1 rfl) ?_
    refine lv_sipush (v := 2048) hx hb dMd_link_125 (by decide) ?_
    refine lv_icmp_ge (tgt := 144) hx hb dMd_link_128 rfl (fun hc => ?_) (fun hc => ?_)
    · replace h := it_t h hc
      refine lv_aload_n hx hb dMd_link_144 rfl (lv_at hl 0 rfl) ?_
      refine lv_bipush (v := 64) hx hb dMd_link_145 (by decide) ?_
      refine x_put hx hb hts in_Md t_Md t_Md_ok nm_Md hown hK hD hN hP hS (hal _ (okk_al q0)) (okk_t q0) rfl rfl 18 (by decide) (hts _ tw_800) (fun _ h9 => h9) rfl (ty := .int) (by decide +kernel) rfl rfl (Nat.le_of_ble_eq_true rfl) (stI u x0 18 (64 : Int32)) stI_o (by rw [stI_up]; exact eg_32_18) dMd_link_147 (fun H locs hP hS => ?_)
      refine lv_aload_n hx hb dMd_link_150 rfl (lv_at hl 0 rfl) ?_
      refine lv_iconst (v := 0) hx hb dMd_link_151 (by decide) ?_
      obtain ⟨u1, v1, hc1, h⟩ := bd2_some h
      refine x_cv (u := stI u x0 18 (64 : Int32)) (out := (u1, v1)) hA hD hS (va_runV (As := [.int (0 : Int32)]) (rest := []) ⟨hx, hb, hml, hown, hts⟩ (ct_Md_layParts hal hN F (stI u x0 18 (64 : Int32)) x0 (0 : Int32) (u1, v1) hc1 q0 _) ⟨callB_of 1 hts gdMd_layParts rfl rfl rfl (hts _ tw_11) (hts _ tw_931) hdMd_layParts ⟨Nat.le_of_ble_eq_true rfl, Nat.le_of_ble_eq_true rfl⟩, (hts _ tw_933), (hts _ tp_56)⟩ (x_preV hK hD hNx hP (hal _ (okk_al q0)) (okk_t q0) rfl rfl) rfl rfl hl.1 rfl (lv_room (Nat.le_of_ble_eq_true rfl)) dMd_link_152 ⟨Nat.zero_le _, Nat.zero_le _⟩) (fun H locs hP hS => ?_)
      refine lv_aload_n hx hb dMd_link_155 rfl (lv_at hl 0 rfl) ?_
      refine lv_iconst (v := 1) hx hb dMd_link_156 (by decide) ?_
      obtain ⟨u2, v2, hc2, h⟩ := bd2_some h
      refine x_cv (u := u1) (out := (u2, v2)) hA hD hS (va_runV (As := [.int (1 : Int32)]) (rest := []) ⟨hx, hb, hml, hown, hts⟩ (ct_Md_layParts hal hN F u1 x0 (1 : Int32) (u2, v2) hc2 q0 _) ⟨callB_of 1 hts gdMd_layParts rfl rfl rfl (hts _ tw_11) (hts _ tw_931) hdMd_layParts ⟨Nat.le_of_ble_eq_true rfl, Nat.le_of_ble_eq_true rfl⟩, (hts _ tw_933), (hts _ tp_56)⟩ (x_preV hK hD hNx hP (hal _ (okk_al q0)) (okk_t q0) rfl rfl) rfl rfl hl.1 rfl (lv_room (Nat.le_of_ble_eq_true rfl)) dMd_link_157 ⟨Nat.zero_le _, Nat.zero_le _⟩) (fun H locs hP hS => ?_)
      refine lv_aload_n hx hb dMd_link_160 rfl (lv_at hl 0 rfl) ?_
      obtain ⟨u3, v3, hc3, h⟩ := bd2_some h
      refine x_cv (u := u2) (out := (u3, v3)) hA hD hS (va_runV (As := []) (rest := []) ⟨hx, hb, hml, hown, hts⟩ (ct_Md_findPlaces hal hN F u2 x0 (u3, v3) hc3 q0 _) ⟨callB_of 0 hts gdMd_findPlaces rfl rfl rfl (hts _ tw_11) (hts _ tw_942) hdMd_findPlaces ⟨Nat.le_of_ble_eq_true rfl, Nat.le_of_ble_eq_true rfl⟩, (hts _ tw_944), (hts _ tp_58)⟩ (x_preV hK hD hNx hP (hal _ (okk_al q0)) (okk_t q0) rfl rfl) rfl rfl hl.1 rfl (lv_room (Nat.le_of_ble_eq_true rfl)) dMd_link_161 ⟨Nat.zero_le _, Nat.zero_le _⟩) (fun H locs hP hS => ?_)
      refine lv_aload_n hx hb dMd_link_164 rfl (lv_at hl 0 rfl) ?_
      obtain ⟨u4, v4, hc4, h⟩ := bd2_some h
      refine x_cv (u := u3) (out := (u4, v4)) hA hD hS (va_runV (As := []) (rest := []) ⟨hx, hb, hml, hown, hts⟩ (ct_Md_layImports hal hN F u3 x0 (u4, v4) hc4 q0 _) ⟨callB_of 0 hts gdMd_layImports rfl rfl rfl (hts _ tw_11) (hts _ tw_946) hdMd_layImports ⟨Nat.le_of_ble_eq_true rfl, Nat.le_of_ble_eq_true rfl⟩, (hts _ tw_948), (hts _ tp_59)⟩ (x_preV hK hD hNx hP (hal _ (okk_al q0)) (okk_t q0) rfl rfl) rfl rfl hl.1 rfl (lv_room (Nat.le_of_ble_eq_true rfl)) dMd_link_165 ⟨Nat.zero_le _, Nat.zero_le _⟩) (fun H locs hP hS => ?_)
      refine lv_aload_n hx hb dMd_link_168 rfl (lv_at hl 0 rfl) ?_
      obtain ⟨u5, v5, hc5, h⟩ := bd2_some h
      refine x_cv (u := u4) (out := (u5, v5)) hA hD hS (va_runV (As := []) (rest := []) ⟨hx, hb, hml, hown, hts⟩ (ct_Md_layExports hal hN F u4 x0 (u5, v5) hc5 q0 _) ⟨callB_of 0 hts gdMd_layExports rfl rfl rfl (hts _ tw_11) (hts _ tw_963) hdMd_layExports ⟨Nat.le_of_ble_eq_true rfl, Nat.le_of_ble_eq_true rfl⟩, (hts _ tw_965), (hts _ tp_63)⟩ (x_preV hK hD hNx hP (hal _ (okk_al q0)) (okk_t q0) rfl rfl) rfl rfl hl.1 rfl (lv_room (Nat.le_of_ble_eq_true rfl)) dMd_link_169 ⟨Nat.zero_le _, Nat.zero_le _⟩) (fun H locs hP hS => ?_)
      refine lv_aload_n hx hb dMd_link_172 rfl (lv_at hl 0 rfl) ?_
      obtain ⟨u6, v6, hc6, h⟩ := bd2_some h
      refine x_cv (u := u5) (out := (u6, v6)) hA hD hS (va_runV (As := []) (rest := []) ⟨hx, hb, hml, hown, hts⟩ (ct_Md_layRelocations hal hN F u5 x0 (u6, v6) hc6 q0 _) ⟨callB_of 0 hts gdMd_layRelocations rfl rfl rfl (hts _ tw_11) (hts _ tw_967) hdMd_layRelocations ⟨Nat.le_of_ble_eq_true rfl, Nat.le_of_ble_eq_true rfl⟩, (hts _ tw_969), (hts _ tp_64)⟩ (x_preV hK hD hNx hP (hal _ (okk_al q0)) (okk_t q0) rfl rfl) rfl rfl hl.1 rfl (lv_room (Nat.le_of_ble_eq_true rfl)) dMd_link_173 ⟨Nat.zero_le _, Nat.zero_le _⟩) (fun H locs hP hS => ?_)
      refine lv_aload_n hx hb dMd_link_176 rfl (lv_at hl 0 rfl) ?_
      refine lv_aload_n hx hb dMd_link_177 rfl (lv_at hl 0 rfl) ?_
      refine x_get hx hb hts in_Md hown hK hP (hal _ (okk_al q0)) (okk_t q0) rfl rfl 18 (by decide) (hts _ tw_800) (fun _ h9 => h9) rfl dMd_link_178 ?_
      refine lv_bipush (v := 64) hx hb dMd_link_181 (by decide) ?_
      obtain ⟨u7, v7, hc7, h⟩ := bd2_some h
      refine x_ci (u := u6) (out := (u7, v7)) hA hD hS (va_runS (As := [.int (u6.1 x0 18), .int (64 : Int32)]) (rest := [.ref (ad x0)]) ⟨hx, hb, hml, hown, hts⟩ (ct_Md_up hal hN F u6 (u6.1 x0 18) (64 : Int32) (u7, v7) hc7  _) ⟨callB_of 2 hts gdMd_up rfl rfl rfl (hts _ tw_11) (hts _ tw_939) hdMd_up ⟨Nat.le_of_ble_eq_true rfl, Nat.le_of_ble_eq_true rfl⟩, (hts _ tw_940)⟩ (x_preS hK hD hNx hP) rfl rfl hl.1 rfl (lv_room (Nat.le_of_ble_eq_true rfl)) dMd_link_183 ⟨Nat.zero_le _, Nat.zero_le _⟩) (fun H locs hP hS => ?_)
      refine x_put hx hb hts in_Md t_Md t_Md_ok nm_Md hown hK hD hN hP hS (hal _ (okk_al q0)) (okk_t q0) rfl rfl 18 (by decide) (hts _ tw_800) (fun _ h9 => h9) rfl (ty := .int) (by decide +kernel) rfl rfl (Nat.le_of_ble_eq_true rfl) (stI u7 x0 18 v7) stI_o (by rw [stI_up]; exact eg_32_18) dMd_link_186 (fun H locs hP hS => ?_)
      refine lv_aload_n hx hb dMd_link_189 rfl (lv_at hl 0 rfl) ?_
      obtain ⟨u8, v8, hc8, h⟩ := bd2_some h
      refine x_cv (u := stI u7 x0 18 v7) (out := (u8, v8)) hA hD hS (va_runV (As := []) (rest := []) ⟨hx, hb, hml, hown, hts⟩ (ct_Md_resolve hal hN F (stI u7 x0 18 v7) x0 (u8, v8) hc8 q0 _) ⟨callB_of 0 hts gdMd_resolve rfl rfl rfl (hts _ tw_11) (hts _ tw_979) hdMd_resolve ⟨Nat.le_of_ble_eq_true rfl, Nat.le_of_ble_eq_true rfl⟩, (hts _ tw_981), (hts _ tp_67)⟩ (x_preV hK hD hNx hP (hal _ (okk_al q0)) (okk_t q0) rfl rfl) rfl rfl hl.1 rfl (lv_room (Nat.le_of_ble_eq_true rfl)) dMd_link_190 ⟨Nat.zero_le _, Nat.zero_le _⟩) (fun H locs hP hS => ?_)
      refine lv_aload_n hx hb dMd_link_193 rfl (lv_at hl 0 rfl) ?_
      obtain ⟨u9, v9, hc9, h⟩ := bd2_some h
      refine x_cv (u := u8) (out := (u9, v9)) hA hD hS (va_runV (As := []) (rest := []) ⟨hx, hb, hml, hown, hts⟩ (ct_Md_header hal hN F u8 x0 (u9, v9) hc9 q0 _) ⟨callB_of 0 hts gdMd_header rfl rfl rfl (hts _ tw_11) (hts _ tw_986) hdMd_header ⟨Nat.le_of_ble_eq_true rfl, Nat.le_of_ble_eq_true rfl⟩, (hts _ tw_988), (hts _ tp_68)⟩ (x_preV hK hD hNx hP (hal _ (okk_al q0)) (okk_t q0) rfl rfl) rfl rfl hl.1 rfl (lv_room (Nat.le_of_ble_eq_true rfl)) dMd_link_194 ⟨Nat.zero_le _, Nat.zero_le _⟩) (fun H locs hP hS => ?_)
      refine lv_aload_n hx hb dMd_link_197 rfl (lv_at hl 0 rfl) ?_
      refine lv_aload_n hx hb dMd_link_198 rfl (lv_at hl 0 rfl) ?_
      refine x_get hx hb hts in_Md hown hK hP (hal _ (okk_al q0)) (okk_t q0) rfl rfl 18 (by decide) (hts _ tw_800) (fun _ h9 => h9) rfl dMd_link_199 ?_
      refine x_put hx hb hts in_Md t_Md t_Md_ok nm_Md hown hK hD hN hP hS (hal _ (okk_al q0)) (okk_t q0) rfl rfl 16 (by decide) (hts _ tw_798) (fun _ h9 => h9) rfl (ty := .int) (by decide +kernel) rfl rfl (Nat.le_of_ble_eq_true rfl) (stI u9 x0 16 (u9.1 x0 18)) stI_o (by rw [stI_up]; exact eg_32_16) dMd_link_202 (fun H locs hP hS => ?_)
      refine lv_iconst (v := 0) hx hb dMd_link_205 (by decide) ?_
      refine lv_istore_n (lv' := [(3, .int (0 : Int32)), (0, .ref (ad x0))]) hx hb dMd_link_206 rfl hl (by decide) rfl (fun ls hl => ?_)
      exact wk_Md_link_207 ⟨hx, hb, hml, hown, hts, hr, hlocks, hK, hA, hD, hN, hal, hNx⟩ F out F (stI u9 x0 16 (u9.1 x0 18)) x0 (0 : Int32) h q0 _ _ _ (lv_sub hl [1, 0] rfl) hP hS
    · replace h := it_f h hc
      refine lv_aload_n hx hb dMd_link_131 rfl (lv_at hl 0 rfl) ?_
      obtain ⟨y10, hy11, h⟩ := bd1_some h
      obtain ⟨hy11a, hy11⟩ := rdR_some hy11
      refine x_get hx hb hts in_Md hown hK hP (hal _ (okk_al q0)) (okk_t q0) rfl rfl 19 (by decide) (hts _ tw_801) (fun _ h9 => h9) (congrArg some (x_rf hy11a)) dMd_link_132 ?_
      refine lv_iload_n hx hb dMd_link_135 rfl (lv_at hl 1 rfl) ?_
      refine lv_iconst (v := 0) hx hb dMd_link_136 (by decide) ?_
      obtain ⟨hi12, h⟩ := ck_some h
      refine x_iast hx hb hK hD hN hP hS (hal _ (okk_al hy11)) (okk_t hy11) 0 (fun _ _ _ => rfl) rfl (by decide) (inb_in hi12) dMd_link_137 (fun H locs hP hS => ?_)
      refine lv_iinc (k := 1) (v := x3 + (1 : Int32)) (lv' := [(3, .int (x3 + (1 : Int32))), (0, .ref (ad x0))]) hx hb dMd_link_138 hl rfl (congrArg (fun z => _ + z) (show Int32.ofInt 1 = 1 by decide)) (by decide) rfl (fun ls hl => ?_)
      refine lv_goto (tgt := 124) hx hb dMd_link_141 rfl ?_
      exact ih (stI u y10 x3 (0 : Int32)) x0 (x3 + (1 : Int32)) h q0 _ _ _ (lv_sub hl [1, 0] rfl) hP hS
def bk_Md_link_95 (F : Nat) (al : Nat → Bool) (k6 : Mr → Nat → Int32 → Int32 → Int32 → Option (Mr × Int32)) (u : Mr) (s0 : Int32) (x0 : Nat) (x1 : Int32) (x3 : Int32) : Option (Mr × Int32) := k6 u x0 x1 s0 (x3 + (1 : Int32))
set_option maxHeartbeats 4000000 in
set_option maxRecDepth 100000 in
theorem wk_Md_link_95 (cx : Cx p l e s m args below meth c cMd_link 5 bw "ImageForgeModel" (some .int) D cA ad L rs al A) (F : Nat) (out : Mr × Int32) {k6 : Mr → Nat → Int32 → Int32 → Int32 → Option (Mr × Int32)} (hk6 : ∀ (u : Mr) (x0 : Nat) (x1 : Int32) (x2 : Int32) (x3 : Int32), k6 u x0 x1 x2 x3 = some out → okk al 32 x0 = true → Wb p l e rm_Md_link s m args below meth c D cA ad L rs A (QI below args s D cA ad L rs A out) 5 6 [(0, .ref (ad x0)), (1, .int x1), (2, .int x2), (3, .int x3)] [] u) : ∀ (u : Mr) (s0 : Int32) (x0 : Nat) (x1 : Int32) (x3 : Int32), bk_Md_link_95 F al k6 u s0 x0 x1 x3 = some out → okk al 32 x0 = true → Wb p l e rm_Md_link s m args below meth c D cA ad L rs A (QI below args s D cA ad L rs A out) 5 95 [(0, .ref (ad x0)), (1, .int x1), (3, .int x3)] [.int s0] u := by
  obtain ⟨hx, hb, hml, hown, hts, hr, hlocks, hK, hA, hD, hN, hal, hNx⟩ := cx
  intro u s0 x0 x1 x3 h q0 H locs ls hl hP hS
  unfold bk_Md_link_95 at h
  refine lv_istore_n (lv' := [(2, .int s0), (0, .ref (ad x0)), (1, .int x1), (3, .int x3)]) hx hb dMd_link_95 rfl hl (by decide) rfl (fun ls hl => ?_)
  refine lv_iinc (k := 3) (v := x3 + (1 : Int32)) (lv' := [(3, .int (x3 + (1 : Int32))), (2, .int s0), (0, .ref (ad x0)), (1, .int x1)]) hx hb dMd_link_96 hl rfl (congrArg (fun z => _ + z) (show Int32.ofInt 1 = 1 by decide)) (by decide) rfl (fun ls hl => ?_)
  refine lv_goto (tgt := 6) hx hb dMd_link_99 rfl ?_
  exact hk6 u x0 x1 s0 (x3 + (1 : Int32)) h q0 _ _ _ (lv_sub hl [2, 3, 1, 0] rfl) hP hS
def bk_Md_link_90 (F : Nat) (al : Nat → Bool) (k6 : Mr → Nat → Int32 → Int32 → Int32 → Option (Mr × Int32)) (u : Mr) (x0 : Nat) (x1 : Int32) (x3 : Int32) : Option (Mr × Int32) := bk_Md_link_95 F al k6 u (1 : Int32) x0 x1 x3
set_option maxHeartbeats 4000000 in
set_option maxRecDepth 100000 in
theorem wk_Md_link_90 (cx : Cx p l e s m args below meth c cMd_link 5 bw "ImageForgeModel" (some .int) D cA ad L rs al A) (F : Nat) (out : Mr × Int32) {k6 : Mr → Nat → Int32 → Int32 → Int32 → Option (Mr × Int32)} (hk6 : ∀ (u : Mr) (x0 : Nat) (x1 : Int32) (x2 : Int32) (x3 : Int32), k6 u x0 x1 x2 x3 = some out → okk al 32 x0 = true → Wb p l e rm_Md_link s m args below meth c D cA ad L rs A (QI below args s D cA ad L rs A out) 5 6 [(0, .ref (ad x0)), (1, .int x1), (2, .int x2), (3, .int x3)] [] u) : ∀ (u : Mr) (x0 : Nat) (x1 : Int32) (x3 : Int32), bk_Md_link_90 F al k6 u x0 x1 x3 = some out → okk al 32 x0 = true → Wb p l e rm_Md_link s m args below meth c D cA ad L rs A (QI below args s D cA ad L rs A out) 5 90 [(0, .ref (ad x0)), (1, .int x1), (3, .int x3)] [] u := by
  obtain ⟨hx, hb, hml, hown, hts, hr, hlocks, hK, hA, hD, hN, hal, hNx⟩ := cx
  intro u x0 x1 x3 h q0 H locs ls hl hP hS
  unfold bk_Md_link_90 at h
  refine lv_iconst (v := 1) hx hb dMd_link_90 (by decide) ?_
  refine lv_goto (tgt := 95) hx hb dMd_link_91 rfl ?_
  exact wk_Md_link_95 ⟨hx, hb, hml, hown, hts, hr, hlocks, hK, hA, hD, hN, hal, hNx⟩ F out hk6 u (1 : Int32) x0 x1 x3 h q0 _ _ _ (lv_sub hl [0, 1, 2] rfl) hP hS
def bk_Md_link_94 (F : Nat) (al : Nat → Bool) (k6 : Mr → Nat → Int32 → Int32 → Int32 → Option (Mr × Int32)) (u : Mr) (x0 : Nat) (x1 : Int32) (x3 : Int32) : Option (Mr × Int32) := bk_Md_link_95 F al k6 u (0 : Int32) x0 x1 x3
set_option maxHeartbeats 4000000 in
set_option maxRecDepth 100000 in
theorem wk_Md_link_94 (cx : Cx p l e s m args below meth c cMd_link 5 bw "ImageForgeModel" (some .int) D cA ad L rs al A) (F : Nat) (out : Mr × Int32) {k6 : Mr → Nat → Int32 → Int32 → Int32 → Option (Mr × Int32)} (hk6 : ∀ (u : Mr) (x0 : Nat) (x1 : Int32) (x2 : Int32) (x3 : Int32), k6 u x0 x1 x2 x3 = some out → okk al 32 x0 = true → Wb p l e rm_Md_link s m args below meth c D cA ad L rs A (QI below args s D cA ad L rs A out) 5 6 [(0, .ref (ad x0)), (1, .int x1), (2, .int x2), (3, .int x3)] [] u) : ∀ (u : Mr) (x0 : Nat) (x1 : Int32) (x3 : Int32), bk_Md_link_94 F al k6 u x0 x1 x3 = some out → okk al 32 x0 = true → Wb p l e rm_Md_link s m args below meth c D cA ad L rs A (QI below args s D cA ad L rs A out) 5 94 [(0, .ref (ad x0)), (1, .int x1), (3, .int x3)] [] u := by
  obtain ⟨hx, hb, hml, hown, hts, hr, hlocks, hK, hA, hD, hN, hal, hNx⟩ := cx
  intro u x0 x1 x3 h q0 H locs ls hl hP hS
  unfold bk_Md_link_94 at h
  refine lv_iconst (v := 0) hx hb dMd_link_94 (by decide) ?_
  exact wk_Md_link_95 ⟨hx, hb, hml, hown, hts, hr, hlocks, hK, hA, hD, hN, hal, hNx⟩ F out hk6 u (0 : Int32) x0 x1 x3 h q0 _ _ _ (lv_sub hl [0, 1, 2] rfl) hP hS
def bk_Md_link_68 (F : Nat) (al : Nat → Bool) (k6 : Mr → Nat → Int32 → Int32 → Int32 → Option (Mr × Int32)) (u : Mr) (x0 : Nat) (x1 : Int32) (x3 : Int32) (x4 : Int32) : Option (Mr × Int32) := bd2 (fn_Md_isMeant F al u x0 x3) fun u1 v1 => (if v1 = 0 then (bk_Md_link_94 F al k6 u1 x0 x1 x3) else (if x4 = 0 then (bd1 (rdR al u1 x0 12 38) fun y2 => (ck (inb x3 16) (if (u1.1 y2 x3) = 0 then (bk_Md_link_90 F al k6 u1 x0 x1 x3) else (bk_Md_link_94 F al k6 u1 x0 x1 x3)))) else (bk_Md_link_94 F al k6 u1 x0 x1 x3)))
set_option maxHeartbeats 4000000 in
set_option maxRecDepth 100000 in
theorem wk_Md_link_68 (cx : Cx p l e s m args below meth c cMd_link 5 bw "ImageForgeModel" (some .int) D cA ad L rs al A) (F : Nat) (out : Mr × Int32) {k6 : Mr → Nat → Int32 → Int32 → Int32 → Option (Mr × Int32)} (hk6 : ∀ (u : Mr) (x0 : Nat) (x1 : Int32) (x2 : Int32) (x3 : Int32), k6 u x0 x1 x2 x3 = some out → okk al 32 x0 = true → Wb p l e rm_Md_link s m args below meth c D cA ad L rs A (QI below args s D cA ad L rs A out) 5 6 [(0, .ref (ad x0)), (1, .int x1), (2, .int x2), (3, .int x3)] [] u) : ∀ (u : Mr) (x0 : Nat) (x1 : Int32) (x3 : Int32) (x4 : Int32), bk_Md_link_68 F al k6 u x0 x1 x3 x4 = some out → okk al 32 x0 = true → Wb p l e rm_Md_link s m args below meth c D cA ad L rs A (QI below args s D cA ad L rs A out) 5 68 [(0, .ref (ad x0)), (1, .int x1), (3, .int x3), (4, .int x4)] [] u := by
  obtain ⟨hx, hb, hml, hown, hts, hr, hlocks, hK, hA, hD, hN, hal, hNx⟩ := cx
  intro u x0 x1 x3 x4 h q0 H locs ls hl hP hS
  unfold bk_Md_link_68 at h
  refine lv_aload_n hx hb dMd_link_68 rfl (lv_at hl 0 rfl) ?_
  refine lv_iload_n hx hb dMd_link_69 rfl (lv_at hl 2 rfl) ?_
  obtain ⟨u1, v1, hc1, h⟩ := bd2_some h
  refine x_ci (u := u) (out := (u1, v1)) hA hD hS (va_runV (As := [.int x3]) (rest := []) ⟨hx, hb, hml, hown, hts⟩ (ct_Md_isMeant hal hN F u x0 x3 (u1, v1) hc1 q0 _) ⟨callB_of 1 hts gdMd_isMeant rfl rfl rfl (hts _ tw_11) (hts _ tw_927) hdMd_isMeant ⟨Nat.le_of_ble_eq_true rfl, Nat.le_of_ble_eq_true rfl⟩, (hts _ tw_929), (hts _ tp_55)⟩ (x_preV hK hD hNx hP (hal _ (okk_al q0)) (okk_t q0) rfl rfl) rfl rfl hl.1 rfl (lv_room (Nat.le_of_ble_eq_true rfl)) dMd_link_70 ⟨Nat.zero_le _, Nat.zero_le _⟩) (fun H locs hP hS => ?_)
  refine lv_if_eq (tgt := 94) hx hb dMd_link_73 rfl (fun hc => ?_) (fun hc => ?_)
  · replace h := it_t h hc
    exact wk_Md_link_94 ⟨hx, hb, hml, hown, hts, hr, hlocks, hK, hA, hD, hN, hal, hNx⟩ F out hk6 u1 x0 x1 x3 h q0 _ _ _ (lv_sub hl [0, 1, 2] rfl) hP hS
  · replace h := it_f h hc
    refine lv_iload hx hb dMd_link_76 (lv_at hl 3 rfl) ?_
    refine lv_if_ne (tgt := 94) hx hb dMd_link_78 rfl (fun hc => ?_) (fun hc => ?_)
    · replace h := it_f h hc
      exact wk_Md_link_94 ⟨hx, hb, hml, hown, hts, hr, hlocks, hK, hA, hD, hN, hal, hNx⟩ F out hk6 u1 x0 x1 x3 h q0 _ _ _ (lv_sub hl [0, 1, 2] rfl) hP hS
    · replace h := it_t h hc
      refine lv_aload_n hx hb dMd_link_81 rfl (lv_at hl 0 rfl) ?_
      obtain ⟨y2, hy3, h⟩ := bd1_some h
      obtain ⟨hy3a, hy3⟩ := rdR_some hy3
      refine x_get hx hb hts in_Md hown hK hP (hal _ (okk_al q0)) (okk_t q0) rfl rfl 12 (by decide) (hts _ tw_794) (fun _ h9 => h9) (congrArg some (x_rf hy3a)) dMd_link_82 ?_
      refine lv_iload_n hx hb dMd_link_85 rfl (lv_at hl 2 rfl) ?_
      obtain ⟨hi4, h⟩ := ck_some h
      refine x_iald hx hb hK hP (hal _ (okk_al hy3)) (okk_t hy3) 0 (fun _ _ _ => rfl) rfl (inb_in hi4) dMd_link_86 ?_
      refine lv_if_ne (tgt := 94) hx hb dMd_link_87 rfl (fun hc => ?_) (fun hc => ?_)
      · replace h := it_f h hc
        exact wk_Md_link_94 ⟨hx, hb, hml, hown, hts, hr, hlocks, hK, hA, hD, hN, hal, hNx⟩ F out hk6 u1 x0 x1 x3 h q0 _ _ _ (lv_sub hl [0, 1, 2] rfl) hP hS
      · replace h := it_t h hc
        exact wk_Md_link_90 ⟨hx, hb, hml, hown, hts, hr, hlocks, hK, hA, hD, hN, hal, hNx⟩ F out hk6 u1 x0 x1 x3 h q0 _ _ _ (lv_sub hl [0, 1, 2] rfl) hP hS
def bk_Md_link_49 (F : Nat) (al : Nat → Bool) (k6 : Mr → Nat → Int32 → Int32 → Int32 → Option (Mr × Int32)) (u : Mr) (s0 : Int32) (x0 : Nat) (x2 : Int32) (x3 : Int32) (x4 : Int32) : Option (Mr × Int32) := if x2 = 0 then (bd1 (rdR al u x0 14 39) fun y1 => (ck (inb x3 16) (if (u.1 y1 x3) = 0 then (bk_Md_link_68 F al k6 u x0 s0 x3 x4) else (if x4 = 0 then (bk_Md_link_90 F al k6 u x0 s0 x3) else (bk_Md_link_68 F al k6 u x0 s0 x3 x4))))) else (bk_Md_link_90 F al k6 u x0 s0 x3)
set_option maxHeartbeats 4000000 in
set_option maxRecDepth 100000 in
theorem wk_Md_link_49 (cx : Cx p l e s m args below meth c cMd_link 5 bw "ImageForgeModel" (some .int) D cA ad L rs al A) (F : Nat) (out : Mr × Int32) {k6 : Mr → Nat → Int32 → Int32 → Int32 → Option (Mr × Int32)} (hk6 : ∀ (u : Mr) (x0 : Nat) (x1 : Int32) (x2 : Int32) (x3 : Int32), k6 u x0 x1 x2 x3 = some out → okk al 32 x0 = true → Wb p l e rm_Md_link s m args below meth c D cA ad L rs A (QI below args s D cA ad L rs A out) 5 6 [(0, .ref (ad x0)), (1, .int x1), (2, .int x2), (3, .int x3)] [] u) : ∀ (u : Mr) (s0 : Int32) (x0 : Nat) (x2 : Int32) (x3 : Int32) (x4 : Int32), bk_Md_link_49 F al k6 u s0 x0 x2 x3 x4 = some out → okk al 32 x0 = true → Wb p l e rm_Md_link s m args below meth c D cA ad L rs A (QI below args s D cA ad L rs A out) 5 49 [(0, .ref (ad x0)), (2, .int x2), (3, .int x3), (4, .int x4)] [.int s0] u := by
  obtain ⟨hx, hb, hml, hown, hts, hr, hlocks, hK, hA, hD, hN, hal, hNx⟩ := cx
  intro u s0 x0 x2 x3 x4 h q0 H locs ls hl hP hS
  unfold bk_Md_link_49 at h
  refine lv_istore_n (lv' := [(1, .int s0), (0, .ref (ad x0)), (2, .int x2), (3, .int x3), (4, .int x4)]) hx hb dMd_link_49 rfl hl (by decide) rfl (fun ls hl => ?_)
  refine lv_iload_n hx hb dMd_link_50 rfl (lv_at hl 2 rfl) ?_
  refine lv_if_ne (tgt := 90) hx hb dMd_link_51 rfl (fun hc => ?_) (fun hc => ?_)
  · replace h := it_f h hc
    exact wk_Md_link_90 ⟨hx, hb, hml, hown, hts, hr, hlocks, hK, hA, hD, hN, hal, hNx⟩ F out hk6 u x0 s0 x3 h q0 _ _ _ (lv_sub hl [1, 0, 3] rfl) hP hS
  · replace h := it_t h hc
    refine lv_aload_n hx hb dMd_link_54 rfl (lv_at hl 1 rfl) ?_
    obtain ⟨y1, hy2, h⟩ := bd1_some h
    obtain ⟨hy2a, hy2⟩ := rdR_some hy2
    refine x_get hx hb hts in_Md hown hK hP (hal _ (okk_al q0)) (okk_t q0) rfl rfl 14 (by decide) (hts _ tw_796) (fun _ h9 => h9) (congrArg some (x_rf hy2a)) dMd_link_55 ?_
    refine lv_iload_n hx hb dMd_link_58 rfl (lv_at hl 3 rfl) ?_
    obtain ⟨hi3, h⟩ := ck_some h
    refine x_zald hx hb hK hP (hal _ (okk_al hy2)) (okk_t hy2) 2 (fun _ _ _ => rfl) rfl (inb_in hi3) dMd_link_59 ?_
    refine lv_if_eq (tgt := 68) hx hb dMd_link_60 rfl (fun hc => ?_) (fun hc => ?_)
    · replace h := it_t h hc
      exact wk_Md_link_68 ⟨hx, hb, hml, hown, hts, hr, hlocks, hK, hA, hD, hN, hal, hNx⟩ F out hk6 u x0 s0 x3 x4 h q0 _ _ _ (lv_sub hl [1, 0, 3, 4] rfl) hP hS
    · replace h := it_f h hc
      refine lv_iload hx hb dMd_link_63 (lv_at hl 4 rfl) ?_
      refine lv_if_eq (tgt := 90) hx hb dMd_link_65 rfl (fun hc => ?_) (fun hc => ?_)
      · replace h := it_t h hc
        exact wk_Md_link_90 ⟨hx, hb, hml, hown, hts, hr, hlocks, hK, hA, hD, hN, hal, hNx⟩ F out hk6 u x0 s0 x3 h q0 _ _ _ (lv_sub hl [1, 0, 3] rfl) hP hS
      · replace h := it_f h hc
        exact wk_Md_link_68 ⟨hx, hb, hml, hown, hts, hr, hlocks, hK, hA, hD, hN, hal, hNx⟩ F out hk6 u x0 s0 x3 x4 h q0 _ _ _ (lv_sub hl [1, 0, 3, 4] rfl) hP hS
def bk_Md_link_44 (F : Nat) (al : Nat → Bool) (k6 : Mr → Nat → Int32 → Int32 → Int32 → Option (Mr × Int32)) (u : Mr) (x0 : Nat) (x2 : Int32) (x3 : Int32) (x4 : Int32) : Option (Mr × Int32) := bk_Md_link_49 F al k6 u (1 : Int32) x0 x2 x3 x4
set_option maxHeartbeats 4000000 in
set_option maxRecDepth 100000 in
theorem wk_Md_link_44 (cx : Cx p l e s m args below meth c cMd_link 5 bw "ImageForgeModel" (some .int) D cA ad L rs al A) (F : Nat) (out : Mr × Int32) {k6 : Mr → Nat → Int32 → Int32 → Int32 → Option (Mr × Int32)} (hk6 : ∀ (u : Mr) (x0 : Nat) (x1 : Int32) (x2 : Int32) (x3 : Int32), k6 u x0 x1 x2 x3 = some out → okk al 32 x0 = true → Wb p l e rm_Md_link s m args below meth c D cA ad L rs A (QI below args s D cA ad L rs A out) 5 6 [(0, .ref (ad x0)), (1, .int x1), (2, .int x2), (3, .int x3)] [] u) : ∀ (u : Mr) (x0 : Nat) (x2 : Int32) (x3 : Int32) (x4 : Int32), bk_Md_link_44 F al k6 u x0 x2 x3 x4 = some out → okk al 32 x0 = true → Wb p l e rm_Md_link s m args below meth c D cA ad L rs A (QI below args s D cA ad L rs A out) 5 44 [(0, .ref (ad x0)), (2, .int x2), (3, .int x3), (4, .int x4)] [] u := by
  obtain ⟨hx, hb, hml, hown, hts, hr, hlocks, hK, hA, hD, hN, hal, hNx⟩ := cx
  intro u x0 x2 x3 x4 h q0 H locs ls hl hP hS
  unfold bk_Md_link_44 at h
  refine lv_iconst (v := 1) hx hb dMd_link_44 (by decide) ?_
  refine lv_goto (tgt := 49) hx hb dMd_link_45 rfl ?_
  exact wk_Md_link_49 ⟨hx, hb, hml, hown, hts, hr, hlocks, hK, hA, hD, hN, hal, hNx⟩ F out hk6 u (1 : Int32) x0 x2 x3 x4 h q0 _ _ _ (lv_sub hl [0, 1, 2, 3] rfl) hP hS
def bk_Md_link_48 (F : Nat) (al : Nat → Bool) (k6 : Mr → Nat → Int32 → Int32 → Int32 → Option (Mr × Int32)) (u : Mr) (x0 : Nat) (x2 : Int32) (x3 : Int32) (x4 : Int32) : Option (Mr × Int32) := bk_Md_link_49 F al k6 u (0 : Int32) x0 x2 x3 x4
set_option maxHeartbeats 4000000 in
set_option maxRecDepth 100000 in
theorem wk_Md_link_48 (cx : Cx p l e s m args below meth c cMd_link 5 bw "ImageForgeModel" (some .int) D cA ad L rs al A) (F : Nat) (out : Mr × Int32) {k6 : Mr → Nat → Int32 → Int32 → Int32 → Option (Mr × Int32)} (hk6 : ∀ (u : Mr) (x0 : Nat) (x1 : Int32) (x2 : Int32) (x3 : Int32), k6 u x0 x1 x2 x3 = some out → okk al 32 x0 = true → Wb p l e rm_Md_link s m args below meth c D cA ad L rs A (QI below args s D cA ad L rs A out) 5 6 [(0, .ref (ad x0)), (1, .int x1), (2, .int x2), (3, .int x3)] [] u) : ∀ (u : Mr) (x0 : Nat) (x2 : Int32) (x3 : Int32) (x4 : Int32), bk_Md_link_48 F al k6 u x0 x2 x3 x4 = some out → okk al 32 x0 = true → Wb p l e rm_Md_link s m args below meth c D cA ad L rs A (QI below args s D cA ad L rs A out) 5 48 [(0, .ref (ad x0)), (2, .int x2), (3, .int x3), (4, .int x4)] [] u := by
  obtain ⟨hx, hb, hml, hown, hts, hr, hlocks, hK, hA, hD, hN, hal, hNx⟩ := cx
  intro u x0 x2 x3 x4 h q0 H locs ls hl hP hS
  unfold bk_Md_link_48 at h
  refine lv_iconst (v := 0) hx hb dMd_link_48 (by decide) ?_
  exact wk_Md_link_49 ⟨hx, hb, hml, hown, hts, hr, hlocks, hK, hA, hD, hN, hal, hNx⟩ F out hk6 u (0 : Int32) x0 x2 x3 x4 h q0 _ _ _ (lv_sub hl [0, 1, 2, 3] rfl) hP hS
def bk_Md_link_6 (F : Nat) (al : Nat → Bool) : Nat → Mr → Nat → Int32 → Int32 → Int32 → Option (Mr × Int32)
  | 0, _, _, _, _, _ => none
  | n + 1, u, x0, x1, x2, x3 => if (16 : Int32) ≤ x3 then (bd2 (fn_Md_fails F al u x0 x1 (1 : Int32)) fun u1 v1 => (if v1 = 0 then (bd2 (fn_Md_fails F al u1 x0 x2 (2 : Int32)) fun u2 v2 => (if v2 = 0 then (bk_Md_link_124 F al F u2 x0 (0 : Int32)) else (some (u2, (0 : Int32))))) else (some (u1, (0 : Int32))))) else (bd2 (fn_Md_defined F al u x0 x3) fun u3 v3 => (if x1 = 0 then (if (1 : Int32) < v3 then (bk_Md_link_44 F al (bk_Md_link_6 F al n) u3 x0 x2 x3 v3) else (if v3 = (1 : Int32) then (bd1 (rdR al u3 x0 12 38) fun y4 => (ck (inb x3 16) (if (u3.1 y4 x3) ≤ 0 then (bk_Md_link_48 F al (bk_Md_link_6 F al n) u3 x0 x2 x3 v3) else (bk_Md_link_44 F al (bk_Md_link_6 F al n) u3 x0 x2 x3 v3)))) else (bk_Md_link_48 F al (bk_Md_link_6 F al n) u3 x0 x2 x3 v3))) else (bk_Md_link_44 F al (bk_Md_link_6 F al n) u3 x0 x2 x3 v3)))
set_option maxHeartbeats 4000000 in
set_option maxRecDepth 100000 in
theorem wk_Md_link_6 (cx : Cx p l e s m args below meth c cMd_link 5 bw "ImageForgeModel" (some .int) D cA ad L rs al A) (F : Nat) (out : Mr × Int32) : ∀ n : Nat, ∀ (u : Mr) (x0 : Nat) (x1 : Int32) (x2 : Int32) (x3 : Int32), bk_Md_link_6 F al n u x0 x1 x2 x3 = some out → okk al 32 x0 = true → Wb p l e rm_Md_link s m args below meth c D cA ad L rs A (QI below args s D cA ad L rs A out) 5 6 [(0, .ref (ad x0)), (1, .int x1), (2, .int x2), (3, .int x3)] [] u := by
  obtain ⟨hx, hb, hml, hown, hts, hr, hlocks, hK, hA, hD, hN, hal, hNx⟩ := cx
  intro n
  induction n with
  | zero =>
    intro u x0 x1 x2 x3 h
    cases h
  | succ n ih =>
    intro u x0 x1 x2 x3 h q0 H locs ls hl hP hS
    rw [bk_Md_link_6] at h
    refine lv_iload_n hx hb dMd_link_6 rfl (lv_at hl 3 rfl) ?_
    refine lv_bipush (v := 16) hx hb dMd_link_7 (by decide) ?_
    refine lv_icmp_ge (tgt := 102) hx hb dMd_link_9 rfl (fun hc => ?_) (fun hc => ?_)
    · replace h := it_t h hc
      refine lv_aload_n hx hb dMd_link_102 rfl (lv_at hl 0 rfl) ?_
      refine lv_iload_n hx hb dMd_link_103 rfl (lv_at hl 1 rfl) ?_
      refine lv_iconst (v := 1) hx hb dMd_link_104 (by decide) ?_
      obtain ⟨u1, v1, hc1, h⟩ := bd2_some h
      refine x_ci (u := u) (out := (u1, v1)) hA hD hS (va_runV (As := [.int x1, .int (1 : Int32)]) (rest := []) ⟨hx, hb, hml, hown, hts⟩ (ct_Md_fails hal hN F u x0 x1 (1 : Int32) (u1, v1) hc1 q0 _) ⟨callB_of 2 hts gdMd_fails rfl rfl rfl (hts _ tw_11) (hts _ tw_890) hdMd_fails ⟨Nat.le_of_ble_eq_true rfl, Nat.le_of_ble_eq_true rfl⟩, (hts _ tw_892), (hts _ tp_52)⟩ (x_preV hK hD hNx hP (hal _ (okk_al q0)) (okk_t q0) rfl rfl) rfl rfl hl.1 rfl (lv_room (Nat.le_of_ble_eq_true rfl)) dMd_link_105 ⟨Nat.zero_le _, Nat.zero_le _⟩) (fun H locs hP hS => ?_)
      refine lv_if_ne (tgt := 120) hx hb dMd_link_108 rfl (fun hc => ?_) (fun hc => ?_)
      · replace h := it_f h hc
        refine lv_iconst (v := 0) hx hb dMd_link_120 (by decide) ?_
        exact x_iret hx hb hr hlocks h hP hS dMd_link_121
      · replace h := it_t h hc
        refine lv_aload_n hx hb dMd_link_111 rfl (lv_at hl 0 rfl) ?_
        refine lv_iload_n hx hb dMd_link_112 rfl (lv_at hl 2 rfl) ?_
        refine lv_iconst (v := 2) hx hb dMd_link_113 (by decide) ?_
        obtain ⟨u2, v2, hc2, h⟩ := bd2_some h
        refine x_ci (u := u1) (out := (u2, v2)) hA hD hS (va_runV (As := [.int x2, .int (2 : Int32)]) (rest := []) ⟨hx, hb, hml, hown, hts⟩ (ct_Md_fails hal hN F u1 x0 x2 (2 : Int32) (u2, v2) hc2 q0 _) ⟨callB_of 2 hts gdMd_fails rfl rfl rfl (hts _ tw_11) (hts _ tw_890) hdMd_fails ⟨Nat.le_of_ble_eq_true rfl, Nat.le_of_ble_eq_true rfl⟩, (hts _ tw_892), (hts _ tp_52)⟩ (x_preV hK hD hNx hP (hal _ (okk_al q0)) (okk_t q0) rfl rfl) rfl rfl hl.1 rfl (lv_room (Nat.le_of_ble_eq_true rfl)) dMd_link_114 ⟨Nat.zero_le _, Nat.zero_le _⟩) (fun H locs hP hS => ?_)
        refine lv_if_eq (tgt := 122) hx hb dMd_link_117 rfl (fun hc => ?_) (fun hc => ?_)
        · replace h := it_t h hc
          refine lv_iconst (v := 0) hx hb dMd_link_122 (by decide) ?_
          refine lv_istore_n (lv' := [(3, .int (0 : Int32)), (0, .ref (ad x0)), (1, .int x1), (2, .int x2)]) hx hb dMd_link_123 rfl hl (by decide) rfl (fun ls hl => ?_)
          exact wk_Md_link_124 ⟨hx, hb, hml, hown, hts, hr, hlocks, hK, hA, hD, hN, hal, hNx⟩ F out F u2 x0 (0 : Int32) h q0 _ _ _ (lv_sub hl [1, 0] rfl) hP hS
        · replace h := it_f h hc
          refine lv_iconst (v := 0) hx hb dMd_link_120 (by decide) ?_
          exact x_iret hx hb hr hlocks h hP hS dMd_link_121
    · replace h := it_f h hc
      refine lv_aload_n hx hb dMd_link_12 rfl (lv_at hl 0 rfl) ?_
      refine lv_iload_n hx hb dMd_link_13 rfl (lv_at hl 3 rfl) ?_
      obtain ⟨u3, v3, hc3, h⟩ := bd2_some h
      refine x_ci (u := u) (out := (u3, v3)) hA hD hS (va_runV (As := [.int x3]) (rest := []) ⟨hx, hb, hml, hown, hts⟩ (ct_Md_defined hal hN F u x0 x3 (u3, v3) hc3 q0 _) ⟨callB_of 1 hts gdMd_defined rfl rfl rfl (hts _ tw_11) (hts _ tw_923) hdMd_defined ⟨Nat.le_of_ble_eq_true rfl, Nat.le_of_ble_eq_true rfl⟩, (hts _ tw_925), (hts _ tp_54)⟩ (x_preV hK hD hNx hP (hal _ (okk_al q0)) (okk_t q0) rfl rfl) rfl rfl hl.1 rfl (lv_room (Nat.le_of_ble_eq_true rfl)) dMd_link_14 ⟨Nat.zero_le _, Nat.zero_le _⟩) (fun H locs hP hS => ?_)
      refine lv_istore (lv' := [(4, .int v3), (0, .ref (ad x0)), (1, .int x1), (2, .int x2), (3, .int x3)]) hx hb dMd_link_17 hl (by decide) rfl (fun ls hl => ?_)
      refine lv_iload_n hx hb dMd_link_19 rfl (lv_at hl 2 rfl) ?_
      refine lv_if_ne (tgt := 44) hx hb dMd_link_20 rfl (fun hc => ?_) (fun hc => ?_)
      · replace h := it_f h hc
        exact wk_Md_link_44 ⟨hx, hb, hml, hown, hts, hr, hlocks, hK, hA, hD, hN, hal, hNx⟩ F out ih u3 x0 x2 x3 v3 h q0 _ _ _ (lv_sub hl [1, 3, 4, 0] rfl) hP hS
      · replace h := it_t h hc
        refine lv_iload hx hb dMd_link_23 (lv_at hl 0 rfl) ?_
        refine lv_iconst (v := 1) hx hb dMd_link_25 (by decide) ?_
        refine lv_icmp_gt (tgt := 44) hx hb dMd_link_26 rfl (fun hc => ?_) (fun hc => ?_)
        · replace h := it_t h hc
          exact wk_Md_link_44 ⟨hx, hb, hml, hown, hts, hr, hlocks, hK, hA, hD, hN, hal, hNx⟩ F out ih u3 x0 x2 x3 v3 h q0 _ _ _ (lv_sub hl [1, 3, 4, 0] rfl) hP hS
        · replace h := it_f h hc
          refine lv_iload hx hb dMd_link_29 (lv_at hl 0 rfl) ?_
          refine lv_iconst (v := 1) hx hb dMd_link_31 (by decide) ?_
          refine lv_icmp_ne (tgt := 48) hx hb dMd_link_32 rfl (fun hc => ?_) (fun hc => ?_)
          · replace h := it_f h hc
            exact wk_Md_link_48 ⟨hx, hb, hml, hown, hts, hr, hlocks, hK, hA, hD, hN, hal, hNx⟩ F out ih u3 x0 x2 x3 v3 h q0 _ _ _ (lv_sub hl [1, 3, 4, 0] rfl) hP hS
          · replace h := it_t h hc
            refine lv_aload_n hx hb dMd_link_35 rfl (lv_at hl 1 rfl) ?_
            obtain ⟨y4, hy5, h⟩ := bd1_some h
            obtain ⟨hy5a, hy5⟩ := rdR_some hy5
            refine x_get hx hb hts in_Md hown hK hP (hal _ (okk_al q0)) (okk_t q0) rfl rfl 12 (by decide) (hts _ tw_794) (fun _ h9 => h9) (congrArg some (x_rf hy5a)) dMd_link_36 ?_
            refine lv_iload_n hx hb dMd_link_39 rfl (lv_at hl 4 rfl) ?_
            obtain ⟨hi6, h⟩ := ck_some h
            refine x_iald hx hb hK hP (hal _ (okk_al hy5)) (okk_t hy5) 0 (fun _ _ _ => rfl) rfl (inb_in hi6) dMd_link_40 ?_
            refine lv_if_le (tgt := 48) hx hb dMd_link_41 rfl (fun hc => ?_) (fun hc => ?_)
            · replace h := it_t h hc
              exact wk_Md_link_48 ⟨hx, hb, hml, hown, hts, hr, hlocks, hK, hA, hD, hN, hal, hNx⟩ F out ih u3 x0 x2 x3 v3 h q0 _ _ _ (lv_sub hl [1, 3, 4, 0] rfl) hP hS
            · replace h := it_f h hc
              exact wk_Md_link_44 ⟨hx, hb, hml, hown, hts, hr, hlocks, hK, hA, hD, hN, hal, hNx⟩ F out ih u3 x0 x2 x3 v3 h q0 _ _ _ (lv_sub hl [1, 3, 4, 0] rfl) hP hS
def bk_Md_link_0 (F : Nat) (al : Nat → Bool) (u : Mr) (x0 : Nat) : Option (Mr × Int32) := bk_Md_link_6 F al F u x0 (0 : Int32) (0 : Int32) (0 : Int32)
set_option maxHeartbeats 4000000 in
set_option maxRecDepth 100000 in
theorem wk_Md_link_0 (cx : Cx p l e s m args below meth c cMd_link 5 bw "ImageForgeModel" (some .int) D cA ad L rs al A) (F : Nat) (out : Mr × Int32) : ∀ (u : Mr) (x0 : Nat), bk_Md_link_0 F al u x0 = some out → okk al 32 x0 = true → Wb p l e rm_Md_link s m args below meth c D cA ad L rs A (QI below args s D cA ad L rs A out) 5 0 [(0, .ref (ad x0))] [] u := by
  obtain ⟨hx, hb, hml, hown, hts, hr, hlocks, hK, hA, hD, hN, hal, hNx⟩ := cx
  intro u x0 h q0 H locs ls hl hP hS
  unfold bk_Md_link_0 at h
  refine lv_iconst (v := 0) hx hb dMd_link_0 (by decide) ?_
  refine lv_istore_n (lv' := [(1, .int (0 : Int32)), (0, .ref (ad x0))]) hx hb dMd_link_1 rfl hl (by decide) rfl (fun ls hl => ?_)
  refine lv_iconst (v := 0) hx hb dMd_link_2 (by decide) ?_
  refine lv_istore_n (lv' := [(2, .int (0 : Int32)), (1, .int (0 : Int32)), (0, .ref (ad x0))]) hx hb dMd_link_3 rfl hl (by decide) rfl (fun ls hl => ?_)
  refine lv_iconst (v := 0) hx hb dMd_link_4 (by decide) ?_
  refine lv_istore_n (lv' := [(3, .int (0 : Int32)), (2, .int (0 : Int32)), (1, .int (0 : Int32)), (0, .ref (ad x0))]) hx hb dMd_link_5 rfl hl (by decide) rfl (fun ls hl => ?_)
  exact wk_Md_link_6 ⟨hx, hb, hml, hown, hts, hr, hlocks, hK, hA, hD, hN, hal, hNx⟩ F out F u x0 (0 : Int32) (0 : Int32) (0 : Int32) h q0 _ _ _ (lv_sub hl [3, 2, 1, 0] rfl) hP hS
def fn_Md_link (F : Nat) (al : Nat → Bool) (u : Mr) (x0 : Nat) : Option (Mr × Int32) := bk_Md_link_0 F al u x0
set_option maxHeartbeats 4000000 in
set_option maxRecDepth 100000 in
theorem ct_Md_link {l : Launch} {D : va_G} {cA : Nat → ClassId} {ad : Nat → Nat} {L : List Nat} {rs : va_W} {al : Nat → Bool} (hal : ∀ k, al k = true → k ∈ L) (hN : L.Nodup) (F : Nat) (u : Mr) (x0 : Nat) (out : Mr × Int32) (h : fn_Md_link F al u x0 = some out) (q0 : okk al 32 x0 = true) : CtI l yMd_link wsMd_link rm_Md_link [.ref (ad x0)] D cA ad L rs u out := by
  intro sz
  refine Met.ofW (cc := cMd_link) (maxL := 5) (ret := (some .int)) (by decide) rfl ?_
  intro p e s m args below meth c s₁ B hml hv
  obtain ⟨rfl, hsz, hP, hK, hD0, hNx⟩ := hv
  subst hsz
  have hD := hD0.self (sz := s.heap.size)
  generalize hAe : va_A (ww ad cA L rs u) s.heap.size = A at hD ⊢
  have hA : ∀ q, s.heap.size ≤ q → A q := fun q h => by rw [← hAe]; exact Or.inr h
  have hl := lv_entry ([.ref (ad x0)]) (n := 5) (Nat.le_of_ble_eq_true rfl)
  rw [lg_entry_eq]
  generalize (lg_sl ([.ref (ad x0)]) ++ List.replicate (5 - (lg_sl ([.ref (ad x0)])).length) Slot.unset).toArray = ls at hl ⊢
  exact wk_Md_link_0 ⟨B.exec, B.bytes, hml, findClass_of_methodNamed B.named, hts_bw (atoms_spec (ws := wsMd_link) B.pre), B.returns, B.notSynchronized, hK, hA, fun v => ww_D hD, hN, hal, hNx⟩ F out u x0 h q0 _ _ _ (lv_sub hl [0] rfl) hP va_S.rf
abbrev rm_Md_image : Room := { frames := 1, cells := 0, slots := 0, locals := 22 }
def bk_Md_image_0 (F : Nat) (al : Nat → Bool) (u : Mr) (x0 : Nat) (x1 : Int32) : Option (Mr × Int32) := bd2 (fn_Md_out F al u x1 (u.1 x0 16)) fun u1 v1 => (bd2 (fn_Md_fails F al u1 x0 v1 (1 : Int32)) fun u2 v2 => (if v2 = 0 then (bd1 (rdR al u2 x0 17 41) fun y3 => (ck (inb x1 2048) (some (u2, u2.1 y3 x1)))) else (some (u2, (0 : Int32)))))
set_option maxHeartbeats 4000000 in
set_option maxRecDepth 100000 in
theorem wk_Md_image_0 (cx : Cx p l e s m args below meth c cMd_image 2 bw "ImageForgeModel" (some .int) D cA ad L rs al A) (F : Nat) (out : Mr × Int32) : ∀ (u : Mr) (x0 : Nat) (x1 : Int32), bk_Md_image_0 F al u x0 x1 = some out → okk al 32 x0 = true → Wb p l e rm_Md_image s m args below meth c D cA ad L rs A (QI below args s D cA ad L rs A out) 2 0 [(0, .ref (ad x0)), (1, .int x1)] [] u := by
  obtain ⟨hx, hb, hml, hown, hts, hr, hlocks, hK, hA, hD, hN, hal, hNx⟩ := cx
  intro u x0 x1 h q0 H locs ls hl hP hS
  unfold bk_Md_image_0 at h
  refine lv_aload_n hx hb dMd_image_0 rfl (lv_at hl 0 rfl) ?_
  refine lv_iload_n hx hb dMd_image_1 rfl (lv_at hl 1 rfl) ?_
  refine lv_aload_n hx hb dMd_image_2 rfl (lv_at hl 0 rfl) ?_
  refine x_get hx hb hts in_Md hown hK hP (hal _ (okk_al q0)) (okk_t q0) rfl rfl 16 (by decide) (hts _ tw_798) (fun _ h9 => h9) rfl dMd_image_3 ?_
  obtain ⟨u1, v1, hc1, h⟩ := bd2_some h
  refine x_ci (u := u) (out := (u1, v1)) hA hD hS (va_runS (As := [.int x1, .int (u.1 x0 16)]) (rest := [.ref (ad x0)]) ⟨hx, hb, hml, hown, hts⟩ (ct_Md_out hal hN F u x1 (u.1 x0 16) (u1, v1) hc1  _) ⟨callB_of 2 hts gdMd_out rfl rfl rfl (hts _ tw_11) (hts _ tw_887) hdMd_out ⟨Nat.le_of_ble_eq_true rfl, Nat.le_of_ble_eq_true rfl⟩, (hts _ tw_888)⟩ (x_preS hK hD hNx hP) rfl rfl hl.1 rfl (lv_room (Nat.le_of_ble_eq_true rfl)) dMd_image_6 ⟨Nat.zero_le _, Nat.zero_le _⟩) (fun H locs hP hS => ?_)
  refine lv_iconst (v := 1) hx hb dMd_image_9 (by decide) ?_
  obtain ⟨u2, v2, hc2, h⟩ := bd2_some h
  refine x_ci (u := u1) (out := (u2, v2)) hA hD hS (va_runV (As := [.int v1, .int (1 : Int32)]) (rest := []) ⟨hx, hb, hml, hown, hts⟩ (ct_Md_fails hal hN F u1 x0 v1 (1 : Int32) (u2, v2) hc2 q0 _) ⟨callB_of 2 hts gdMd_fails rfl rfl rfl (hts _ tw_11) (hts _ tw_890) hdMd_fails ⟨Nat.le_of_ble_eq_true rfl, Nat.le_of_ble_eq_true rfl⟩, (hts _ tw_892), (hts _ tp_52)⟩ (x_preV hK hD hNx hP (hal _ (okk_al q0)) (okk_t q0) rfl rfl) rfl rfl hl.1 rfl (lv_room (Nat.le_of_ble_eq_true rfl)) dMd_image_10 ⟨Nat.zero_le _, Nat.zero_le _⟩) (fun H locs hP hS => ?_)
  refine lv_if_eq (tgt := 20) hx hb dMd_image_13 rfl (fun hc => ?_) (fun hc => ?_)
  · replace h := it_t h hc
    refine lv_aload_n hx hb dMd_image_20 rfl (lv_at hl 0 rfl) ?_
    obtain ⟨y3, hy4, h⟩ := bd1_some h
    obtain ⟨hy4a, hy4⟩ := rdR_some hy4
    refine x_get hx hb hts in_Md hown hK hP (hal _ (okk_al q0)) (okk_t q0) rfl rfl 17 (by decide) (hts _ tw_799) (fun _ h9 => h9) (congrArg some (x_rf hy4a)) dMd_image_21 ?_
    refine lv_iload_n hx hb dMd_image_24 rfl (lv_at hl 1 rfl) ?_
    obtain ⟨hi5, h⟩ := ck_some h
    refine x_iald hx hb hK hP (hal _ (okk_al hy4)) (okk_t hy4) 0 (fun _ _ _ => rfl) rfl (inb_in hi5) dMd_image_25 ?_
    exact x_iret hx hb hr hlocks h hP hS dMd_image_26
  · replace h := it_f h hc
    refine lv_iconst (v := 0) hx hb dMd_image_16 (by decide) ?_
    refine lv_goto (tgt := 26) hx hb dMd_image_17 rfl ?_
    exact x_iret hx hb hr hlocks h hP hS dMd_image_26
def fn_Md_image (F : Nat) (al : Nat → Bool) (u : Mr) (x0 : Nat) (x1 : Int32) : Option (Mr × Int32) := bk_Md_image_0 F al u x0 x1
set_option maxHeartbeats 4000000 in
set_option maxRecDepth 100000 in
theorem ct_Md_image {l : Launch} {D : va_G} {cA : Nat → ClassId} {ad : Nat → Nat} {L : List Nat} {rs : va_W} {al : Nat → Bool} (hal : ∀ k, al k = true → k ∈ L) (hN : L.Nodup) (F : Nat) (u : Mr) (x0 : Nat) (x1 : Int32) (out : Mr × Int32) (h : fn_Md_image F al u x0 x1 = some out) (q0 : okk al 32 x0 = true) : CtI l yMd_image wsMd_image rm_Md_image [.ref (ad x0), .int x1] D cA ad L rs u out := by
  intro sz
  refine Met.ofW (cc := cMd_image) (maxL := 2) (ret := (some .int)) (by decide) rfl ?_
  intro p e s m args below meth c s₁ B hml hv
  obtain ⟨rfl, hsz, hP, hK, hD0, hNx⟩ := hv
  subst hsz
  have hD := hD0.self (sz := s.heap.size)
  generalize hAe : va_A (ww ad cA L rs u) s.heap.size = A at hD ⊢
  have hA : ∀ q, s.heap.size ≤ q → A q := fun q h => by rw [← hAe]; exact Or.inr h
  have hl := lv_entry ([.ref (ad x0), .int x1]) (n := 2) (Nat.le_of_ble_eq_true rfl)
  rw [lg_entry_eq]
  generalize (lg_sl ([.ref (ad x0), .int x1]) ++ List.replicate (2 - (lg_sl ([.ref (ad x0), .int x1])).length) Slot.unset).toArray = ls at hl ⊢
  exact wk_Md_image_0 ⟨B.exec, B.bytes, hml, findClass_of_methodNamed B.named, hts_bw (atoms_spec (ws := wsMd_image) B.pre), B.returns, B.notSynchronized, hK, hA, fun v => ww_D hD, hN, hal, hNx⟩ F out u x0 x1 h q0 _ _ _ (lv_sub hl [0, 1] rfl) hP va_S.rf
abbrev rm_Md_spoil : Room := { frames := 1, cells := 0, slots := 0, locals := 22 }
def bk_Md_spoil_0 (F : Nat) (al : Nat → Bool) (u : Mr) (x0 : Nat) (x1 : Int32) (x2 : Int32) : Option (Mr × Int32) := bd2 (fn_Md_out F al u x1 (u.1 x0 16)) fun u1 v1 => (bd2 (fn_Md_fails F al u1 x0 v1 (1 : Int32)) fun u2 v2 => (if v2 = 0 then (bd1 (rdR al u2 x0 17 41) fun y3 => (bd1 (rdR al u2 x0 17 41) fun y5 => (ck (inb x1 2048) (ck (inb x1 2048) (some (stI u2 y3 x1 ((u2.1 y5 x1) ^^^ (x2 &&& (255 : Int32))), 0)))))) else (some (u2, 0))))
set_option maxHeartbeats 4000000 in
set_option maxRecDepth 100000 in
theorem wk_Md_spoil_0 (cx : Cx p l e s m args below meth c cMd_spoil 3 bw "ImageForgeModel" none D cA ad L rs al A) (F : Nat) (out : Mr × Int32) : ∀ (u : Mr) (x0 : Nat) (x1 : Int32) (x2 : Int32), bk_Md_spoil_0 F al u x0 x1 x2 = some out → okk al 32 x0 = true → Wb p l e rm_Md_spoil s m args below meth c D cA ad L rs A (QV below args s D cA ad L rs A out) 3 0 [(0, .ref (ad x0)), (1, .int x1), (2, .int x2)] [] u := by
  obtain ⟨hx, hb, hml, hown, hts, hr, hlocks, hK, hA, hD, hN, hal, hNx⟩ := cx
  intro u x0 x1 x2 h q0 H locs ls hl hP hS
  unfold bk_Md_spoil_0 at h
  refine lv_aload_n hx hb dMd_spoil_0 rfl (lv_at hl 0 rfl) ?_
  refine lv_iload_n hx hb dMd_spoil_1 rfl (lv_at hl 1 rfl) ?_
  refine lv_aload_n hx hb dMd_spoil_2 rfl (lv_at hl 0 rfl) ?_
  refine x_get hx hb hts in_Md hown hK hP (hal _ (okk_al q0)) (okk_t q0) rfl rfl 16 (by decide) (hts _ tw_798) (fun _ h9 => h9) rfl dMd_spoil_3 ?_
  obtain ⟨u1, v1, hc1, h⟩ := bd2_some h
  refine x_ci (u := u) (out := (u1, v1)) hA hD hS (va_runS (As := [.int x1, .int (u.1 x0 16)]) (rest := [.ref (ad x0)]) ⟨hx, hb, hml, hown, hts⟩ (ct_Md_out hal hN F u x1 (u.1 x0 16) (u1, v1) hc1  _) ⟨callB_of 2 hts gdMd_out rfl rfl rfl (hts _ tw_11) (hts _ tw_887) hdMd_out ⟨Nat.le_of_ble_eq_true rfl, Nat.le_of_ble_eq_true rfl⟩, (hts _ tw_888)⟩ (x_preS hK hD hNx hP) rfl rfl hl.1 rfl (lv_room (Nat.le_of_ble_eq_true rfl)) dMd_spoil_6 ⟨Nat.zero_le _, Nat.zero_le _⟩) (fun H locs hP hS => ?_)
  refine lv_iconst (v := 1) hx hb dMd_spoil_9 (by decide) ?_
  obtain ⟨u2, v2, hc2, h⟩ := bd2_some h
  refine x_ci (u := u1) (out := (u2, v2)) hA hD hS (va_runV (As := [.int v1, .int (1 : Int32)]) (rest := []) ⟨hx, hb, hml, hown, hts⟩ (ct_Md_fails hal hN F u1 x0 v1 (1 : Int32) (u2, v2) hc2 q0 _) ⟨callB_of 2 hts gdMd_fails rfl rfl rfl (hts _ tw_11) (hts _ tw_890) hdMd_fails ⟨Nat.le_of_ble_eq_true rfl, Nat.le_of_ble_eq_true rfl⟩, (hts _ tw_892), (hts _ tp_52)⟩ (x_preV hK hD hNx hP (hal _ (okk_al q0)) (okk_t q0) rfl rfl) rfl rfl hl.1 rfl (lv_room (Nat.le_of_ble_eq_true rfl)) dMd_spoil_10 ⟨Nat.zero_le _, Nat.zero_le _⟩) (fun H locs hP hS => ?_)
  refine lv_if_eq (tgt := 17) hx hb dMd_spoil_13 rfl (fun hc => ?_) (fun hc => ?_)
  · replace h := it_t h hc
    refine lv_aload_n hx hb dMd_spoil_17 rfl (lv_at hl 0 rfl) ?_
    obtain ⟨y3, hy4, h⟩ := bd1_some h
    obtain ⟨hy4a, hy4⟩ := rdR_some hy4
    refine x_get hx hb hts in_Md hown hK hP (hal _ (okk_al q0)) (okk_t q0) rfl rfl 17 (by decide) (hts _ tw_799) (fun _ h9 => h9) (congrArg some (x_rf hy4a)) dMd_spoil_18 ?_
    refine lv_iload_n hx hb dMd_spoil_21 rfl (lv_at hl 1 rfl) ?_
    refine lv_aload_n hx hb dMd_spoil_22 rfl (lv_at hl 0 rfl) ?_
    obtain ⟨y5, hy6, h⟩ := bd1_some h
    obtain ⟨hy6a, hy6⟩ := rdR_some hy6
    refine x_get hx hb hts in_Md hown hK hP (hal _ (okk_al q0)) (okk_t q0) rfl rfl 17 (by decide) (hts _ tw_799) (fun _ h9 => h9) (congrArg some (x_rf hy6a)) dMd_spoil_23 ?_
    refine lv_iload_n hx hb dMd_spoil_26 rfl (lv_at hl 1 rfl) ?_
    obtain ⟨hi7, h⟩ := ck_some h
    refine x_iald hx hb hK hP (hal _ (okk_al hy6)) (okk_t hy6) 0 (fun _ _ _ => rfl) rfl (inb_in hi7) dMd_spoil_27 ?_
    refine lv_iload_n hx hb dMd_spoil_28 rfl (lv_at hl 2 rfl) ?_
    refine lv_sipush (v := 255) hx hb dMd_spoil_29 (by decide) ?_
    refine lv_iand hx hb dMd_spoil_32 ?_
    refine lv_ixor hx hb dMd_spoil_33 ?_
    obtain ⟨hi8, h⟩ := ck_some h
    refine x_iast hx hb hK hD hN hP hS (hal _ (okk_al hy4)) (okk_t hy4) 0 (fun _ _ _ => rfl) rfl (by decide) (inb_in hi8) dMd_spoil_34 (fun H locs hP hS => ?_)
    exact x_vret hx hb hr hlocks h hP hS dMd_spoil_35
  · replace h := it_f h hc
    exact x_vret hx hb hr hlocks h hP hS dMd_spoil_16
def fn_Md_spoil (F : Nat) (al : Nat → Bool) (u : Mr) (x0 : Nat) (x1 : Int32) (x2 : Int32) : Option (Mr × Int32) := bk_Md_spoil_0 F al u x0 x1 x2
set_option maxHeartbeats 4000000 in
set_option maxRecDepth 100000 in
theorem ct_Md_spoil {l : Launch} {D : va_G} {cA : Nat → ClassId} {ad : Nat → Nat} {L : List Nat} {rs : va_W} {al : Nat → Bool} (hal : ∀ k, al k = true → k ∈ L) (hN : L.Nodup) (F : Nat) (u : Mr) (x0 : Nat) (x1 : Int32) (x2 : Int32) (out : Mr × Int32) (h : fn_Md_spoil F al u x0 x1 x2 = some out) (q0 : okk al 32 x0 = true) : CtV l yMd_spoil wsMd_spoil rm_Md_spoil [.ref (ad x0), .int x1, .int x2] D cA ad L rs u out := by
  intro sz
  refine Met.ofW (cc := cMd_spoil) (maxL := 3) (ret := none) (by decide) rfl ?_
  intro p e s m args below meth c s₁ B hml hv
  obtain ⟨rfl, hsz, hP, hK, hD0, hNx⟩ := hv
  subst hsz
  have hD := hD0.self (sz := s.heap.size)
  generalize hAe : va_A (ww ad cA L rs u) s.heap.size = A at hD ⊢
  have hA : ∀ q, s.heap.size ≤ q → A q := fun q h => by rw [← hAe]; exact Or.inr h
  have hl := lv_entry ([.ref (ad x0), .int x1, .int x2]) (n := 3) (Nat.le_of_ble_eq_true rfl)
  rw [lg_entry_eq]
  generalize (lg_sl ([.ref (ad x0), .int x1, .int x2]) ++ List.replicate (3 - (lg_sl ([.ref (ad x0), .int x1, .int x2])).length) Slot.unset).toArray = ls at hl ⊢
  exact wk_Md_spoil_0 ⟨B.exec, B.bytes, hml, findClass_of_methodNamed B.named, hts_bw (atoms_spec (ws := wsMd_spoil) B.pre), B.returns, B.notSynchronized, hK, hA, fun v => ww_D hD, hN, hal, hNx⟩ F out u x0 x1 x2 h q0 _ _ _ (lv_sub hl [0, 1, 2] rfl) hP va_S.rf
abbrev rm_Md_seal : Room := { frames := 1, cells := 0, slots := 0, locals := 24 }
def bk_Md_seal_37 (F : Nat) (al : Nat → Bool) : Nat → Mr → Nat → Int32 → Int32 → Option (Mr × Int32)
  | 0, _, _, _, _ => none
  | n + 1, u, x0, x1, x2 => if (4 : Int32) ≤ x2 then (some (u, x1)) else (bd1 (rdR al u x0 17 41) fun y1 => (ck (inb ((20 : Int32) + x2) 2048) (bk_Md_seal_37 F al n (stI u y1 ((20 : Int32) + x2) ((x1 >>> (((8 : Int32) * x2) &&& 31)) &&& (255 : Int32))) x0 x1 (x2 + (1 : Int32)))))
set_option maxHeartbeats 4000000 in
set_option maxRecDepth 100000 in
theorem wk_Md_seal_37 (cx : Cx p l e s m args below meth c cMd_seal 3 bw "ImageForgeModel" (some .int) D cA ad L rs al A) (F : Nat) (out : Mr × Int32) : ∀ n : Nat, ∀ (u : Mr) (x0 : Nat) (x1 : Int32) (x2 : Int32), bk_Md_seal_37 F al n u x0 x1 x2 = some out → okk al 32 x0 = true → Wb p l e rm_Md_seal s m args below meth c D cA ad L rs A (QI below args s D cA ad L rs A out) 3 37 [(0, .ref (ad x0)), (1, .int x1), (2, .int x2)] [] u := by
  obtain ⟨hx, hb, hml, hown, hts, hr, hlocks, hK, hA, hD, hN, hal, hNx⟩ := cx
  intro n
  induction n with
  | zero =>
    intro u x0 x1 x2 h
    cases h
  | succ n ih =>
    intro u x0 x1 x2 h q0 H locs ls hl hP hS
    rw [bk_Md_seal_37] at h
    refine lv_iload_n hx hb dMd_seal_37 rfl (lv_at hl 2 rfl) ?_
    refine lv_iconst (v := 4) hx hb dMd_seal_38 (by decide) ?_
    refine lv_icmp_ge (tgt := 67) hx hb dMd_seal_39 rfl (fun hc => ?_) (fun hc => ?_)
    · replace h := it_t h hc
      refine lv_iload_n hx hb dMd_seal_67 rfl (lv_at hl 1 rfl) ?_
      exact x_iret hx hb hr hlocks h hP hS dMd_seal_68
    · replace h := it_f h hc
      refine lv_aload_n hx hb dMd_seal_42 rfl (lv_at hl 0 rfl) ?_
      obtain ⟨y1, hy2, h⟩ := bd1_some h
      obtain ⟨hy2a, hy2⟩ := rdR_some hy2
      refine x_get hx hb hts in_Md hown hK hP (hal _ (okk_al q0)) (okk_t q0) rfl rfl 17 (by decide) (hts _ tw_799) (fun _ h9 => h9) (congrArg some (x_rf hy2a)) dMd_seal_43 ?_
      refine lv_bipush (v := 20) hx hb dMd_seal_46 (by decide) ?_
      refine lv_iload_n hx hb dMd_seal_48 rfl (lv_at hl 2 rfl) ?_
      refine lv_iadd hx hb dMd_seal_49 ?_
      refine lv_iload_n hx hb dMd_seal_50 rfl (lv_at hl 1 rfl) ?_
      refine lv_bipush (v := 8) hx hb dMd_seal_51 (by decide) ?_
      refine lv_iload_n hx hb dMd_seal_53 rfl (lv_at hl 2 rfl) ?_
      refine lv_imul hx hb dMd_seal_54 ?_
      refine lv_ishr hx hb dMd_seal_55 ?_
      refine lv_sipush (v := 255) hx hb dMd_seal_56 (by decide) ?_
      refine lv_iand hx hb dMd_seal_59 ?_
      obtain ⟨hi3, h⟩ := ck_some h
      refine x_iast hx hb hK hD hN hP hS (hal _ (okk_al hy2)) (okk_t hy2) 0 (fun _ _ _ => rfl) rfl (by decide) (inb_in hi3) dMd_seal_60 (fun H locs hP hS => ?_)
      refine lv_iinc (k := 2) (v := x2 + (1 : Int32)) (lv' := [(2, .int (x2 + (1 : Int32))), (0, .ref (ad x0)), (1, .int x1)]) hx hb dMd_seal_61 hl rfl (congrArg (fun z => _ + z) (show Int32.ofInt 1 = 1 by decide)) (by decide) rfl (fun ls hl => ?_)
      refine lv_goto (tgt := 37) hx hb dMd_seal_64 rfl ?_
      exact ih (stI u y1 ((20 : Int32) + x2) ((x1 >>> (((8 : Int32) * x2) &&& 31)) &&& (255 : Int32))) x0 x1 (x2 + (1 : Int32)) h q0 _ _ _ (lv_sub hl [1, 2, 0] rfl) hP hS
def bk_Md_seal_13 (F : Nat) (al : Nat → Bool) (u : Mr) (s0 : Nat) (s1 : Int32) (x0 : Nat) : Option (Mr × Int32) := bd2 (fn_Md_fails F al u s0 s1 (1 : Int32)) fun u1 v1 => (if v1 = 0 then (bd1 (rdR al u1 x0 17 41) fun y2 => (bd2 (fn_Md_sumOf F al u1 x0 y2 (u1.1 x0 16)) fun u4 v4 => (bk_Md_seal_37 F al F u4 x0 v4 (0 : Int32)))) else (some (u1, (0 : Int32))))
set_option maxHeartbeats 4000000 in
set_option maxRecDepth 100000 in
theorem wk_Md_seal_13 (cx : Cx p l e s m args below meth c cMd_seal 3 bw "ImageForgeModel" (some .int) D cA ad L rs al A) (F : Nat) (out : Mr × Int32) : ∀ (u : Mr) (s0 : Nat) (s1 : Int32) (x0 : Nat), bk_Md_seal_13 F al u s0 s1 x0 = some out → okk al 32 x0 = true → okk al 32 s0 = true → Wb p l e rm_Md_seal s m args below meth c D cA ad L rs A (QI below args s D cA ad L rs A out) 3 13 [(0, .ref (ad x0))] [.int s1, .ref (ad s0)] u := by
  obtain ⟨hx, hb, hml, hown, hts, hr, hlocks, hK, hA, hD, hN, hal, hNx⟩ := cx
  intro u s0 s1 x0 h q0 qs0 H locs ls hl hP hS
  unfold bk_Md_seal_13 at h
  refine lv_iconst (v := 1) hx hb dMd_seal_13 (by decide) ?_
  obtain ⟨u1, v1, hc1, h⟩ := bd2_some h
  refine x_ci (u := u) (out := (u1, v1)) hA hD hS (va_runV (As := [.int s1, .int (1 : Int32)]) (rest := []) ⟨hx, hb, hml, hown, hts⟩ (ct_Md_fails hal hN F u s0 s1 (1 : Int32) (u1, v1) hc1 qs0 _) ⟨callB_of 2 hts gdMd_fails rfl rfl rfl (hts _ tw_11) (hts _ tw_890) hdMd_fails ⟨Nat.le_of_ble_eq_true rfl, Nat.le_of_ble_eq_true rfl⟩, (hts _ tw_892), (hts _ tp_52)⟩ (x_preV hK hD hNx hP (hal _ (okk_al qs0)) (okk_t qs0) rfl rfl) rfl rfl hl.1 rfl (lv_room (Nat.le_of_ble_eq_true rfl)) dMd_seal_14 ⟨Nat.zero_le _, Nat.zero_le _⟩) (fun H locs hP hS => ?_)
  refine lv_if_eq (tgt := 22) hx hb dMd_seal_17 rfl (fun hc => ?_) (fun hc => ?_)
  · replace h := it_t h hc
    refine lv_aload_n hx hb dMd_seal_22 rfl (lv_at hl 0 rfl) ?_
    refine lv_aload_n hx hb dMd_seal_23 rfl (lv_at hl 0 rfl) ?_
    obtain ⟨y2, hy3, h⟩ := bd1_some h
    obtain ⟨hy3a, hy3⟩ := rdR_some hy3
    refine x_get hx hb hts in_Md hown hK hP (hal _ (okk_al q0)) (okk_t q0) rfl rfl 17 (by decide) (hts _ tw_799) (fun _ h9 => h9) (congrArg some (x_rf hy3a)) dMd_seal_24 ?_
    refine lv_aload_n hx hb dMd_seal_27 rfl (lv_at hl 0 rfl) ?_
    refine x_get hx hb hts in_Md hown hK hP (hal _ (okk_al q0)) (okk_t q0) rfl rfl 16 (by decide) (hts _ tw_798) (fun _ h9 => h9) rfl dMd_seal_28 ?_
    obtain ⟨u4, v4, hc4, h⟩ := bd2_some h
    refine x_ci (u := u1) (out := (u4, v4)) hA hD hS (va_runV (As := [.ref (ad y2), .int (u1.1 x0 16)]) (rest := []) ⟨hx, hb, hml, hown, hts⟩ (ct_Md_sumOf hal hN F u1 x0 y2 (u1.1 x0 16) (u4, v4) hc4 q0 hy3 _) ⟨callB_of 2 hts gdMd_sumOf rfl rfl rfl (hts _ tw_11) (hts _ tw_990) hdMd_sumOf ⟨Nat.le_of_ble_eq_true rfl, Nat.le_of_ble_eq_true rfl⟩, (hts _ tw_992), (hts _ tp_69)⟩ (x_preV hK hD hNx hP (hal _ (okk_al q0)) (okk_t q0) rfl rfl) rfl rfl hl.1 rfl (lv_room (Nat.le_of_ble_eq_true rfl)) dMd_seal_31 ⟨Nat.zero_le _, Nat.zero_le _⟩) (fun H locs hP hS => ?_)
    refine lv_istore_n (lv' := [(1, .int v4), (0, .ref (ad x0))]) hx hb dMd_seal_34 rfl hl (by decide) rfl (fun ls hl => ?_)
    refine lv_iconst (v := 0) hx hb dMd_seal_35 (by decide) ?_
    refine lv_istore_n (lv' := [(2, .int (0 : Int32)), (1, .int v4), (0, .ref (ad x0))]) hx hb dMd_seal_36 rfl hl (by decide) rfl (fun ls hl => ?_)
    exact wk_Md_seal_37 ⟨hx, hb, hml, hown, hts, hr, hlocks, hK, hA, hD, hN, hal, hNx⟩ F out F u4 x0 v4 (0 : Int32) h q0 _ _ _ (lv_sub hl [2, 1, 0] rfl) hP hS
  · replace h := it_f h hc
    refine lv_iconst (v := 0) hx hb dMd_seal_20 (by decide) ?_
    exact x_iret hx hb hr hlocks h hP hS dMd_seal_21
def bk_Md_seal_0 (F : Nat) (al : Nat → Bool) (u : Mr) (x0 : Nat) : Option (Mr × Int32) := if (u.1 x0 16) = 0 then (bk_Md_seal_13 F al u x0 (1 : Int32) x0) else (bk_Md_seal_13 F al u x0 (0 : Int32) x0)
set_option maxHeartbeats 4000000 in
set_option maxRecDepth 100000 in
theorem wk_Md_seal_0 (cx : Cx p l e s m args below meth c cMd_seal 3 bw "ImageForgeModel" (some .int) D cA ad L rs al A) (F : Nat) (out : Mr × Int32) : ∀ (u : Mr) (x0 : Nat), bk_Md_seal_0 F al u x0 = some out → okk al 32 x0 = true → Wb p l e rm_Md_seal s m args below meth c D cA ad L rs A (QI below args s D cA ad L rs A out) 3 0 [(0, .ref (ad x0))] [] u := by
  obtain ⟨hx, hb, hml, hown, hts, hr, hlocks, hK, hA, hD, hN, hal, hNx⟩ := cx
  intro u x0 h q0 H locs ls hl hP hS
  unfold bk_Md_seal_0 at h
  refine lv_aload_n hx hb dMd_seal_0 rfl (lv_at hl 0 rfl) ?_
  refine lv_aload_n hx hb dMd_seal_1 rfl (lv_at hl 0 rfl) ?_
  refine x_get hx hb hts in_Md hown hK hP (hal _ (okk_al q0)) (okk_t q0) rfl rfl 16 (by decide) (hts _ tw_798) (fun _ h9 => h9) rfl dMd_seal_2 ?_
  refine lv_if_ne (tgt := 12) hx hb dMd_seal_5 rfl (fun hc => ?_) (fun hc => ?_)
  · replace h := it_f h hc
    refine lv_iconst (v := 0) hx hb dMd_seal_12 (by decide) ?_
    exact wk_Md_seal_13 ⟨hx, hb, hml, hown, hts, hr, hlocks, hK, hA, hD, hN, hal, hNx⟩ F out u x0 (0 : Int32) x0 h q0 q0 _ _ _ (lv_sub hl [0] rfl) hP hS
  · replace h := it_t h hc
    refine lv_iconst (v := 1) hx hb dMd_seal_8 (by decide) ?_
    refine lv_goto (tgt := 13) hx hb dMd_seal_9 rfl ?_
    exact wk_Md_seal_13 ⟨hx, hb, hml, hown, hts, hr, hlocks, hK, hA, hD, hN, hal, hNx⟩ F out u x0 (1 : Int32) x0 h q0 q0 _ _ _ (lv_sub hl [0] rfl) hP hS
def fn_Md_seal (F : Nat) (al : Nat → Bool) (u : Mr) (x0 : Nat) : Option (Mr × Int32) := bk_Md_seal_0 F al u x0
set_option maxHeartbeats 4000000 in
set_option maxRecDepth 100000 in
theorem ct_Md_seal {l : Launch} {D : va_G} {cA : Nat → ClassId} {ad : Nat → Nat} {L : List Nat} {rs : va_W} {al : Nat → Bool} (hal : ∀ k, al k = true → k ∈ L) (hN : L.Nodup) (F : Nat) (u : Mr) (x0 : Nat) (out : Mr × Int32) (h : fn_Md_seal F al u x0 = some out) (q0 : okk al 32 x0 = true) : CtI l yMd_seal wsMd_seal rm_Md_seal [.ref (ad x0)] D cA ad L rs u out := by
  intro sz
  refine Met.ofW (cc := cMd_seal) (maxL := 3) (ret := (some .int)) (by decide) rfl ?_
  intro p e s m args below meth c s₁ B hml hv
  obtain ⟨rfl, hsz, hP, hK, hD0, hNx⟩ := hv
  subst hsz
  have hD := hD0.self (sz := s.heap.size)
  generalize hAe : va_A (ww ad cA L rs u) s.heap.size = A at hD ⊢
  have hA : ∀ q, s.heap.size ≤ q → A q := fun q h => by rw [← hAe]; exact Or.inr h
  have hl := lv_entry ([.ref (ad x0)]) (n := 3) (Nat.le_of_ble_eq_true rfl)
  rw [lg_entry_eq]
  generalize (lg_sl ([.ref (ad x0)]) ++ List.replicate (3 - (lg_sl ([.ref (ad x0)])).length) Slot.unset).toArray = ls at hl ⊢
  exact wk_Md_seal_0 ⟨B.exec, B.bytes, hml, findClass_of_methodNamed B.named, hts_bw (atoms_spec (ws := wsMd_seal) B.pre), B.returns, B.notSynchronized, hK, hA, fun v => ww_D hD, hN, hal, hNx⟩ F out u x0 h q0 _ _ _ (lv_sub hl [0] rfl) hP va_S.rf
end

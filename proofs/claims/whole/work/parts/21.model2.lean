abbrev yMd_word : MethodName := ⟨"ImageForgeModel", "word", "(II)V"⟩
abbrev cMd_word : ByteArray := prog_10_method_14_code
abbrev wsMd_word : List Cond := .code yMd_word cMd_word 4 none :: bw
theorem gdMd_word : GoodIn bw wsMd_word := gd_of tw_961
theorem hdMd_word : yMd_word.cls ≠ "java/lang/invoke/MethodHandle" ∧ yMd_word.cls ≠ "java/lang/invoke/VarHandle" ∧ (parseMethodDescriptor yMd_word.desc).map (fun d => d.parameters.length) = some 2 := by decide +kernel
theorem dMd_word_0 : decode cMd_word 0 = .ok (.iconst 0, 1) := by decide +kernel
theorem dMd_word_1 : decode cMd_word 1 = .ok (.istore_n 3, 1) := by decide +kernel
theorem dMd_word_2 : decode cMd_word 2 = .ok (.iload_n 3, 1) := by decide +kernel
theorem dMd_word_3 : decode cMd_word 3 = .ok (.iconst 4, 1) := by decide +kernel
theorem dMd_word_4 : decode cMd_word 4 = .ok (.if_icmp .ge 27, 3) := by decide +kernel
theorem dMd_word_7 : decode cMd_word 7 = .ok (.aload_n 0, 1) := by decide +kernel
theorem dMd_word_8 : decode cMd_word 8 = .ok (.getfield 59, 3) := by decide +kernel
theorem dMd_word_11 : decode cMd_word 11 = .ok (.iload_n 1, 1) := by decide +kernel
theorem dMd_word_12 : decode cMd_word 12 = .ok (.iload_n 3, 1) := by decide +kernel
theorem dMd_word_13 : decode cMd_word 13 = .ok (.iadd, 1) := by decide +kernel
theorem dMd_word_14 : decode cMd_word 14 = .ok (.iload_n 2, 1) := by decide +kernel
theorem dMd_word_15 : decode cMd_word 15 = .ok (.bipush 8, 2) := by decide +kernel
theorem dMd_word_17 : decode cMd_word 17 = .ok (.iload_n 3, 1) := by decide +kernel
theorem dMd_word_18 : decode cMd_word 18 = .ok (.imul, 1) := by decide +kernel
theorem dMd_word_19 : decode cMd_word 19 = .ok (.ishr, 1) := by decide +kernel
theorem dMd_word_20 : decode cMd_word 20 = .ok (.sipush 255, 3) := by decide +kernel
theorem dMd_word_23 : decode cMd_word 23 = .ok (.iand, 1) := by decide +kernel
theorem dMd_word_24 : decode cMd_word 24 = .ok (.iastore, 1) := by decide +kernel
theorem dMd_word_25 : decode cMd_word 25 = .ok (.iinc 3 1, 3) := by decide +kernel
theorem dMd_word_28 : decode cMd_word 28 = .ok (.goto (-26), 3) := by decide +kernel
theorem dMd_word_31 : decode cMd_word 31 = .ok (.return_, 1) := by decide +kernel
abbrev yMd_wordIn : MethodName := ⟨"ImageForgeModel", "wordIn", "([II)I"⟩
abbrev cMd_wordIn : ByteArray := prog_10_method_15_code
abbrev wsMd_wordIn : List Cond := .code yMd_wordIn cMd_wordIn 2 (some .int) :: bw
theorem gdMd_wordIn : GoodIn bw wsMd_wordIn := gd_of tw_985
theorem hdMd_wordIn : yMd_wordIn.cls ≠ "java/lang/invoke/MethodHandle" ∧ yMd_wordIn.cls ≠ "java/lang/invoke/VarHandle" ∧ (parseMethodDescriptor yMd_wordIn.desc).map (fun d => d.parameters.length) = some 2 := by decide +kernel
theorem dMd_wordIn_0 : decode cMd_wordIn 0 = .ok (.aload_n 0, 1) := by decide +kernel
theorem dMd_wordIn_1 : decode cMd_wordIn 1 = .ok (.iload_n 1, 1) := by decide +kernel
theorem dMd_wordIn_2 : decode cMd_wordIn 2 = .ok (.iaload, 1) := by decide +kernel
theorem dMd_wordIn_3 : decode cMd_wordIn 3 = .ok (.aload_n 0, 1) := by decide +kernel
theorem dMd_wordIn_4 : decode cMd_wordIn 4 = .ok (.iload_n 1, 1) := by decide +kernel
theorem dMd_wordIn_5 : decode cMd_wordIn 5 = .ok (.iconst 1, 1) := by decide +kernel
theorem dMd_wordIn_6 : decode cMd_wordIn 6 = .ok (.iadd, 1) := by decide +kernel
theorem dMd_wordIn_7 : decode cMd_wordIn 7 = .ok (.iaload, 1) := by decide +kernel
theorem dMd_wordIn_8 : decode cMd_wordIn 8 = .ok (.bipush 8, 2) := by decide +kernel
theorem dMd_wordIn_10 : decode cMd_wordIn 10 = .ok (.ishl, 1) := by decide +kernel
theorem dMd_wordIn_11 : decode cMd_wordIn 11 = .ok (.ior, 1) := by decide +kernel
theorem dMd_wordIn_12 : decode cMd_wordIn 12 = .ok (.aload_n 0, 1) := by decide +kernel
theorem dMd_wordIn_13 : decode cMd_wordIn 13 = .ok (.iload_n 1, 1) := by decide +kernel
theorem dMd_wordIn_14 : decode cMd_wordIn 14 = .ok (.iconst 2, 1) := by decide +kernel
theorem dMd_wordIn_15 : decode cMd_wordIn 15 = .ok (.iadd, 1) := by decide +kernel
theorem dMd_wordIn_16 : decode cMd_wordIn 16 = .ok (.iaload, 1) := by decide +kernel
theorem dMd_wordIn_17 : decode cMd_wordIn 17 = .ok (.bipush 16, 2) := by decide +kernel
theorem dMd_wordIn_19 : decode cMd_wordIn 19 = .ok (.ishl, 1) := by decide +kernel
theorem dMd_wordIn_20 : decode cMd_wordIn 20 = .ok (.ior, 1) := by decide +kernel
theorem dMd_wordIn_21 : decode cMd_wordIn 21 = .ok (.aload_n 0, 1) := by decide +kernel
theorem dMd_wordIn_22 : decode cMd_wordIn 22 = .ok (.iload_n 1, 1) := by decide +kernel
theorem dMd_wordIn_23 : decode cMd_wordIn 23 = .ok (.iconst 3, 1) := by decide +kernel
theorem dMd_wordIn_24 : decode cMd_wordIn 24 = .ok (.iadd, 1) := by decide +kernel
theorem dMd_wordIn_25 : decode cMd_wordIn 25 = .ok (.iaload, 1) := by decide +kernel
theorem dMd_wordIn_26 : decode cMd_wordIn 26 = .ok (.bipush 24, 2) := by decide +kernel
theorem dMd_wordIn_28 : decode cMd_wordIn 28 = .ok (.ishl, 1) := by decide +kernel
theorem dMd_wordIn_29 : decode cMd_wordIn 29 = .ok (.ior, 1) := by decide +kernel
theorem dMd_wordIn_30 : decode cMd_wordIn 30 = .ok (.ireturn, 1) := by decide +kernel
abbrev yMd_add : MethodName := ⟨"ImageForgeModel", "add", "(I)V"⟩
abbrev cMd_add : ByteArray := prog_10_method_16_code
abbrev wsMd_add : List Cond := .code yMd_add cMd_add 2 none :: bw
theorem gdMd_add : GoodIn bw wsMd_add := gd_of tw_957
theorem hdMd_add : yMd_add.cls ≠ "java/lang/invoke/MethodHandle" ∧ yMd_add.cls ≠ "java/lang/invoke/VarHandle" ∧ (parseMethodDescriptor yMd_add.desc).map (fun d => d.parameters.length) = some 1 := by decide +kernel
theorem dMd_add_0 : decode cMd_add 0 = .ok (.aload_n 0, 1) := by decide +kernel
theorem dMd_add_1 : decode cMd_add 1 = .ok (.aload_n 0, 1) := by decide +kernel
theorem dMd_add_2 : decode cMd_add 2 = .ok (.getfield 98, 3) := by decide +kernel
theorem dMd_add_5 : decode cMd_add 5 = .ok (.iload_n 1, 1) := by decide +kernel
theorem dMd_add_6 : decode cMd_add 6 = .ok (.invokevirtual 101, 3) := by decide +kernel
theorem dMd_add_9 : decode cMd_add 9 = .ok (.aload_n 0, 1) := by decide +kernel
theorem dMd_add_10 : decode cMd_add 10 = .ok (.dup, 1) := by decide +kernel
theorem dMd_add_11 : decode cMd_add 11 = .ok (.getfield 98, 3) := by decide +kernel
theorem dMd_add_14 : decode cMd_add 14 = .ok (.iconst 4, 1) := by decide +kernel
theorem dMd_add_15 : decode cMd_add 15 = .ok (.iadd, 1) := by decide +kernel
theorem dMd_add_16 : decode cMd_add 16 = .ok (.putfield 98, 3) := by decide +kernel
theorem dMd_add_19 : decode cMd_add 19 = .ok (.return_, 1) := by decide +kernel
abbrev yMd_addPair : MethodName := ⟨"ImageForgeModel", "addPair", "(I)V"⟩
abbrev cMd_addPair : ByteArray := prog_10_method_17_code
abbrev wsMd_addPair : List Cond := .code yMd_addPair cMd_addPair 2 none :: bw
theorem gdMd_addPair : GoodIn bw wsMd_addPair := gd_of tw_978
theorem hdMd_addPair : yMd_addPair.cls ≠ "java/lang/invoke/MethodHandle" ∧ yMd_addPair.cls ≠ "java/lang/invoke/VarHandle" ∧ (parseMethodDescriptor yMd_addPair.desc).map (fun d => d.parameters.length) = some 1 := by decide +kernel
theorem dMd_addPair_0 : decode cMd_addPair 0 = .ok (.aload_n 0, 1) := by decide +kernel
theorem dMd_addPair_1 : decode cMd_addPair 1 = .ok (.getfield 59, 3) := by decide +kernel
theorem dMd_addPair_4 : decode cMd_addPair 4 = .ok (.aload_n 0, 1) := by decide +kernel
theorem dMd_addPair_5 : decode cMd_addPair 5 = .ok (.getfield 98, 3) := by decide +kernel
theorem dMd_addPair_8 : decode cMd_addPair 8 = .ok (.iload_n 1, 1) := by decide +kernel
theorem dMd_addPair_9 : decode cMd_addPair 9 = .ok (.sipush 255, 3) := by decide +kernel
theorem dMd_addPair_12 : decode cMd_addPair 12 = .ok (.iand, 1) := by decide +kernel
theorem dMd_addPair_13 : decode cMd_addPair 13 = .ok (.iastore, 1) := by decide +kernel
theorem dMd_addPair_14 : decode cMd_addPair 14 = .ok (.aload_n 0, 1) := by decide +kernel
theorem dMd_addPair_15 : decode cMd_addPair 15 = .ok (.getfield 59, 3) := by decide +kernel
theorem dMd_addPair_18 : decode cMd_addPair 18 = .ok (.aload_n 0, 1) := by decide +kernel
theorem dMd_addPair_19 : decode cMd_addPair 19 = .ok (.getfield 98, 3) := by decide +kernel
theorem dMd_addPair_22 : decode cMd_addPair 22 = .ok (.iconst 1, 1) := by decide +kernel
theorem dMd_addPair_23 : decode cMd_addPair 23 = .ok (.iadd, 1) := by decide +kernel
theorem dMd_addPair_24 : decode cMd_addPair 24 = .ok (.iload_n 1, 1) := by decide +kernel
theorem dMd_addPair_25 : decode cMd_addPair 25 = .ok (.bipush 8, 2) := by decide +kernel
theorem dMd_addPair_27 : decode cMd_addPair 27 = .ok (.ishr, 1) := by decide +kernel
theorem dMd_addPair_28 : decode cMd_addPair 28 = .ok (.sipush 255, 3) := by decide +kernel
theorem dMd_addPair_31 : decode cMd_addPair 31 = .ok (.iand, 1) := by decide +kernel
theorem dMd_addPair_32 : decode cMd_addPair 32 = .ok (.iastore, 1) := by decide +kernel
theorem dMd_addPair_33 : decode cMd_addPair 33 = .ok (.aload_n 0, 1) := by decide +kernel
theorem dMd_addPair_34 : decode cMd_addPair 34 = .ok (.dup, 1) := by decide +kernel
theorem dMd_addPair_35 : decode cMd_addPair 35 = .ok (.getfield 98, 3) := by decide +kernel
theorem dMd_addPair_38 : decode cMd_addPair 38 = .ok (.iconst 2, 1) := by decide +kernel
theorem dMd_addPair_39 : decode cMd_addPair 39 = .ok (.iadd, 1) := by decide +kernel
theorem dMd_addPair_40 : decode cMd_addPair 40 = .ok (.putfield 98, 3) := by decide +kernel
theorem dMd_addPair_43 : decode cMd_addPair 43 = .ok (.return_, 1) := by decide +kernel
abbrev yMd_up : MethodName := ⟨"ImageForgeModel", "up", "(II)I"⟩
abbrev cMd_up : ByteArray := prog_10_method_18_code
abbrev wsMd_up : List Cond := .code yMd_up cMd_up 2 (some .int) :: bw
theorem gdMd_up : GoodIn bw wsMd_up := gd_of tw_941
theorem hdMd_up : yMd_up.cls ≠ "java/lang/invoke/MethodHandle" ∧ yMd_up.cls ≠ "java/lang/invoke/VarHandle" ∧ (parseMethodDescriptor yMd_up.desc).map (fun d => d.parameters.length) = some 2 := by decide +kernel
theorem dMd_up_0 : decode cMd_up 0 = .ok (.iload_n 0, 1) := by decide +kernel
theorem dMd_up_1 : decode cMd_up 1 = .ok (.iload_n 1, 1) := by decide +kernel
theorem dMd_up_2 : decode cMd_up 2 = .ok (.iadd, 1) := by decide +kernel
theorem dMd_up_3 : decode cMd_up 3 = .ok (.iconst 1, 1) := by decide +kernel
theorem dMd_up_4 : decode cMd_up 4 = .ok (.isub, 1) := by decide +kernel
theorem dMd_up_5 : decode cMd_up 5 = .ok (.iload_n 1, 1) := by decide +kernel
theorem dMd_up_6 : decode cMd_up 6 = .ok (.idiv, 1) := by decide +kernel
theorem dMd_up_7 : decode cMd_up 7 = .ok (.iload_n 1, 1) := by decide +kernel
theorem dMd_up_8 : decode cMd_up 8 = .ok (.imul, 1) := by decide +kernel
theorem dMd_up_9 : decode cMd_up 9 = .ok (.ireturn, 1) := by decide +kernel
abbrev yMd_begin : MethodName := ⟨"ImageForgeModel", "begin", "(I)V"⟩
abbrev cMd_begin : ByteArray := prog_10_method_19_code
abbrev wsMd_begin : List Cond := .code yMd_begin cMd_begin 2 none :: bw
theorem gdMd_begin : GoodIn bw wsMd_begin := gd_of tw_938
theorem hdMd_begin : yMd_begin.cls ≠ "java/lang/invoke/MethodHandle" ∧ yMd_begin.cls ≠ "java/lang/invoke/VarHandle" ∧ (parseMethodDescriptor yMd_begin.desc).map (fun d => d.parameters.length) = some 1 := by decide +kernel
theorem dMd_begin_0 : decode cMd_begin 0 = .ok (.aload_n 0, 1) := by decide +kernel
theorem dMd_begin_1 : decode cMd_begin 1 = .ok (.aload_n 0, 1) := by decide +kernel
theorem dMd_begin_2 : decode cMd_begin 2 = .ok (.getfield 98, 3) := by decide +kernel
theorem dMd_begin_5 : decode cMd_begin 5 = .ok (.bipush 64, 2) := by decide +kernel
theorem dMd_begin_7 : decode cMd_begin 7 = .ok (.invokestatic 105, 3) := by decide +kernel
theorem dMd_begin_10 : decode cMd_begin 10 = .ok (.putfield 98, 3) := by decide +kernel
theorem dMd_begin_13 : decode cMd_begin 13 = .ok (.aload_n 0, 1) := by decide +kernel
theorem dMd_begin_14 : decode cMd_begin 14 = .ok (.getfield 62, 3) := by decide +kernel
theorem dMd_begin_17 : decode cMd_begin 17 = .ok (.iload_n 1, 1) := by decide +kernel
theorem dMd_begin_18 : decode cMd_begin 18 = .ok (.aload_n 0, 1) := by decide +kernel
theorem dMd_begin_19 : decode cMd_begin 19 = .ok (.getfield 98, 3) := by decide +kernel
theorem dMd_begin_22 : decode cMd_begin 22 = .ok (.iastore, 1) := by decide +kernel
theorem dMd_begin_23 : decode cMd_begin 23 = .ok (.return_, 1) := by decide +kernel
abbrev yMd_layParts : MethodName := ⟨"ImageForgeModel", "layParts", "(I)V"⟩
abbrev cMd_layParts : ByteArray := prog_10_method_20_code
abbrev wsMd_layParts : List Cond := .code yMd_layParts cMd_layParts 6 none :: bw
theorem gdMd_layParts : GoodIn bw wsMd_layParts := gd_of tw_934
theorem hdMd_layParts : yMd_layParts.cls ≠ "java/lang/invoke/MethodHandle" ∧ yMd_layParts.cls ≠ "java/lang/invoke/VarHandle" ∧ (parseMethodDescriptor yMd_layParts.desc).map (fun d => d.parameters.length) = some 1 := by decide +kernel
theorem dMd_layParts_0 : decode cMd_layParts 0 = .ok (.aload_n 0, 1) := by decide +kernel
theorem dMd_layParts_1 : decode cMd_layParts 1 = .ok (.iload_n 1, 1) := by decide +kernel
theorem dMd_layParts_2 : decode cMd_layParts 2 = .ok (.invokevirtual 109, 3) := by decide +kernel
theorem dMd_layParts_5 : decode cMd_layParts 5 = .ok (.aload_n 0, 1) := by decide +kernel
theorem dMd_layParts_6 : decode cMd_layParts 6 = .ok (.getfield 98, 3) := by decide +kernel
theorem dMd_layParts_9 : decode cMd_layParts 9 = .ok (.istore_n 2, 1) := by decide +kernel
theorem dMd_layParts_10 : decode cMd_layParts 10 = .ok (.iconst 0, 1) := by decide +kernel
theorem dMd_layParts_11 : decode cMd_layParts 11 = .ok (.istore_n 3, 1) := by decide +kernel
theorem dMd_layParts_12 : decode cMd_layParts 12 = .ok (.iload_n 3, 1) := by decide +kernel
theorem dMd_layParts_13 : decode cMd_layParts 13 = .ok (.iconst 4, 1) := by decide +kernel
theorem dMd_layParts_14 : decode cMd_layParts 14 = .ok (.if_icmp .ge 98, 3) := by decide +kernel
theorem dMd_layParts_17 : decode cMd_layParts 17 = .ok (.iconst 2, 1) := by decide +kernel
theorem dMd_layParts_18 : decode cMd_layParts 18 = .ok (.iload_n 3, 1) := by decide +kernel
theorem dMd_layParts_19 : decode cMd_layParts 19 = .ok (.imul, 1) := by decide +kernel
theorem dMd_layParts_20 : decode cMd_layParts 20 = .ok (.iload_n 1, 1) := by decide +kernel
theorem dMd_layParts_21 : decode cMd_layParts 21 = .ok (.iadd, 1) := by decide +kernel
theorem dMd_layParts_22 : decode cMd_layParts 22 = .ok (.istore 4, 2) := by decide +kernel
theorem dMd_layParts_24 : decode cMd_layParts 24 = .ok (.iload_n 2, 1) := by decide +kernel
theorem dMd_layParts_25 : decode cMd_layParts 25 = .ok (.iconst 4, 1) := by decide +kernel
theorem dMd_layParts_26 : decode cMd_layParts 26 = .ok (.invokestatic 105, 3) := by decide +kernel
theorem dMd_layParts_29 : decode cMd_layParts 29 = .ok (.istore_n 2, 1) := by decide +kernel
theorem dMd_layParts_30 : decode cMd_layParts 30 = .ok (.aload_n 0, 1) := by decide +kernel
theorem dMd_layParts_31 : decode cMd_layParts 31 = .ok (.getfield 68, 3) := by decide +kernel
theorem dMd_layParts_34 : decode cMd_layParts 34 = .ok (.iload 4, 2) := by decide +kernel
theorem dMd_layParts_36 : decode cMd_layParts 36 = .ok (.iload_n 2, 1) := by decide +kernel
theorem dMd_layParts_37 : decode cMd_layParts 37 = .ok (.iastore, 1) := by decide +kernel
theorem dMd_layParts_38 : decode cMd_layParts 38 = .ok (.iconst 0, 1) := by decide +kernel
theorem dMd_layParts_39 : decode cMd_layParts 39 = .ok (.istore 5, 2) := by decide +kernel
theorem dMd_layParts_41 : decode cMd_layParts 41 = .ok (.iload 5, 2) := by decide +kernel
theorem dMd_layParts_43 : decode cMd_layParts 43 = .ok (.aload_n 0, 1) := by decide +kernel
theorem dMd_layParts_44 : decode cMd_layParts 44 = .ok (.getfield 7, 3) := by decide +kernel
theorem dMd_layParts_47 : decode cMd_layParts 47 = .ok (.iload 4, 2) := by decide +kernel
theorem dMd_layParts_49 : decode cMd_layParts 49 = .ok (.iaload, 1) := by decide +kernel
theorem dMd_layParts_50 : decode cMd_layParts 50 = .ok (.if_icmp .ge 31, 3) := by decide +kernel
theorem dMd_layParts_53 : decode cMd_layParts 53 = .ok (.aload_n 0, 1) := by decide +kernel
theorem dMd_layParts_54 : decode cMd_layParts 54 = .ok (.getfield 59, 3) := by decide +kernel
theorem dMd_layParts_57 : decode cMd_layParts 57 = .ok (.iload_n 2, 1) := by decide +kernel
theorem dMd_layParts_58 : decode cMd_layParts 58 = .ok (.iload 5, 2) := by decide +kernel
theorem dMd_layParts_60 : decode cMd_layParts 60 = .ok (.iadd, 1) := by decide +kernel
theorem dMd_layParts_61 : decode cMd_layParts 61 = .ok (.aload_n 0, 1) := by decide +kernel
theorem dMd_layParts_62 : decode cMd_layParts 62 = .ok (.getfield 13, 3) := by decide +kernel
theorem dMd_layParts_65 : decode cMd_layParts 65 = .ok (.bipush 40, 2) := by decide +kernel
theorem dMd_layParts_67 : decode cMd_layParts 67 = .ok (.iload 4, 2) := by decide +kernel
theorem dMd_layParts_69 : decode cMd_layParts 69 = .ok (.imul, 1) := by decide +kernel
theorem dMd_layParts_70 : decode cMd_layParts 70 = .ok (.iload 5, 2) := by decide +kernel
theorem dMd_layParts_72 : decode cMd_layParts 72 = .ok (.iadd, 1) := by decide +kernel
theorem dMd_layParts_73 : decode cMd_layParts 73 = .ok (.iaload, 1) := by decide +kernel
theorem dMd_layParts_74 : decode cMd_layParts 74 = .ok (.iastore, 1) := by decide +kernel
theorem dMd_layParts_75 : decode cMd_layParts 75 = .ok (.iinc 5 1, 3) := by decide +kernel
theorem dMd_layParts_78 : decode cMd_layParts 78 = .ok (.goto (-37), 3) := by decide +kernel
theorem dMd_layParts_81 : decode cMd_layParts 81 = .ok (.iload_n 2, 1) := by decide +kernel
theorem dMd_layParts_82 : decode cMd_layParts 82 = .ok (.aload_n 0, 1) := by decide +kernel
theorem dMd_layParts_83 : decode cMd_layParts 83 = .ok (.getfield 7, 3) := by decide +kernel
theorem dMd_layParts_86 : decode cMd_layParts 86 = .ok (.iload 4, 2) := by decide +kernel
theorem dMd_layParts_88 : decode cMd_layParts 88 = .ok (.iaload, 1) := by decide +kernel
theorem dMd_layParts_89 : decode cMd_layParts 89 = .ok (.iadd, 1) := by decide +kernel
theorem dMd_layParts_90 : decode cMd_layParts 90 = .ok (.istore_n 2, 1) := by decide +kernel
theorem dMd_layParts_91 : decode cMd_layParts 91 = .ok (.aload_n 0, 1) := by decide +kernel
theorem dMd_layParts_92 : decode cMd_layParts 92 = .ok (.getfield 7, 3) := by decide +kernel
theorem dMd_layParts_95 : decode cMd_layParts 95 = .ok (.iload 4, 2) := by decide +kernel
theorem dMd_layParts_97 : decode cMd_layParts 97 = .ok (.iaload, 1) := by decide +kernel
theorem dMd_layParts_98 : decode cMd_layParts 98 = .ok (.ifCond .le 8, 3) := by decide +kernel
theorem dMd_layParts_101 : decode cMd_layParts 101 = .ok (.aload_n 0, 1) := by decide +kernel
theorem dMd_layParts_102 : decode cMd_layParts 102 = .ok (.iload_n 2, 1) := by decide +kernel
theorem dMd_layParts_103 : decode cMd_layParts 103 = .ok (.putfield 98, 3) := by decide +kernel
theorem dMd_layParts_106 : decode cMd_layParts 106 = .ok (.iinc 3 1, 3) := by decide +kernel
theorem dMd_layParts_109 : decode cMd_layParts 109 = .ok (.goto (-97), 3) := by decide +kernel
theorem dMd_layParts_112 : decode cMd_layParts 112 = .ok (.aload_n 0, 1) := by decide +kernel
theorem dMd_layParts_113 : decode cMd_layParts 113 = .ok (.getfield 65, 3) := by decide +kernel
theorem dMd_layParts_116 : decode cMd_layParts 116 = .ok (.iload_n 1, 1) := by decide +kernel
theorem dMd_layParts_117 : decode cMd_layParts 117 = .ok (.aload_n 0, 1) := by decide +kernel
theorem dMd_layParts_118 : decode cMd_layParts 118 = .ok (.getfield 98, 3) := by decide +kernel
theorem dMd_layParts_121 : decode cMd_layParts 121 = .ok (.iastore, 1) := by decide +kernel
theorem dMd_layParts_122 : decode cMd_layParts 122 = .ok (.return_, 1) := by decide +kernel
abbrev yMd_namesOf : MethodName := ⟨"ImageForgeModel", "namesOf", "(I)I"⟩
abbrev cMd_namesOf : ByteArray := prog_10_method_21_code
abbrev wsMd_namesOf : List Cond := .code yMd_namesOf cMd_namesOf 4 (some .int) :: bw
theorem gdMd_namesOf : GoodIn bw wsMd_namesOf := gd_of tw_953
theorem hdMd_namesOf : yMd_namesOf.cls ≠ "java/lang/invoke/MethodHandle" ∧ yMd_namesOf.cls ≠ "java/lang/invoke/VarHandle" ∧ (parseMethodDescriptor yMd_namesOf.desc).map (fun d => d.parameters.length) = some 1 := by decide +kernel
theorem dMd_namesOf_0 : decode cMd_namesOf 0 = .ok (.iconst 0, 1) := by decide +kernel
theorem dMd_namesOf_1 : decode cMd_namesOf 1 = .ok (.istore_n 2, 1) := by decide +kernel
theorem dMd_namesOf_2 : decode cMd_namesOf 2 = .ok (.iconst 0, 1) := by decide +kernel
theorem dMd_namesOf_3 : decode cMd_namesOf 3 = .ok (.istore_n 3, 1) := by decide +kernel
theorem dMd_namesOf_4 : decode cMd_namesOf 4 = .ok (.iload_n 3, 1) := by decide +kernel
theorem dMd_namesOf_5 : decode cMd_namesOf 5 = .ok (.bipush 16, 2) := by decide +kernel
theorem dMd_namesOf_7 : decode cMd_namesOf 7 = .ok (.if_icmp .ge 29, 3) := by decide +kernel
theorem dMd_namesOf_10 : decode cMd_namesOf 10 = .ok (.iload_n 2, 1) := by decide +kernel
theorem dMd_namesOf_11 : decode cMd_namesOf 11 = .ok (.aload_n 0, 1) := by decide +kernel
theorem dMd_namesOf_12 : decode cMd_namesOf 12 = .ok (.getfield 43, 3) := by decide +kernel
theorem dMd_namesOf_15 : decode cMd_namesOf 15 = .ok (.iload_n 3, 1) := by decide +kernel
theorem dMd_namesOf_16 : decode cMd_namesOf 16 = .ok (.iaload, 1) := by decide +kernel
theorem dMd_namesOf_17 : decode cMd_namesOf 17 = .ok (.iload_n 1, 1) := by decide +kernel
theorem dMd_namesOf_18 : decode cMd_namesOf 18 = .ok (.iconst 1, 1) := by decide +kernel
theorem dMd_namesOf_19 : decode cMd_namesOf 19 = .ok (.iadd, 1) := by decide +kernel
theorem dMd_namesOf_20 : decode cMd_namesOf 20 = .ok (.if_icmp .ne 7, 3) := by decide +kernel
theorem dMd_namesOf_23 : decode cMd_namesOf 23 = .ok (.iconst 1, 1) := by decide +kernel
theorem dMd_namesOf_24 : decode cMd_namesOf 24 = .ok (.goto 4, 3) := by decide +kernel
theorem dMd_namesOf_27 : decode cMd_namesOf 27 = .ok (.iconst 0, 1) := by decide +kernel
theorem dMd_namesOf_28 : decode cMd_namesOf 28 = .ok (.iadd, 1) := by decide +kernel
theorem dMd_namesOf_29 : decode cMd_namesOf 29 = .ok (.istore_n 2, 1) := by decide +kernel
theorem dMd_namesOf_30 : decode cMd_namesOf 30 = .ok (.iinc 3 1, 3) := by decide +kernel
theorem dMd_namesOf_33 : decode cMd_namesOf 33 = .ok (.goto (-29), 3) := by decide +kernel
theorem dMd_namesOf_36 : decode cMd_namesOf 36 = .ok (.iload_n 2, 1) := by decide +kernel
theorem dMd_namesOf_37 : decode cMd_namesOf 37 = .ok (.ireturn, 1) := by decide +kernel
abbrev yMd_layImports : MethodName := ⟨"ImageForgeModel", "layImports", "()V"⟩
abbrev cMd_layImports : ByteArray := prog_10_method_22_code
abbrev wsMd_layImports : List Cond := .code yMd_layImports cMd_layImports 5 none :: bw
theorem gdMd_layImports : GoodIn bw wsMd_layImports := gd_of tw_949
theorem hdMd_layImports : yMd_layImports.cls ≠ "java/lang/invoke/MethodHandle" ∧ yMd_layImports.cls ≠ "java/lang/invoke/VarHandle" ∧ (parseMethodDescriptor yMd_layImports.desc).map (fun d => d.parameters.length) = some 0 := by decide +kernel
theorem dMd_layImports_0 : decode cMd_layImports 0 = .ok (.aload_n 0, 1) := by decide +kernel
theorem dMd_layImports_1 : decode cMd_layImports 1 = .ok (.iconst 2, 1) := by decide +kernel
theorem dMd_layImports_2 : decode cMd_layImports 2 = .ok (.invokevirtual 109, 3) := by decide +kernel
theorem dMd_layImports_5 : decode cMd_layImports 5 = .ok (.iconst 0, 1) := by decide +kernel
theorem dMd_layImports_6 : decode cMd_layImports 6 = .ok (.istore_n 1, 1) := by decide +kernel
theorem dMd_layImports_7 : decode cMd_layImports 7 = .ok (.iconst 0, 1) := by decide +kernel
theorem dMd_layImports_8 : decode cMd_layImports 8 = .ok (.istore_n 2, 1) := by decide +kernel
theorem dMd_layImports_9 : decode cMd_layImports 9 = .ok (.iload_n 2, 1) := by decide +kernel
theorem dMd_layImports_10 : decode cMd_layImports 10 = .ok (.iconst 4, 1) := by decide +kernel
theorem dMd_layImports_11 : decode cMd_layImports 11 = .ok (.if_icmp .ge 25, 3) := by decide +kernel
theorem dMd_layImports_14 : decode cMd_layImports 14 = .ok (.iload_n 1, 1) := by decide +kernel
theorem dMd_layImports_15 : decode cMd_layImports 15 = .ok (.aload_n 0, 1) := by decide +kernel
theorem dMd_layImports_16 : decode cMd_layImports 16 = .ok (.iload_n 2, 1) := by decide +kernel
theorem dMd_layImports_17 : decode cMd_layImports 17 = .ok (.invokevirtual 113, 3) := by decide +kernel
theorem dMd_layImports_20 : decode cMd_layImports 20 = .ok (.ifCond .le 7, 3) := by decide +kernel
theorem dMd_layImports_23 : decode cMd_layImports 23 = .ok (.iconst 1, 1) := by decide +kernel
theorem dMd_layImports_24 : decode cMd_layImports 24 = .ok (.goto 4, 3) := by decide +kernel
theorem dMd_layImports_27 : decode cMd_layImports 27 = .ok (.iconst 0, 1) := by decide +kernel
theorem dMd_layImports_28 : decode cMd_layImports 28 = .ok (.iadd, 1) := by decide +kernel
theorem dMd_layImports_29 : decode cMd_layImports 29 = .ok (.istore_n 1, 1) := by decide +kernel
theorem dMd_layImports_30 : decode cMd_layImports 30 = .ok (.iinc 2 1, 3) := by decide +kernel
theorem dMd_layImports_33 : decode cMd_layImports 33 = .ok (.goto (-24), 3) := by decide +kernel
theorem dMd_layImports_36 : decode cMd_layImports 36 = .ok (.aload_n 0, 1) := by decide +kernel
theorem dMd_layImports_37 : decode cMd_layImports 37 = .ok (.getfield 98, 3) := by decide +kernel
theorem dMd_layImports_40 : decode cMd_layImports 40 = .ok (.bipush 8, 2) := by decide +kernel
theorem dMd_layImports_42 : decode cMd_layImports 42 = .ok (.iload_n 1, 1) := by decide +kernel
theorem dMd_layImports_43 : decode cMd_layImports 43 = .ok (.imul, 1) := by decide +kernel
theorem dMd_layImports_44 : decode cMd_layImports 44 = .ok (.iadd, 1) := by decide +kernel
theorem dMd_layImports_45 : decode cMd_layImports 45 = .ok (.bipush 8, 2) := by decide +kernel
theorem dMd_layImports_47 : decode cMd_layImports 47 = .ok (.iadd, 1) := by decide +kernel
theorem dMd_layImports_48 : decode cMd_layImports 48 = .ok (.istore_n 2, 1) := by decide +kernel
theorem dMd_layImports_49 : decode cMd_layImports 49 = .ok (.iconst 0, 1) := by decide +kernel
theorem dMd_layImports_50 : decode cMd_layImports 50 = .ok (.istore_n 3, 1) := by decide +kernel
theorem dMd_layImports_51 : decode cMd_layImports 51 = .ok (.iload_n 3, 1) := by decide +kernel
theorem dMd_layImports_52 : decode cMd_layImports 52 = .ok (.iconst 4, 1) := by decide +kernel
theorem dMd_layImports_53 : decode cMd_layImports 53 = .ok (.if_icmp .ge 97, 3) := by decide +kernel
theorem dMd_layImports_56 : decode cMd_layImports 56 = .ok (.iload_n 1, 1) := by decide +kernel
theorem dMd_layImports_57 : decode cMd_layImports 57 = .ok (.ifCond .le 93, 3) := by decide +kernel
theorem dMd_layImports_60 : decode cMd_layImports 60 = .ok (.aload_n 0, 1) := by decide +kernel
theorem dMd_layImports_61 : decode cMd_layImports 61 = .ok (.iload_n 3, 1) := by decide +kernel
theorem dMd_layImports_62 : decode cMd_layImports 62 = .ok (.invokevirtual 113, 3) := by decide +kernel
theorem dMd_layImports_65 : decode cMd_layImports 65 = .ok (.ifCond .ne 6, 3) := by decide +kernel
theorem dMd_layImports_68 : decode cMd_layImports 68 = .ok (.goto 76, 3) := by decide +kernel
theorem dMd_layImports_71 : decode cMd_layImports 71 = .ok (.aload_n 0, 1) := by decide +kernel
theorem dMd_layImports_72 : decode cMd_layImports 72 = .ok (.iload_n 3, 1) := by decide +kernel
theorem dMd_layImports_73 : decode cMd_layImports 73 = .ok (.iconst 1, 1) := by decide +kernel
theorem dMd_layImports_74 : decode cMd_layImports 74 = .ok (.iadd, 1) := by decide +kernel
theorem dMd_layImports_75 : decode cMd_layImports 75 = .ok (.invokevirtual 117, 3) := by decide +kernel
theorem dMd_layImports_78 : decode cMd_layImports 78 = .ok (.aload_n 0, 1) := by decide +kernel
theorem dMd_layImports_79 : decode cMd_layImports 79 = .ok (.iload_n 2, 1) := by decide +kernel
theorem dMd_layImports_80 : decode cMd_layImports 80 = .ok (.invokevirtual 117, 3) := by decide +kernel
theorem dMd_layImports_83 : decode cMd_layImports 83 = .ok (.iconst 0, 1) := by decide +kernel
theorem dMd_layImports_84 : decode cMd_layImports 84 = .ok (.istore 4, 2) := by decide +kernel
theorem dMd_layImports_86 : decode cMd_layImports 86 = .ok (.iload 4, 2) := by decide +kernel
theorem dMd_layImports_88 : decode cMd_layImports 88 = .ok (.bipush 16, 2) := by decide +kernel
theorem dMd_layImports_90 : decode cMd_layImports 90 = .ok (.if_icmp .ge 51, 3) := by decide +kernel
theorem dMd_layImports_93 : decode cMd_layImports 93 = .ok (.aload_n 0, 1) := by decide +kernel
theorem dMd_layImports_94 : decode cMd_layImports 94 = .ok (.getfield 43, 3) := by decide +kernel
theorem dMd_layImports_97 : decode cMd_layImports 97 = .ok (.iload 4, 2) := by decide +kernel
theorem dMd_layImports_99 : decode cMd_layImports 99 = .ok (.iaload, 1) := by decide +kernel
theorem dMd_layImports_100 : decode cMd_layImports 100 = .ok (.iload_n 3, 1) := by decide +kernel
theorem dMd_layImports_101 : decode cMd_layImports 101 = .ok (.iconst 1, 1) := by decide +kernel
theorem dMd_layImports_102 : decode cMd_layImports 102 = .ok (.iadd, 1) := by decide +kernel
theorem dMd_layImports_103 : decode cMd_layImports 103 = .ok (.if_icmp .eq 6, 3) := by decide +kernel
theorem dMd_layImports_106 : decode cMd_layImports 106 = .ok (.goto 29, 3) := by decide +kernel
theorem dMd_layImports_109 : decode cMd_layImports 109 = .ok (.aload_n 0, 1) := by decide +kernel
theorem dMd_layImports_110 : decode cMd_layImports 110 = .ok (.getfield 71, 3) := by decide +kernel
theorem dMd_layImports_113 : decode cMd_layImports 113 = .ok (.iload 4, 2) := by decide +kernel
theorem dMd_layImports_115 : decode cMd_layImports 115 = .ok (.iload_n 2, 1) := by decide +kernel
theorem dMd_layImports_116 : decode cMd_layImports 116 = .ok (.iastore, 1) := by decide +kernel
theorem dMd_layImports_117 : decode cMd_layImports 117 = .ok (.aload_n 0, 1) := by decide +kernel
theorem dMd_layImports_118 : decode cMd_layImports 118 = .ok (.iload_n 2, 1) := by decide +kernel
theorem dMd_layImports_119 : decode cMd_layImports 119 = .ok (.aload_n 0, 1) := by decide +kernel
theorem dMd_layImports_120 : decode cMd_layImports 120 = .ok (.getfield 46, 3) := by decide +kernel
theorem dMd_layImports_123 : decode cMd_layImports 123 = .ok (.iload 4, 2) := by decide +kernel
theorem dMd_layImports_125 : decode cMd_layImports 125 = .ok (.iaload, 1) := by decide +kernel
theorem dMd_layImports_126 : decode cMd_layImports 126 = .ok (.ldc 120, 2) := by decide +kernel
theorem dMd_layImports_128 : decode cMd_layImports 128 = .ok (.ior, 1) := by decide +kernel
theorem dMd_layImports_129 : decode cMd_layImports 129 = .ok (.invokevirtual 101, 3) := by decide +kernel
theorem dMd_layImports_132 : decode cMd_layImports 132 = .ok (.iinc 2 4, 3) := by decide +kernel
theorem dMd_layImports_135 : decode cMd_layImports 135 = .ok (.iinc 4 1, 3) := by decide +kernel
theorem dMd_layImports_138 : decode cMd_layImports 138 = .ok (.goto (-52), 3) := by decide +kernel
theorem dMd_layImports_141 : decode cMd_layImports 141 = .ok (.iinc 2 4, 3) := by decide +kernel
theorem dMd_layImports_144 : decode cMd_layImports 144 = .ok (.iinc 3 1, 3) := by decide +kernel
theorem dMd_layImports_147 : decode cMd_layImports 147 = .ok (.goto (-96), 3) := by decide +kernel
theorem dMd_layImports_150 : decode cMd_layImports 150 = .ok (.iload_n 1, 1) := by decide +kernel
theorem dMd_layImports_151 : decode cMd_layImports 151 = .ok (.ifCond .le 8, 3) := by decide +kernel
theorem dMd_layImports_154 : decode cMd_layImports 154 = .ok (.aload_n 0, 1) := by decide +kernel
theorem dMd_layImports_155 : decode cMd_layImports 155 = .ok (.iload_n 2, 1) := by decide +kernel
theorem dMd_layImports_156 : decode cMd_layImports 156 = .ok (.putfield 98, 3) := by decide +kernel
theorem dMd_layImports_159 : decode cMd_layImports 159 = .ok (.aload_n 0, 1) := by decide +kernel
theorem dMd_layImports_160 : decode cMd_layImports 160 = .ok (.getfield 65, 3) := by decide +kernel
theorem dMd_layImports_163 : decode cMd_layImports 163 = .ok (.iconst 2, 1) := by decide +kernel
theorem dMd_layImports_164 : decode cMd_layImports 164 = .ok (.aload_n 0, 1) := by decide +kernel
theorem dMd_layImports_165 : decode cMd_layImports 165 = .ok (.getfield 98, 3) := by decide +kernel
theorem dMd_layImports_168 : decode cMd_layImports 168 = .ok (.iastore, 1) := by decide +kernel
theorem dMd_layImports_169 : decode cMd_layImports 169 = .ok (.return_, 1) := by decide +kernel
abbrev yMd_layExports : MethodName := ⟨"ImageForgeModel", "layExports", "()V"⟩
abbrev cMd_layExports : ByteArray := prog_10_method_23_code
abbrev wsMd_layExports : List Cond := .code yMd_layExports cMd_layExports 3 none :: bw
theorem gdMd_layExports : GoodIn bw wsMd_layExports := gd_of tw_966
theorem hdMd_layExports : yMd_layExports.cls ≠ "java/lang/invoke/MethodHandle" ∧ yMd_layExports.cls ≠ "java/lang/invoke/VarHandle" ∧ (parseMethodDescriptor yMd_layExports.desc).map (fun d => d.parameters.length) = some 0 := by decide +kernel
theorem dMd_layExports_0 : decode cMd_layExports 0 = .ok (.aload_n 0, 1) := by decide +kernel
theorem dMd_layExports_1 : decode cMd_layExports 1 = .ok (.iconst 3, 1) := by decide +kernel
theorem dMd_layExports_2 : decode cMd_layExports 2 = .ok (.invokevirtual 109, 3) := by decide +kernel
theorem dMd_layExports_5 : decode cMd_layExports 5 = .ok (.iconst 0, 1) := by decide +kernel
theorem dMd_layExports_6 : decode cMd_layExports 6 = .ok (.istore_n 1, 1) := by decide +kernel
theorem dMd_layExports_7 : decode cMd_layExports 7 = .ok (.iconst 0, 1) := by decide +kernel
theorem dMd_layExports_8 : decode cMd_layExports 8 = .ok (.istore_n 2, 1) := by decide +kernel
theorem dMd_layExports_9 : decode cMd_layExports 9 = .ok (.iload_n 2, 1) := by decide +kernel
theorem dMd_layExports_10 : decode cMd_layExports 10 = .ok (.bipush 16, 2) := by decide +kernel
theorem dMd_layExports_12 : decode cMd_layExports 12 = .ok (.if_icmp .ge 26, 3) := by decide +kernel
theorem dMd_layExports_15 : decode cMd_layExports 15 = .ok (.iload_n 1, 1) := by decide +kernel
theorem dMd_layExports_16 : decode cMd_layExports 16 = .ok (.aload_n 0, 1) := by decide +kernel
theorem dMd_layExports_17 : decode cMd_layExports 17 = .ok (.getfield 49, 3) := by decide +kernel
theorem dMd_layExports_20 : decode cMd_layExports 20 = .ok (.iload_n 2, 1) := by decide +kernel
theorem dMd_layExports_21 : decode cMd_layExports 21 = .ok (.baload, 1) := by decide +kernel
theorem dMd_layExports_22 : decode cMd_layExports 22 = .ok (.ifCond .eq 7, 3) := by decide +kernel
theorem dMd_layExports_25 : decode cMd_layExports 25 = .ok (.iconst 1, 1) := by decide +kernel
theorem dMd_layExports_26 : decode cMd_layExports 26 = .ok (.goto 4, 3) := by decide +kernel
theorem dMd_layExports_29 : decode cMd_layExports 29 = .ok (.iconst 0, 1) := by decide +kernel
theorem dMd_layExports_30 : decode cMd_layExports 30 = .ok (.iadd, 1) := by decide +kernel
theorem dMd_layExports_31 : decode cMd_layExports 31 = .ok (.istore_n 1, 1) := by decide +kernel
theorem dMd_layExports_32 : decode cMd_layExports 32 = .ok (.iinc 2 1, 3) := by decide +kernel
theorem dMd_layExports_35 : decode cMd_layExports 35 = .ok (.goto (-26), 3) := by decide +kernel
theorem dMd_layExports_38 : decode cMd_layExports 38 = .ok (.iload_n 1, 1) := by decide +kernel
theorem dMd_layExports_39 : decode cMd_layExports 39 = .ok (.ifCond .le 8, 3) := by decide +kernel
theorem dMd_layExports_42 : decode cMd_layExports 42 = .ok (.aload_n 0, 1) := by decide +kernel
theorem dMd_layExports_43 : decode cMd_layExports 43 = .ok (.iload_n 1, 1) := by decide +kernel
theorem dMd_layExports_44 : decode cMd_layExports 44 = .ok (.invokevirtual 117, 3) := by decide +kernel
theorem dMd_layExports_47 : decode cMd_layExports 47 = .ok (.iconst 0, 1) := by decide +kernel
theorem dMd_layExports_48 : decode cMd_layExports 48 = .ok (.istore_n 2, 1) := by decide +kernel
theorem dMd_layExports_49 : decode cMd_layExports 49 = .ok (.iload_n 2, 1) := by decide +kernel
theorem dMd_layExports_50 : decode cMd_layExports 50 = .ok (.bipush 16, 2) := by decide +kernel
theorem dMd_layExports_52 : decode cMd_layExports 52 = .ok (.if_icmp .ge 36, 3) := by decide +kernel
theorem dMd_layExports_55 : decode cMd_layExports 55 = .ok (.aload_n 0, 1) := by decide +kernel
theorem dMd_layExports_56 : decode cMd_layExports 56 = .ok (.getfield 49, 3) := by decide +kernel
theorem dMd_layExports_59 : decode cMd_layExports 59 = .ok (.iload_n 2, 1) := by decide +kernel
theorem dMd_layExports_60 : decode cMd_layExports 60 = .ok (.baload, 1) := by decide +kernel
theorem dMd_layExports_61 : decode cMd_layExports 61 = .ok (.ifCond .ne 6, 3) := by decide +kernel
theorem dMd_layExports_64 : decode cMd_layExports 64 = .ok (.goto 18, 3) := by decide +kernel
theorem dMd_layExports_67 : decode cMd_layExports 67 = .ok (.aload_n 0, 1) := by decide +kernel
theorem dMd_layExports_68 : decode cMd_layExports 68 = .ok (.iload_n 2, 1) := by decide +kernel
theorem dMd_layExports_69 : decode cMd_layExports 69 = .ok (.invokevirtual 117, 3) := by decide +kernel
theorem dMd_layExports_72 : decode cMd_layExports 72 = .ok (.aload_n 0, 1) := by decide +kernel
theorem dMd_layExports_73 : decode cMd_layExports 73 = .ok (.aload_n 0, 1) := by decide +kernel
theorem dMd_layExports_74 : decode cMd_layExports 74 = .ok (.getfield 71, 3) := by decide +kernel
theorem dMd_layExports_77 : decode cMd_layExports 77 = .ok (.iload_n 2, 1) := by decide +kernel
theorem dMd_layExports_78 : decode cMd_layExports 78 = .ok (.iaload, 1) := by decide +kernel
theorem dMd_layExports_79 : decode cMd_layExports 79 = .ok (.invokevirtual 117, 3) := by decide +kernel
theorem dMd_layExports_82 : decode cMd_layExports 82 = .ok (.iinc 2 1, 3) := by decide +kernel
theorem dMd_layExports_85 : decode cMd_layExports 85 = .ok (.goto (-36), 3) := by decide +kernel
theorem dMd_layExports_88 : decode cMd_layExports 88 = .ok (.aload_n 0, 1) := by decide +kernel
theorem dMd_layExports_89 : decode cMd_layExports 89 = .ok (.getfield 65, 3) := by decide +kernel
theorem dMd_layExports_92 : decode cMd_layExports 92 = .ok (.iconst 3, 1) := by decide +kernel
theorem dMd_layExports_93 : decode cMd_layExports 93 = .ok (.aload_n 0, 1) := by decide +kernel
theorem dMd_layExports_94 : decode cMd_layExports 94 = .ok (.getfield 98, 3) := by decide +kernel
theorem dMd_layExports_97 : decode cMd_layExports 97 = .ok (.iastore, 1) := by decide +kernel
theorem dMd_layExports_98 : decode cMd_layExports 98 = .ok (.return_, 1) := by decide +kernel
abbrev yMd_isAbsolute : MethodName := ⟨"ImageForgeModel", "isAbsolute", "(I)Z"⟩
abbrev cMd_isAbsolute : ByteArray := prog_10_method_24_code
abbrev wsMd_isAbsolute : List Cond := .code yMd_isAbsolute cMd_isAbsolute 5 (some .boolean) :: bw
theorem gdMd_isAbsolute : GoodIn bw wsMd_isAbsolute := gd_of tw_974
theorem hdMd_isAbsolute : yMd_isAbsolute.cls ≠ "java/lang/invoke/MethodHandle" ∧ yMd_isAbsolute.cls ≠ "java/lang/invoke/VarHandle" ∧ (parseMethodDescriptor yMd_isAbsolute.desc).map (fun d => d.parameters.length) = some 1 := by decide +kernel
theorem dMd_isAbsolute_0 : decode cMd_isAbsolute 0 = .ok (.iconst 0, 1) := by decide +kernel
theorem dMd_isAbsolute_1 : decode cMd_isAbsolute 1 = .ok (.istore_n 2, 1) := by decide +kernel
theorem dMd_isAbsolute_2 : decode cMd_isAbsolute 2 = .ok (.iconst 0, 1) := by decide +kernel
theorem dMd_isAbsolute_3 : decode cMd_isAbsolute 3 = .ok (.istore_n 3, 1) := by decide +kernel
theorem dMd_isAbsolute_4 : decode cMd_isAbsolute 4 = .ok (.iload_n 3, 1) := by decide +kernel
theorem dMd_isAbsolute_5 : decode cMd_isAbsolute 5 = .ok (.iconst 4, 1) := by decide +kernel
theorem dMd_isAbsolute_6 : decode cMd_isAbsolute 6 = .ok (.if_icmp .ge 85, 3) := by decide +kernel
theorem dMd_isAbsolute_9 : decode cMd_isAbsolute 9 = .ok (.bipush 8, 2) := by decide +kernel
theorem dMd_isAbsolute_11 : decode cMd_isAbsolute 11 = .ok (.iload_n 3, 1) := by decide +kernel
theorem dMd_isAbsolute_12 : decode cMd_isAbsolute 12 = .ok (.imul, 1) := by decide +kernel
theorem dMd_isAbsolute_13 : decode cMd_isAbsolute 13 = .ok (.istore 4, 2) := by decide +kernel
theorem dMd_isAbsolute_15 : decode cMd_isAbsolute 15 = .ok (.iload 4, 2) := by decide +kernel
theorem dMd_isAbsolute_17 : decode cMd_isAbsolute 17 = .ok (.bipush 8, 2) := by decide +kernel
theorem dMd_isAbsolute_19 : decode cMd_isAbsolute 19 = .ok (.iload_n 3, 1) := by decide +kernel
theorem dMd_isAbsolute_20 : decode cMd_isAbsolute 20 = .ok (.imul, 1) := by decide +kernel
theorem dMd_isAbsolute_21 : decode cMd_isAbsolute 21 = .ok (.aload_n 0, 1) := by decide +kernel
theorem dMd_isAbsolute_22 : decode cMd_isAbsolute 22 = .ok (.getfield 28, 3) := by decide +kernel
theorem dMd_isAbsolute_25 : decode cMd_isAbsolute 25 = .ok (.iload_n 3, 1) := by decide +kernel
theorem dMd_isAbsolute_26 : decode cMd_isAbsolute 26 = .ok (.iaload, 1) := by decide +kernel
theorem dMd_isAbsolute_27 : decode cMd_isAbsolute 27 = .ok (.iadd, 1) := by decide +kernel
theorem dMd_isAbsolute_28 : decode cMd_isAbsolute 28 = .ok (.if_icmp .ge 57, 3) := by decide +kernel
theorem dMd_isAbsolute_31 : decode cMd_isAbsolute 31 = .ok (.iload_n 2, 1) := by decide +kernel
theorem dMd_isAbsolute_32 : decode cMd_isAbsolute 32 = .ok (.ifCond .ne 41, 3) := by decide +kernel
theorem dMd_isAbsolute_35 : decode cMd_isAbsolute 35 = .ok (.aload_n 0, 1) := by decide +kernel
theorem dMd_isAbsolute_36 : decode cMd_isAbsolute 36 = .ok (.getfield 37, 3) := by decide +kernel
theorem dMd_isAbsolute_39 : decode cMd_isAbsolute 39 = .ok (.iload 4, 2) := by decide +kernel
theorem dMd_isAbsolute_41 : decode cMd_isAbsolute 41 = .ok (.iaload, 1) := by decide +kernel
theorem dMd_isAbsolute_42 : decode cMd_isAbsolute 42 = .ok (.ifCond .ne 35, 3) := by decide +kernel
theorem dMd_isAbsolute_45 : decode cMd_isAbsolute 45 = .ok (.aload_n 0, 1) := by decide +kernel
theorem dMd_isAbsolute_46 : decode cMd_isAbsolute 46 = .ok (.getfield 68, 3) := by decide +kernel
theorem dMd_isAbsolute_49 : decode cMd_isAbsolute 49 = .ok (.iconst 2, 1) := by decide +kernel
theorem dMd_isAbsolute_50 : decode cMd_isAbsolute 50 = .ok (.iload_n 3, 1) := by decide +kernel
theorem dMd_isAbsolute_51 : decode cMd_isAbsolute 51 = .ok (.imul, 1) := by decide +kernel
theorem dMd_isAbsolute_52 : decode cMd_isAbsolute 52 = .ok (.aload_n 0, 1) := by decide +kernel
theorem dMd_isAbsolute_53 : decode cMd_isAbsolute 53 = .ok (.getfield 31, 3) := by decide +kernel
theorem dMd_isAbsolute_56 : decode cMd_isAbsolute 56 = .ok (.iload 4, 2) := by decide +kernel
theorem dMd_isAbsolute_58 : decode cMd_isAbsolute 58 = .ok (.iaload, 1) := by decide +kernel
theorem dMd_isAbsolute_59 : decode cMd_isAbsolute 59 = .ok (.iadd, 1) := by decide +kernel
theorem dMd_isAbsolute_60 : decode cMd_isAbsolute 60 = .ok (.iaload, 1) := by decide +kernel
theorem dMd_isAbsolute_61 : decode cMd_isAbsolute 61 = .ok (.aload_n 0, 1) := by decide +kernel
theorem dMd_isAbsolute_62 : decode cMd_isAbsolute 62 = .ok (.getfield 34, 3) := by decide +kernel
theorem dMd_isAbsolute_65 : decode cMd_isAbsolute 65 = .ok (.iload 4, 2) := by decide +kernel
theorem dMd_isAbsolute_67 : decode cMd_isAbsolute 67 = .ok (.iaload, 1) := by decide +kernel
theorem dMd_isAbsolute_68 : decode cMd_isAbsolute 68 = .ok (.iadd, 1) := by decide +kernel
theorem dMd_isAbsolute_69 : decode cMd_isAbsolute 69 = .ok (.iload_n 1, 1) := by decide +kernel
theorem dMd_isAbsolute_70 : decode cMd_isAbsolute 70 = .ok (.if_icmp .ne 7, 3) := by decide +kernel
theorem dMd_isAbsolute_73 : decode cMd_isAbsolute 73 = .ok (.iconst 1, 1) := by decide +kernel
theorem dMd_isAbsolute_74 : decode cMd_isAbsolute 74 = .ok (.goto 4, 3) := by decide +kernel
theorem dMd_isAbsolute_77 : decode cMd_isAbsolute 77 = .ok (.iconst 0, 1) := by decide +kernel
theorem dMd_isAbsolute_78 : decode cMd_isAbsolute 78 = .ok (.istore_n 2, 1) := by decide +kernel
theorem dMd_isAbsolute_79 : decode cMd_isAbsolute 79 = .ok (.iinc 4 1, 3) := by decide +kernel
theorem dMd_isAbsolute_82 : decode cMd_isAbsolute 82 = .ok (.goto (-67), 3) := by decide +kernel
theorem dMd_isAbsolute_85 : decode cMd_isAbsolute 85 = .ok (.iinc 3 1, 3) := by decide +kernel
theorem dMd_isAbsolute_88 : decode cMd_isAbsolute 88 = .ok (.goto (-84), 3) := by decide +kernel
theorem dMd_isAbsolute_91 : decode cMd_isAbsolute 91 = .ok (.iload_n 2, 1) := by decide +kernel
theorem dMd_isAbsolute_92 : decode cMd_isAbsolute 92 = .ok (.ireturn, 1) := by decide +kernel
abbrev yMd_layRelocations : MethodName := ⟨"ImageForgeModel", "layRelocations", "()V"⟩
abbrev cMd_layRelocations : ByteArray := prog_10_method_25_code
abbrev wsMd_layRelocations : List Cond := .code yMd_layRelocations cMd_layRelocations 4 none :: bw
theorem gdMd_layRelocations : GoodIn bw wsMd_layRelocations := gd_of tw_970
theorem hdMd_layRelocations : yMd_layRelocations.cls ≠ "java/lang/invoke/MethodHandle" ∧ yMd_layRelocations.cls ≠ "java/lang/invoke/VarHandle" ∧ (parseMethodDescriptor yMd_layRelocations.desc).map (fun d => d.parameters.length) = some 0 := by decide +kernel
theorem dMd_layRelocations_0 : decode cMd_layRelocations 0 = .ok (.aload_n 0, 1) := by decide +kernel
theorem dMd_layRelocations_1 : decode cMd_layRelocations 1 = .ok (.iconst 4, 1) := by decide +kernel
theorem dMd_layRelocations_2 : decode cMd_layRelocations 2 = .ok (.invokevirtual 109, 3) := by decide +kernel
theorem dMd_layRelocations_5 : decode cMd_layRelocations 5 = .ok (.iconst 0, 1) := by decide +kernel
theorem dMd_layRelocations_6 : decode cMd_layRelocations 6 = .ok (.istore_n 1, 1) := by decide +kernel
theorem dMd_layRelocations_7 : decode cMd_layRelocations 7 = .ok (.iload_n 1, 1) := by decide +kernel
theorem dMd_layRelocations_8 : decode cMd_layRelocations 8 = .ok (.aload_n 0, 1) := by decide +kernel
theorem dMd_layRelocations_9 : decode cMd_layRelocations 9 = .ok (.getfield 62, 3) := by decide +kernel
theorem dMd_layRelocations_12 : decode cMd_layRelocations 12 = .ok (.iconst 2, 1) := by decide +kernel
theorem dMd_layRelocations_13 : decode cMd_layRelocations 13 = .ok (.iaload, 1) := by decide +kernel
theorem dMd_layRelocations_14 : decode cMd_layRelocations 14 = .ok (.if_icmp .ge 114, 3) := by decide +kernel
theorem dMd_layRelocations_17 : decode cMd_layRelocations 17 = .ok (.iconst 0, 1) := by decide +kernel
theorem dMd_layRelocations_18 : decode cMd_layRelocations 18 = .ok (.istore_n 2, 1) := by decide +kernel
theorem dMd_layRelocations_19 : decode cMd_layRelocations 19 = .ok (.iload_n 1, 1) := by decide +kernel
theorem dMd_layRelocations_20 : decode cMd_layRelocations 20 = .ok (.istore_n 3, 1) := by decide +kernel
theorem dMd_layRelocations_21 : decode cMd_layRelocations 21 = .ok (.iload_n 3, 1) := by decide +kernel
theorem dMd_layRelocations_22 : decode cMd_layRelocations 22 = .ok (.iload_n 1, 1) := by decide +kernel
theorem dMd_layRelocations_23 : decode cMd_layRelocations 23 = .ok (.bipush 64, 2) := by decide +kernel
theorem dMd_layRelocations_25 : decode cMd_layRelocations 25 = .ok (.iadd, 1) := by decide +kernel
theorem dMd_layRelocations_26 : decode cMd_layRelocations 26 = .ok (.if_icmp .ge 25, 3) := by decide +kernel
theorem dMd_layRelocations_29 : decode cMd_layRelocations 29 = .ok (.iload_n 2, 1) := by decide +kernel
theorem dMd_layRelocations_30 : decode cMd_layRelocations 30 = .ok (.aload_n 0, 1) := by decide +kernel
theorem dMd_layRelocations_31 : decode cMd_layRelocations 31 = .ok (.iload_n 3, 1) := by decide +kernel
theorem dMd_layRelocations_32 : decode cMd_layRelocations 32 = .ok (.invokevirtual 121, 3) := by decide +kernel
theorem dMd_layRelocations_35 : decode cMd_layRelocations 35 = .ok (.ifCond .eq 7, 3) := by decide +kernel
theorem dMd_layRelocations_38 : decode cMd_layRelocations 38 = .ok (.iconst 1, 1) := by decide +kernel
theorem dMd_layRelocations_39 : decode cMd_layRelocations 39 = .ok (.goto 4, 3) := by decide +kernel
theorem dMd_layRelocations_42 : decode cMd_layRelocations 42 = .ok (.iconst 0, 1) := by decide +kernel
theorem dMd_layRelocations_43 : decode cMd_layRelocations 43 = .ok (.iadd, 1) := by decide +kernel
theorem dMd_layRelocations_44 : decode cMd_layRelocations 44 = .ok (.istore_n 2, 1) := by decide +kernel
theorem dMd_layRelocations_45 : decode cMd_layRelocations 45 = .ok (.iinc 3 1, 3) := by decide +kernel
theorem dMd_layRelocations_48 : decode cMd_layRelocations 48 = .ok (.goto (-27), 3) := by decide +kernel
theorem dMd_layRelocations_51 : decode cMd_layRelocations 51 = .ok (.iload_n 2, 1) := by decide +kernel
theorem dMd_layRelocations_52 : decode cMd_layRelocations 52 = .ok (.ifCond .ne 6, 3) := by decide +kernel
theorem dMd_layRelocations_55 : decode cMd_layRelocations 55 = .ok (.goto 67, 3) := by decide +kernel
theorem dMd_layRelocations_58 : decode cMd_layRelocations 58 = .ok (.aload_n 0, 1) := by decide +kernel
theorem dMd_layRelocations_59 : decode cMd_layRelocations 59 = .ok (.iload_n 1, 1) := by decide +kernel
theorem dMd_layRelocations_60 : decode cMd_layRelocations 60 = .ok (.invokevirtual 117, 3) := by decide +kernel
theorem dMd_layRelocations_63 : decode cMd_layRelocations 63 = .ok (.aload_n 0, 1) := by decide +kernel
theorem dMd_layRelocations_64 : decode cMd_layRelocations 64 = .ok (.bipush 8, 2) := by decide +kernel
theorem dMd_layRelocations_66 : decode cMd_layRelocations 66 = .ok (.iconst 2, 1) := by decide +kernel
theorem dMd_layRelocations_67 : decode cMd_layRelocations 67 = .ok (.iload_n 2, 1) := by decide +kernel
theorem dMd_layRelocations_68 : decode cMd_layRelocations 68 = .ok (.iload_n 2, 1) := by decide +kernel
theorem dMd_layRelocations_69 : decode cMd_layRelocations 69 = .ok (.iconst 2, 1) := by decide +kernel
theorem dMd_layRelocations_70 : decode cMd_layRelocations 70 = .ok (.irem, 1) := by decide +kernel
theorem dMd_layRelocations_71 : decode cMd_layRelocations 71 = .ok (.iadd, 1) := by decide +kernel
theorem dMd_layRelocations_72 : decode cMd_layRelocations 72 = .ok (.imul, 1) := by decide +kernel
theorem dMd_layRelocations_73 : decode cMd_layRelocations 73 = .ok (.iadd, 1) := by decide +kernel
theorem dMd_layRelocations_74 : decode cMd_layRelocations 74 = .ok (.invokevirtual 117, 3) := by decide +kernel
theorem dMd_layRelocations_77 : decode cMd_layRelocations 77 = .ok (.iconst 0, 1) := by decide +kernel
theorem dMd_layRelocations_78 : decode cMd_layRelocations 78 = .ok (.istore_n 3, 1) := by decide +kernel
theorem dMd_layRelocations_79 : decode cMd_layRelocations 79 = .ok (.iload_n 3, 1) := by decide +kernel
theorem dMd_layRelocations_80 : decode cMd_layRelocations 80 = .ok (.bipush 64, 2) := by decide +kernel
theorem dMd_layRelocations_82 : decode cMd_layRelocations 82 = .ok (.if_icmp .ge 28, 3) := by decide +kernel
theorem dMd_layRelocations_85 : decode cMd_layRelocations 85 = .ok (.aload_n 0, 1) := by decide +kernel
theorem dMd_layRelocations_86 : decode cMd_layRelocations 86 = .ok (.iload_n 1, 1) := by decide +kernel
theorem dMd_layRelocations_87 : decode cMd_layRelocations 87 = .ok (.iload_n 3, 1) := by decide +kernel
theorem dMd_layRelocations_88 : decode cMd_layRelocations 88 = .ok (.iadd, 1) := by decide +kernel
theorem dMd_layRelocations_89 : decode cMd_layRelocations 89 = .ok (.invokevirtual 121, 3) := by decide +kernel
theorem dMd_layRelocations_92 : decode cMd_layRelocations 92 = .ok (.ifCond .eq 12, 3) := by decide +kernel
theorem dMd_layRelocations_95 : decode cMd_layRelocations 95 = .ok (.aload_n 0, 1) := by decide +kernel
theorem dMd_layRelocations_96 : decode cMd_layRelocations 96 = .ok (.sipush 12288, 3) := by decide +kernel
theorem dMd_layRelocations_99 : decode cMd_layRelocations 99 = .ok (.iload_n 3, 1) := by decide +kernel
theorem dMd_layRelocations_100 : decode cMd_layRelocations 100 = .ok (.iadd, 1) := by decide +kernel
theorem dMd_layRelocations_101 : decode cMd_layRelocations 101 = .ok (.invokevirtual 125, 3) := by decide +kernel
theorem dMd_layRelocations_104 : decode cMd_layRelocations 104 = .ok (.iinc 3 1, 3) := by decide +kernel
theorem dMd_layRelocations_107 : decode cMd_layRelocations 107 = .ok (.goto (-28), 3) := by decide +kernel
theorem dMd_layRelocations_110 : decode cMd_layRelocations 110 = .ok (.iload_n 2, 1) := by decide +kernel
theorem dMd_layRelocations_111 : decode cMd_layRelocations 111 = .ok (.iconst 2, 1) := by decide +kernel
theorem dMd_layRelocations_112 : decode cMd_layRelocations 112 = .ok (.irem, 1) := by decide +kernel
theorem dMd_layRelocations_113 : decode cMd_layRelocations 113 = .ok (.iconst 1, 1) := by decide +kernel
theorem dMd_layRelocations_114 : decode cMd_layRelocations 114 = .ok (.if_icmp .ne 8, 3) := by decide +kernel
theorem dMd_layRelocations_117 : decode cMd_layRelocations 117 = .ok (.aload_n 0, 1) := by decide +kernel
theorem dMd_layRelocations_118 : decode cMd_layRelocations 118 = .ok (.iconst 0, 1) := by decide +kernel
theorem dMd_layRelocations_119 : decode cMd_layRelocations 119 = .ok (.invokevirtual 125, 3) := by decide +kernel
theorem dMd_layRelocations_122 : decode cMd_layRelocations 122 = .ok (.iinc 1 64, 3) := by decide +kernel
theorem dMd_layRelocations_125 : decode cMd_layRelocations 125 = .ok (.goto (-118), 3) := by decide +kernel
theorem dMd_layRelocations_128 : decode cMd_layRelocations 128 = .ok (.aload_n 0, 1) := by decide +kernel
theorem dMd_layRelocations_129 : decode cMd_layRelocations 129 = .ok (.getfield 65, 3) := by decide +kernel
theorem dMd_layRelocations_132 : decode cMd_layRelocations 132 = .ok (.iconst 4, 1) := by decide +kernel
theorem dMd_layRelocations_133 : decode cMd_layRelocations 133 = .ok (.aload_n 0, 1) := by decide +kernel
theorem dMd_layRelocations_134 : decode cMd_layRelocations 134 = .ok (.getfield 98, 3) := by decide +kernel
theorem dMd_layRelocations_137 : decode cMd_layRelocations 137 = .ok (.iastore, 1) := by decide +kernel
theorem dMd_layRelocations_138 : decode cMd_layRelocations 138 = .ok (.return_, 1) := by decide +kernel
section
variable {p : Program} {l : Launch} {e : Env} {s : State} {m : MethodId} {args : Array Value} {below : List Frame} {meth : Method} {c : Code} {D : va_G} {cA : Nat → ClassId} {ad : Nat → Nat} {L : List Nat} {rs : va_W} {al : Nat → Bool} {A : Nat → Prop}
abbrev rm_Md_word : Room := { frames := 0, cells := 0, slots := 0, locals := 0 }
def bk_Md_word_2 (F : Nat) (al : Nat → Bool) : Nat → Mr → Nat → Int32 → Int32 → Int32 → Option (Mr × Int32)
  | 0, _, _, _, _, _ => none
  | n + 1, u, x0, x1, x2, x3 => if (4 : Int32) ≤ x3 then (some (u, 0)) else (bd1 (rdR al u x0 19 41) fun y1 => (ck (inb (x1 + x3) 2048) (bk_Md_word_2 F al n (stI u y1 (x1 + x3) ((x2 >>> (((8 : Int32) * x3) &&& 31)) &&& (255 : Int32))) x0 x1 x2 (x3 + (1 : Int32)))))
set_option maxHeartbeats 4000000 in
set_option maxRecDepth 100000 in
theorem wk_Md_word_2 (cx : Cx p l e s m args below meth c cMd_word 4 bw "ImageForgeModel" none D cA ad L rs al A) (F : Nat) (out : Mr × Int32) : ∀ n : Nat, ∀ (u : Mr) (x0 : Nat) (x1 : Int32) (x2 : Int32) (x3 : Int32), bk_Md_word_2 F al n u x0 x1 x2 x3 = some out → okk al 32 x0 = true → Wb p l e rm_Md_word s m args below meth c D cA ad L rs A (QV below args s D cA ad L rs A out) 4 2 [(0, .ref (ad x0)), (1, .int x1), (2, .int x2), (3, .int x3)] [] u := by
  obtain ⟨hx, hb, hml, hown, hts, hr, hlocks, hK, hA, hD, hN, hal, hNx⟩ := cx
  intro n
  induction n with
  | zero =>
    intro u x0 x1 x2 x3 h
    cases h
  | succ n ih =>
    intro u x0 x1 x2 x3 h q0 H locs ls hl hP hS
    rw [bk_Md_word_2] at h
    refine lv_iload_n hx hb dMd_word_2 rfl (lv_at hl 3 rfl) ?_
    refine lv_iconst (v := 4) hx hb dMd_word_3 (by decide) ?_
    refine lv_icmp_ge (tgt := 31) hx hb dMd_word_4 rfl (fun hc => ?_) (fun hc => ?_)
    · replace h := it_t h hc
      exact x_vret hx hb hr hlocks h hP hS dMd_word_31
    · replace h := it_f h hc
      refine lv_aload_n hx hb dMd_word_7 rfl (lv_at hl 0 rfl) ?_
      obtain ⟨y1, hy2, h⟩ := bd1_some h
      obtain ⟨hy2a, hy2⟩ := rdR_some hy2
      refine x_get hx hb hts in_Md hown hK hP (hal _ (okk_al q0)) (okk_t q0) rfl rfl 19 (by decide) (hts _ tw_801) (fun _ h9 => h9) (congrArg some (x_rf hy2a)) dMd_word_8 ?_
      refine lv_iload_n hx hb dMd_word_11 rfl (lv_at hl 1 rfl) ?_
      refine lv_iload_n hx hb dMd_word_12 rfl (lv_at hl 3 rfl) ?_
      refine lv_iadd hx hb dMd_word_13 ?_
      refine lv_iload_n hx hb dMd_word_14 rfl (lv_at hl 2 rfl) ?_
      refine lv_bipush (v := 8) hx hb dMd_word_15 (by decide) ?_
      refine lv_iload_n hx hb dMd_word_17 rfl (lv_at hl 3 rfl) ?_
      refine lv_imul hx hb dMd_word_18 ?_
      refine lv_ishr hx hb dMd_word_19 ?_
      refine lv_sipush (v := 255) hx hb dMd_word_20 (by decide) ?_
      refine lv_iand hx hb dMd_word_23 ?_
      obtain ⟨hi3, h⟩ := ck_some h
      refine x_iast hx hb hK hD hN hP hS (hal _ (okk_al hy2)) (okk_t hy2) 0 (fun _ _ _ => rfl) rfl (by decide) (inb_in hi3) dMd_word_24 (fun H locs hP hS => ?_)
      refine lv_iinc (k := 3) (v := x3 + (1 : Int32)) (lv' := [(3, .int (x3 + (1 : Int32))), (0, .ref (ad x0)), (1, .int x1), (2, .int x2)]) hx hb dMd_word_25 hl rfl (congrArg (fun z => _ + z) (show Int32.ofInt 1 = 1 by decide)) (by decide) rfl (fun ls hl => ?_)
      refine lv_goto (tgt := 2) hx hb dMd_word_28 rfl ?_
      exact ih (stI u y1 (x1 + x3) ((x2 >>> (((8 : Int32) * x3) &&& 31)) &&& (255 : Int32))) x0 x1 x2 (x3 + (1 : Int32)) h q0 _ _ _ (lv_sub hl [1, 2, 3, 0] rfl) hP hS
def bk_Md_word_0 (F : Nat) (al : Nat → Bool) (u : Mr) (x0 : Nat) (x1 : Int32) (x2 : Int32) : Option (Mr × Int32) := bk_Md_word_2 F al F u x0 x1 x2 (0 : Int32)
set_option maxHeartbeats 4000000 in
set_option maxRecDepth 100000 in
theorem wk_Md_word_0 (cx : Cx p l e s m args below meth c cMd_word 4 bw "ImageForgeModel" none D cA ad L rs al A) (F : Nat) (out : Mr × Int32) : ∀ (u : Mr) (x0 : Nat) (x1 : Int32) (x2 : Int32), bk_Md_word_0 F al u x0 x1 x2 = some out → okk al 32 x0 = true → Wb p l e rm_Md_word s m args below meth c D cA ad L rs A (QV below args s D cA ad L rs A out) 4 0 [(0, .ref (ad x0)), (1, .int x1), (2, .int x2)] [] u := by
  obtain ⟨hx, hb, hml, hown, hts, hr, hlocks, hK, hA, hD, hN, hal, hNx⟩ := cx
  intro u x0 x1 x2 h q0 H locs ls hl hP hS
  unfold bk_Md_word_0 at h
  refine lv_iconst (v := 0) hx hb dMd_word_0 (by decide) ?_
  refine lv_istore_n (lv' := [(3, .int (0 : Int32)), (0, .ref (ad x0)), (1, .int x1), (2, .int x2)]) hx hb dMd_word_1 rfl hl (by decide) rfl (fun ls hl => ?_)
  exact wk_Md_word_2 ⟨hx, hb, hml, hown, hts, hr, hlocks, hK, hA, hD, hN, hal, hNx⟩ F out F u x0 x1 x2 (0 : Int32) h q0 _ _ _ (lv_sub hl [1, 2, 3, 0] rfl) hP hS
def fn_Md_word (F : Nat) (al : Nat → Bool) (u : Mr) (x0 : Nat) (x1 : Int32) (x2 : Int32) : Option (Mr × Int32) := bk_Md_word_0 F al u x0 x1 x2
set_option maxHeartbeats 4000000 in
set_option maxRecDepth 100000 in
theorem ct_Md_word {l : Launch} {D : va_G} {cA : Nat → ClassId} {ad : Nat → Nat} {L : List Nat} {rs : va_W} {al : Nat → Bool} (hal : ∀ k, al k = true → k ∈ L) (hN : L.Nodup) (F : Nat) (u : Mr) (x0 : Nat) (x1 : Int32) (x2 : Int32) (out : Mr × Int32) (h : fn_Md_word F al u x0 x1 x2 = some out) (q0 : okk al 32 x0 = true) : CtV l yMd_word wsMd_word rm_Md_word [.ref (ad x0), .int x1, .int x2] D cA ad L rs u out := by
  intro sz
  refine Met.ofW (cc := cMd_word) (maxL := 4) (ret := none) (by decide) rfl ?_
  intro p e s m args below meth c s₁ B hml hv
  obtain ⟨rfl, hsz, hP, hK, hD0, hNx⟩ := hv
  subst hsz
  have hD := hD0.self (sz := s.heap.size)
  generalize hAe : va_A (ww ad cA L rs u) s.heap.size = A at hD ⊢
  have hA : ∀ q, s.heap.size ≤ q → A q := fun q h => by rw [← hAe]; exact Or.inr h
  have hl := lv_entry ([.ref (ad x0), .int x1, .int x2]) (n := 4) (Nat.le_of_ble_eq_true rfl)
  rw [lg_entry_eq]
  generalize (lg_sl ([.ref (ad x0), .int x1, .int x2]) ++ List.replicate (4 - (lg_sl ([.ref (ad x0), .int x1, .int x2])).length) Slot.unset).toArray = ls at hl ⊢
  exact wk_Md_word_0 ⟨B.exec, B.bytes, hml, findClass_of_methodNamed B.named, hts_bw (atoms_spec (ws := wsMd_word) B.pre), B.returns, B.notSynchronized, hK, hA, fun v => ww_D hD, hN, hal, hNx⟩ F out u x0 x1 x2 h q0 _ _ _ (lv_sub hl [0, 1, 2] rfl) hP va_S.rf
abbrev rm_Md_wordIn : Room := { frames := 0, cells := 0, slots := 0, locals := 0 }
def bk_Md_wordIn_0 (F : Nat) (al : Nat → Bool) (u : Mr) (x0 : Nat) (x1 : Int32) : Option (Mr × Int32) := ck (inb x1 2048) (ck (inb (x1 + (1 : Int32)) 2048) (ck (inb (x1 + (2 : Int32)) 2048) (ck (inb (x1 + (3 : Int32)) 2048) (some (u, (((u.1 x0 x1) ||| ((u.1 x0 (x1 + (1 : Int32))) <<< ((8 : Int32) &&& 31))) ||| ((u.1 x0 (x1 + (2 : Int32))) <<< ((16 : Int32) &&& 31))) ||| ((u.1 x0 (x1 + (3 : Int32))) <<< ((24 : Int32) &&& 31)))))))
set_option maxHeartbeats 4000000 in
set_option maxRecDepth 100000 in
theorem wk_Md_wordIn_0 (cx : Cx p l e s m args below meth c cMd_wordIn 2 bw "ImageForgeModel" (some .int) D cA ad L rs al A) (F : Nat) (out : Mr × Int32) : ∀ (u : Mr) (x0 : Nat) (x1 : Int32), bk_Md_wordIn_0 F al u x0 x1 = some out → okk al 41 x0 = true → Wb p l e rm_Md_wordIn s m args below meth c D cA ad L rs A (QI below args s D cA ad L rs A out) 2 0 [(0, .ref (ad x0)), (1, .int x1)] [] u := by
  obtain ⟨hx, hb, hml, hown, hts, hr, hlocks, hK, hA, hD, hN, hal, hNx⟩ := cx
  intro u x0 x1 h q0 H locs ls hl hP hS
  unfold bk_Md_wordIn_0 at h
  refine lv_aload_n hx hb dMd_wordIn_0 rfl (lv_at hl 0 rfl) ?_
  refine lv_iload_n hx hb dMd_wordIn_1 rfl (lv_at hl 1 rfl) ?_
  obtain ⟨hi1, h⟩ := ck_some h
  refine x_iald hx hb hK hP (hal _ (okk_al q0)) (okk_t q0) 0 (fun _ _ _ => rfl) rfl (inb_in hi1) dMd_wordIn_2 ?_
  refine lv_aload_n hx hb dMd_wordIn_3 rfl (lv_at hl 0 rfl) ?_
  refine lv_iload_n hx hb dMd_wordIn_4 rfl (lv_at hl 1 rfl) ?_
  refine lv_iconst (v := 1) hx hb dMd_wordIn_5 (by decide) ?_
  refine lv_iadd hx hb dMd_wordIn_6 ?_
  obtain ⟨hi2, h⟩ := ck_some h
  refine x_iald hx hb hK hP (hal _ (okk_al q0)) (okk_t q0) 0 (fun _ _ _ => rfl) rfl (inb_in hi2) dMd_wordIn_7 ?_
  refine lv_bipush (v := 8) hx hb dMd_wordIn_8 (by decide) ?_
  refine lv_ishl hx hb dMd_wordIn_10 ?_
  refine lv_ior hx hb dMd_wordIn_11 ?_
  refine lv_aload_n hx hb dMd_wordIn_12 rfl (lv_at hl 0 rfl) ?_
  refine lv_iload_n hx hb dMd_wordIn_13 rfl (lv_at hl 1 rfl) ?_
  refine lv_iconst (v := 2) hx hb dMd_wordIn_14 (by decide) ?_
  refine lv_iadd hx hb dMd_wordIn_15 ?_
  obtain ⟨hi3, h⟩ := ck_some h
  refine x_iald hx hb hK hP (hal _ (okk_al q0)) (okk_t q0) 0 (fun _ _ _ => rfl) rfl (inb_in hi3) dMd_wordIn_16 ?_
  refine lv_bipush (v := 16) hx hb dMd_wordIn_17 (by decide) ?_
  refine lv_ishl hx hb dMd_wordIn_19 ?_
  refine lv_ior hx hb dMd_wordIn_20 ?_
  refine lv_aload_n hx hb dMd_wordIn_21 rfl (lv_at hl 0 rfl) ?_
  refine lv_iload_n hx hb dMd_wordIn_22 rfl (lv_at hl 1 rfl) ?_
  refine lv_iconst (v := 3) hx hb dMd_wordIn_23 (by decide) ?_
  refine lv_iadd hx hb dMd_wordIn_24 ?_
  obtain ⟨hi4, h⟩ := ck_some h
  refine x_iald hx hb hK hP (hal _ (okk_al q0)) (okk_t q0) 0 (fun _ _ _ => rfl) rfl (inb_in hi4) dMd_wordIn_25 ?_
  refine lv_bipush (v := 24) hx hb dMd_wordIn_26 (by decide) ?_
  refine lv_ishl hx hb dMd_wordIn_28 ?_
  refine lv_ior hx hb dMd_wordIn_29 ?_
  exact x_iret hx hb hr hlocks h hP hS dMd_wordIn_30
def fn_Md_wordIn (F : Nat) (al : Nat → Bool) (u : Mr) (x0 : Nat) (x1 : Int32) : Option (Mr × Int32) := bk_Md_wordIn_0 F al u x0 x1
set_option maxHeartbeats 4000000 in
set_option maxRecDepth 100000 in
theorem ct_Md_wordIn {l : Launch} {D : va_G} {cA : Nat → ClassId} {ad : Nat → Nat} {L : List Nat} {rs : va_W} {al : Nat → Bool} (hal : ∀ k, al k = true → k ∈ L) (hN : L.Nodup) (F : Nat) (u : Mr) (x0 : Nat) (x1 : Int32) (out : Mr × Int32) (h : fn_Md_wordIn F al u x0 x1 = some out) (q0 : okk al 41 x0 = true) : CtI l yMd_wordIn wsMd_wordIn rm_Md_wordIn [.ref (ad x0), .int x1] D cA ad L rs u out := by
  intro sz
  refine Met.ofW (cc := cMd_wordIn) (maxL := 2) (ret := (some .int)) (by decide) rfl ?_
  intro p e s m args below meth c s₁ B hml hv
  obtain ⟨rfl, hsz, hP, hK, hD0, hNx⟩ := hv
  subst hsz
  have hD := hD0.self (sz := s.heap.size)
  generalize hAe : va_A (ww ad cA L rs u) s.heap.size = A at hD ⊢
  have hA : ∀ q, s.heap.size ≤ q → A q := fun q h => by rw [← hAe]; exact Or.inr h
  have hl := lv_entry ([.ref (ad x0), .int x1]) (n := 2) (Nat.le_of_ble_eq_true rfl)
  rw [lg_entry_eq]
  generalize (lg_sl ([.ref (ad x0), .int x1]) ++ List.replicate (2 - (lg_sl ([.ref (ad x0), .int x1])).length) Slot.unset).toArray = ls at hl ⊢
  exact wk_Md_wordIn_0 ⟨B.exec, B.bytes, hml, findClass_of_methodNamed B.named, hts_bw (atoms_spec (ws := wsMd_wordIn) B.pre), B.returns, B.notSynchronized, hK, hA, fun v => ww_D hD, hN, hal, hNx⟩ F out u x0 x1 h q0 _ _ _ (lv_sub hl [0, 1] rfl) hP va_S.rf
abbrev rm_Md_add : Room := { frames := 1, cells := 0, slots := 0, locals := 23 }
def bk_Md_add_0 (F : Nat) (al : Nat → Bool) (u : Mr) (x0 : Nat) (x1 : Int32) : Option (Mr × Int32) := bd2 (fn_Md_word F al u x0 (u.1 x0 18) x1) fun u1 v1 => (some (stI u1 x0 18 ((u1.1 x0 18) + (4 : Int32)), 0))
set_option maxHeartbeats 4000000 in
set_option maxRecDepth 100000 in
theorem wk_Md_add_0 (cx : Cx p l e s m args below meth c cMd_add 2 bw "ImageForgeModel" none D cA ad L rs al A) (F : Nat) (out : Mr × Int32) : ∀ (u : Mr) (x0 : Nat) (x1 : Int32), bk_Md_add_0 F al u x0 x1 = some out → okk al 32 x0 = true → Wb p l e rm_Md_add s m args below meth c D cA ad L rs A (QV below args s D cA ad L rs A out) 2 0 [(0, .ref (ad x0)), (1, .int x1)] [] u := by
  obtain ⟨hx, hb, hml, hown, hts, hr, hlocks, hK, hA, hD, hN, hal, hNx⟩ := cx
  intro u x0 x1 h q0 H locs ls hl hP hS
  unfold bk_Md_add_0 at h
  refine lv_aload_n hx hb dMd_add_0 rfl (lv_at hl 0 rfl) ?_
  refine lv_aload_n hx hb dMd_add_1 rfl (lv_at hl 0 rfl) ?_
  refine x_get hx hb hts in_Md hown hK hP (hal _ (okk_al q0)) (okk_t q0) rfl rfl 18 (by decide) (hts _ tw_800) (fun _ h9 => h9) rfl dMd_add_2 ?_
  refine lv_iload_n hx hb dMd_add_5 rfl (lv_at hl 1 rfl) ?_
  obtain ⟨u1, v1, hc1, h⟩ := bd2_some h
  refine x_cv (u := u) (out := (u1, v1)) hA hD hS (va_runV (As := [.int (u.1 x0 18), .int x1]) (rest := []) ⟨hx, hb, hml, hown, hts⟩ (ct_Md_word hal hN F u x0 (u.1 x0 18) x1 (u1, v1) hc1 q0 _) ⟨callB_of 2 hts gdMd_word rfl rfl rfl (hts _ tw_11) (hts _ tw_958) hdMd_word ⟨Nat.le_of_ble_eq_true rfl, Nat.le_of_ble_eq_true rfl⟩, (hts _ tw_960), (hts _ tp_62)⟩ (x_preV hK hD hNx hP (hal _ (okk_al q0)) (okk_t q0) rfl rfl) rfl rfl hl.1 rfl (lv_room (Nat.le_of_ble_eq_true rfl)) dMd_add_6 ⟨Nat.zero_le _, Nat.zero_le _⟩) (fun H locs hP hS => ?_)
  refine lv_aload_n hx hb dMd_add_9 rfl (lv_at hl 0 rfl) ?_
  refine lv_dup hx hb dMd_add_10 rfl ?_
  refine x_get hx hb hts in_Md hown hK hP (hal _ (okk_al q0)) (okk_t q0) rfl rfl 18 (by decide) (hts _ tw_800) (fun _ h9 => h9) rfl dMd_add_11 ?_
  refine lv_iconst (v := 4) hx hb dMd_add_14 (by decide) ?_
  refine lv_iadd hx hb dMd_add_15 ?_
  refine x_put hx hb hts in_Md t_Md t_Md_ok nm_Md hown hK hD hN hP hS (hal _ (okk_al q0)) (okk_t q0) rfl rfl 18 (by decide) (hts _ tw_800) (fun _ h9 => h9) rfl (ty := .int) (by decide +kernel) rfl rfl (Nat.le_of_ble_eq_true rfl) (stI u1 x0 18 ((u1.1 x0 18) + (4 : Int32))) stI_o (by rw [stI_up]; exact eg_32_18) dMd_add_16 (fun H locs hP hS => ?_)
  exact x_vret hx hb hr hlocks h hP hS dMd_add_19
def fn_Md_add (F : Nat) (al : Nat → Bool) (u : Mr) (x0 : Nat) (x1 : Int32) : Option (Mr × Int32) := bk_Md_add_0 F al u x0 x1
set_option maxHeartbeats 4000000 in
set_option maxRecDepth 100000 in
theorem ct_Md_add {l : Launch} {D : va_G} {cA : Nat → ClassId} {ad : Nat → Nat} {L : List Nat} {rs : va_W} {al : Nat → Bool} (hal : ∀ k, al k = true → k ∈ L) (hN : L.Nodup) (F : Nat) (u : Mr) (x0 : Nat) (x1 : Int32) (out : Mr × Int32) (h : fn_Md_add F al u x0 x1 = some out) (q0 : okk al 32 x0 = true) : CtV l yMd_add wsMd_add rm_Md_add [.ref (ad x0), .int x1] D cA ad L rs u out := by
  intro sz
  refine Met.ofW (cc := cMd_add) (maxL := 2) (ret := none) (by decide) rfl ?_
  intro p e s m args below meth c s₁ B hml hv
  obtain ⟨rfl, hsz, hP, hK, hD0, hNx⟩ := hv
  subst hsz
  have hD := hD0.self (sz := s.heap.size)
  generalize hAe : va_A (ww ad cA L rs u) s.heap.size = A at hD ⊢
  have hA : ∀ q, s.heap.size ≤ q → A q := fun q h => by rw [← hAe]; exact Or.inr h
  have hl := lv_entry ([.ref (ad x0), .int x1]) (n := 2) (Nat.le_of_ble_eq_true rfl)
  rw [lg_entry_eq]
  generalize (lg_sl ([.ref (ad x0), .int x1]) ++ List.replicate (2 - (lg_sl ([.ref (ad x0), .int x1])).length) Slot.unset).toArray = ls at hl ⊢
  exact wk_Md_add_0 ⟨B.exec, B.bytes, hml, findClass_of_methodNamed B.named, hts_bw (atoms_spec (ws := wsMd_add) B.pre), B.returns, B.notSynchronized, hK, hA, fun v => ww_D hD, hN, hal, hNx⟩ F out u x0 x1 h q0 _ _ _ (lv_sub hl [0, 1] rfl) hP va_S.rf
abbrev rm_Md_addPair : Room := { frames := 0, cells := 0, slots := 0, locals := 0 }
def bk_Md_addPair_0 (F : Nat) (al : Nat → Bool) (u : Mr) (x0 : Nat) (x1 : Int32) : Option (Mr × Int32) := bd1 (rdR al u x0 19 41) fun y1 => (ck (inb (u.1 x0 18) 2048) (bd1 (rdR al (stI u y1 (u.1 x0 18) (x1 &&& (255 : Int32))) x0 19 41) fun y4 => (ck (inb (((stI u y1 (u.1 x0 18) (x1 &&& (255 : Int32))).1 x0 18) + (1 : Int32)) 2048) (some (stI (stI (stI u y1 (u.1 x0 18) (x1 &&& (255 : Int32))) y4 (((stI u y1 (u.1 x0 18) (x1 &&& (255 : Int32))).1 x0 18) + (1 : Int32)) ((x1 >>> ((8 : Int32) &&& 31)) &&& (255 : Int32))) x0 18 (((stI (stI u y1 (u.1 x0 18) (x1 &&& (255 : Int32))) y4 (((stI u y1 (u.1 x0 18) (x1 &&& (255 : Int32))).1 x0 18) + (1 : Int32)) ((x1 >>> ((8 : Int32) &&& 31)) &&& (255 : Int32))).1 x0 18) + (2 : Int32)), 0)))))
set_option maxHeartbeats 4000000 in
set_option maxRecDepth 100000 in
theorem wk_Md_addPair_0 (cx : Cx p l e s m args below meth c cMd_addPair 2 bw "ImageForgeModel" none D cA ad L rs al A) (F : Nat) (out : Mr × Int32) : ∀ (u : Mr) (x0 : Nat) (x1 : Int32), bk_Md_addPair_0 F al u x0 x1 = some out → okk al 32 x0 = true → Wb p l e rm_Md_addPair s m args below meth c D cA ad L rs A (QV below args s D cA ad L rs A out) 2 0 [(0, .ref (ad x0)), (1, .int x1)] [] u := by
  obtain ⟨hx, hb, hml, hown, hts, hr, hlocks, hK, hA, hD, hN, hal, hNx⟩ := cx
  intro u x0 x1 h q0 H locs ls hl hP hS
  unfold bk_Md_addPair_0 at h
  refine lv_aload_n hx hb dMd_addPair_0 rfl (lv_at hl 0 rfl) ?_
  obtain ⟨y1, hy2, h⟩ := bd1_some h
  obtain ⟨hy2a, hy2⟩ := rdR_some hy2
  refine x_get hx hb hts in_Md hown hK hP (hal _ (okk_al q0)) (okk_t q0) rfl rfl 19 (by decide) (hts _ tw_801) (fun _ h9 => h9) (congrArg some (x_rf hy2a)) dMd_addPair_1 ?_
  refine lv_aload_n hx hb dMd_addPair_4 rfl (lv_at hl 0 rfl) ?_
  refine x_get hx hb hts in_Md hown hK hP (hal _ (okk_al q0)) (okk_t q0) rfl rfl 18 (by decide) (hts _ tw_800) (fun _ h9 => h9) rfl dMd_addPair_5 ?_
  refine lv_iload_n hx hb dMd_addPair_8 rfl (lv_at hl 1 rfl) ?_
  refine lv_sipush (v := 255) hx hb dMd_addPair_9 (by decide) ?_
  refine lv_iand hx hb dMd_addPair_12 ?_
  obtain ⟨hi3, h⟩ := ck_some h
  refine x_iast hx hb hK hD hN hP hS (hal _ (okk_al hy2)) (okk_t hy2) 0 (fun _ _ _ => rfl) rfl (by decide) (inb_in hi3) dMd_addPair_13 (fun H locs hP hS => ?_)
  refine lv_aload_n hx hb dMd_addPair_14 rfl (lv_at hl 0 rfl) ?_
  obtain ⟨y4, hy5, h⟩ := bd1_some h
  obtain ⟨hy5a, hy5⟩ := rdR_some hy5
  refine x_get hx hb hts in_Md hown hK hP (hal _ (okk_al q0)) (okk_t q0) rfl rfl 19 (by decide) (hts _ tw_801) (fun _ h9 => h9) (congrArg some (x_rf hy5a)) dMd_addPair_15 ?_
  refine lv_aload_n hx hb dMd_addPair_18 rfl (lv_at hl 0 rfl) ?_
  refine x_get hx hb hts in_Md hown hK hP (hal _ (okk_al q0)) (okk_t q0) rfl rfl 18 (by decide) (hts _ tw_800) (fun _ h9 => h9) rfl dMd_addPair_19 ?_
  refine lv_iconst (v := 1) hx hb dMd_addPair_22 (by decide) ?_
  refine lv_iadd hx hb dMd_addPair_23 ?_
  refine lv_iload_n hx hb dMd_addPair_24 rfl (lv_at hl 1 rfl) ?_
  refine lv_bipush (v := 8) hx hb dMd_addPair_25 (by decide) ?_
  refine lv_ishr hx hb dMd_addPair_27 ?_
  refine lv_sipush (v := 255) hx hb dMd_addPair_28 (by decide) ?_
  refine lv_iand hx hb dMd_addPair_31 ?_
  obtain ⟨hi6, h⟩ := ck_some h
  refine x_iast hx hb hK hD hN hP hS (hal _ (okk_al hy5)) (okk_t hy5) 0 (fun _ _ _ => rfl) rfl (by decide) (inb_in hi6) dMd_addPair_32 (fun H locs hP hS => ?_)
  refine lv_aload_n hx hb dMd_addPair_33 rfl (lv_at hl 0 rfl) ?_
  refine lv_dup hx hb dMd_addPair_34 rfl ?_
  refine x_get hx hb hts in_Md hown hK hP (hal _ (okk_al q0)) (okk_t q0) rfl rfl 18 (by decide) (hts _ tw_800) (fun _ h9 => h9) rfl dMd_addPair_35 ?_
  refine lv_iconst (v := 2) hx hb dMd_addPair_38 (by decide) ?_
  refine lv_iadd hx hb dMd_addPair_39 ?_
  refine x_put hx hb hts in_Md t_Md t_Md_ok nm_Md hown hK hD hN hP hS (hal _ (okk_al q0)) (okk_t q0) rfl rfl 18 (by decide) (hts _ tw_800) (fun _ h9 => h9) rfl (ty := .int) (by decide +kernel) rfl rfl (Nat.le_of_ble_eq_true rfl) (stI (stI (stI u y1 (u.1 x0 18) (x1 &&& (255 : Int32))) y4 (((stI u y1 (u.1 x0 18) (x1 &&& (255 : Int32))).1 x0 18) + (1 : Int32)) ((x1 >>> ((8 : Int32) &&& 31)) &&& (255 : Int32))) x0 18 (((stI (stI u y1 (u.1 x0 18) (x1 &&& (255 : Int32))) y4 (((stI u y1 (u.1 x0 18) (x1 &&& (255 : Int32))).1 x0 18) + (1 : Int32)) ((x1 >>> ((8 : Int32) &&& 31)) &&& (255 : Int32))).1 x0 18) + (2 : Int32))) stI_o (by rw [stI_up]; exact eg_32_18) dMd_addPair_40 (fun H locs hP hS => ?_)
  exact x_vret hx hb hr hlocks h hP hS dMd_addPair_43
def fn_Md_addPair (F : Nat) (al : Nat → Bool) (u : Mr) (x0 : Nat) (x1 : Int32) : Option (Mr × Int32) := bk_Md_addPair_0 F al u x0 x1
set_option maxHeartbeats 4000000 in
set_option maxRecDepth 100000 in
theorem ct_Md_addPair {l : Launch} {D : va_G} {cA : Nat → ClassId} {ad : Nat → Nat} {L : List Nat} {rs : va_W} {al : Nat → Bool} (hal : ∀ k, al k = true → k ∈ L) (hN : L.Nodup) (F : Nat) (u : Mr) (x0 : Nat) (x1 : Int32) (out : Mr × Int32) (h : fn_Md_addPair F al u x0 x1 = some out) (q0 : okk al 32 x0 = true) : CtV l yMd_addPair wsMd_addPair rm_Md_addPair [.ref (ad x0), .int x1] D cA ad L rs u out := by
  intro sz
  refine Met.ofW (cc := cMd_addPair) (maxL := 2) (ret := none) (by decide) rfl ?_
  intro p e s m args below meth c s₁ B hml hv
  obtain ⟨rfl, hsz, hP, hK, hD0, hNx⟩ := hv
  subst hsz
  have hD := hD0.self (sz := s.heap.size)
  generalize hAe : va_A (ww ad cA L rs u) s.heap.size = A at hD ⊢
  have hA : ∀ q, s.heap.size ≤ q → A q := fun q h => by rw [← hAe]; exact Or.inr h
  have hl := lv_entry ([.ref (ad x0), .int x1]) (n := 2) (Nat.le_of_ble_eq_true rfl)
  rw [lg_entry_eq]
  generalize (lg_sl ([.ref (ad x0), .int x1]) ++ List.replicate (2 - (lg_sl ([.ref (ad x0), .int x1])).length) Slot.unset).toArray = ls at hl ⊢
  exact wk_Md_addPair_0 ⟨B.exec, B.bytes, hml, findClass_of_methodNamed B.named, hts_bw (atoms_spec (ws := wsMd_addPair) B.pre), B.returns, B.notSynchronized, hK, hA, fun v => ww_D hD, hN, hal, hNx⟩ F out u x0 x1 h q0 _ _ _ (lv_sub hl [0, 1] rfl) hP va_S.rf
abbrev rm_Md_up : Room := { frames := 0, cells := 0, slots := 0, locals := 0 }
def bk_Md_up_0 (F : Nat) (al : Nat → Bool) (u : Mr) (x0 : Int32) (x1 : Int32) : Option (Mr × Int32) := ck (decide (¬ x1 = 0)) (some (u, (((x0 + x1) - (1 : Int32)) / x1) * x1))
set_option maxHeartbeats 4000000 in
set_option maxRecDepth 100000 in
theorem wk_Md_up_0 (cx : Cx p l e s m args below meth c cMd_up 2 bw "ImageForgeModel" (some .int) D cA ad L rs al A) (F : Nat) (out : Mr × Int32) : ∀ (u : Mr) (x0 : Int32) (x1 : Int32), bk_Md_up_0 F al u x0 x1 = some out → Wb p l e rm_Md_up s m args below meth c D cA ad L rs A (QI below args s D cA ad L rs A out) 2 0 [(0, .int x0), (1, .int x1)] [] u := by
  obtain ⟨hx, hb, hml, hown, hts, hr, hlocks, hK, hA, hD, hN, hal, hNx⟩ := cx
  intro u x0 x1 h H locs ls hl hP hS
  unfold bk_Md_up_0 at h
  refine lv_iload_n hx hb dMd_up_0 rfl (lv_at hl 0 rfl) ?_
  refine lv_iload_n hx hb dMd_up_1 rfl (lv_at hl 1 rfl) ?_
  refine lv_iadd hx hb dMd_up_2 ?_
  refine lv_iconst (v := 1) hx hb dMd_up_3 (by decide) ?_
  refine lv_isub hx hb dMd_up_4 ?_
  refine lv_iload_n hx hb dMd_up_5 rfl (lv_at hl 1 rfl) ?_
  obtain ⟨hz1, h⟩ := ck_some h
  refine lv_idiv hx hb dMd_up_6 (of_decide_eq_true hz1) ?_
  refine lv_iload_n hx hb dMd_up_7 rfl (lv_at hl 1 rfl) ?_
  refine lv_imul hx hb dMd_up_8 ?_
  exact x_iret hx hb hr hlocks h hP hS dMd_up_9
def fn_Md_up (F : Nat) (al : Nat → Bool) (u : Mr) (x0 : Int32) (x1 : Int32) : Option (Mr × Int32) := bk_Md_up_0 F al u x0 x1
set_option maxHeartbeats 4000000 in
set_option maxRecDepth 100000 in
theorem ct_Md_up {l : Launch} {D : va_G} {cA : Nat → ClassId} {ad : Nat → Nat} {L : List Nat} {rs : va_W} {al : Nat → Bool} (hal : ∀ k, al k = true → k ∈ L) (hN : L.Nodup) (F : Nat) (u : Mr) (x0 : Int32) (x1 : Int32) (out : Mr × Int32) (h : fn_Md_up F al u x0 x1 = some out)  : CtI l yMd_up wsMd_up rm_Md_up [.int x0, .int x1] D cA ad L rs u out := by
  intro sz
  refine Met.ofW (cc := cMd_up) (maxL := 2) (ret := (some .int)) (by decide) rfl ?_
  intro p e s m args below meth c s₁ B hml hv
  obtain ⟨rfl, hsz, hP, hK, hD0, hNx⟩ := hv
  subst hsz
  have hD := hD0.self (sz := s.heap.size)
  generalize hAe : va_A (ww ad cA L rs u) s.heap.size = A at hD ⊢
  have hA : ∀ q, s.heap.size ≤ q → A q := fun q h => by rw [← hAe]; exact Or.inr h
  have hl := lv_entry ([.int x0, .int x1]) (n := 2) (Nat.le_of_ble_eq_true rfl)
  rw [lg_entry_eq]
  generalize (lg_sl ([.int x0, .int x1]) ++ List.replicate (2 - (lg_sl ([.int x0, .int x1])).length) Slot.unset).toArray = ls at hl ⊢
  exact wk_Md_up_0 ⟨B.exec, B.bytes, hml, findClass_of_methodNamed B.named, hts_bw (atoms_spec (ws := wsMd_up) B.pre), B.returns, B.notSynchronized, hK, hA, fun v => ww_D hD, hN, hal, hNx⟩ F out u x0 x1 h  _ _ _ (lv_sub hl [0, 1] rfl) hP va_S.rf
abbrev rm_Md_begin : Room := { frames := 1, cells := 0, slots := 0, locals := 21 }
def bk_Md_begin_0 (F : Nat) (al : Nat → Bool) (u : Mr) (x0 : Nat) (x1 : Int32) : Option (Mr × Int32) := bd2 (fn_Md_up F al u (u.1 x0 18) (64 : Int32)) fun u1 v1 => (bd1 (rdR al (stI u1 x0 18 v1) x0 20 42) fun y2 => (ck (inb x1 5) (some (stI (stI u1 x0 18 v1) y2 x1 ((stI u1 x0 18 v1).1 x0 18), 0))))
set_option maxHeartbeats 4000000 in
set_option maxRecDepth 100000 in
theorem wk_Md_begin_0 (cx : Cx p l e s m args below meth c cMd_begin 2 bw "ImageForgeModel" none D cA ad L rs al A) (F : Nat) (out : Mr × Int32) : ∀ (u : Mr) (x0 : Nat) (x1 : Int32), bk_Md_begin_0 F al u x0 x1 = some out → okk al 32 x0 = true → Wb p l e rm_Md_begin s m args below meth c D cA ad L rs A (QV below args s D cA ad L rs A out) 2 0 [(0, .ref (ad x0)), (1, .int x1)] [] u := by
  obtain ⟨hx, hb, hml, hown, hts, hr, hlocks, hK, hA, hD, hN, hal, hNx⟩ := cx
  intro u x0 x1 h q0 H locs ls hl hP hS
  unfold bk_Md_begin_0 at h
  refine lv_aload_n hx hb dMd_begin_0 rfl (lv_at hl 0 rfl) ?_
  refine lv_aload_n hx hb dMd_begin_1 rfl (lv_at hl 0 rfl) ?_
  refine x_get hx hb hts in_Md hown hK hP (hal _ (okk_al q0)) (okk_t q0) rfl rfl 18 (by decide) (hts _ tw_800) (fun _ h9 => h9) rfl dMd_begin_2 ?_
  refine lv_bipush (v := 64) hx hb dMd_begin_5 (by decide) ?_
  obtain ⟨u1, v1, hc1, h⟩ := bd2_some h
  refine x_ci (u := u) (out := (u1, v1)) hA hD hS (va_runS (As := [.int (u.1 x0 18), .int (64 : Int32)]) (rest := [.ref (ad x0)]) ⟨hx, hb, hml, hown, hts⟩ (ct_Md_up hal hN F u (u.1 x0 18) (64 : Int32) (u1, v1) hc1  _) ⟨callB_of 2 hts gdMd_up rfl rfl rfl (hts _ tw_11) (hts _ tw_939) hdMd_up ⟨Nat.le_of_ble_eq_true rfl, Nat.le_of_ble_eq_true rfl⟩, (hts _ tw_940)⟩ (x_preS hK hD hNx hP) rfl rfl hl.1 rfl (lv_room (Nat.le_of_ble_eq_true rfl)) dMd_begin_7 ⟨Nat.zero_le _, Nat.zero_le _⟩) (fun H locs hP hS => ?_)
  refine x_put hx hb hts in_Md t_Md t_Md_ok nm_Md hown hK hD hN hP hS (hal _ (okk_al q0)) (okk_t q0) rfl rfl 18 (by decide) (hts _ tw_800) (fun _ h9 => h9) rfl (ty := .int) (by decide +kernel) rfl rfl (Nat.le_of_ble_eq_true rfl) (stI u1 x0 18 v1) stI_o (by rw [stI_up]; exact eg_32_18) dMd_begin_10 (fun H locs hP hS => ?_)
  refine lv_aload_n hx hb dMd_begin_13 rfl (lv_at hl 0 rfl) ?_
  obtain ⟨y2, hy3, h⟩ := bd1_some h
  obtain ⟨hy3a, hy3⟩ := rdR_some hy3
  refine x_get hx hb hts in_Md hown hK hP (hal _ (okk_al q0)) (okk_t q0) rfl rfl 20 (by decide) (hts _ tw_802) (fun _ h9 => h9) (congrArg some (x_rf hy3a)) dMd_begin_14 ?_
  refine lv_iload_n hx hb dMd_begin_17 rfl (lv_at hl 1 rfl) ?_
  refine lv_aload_n hx hb dMd_begin_18 rfl (lv_at hl 0 rfl) ?_
  refine x_get hx hb hts in_Md hown hK hP (hal _ (okk_al q0)) (okk_t q0) rfl rfl 18 (by decide) (hts _ tw_800) (fun _ h9 => h9) rfl dMd_begin_19 ?_
  obtain ⟨hi4, h⟩ := ck_some h
  refine x_iast hx hb hK hD hN hP hS (hal _ (okk_al hy3)) (okk_t hy3) 0 (fun _ _ _ => rfl) rfl (by decide) (inb_in hi4) dMd_begin_22 (fun H locs hP hS => ?_)
  exact x_vret hx hb hr hlocks h hP hS dMd_begin_23
def fn_Md_begin (F : Nat) (al : Nat → Bool) (u : Mr) (x0 : Nat) (x1 : Int32) : Option (Mr × Int32) := bk_Md_begin_0 F al u x0 x1
set_option maxHeartbeats 4000000 in
set_option maxRecDepth 100000 in
theorem ct_Md_begin {l : Launch} {D : va_G} {cA : Nat → ClassId} {ad : Nat → Nat} {L : List Nat} {rs : va_W} {al : Nat → Bool} (hal : ∀ k, al k = true → k ∈ L) (hN : L.Nodup) (F : Nat) (u : Mr) (x0 : Nat) (x1 : Int32) (out : Mr × Int32) (h : fn_Md_begin F al u x0 x1 = some out) (q0 : okk al 32 x0 = true) : CtV l yMd_begin wsMd_begin rm_Md_begin [.ref (ad x0), .int x1] D cA ad L rs u out := by
  intro sz
  refine Met.ofW (cc := cMd_begin) (maxL := 2) (ret := none) (by decide) rfl ?_
  intro p e s m args below meth c s₁ B hml hv
  obtain ⟨rfl, hsz, hP, hK, hD0, hNx⟩ := hv
  subst hsz
  have hD := hD0.self (sz := s.heap.size)
  generalize hAe : va_A (ww ad cA L rs u) s.heap.size = A at hD ⊢
  have hA : ∀ q, s.heap.size ≤ q → A q := fun q h => by rw [← hAe]; exact Or.inr h
  have hl := lv_entry ([.ref (ad x0), .int x1]) (n := 2) (Nat.le_of_ble_eq_true rfl)
  rw [lg_entry_eq]
  generalize (lg_sl ([.ref (ad x0), .int x1]) ++ List.replicate (2 - (lg_sl ([.ref (ad x0), .int x1])).length) Slot.unset).toArray = ls at hl ⊢
  exact wk_Md_begin_0 ⟨B.exec, B.bytes, hml, findClass_of_methodNamed B.named, hts_bw (atoms_spec (ws := wsMd_begin) B.pre), B.returns, B.notSynchronized, hK, hA, fun v => ww_D hD, hN, hal, hNx⟩ F out u x0 x1 h q0 _ _ _ (lv_sub hl [0, 1] rfl) hP va_S.rf
abbrev rm_Md_layParts : Room := { frames := 2, cells := 0, slots := 0, locals := 42 }
def bk_Md_layParts_106 (F : Nat) (al : Nat → Bool) (k12 : Mr → Nat → Int32 → Int32 → Int32 → Option (Mr × Int32)) (u : Mr) (x0 : Nat) (x1 : Int32) (x2 : Int32) (x3 : Int32) : Option (Mr × Int32) := k12 u x0 x1 x2 (x3 + (1 : Int32))
set_option maxHeartbeats 4000000 in
set_option maxRecDepth 100000 in
theorem wk_Md_layParts_106 (cx : Cx p l e s m args below meth c cMd_layParts 6 bw "ImageForgeModel" none D cA ad L rs al A) (F : Nat) (out : Mr × Int32) {k12 : Mr → Nat → Int32 → Int32 → Int32 → Option (Mr × Int32)} (hk12 : ∀ (u : Mr) (x0 : Nat) (x1 : Int32) (x2 : Int32) (x3 : Int32), k12 u x0 x1 x2 x3 = some out → okk al 32 x0 = true → Wb p l e rm_Md_layParts s m args below meth c D cA ad L rs A (QV below args s D cA ad L rs A out) 6 12 [(0, .ref (ad x0)), (1, .int x1), (2, .int x2), (3, .int x3)] [] u) : ∀ (u : Mr) (x0 : Nat) (x1 : Int32) (x2 : Int32) (x3 : Int32), bk_Md_layParts_106 F al k12 u x0 x1 x2 x3 = some out → okk al 32 x0 = true → Wb p l e rm_Md_layParts s m args below meth c D cA ad L rs A (QV below args s D cA ad L rs A out) 6 106 [(0, .ref (ad x0)), (1, .int x1), (2, .int x2), (3, .int x3)] [] u := by
  obtain ⟨hx, hb, hml, hown, hts, hr, hlocks, hK, hA, hD, hN, hal, hNx⟩ := cx
  intro u x0 x1 x2 x3 h q0 H locs ls hl hP hS
  unfold bk_Md_layParts_106 at h
  refine lv_iinc (k := 3) (v := x3 + (1 : Int32)) (lv' := [(3, .int (x3 + (1 : Int32))), (0, .ref (ad x0)), (1, .int x1), (2, .int x2)]) hx hb dMd_layParts_106 hl rfl (congrArg (fun z => _ + z) (show Int32.ofInt 1 = 1 by decide)) (by decide) rfl (fun ls hl => ?_)
  refine lv_goto (tgt := 12) hx hb dMd_layParts_109 rfl ?_
  exact hk12 u x0 x1 x2 (x3 + (1 : Int32)) h q0 _ _ _ (lv_sub hl [1, 2, 3, 0] rfl) hP hS
def bk_Md_layParts_41 (F : Nat) (al : Nat → Bool) (k12 : Mr → Nat → Int32 → Int32 → Int32 → Option (Mr × Int32)) : Nat → Mr → Nat → Int32 → Int32 → Int32 → Int32 → Int32 → Option (Mr × Int32)
  | 0, _, _, _, _, _, _, _ => none
  | n + 1, u, x0, x1, x2, x3, x4, x5 => bd1 (rdR al u x0 1 33) fun y1 => (ck (inb x4 8) (if (u.1 y1 x4) ≤ x5 then (bd1 (rdR al u x0 1 33) fun y4 => (ck (inb x4 8) (bd1 (rdR al u x0 1 33) fun y7 => (ck (inb x4 8) (if (u.1 y7 x4) ≤ 0 then (bk_Md_layParts_106 F al k12 u x0 x1 (x2 + (u.1 y4 x4)) x3) else (bk_Md_layParts_106 F al k12 (stI u x0 18 (x2 + (u.1 y4 x4))) x0 x1 (x2 + (u.1 y4 x4)) x3)))))) else (bd1 (rdR al u x0 19 41) fun y10 => (bd1 (rdR al u x0 2 34) fun y12 => (ck (inb (((40 : Int32) * x4) + x5) 320) (ck (inb (x2 + x5) 2048) (bk_Md_layParts_41 F al k12 n (stI u y10 (x2 + x5) (u.1 y12 (((40 : Int32) * x4) + x5))) x0 x1 x2 x3 x4 (x5 + (1 : Int32)))))))))
set_option maxHeartbeats 4000000 in
set_option maxRecDepth 100000 in
theorem wk_Md_layParts_41 (cx : Cx p l e s m args below meth c cMd_layParts 6 bw "ImageForgeModel" none D cA ad L rs al A) (F : Nat) (out : Mr × Int32) {k12 : Mr → Nat → Int32 → Int32 → Int32 → Option (Mr × Int32)} (hk12 : ∀ (u : Mr) (x0 : Nat) (x1 : Int32) (x2 : Int32) (x3 : Int32), k12 u x0 x1 x2 x3 = some out → okk al 32 x0 = true → Wb p l e rm_Md_layParts s m args below meth c D cA ad L rs A (QV below args s D cA ad L rs A out) 6 12 [(0, .ref (ad x0)), (1, .int x1), (2, .int x2), (3, .int x3)] [] u) : ∀ n : Nat, ∀ (u : Mr) (x0 : Nat) (x1 : Int32) (x2 : Int32) (x3 : Int32) (x4 : Int32) (x5 : Int32), bk_Md_layParts_41 F al k12 n u x0 x1 x2 x3 x4 x5 = some out → okk al 32 x0 = true → Wb p l e rm_Md_layParts s m args below meth c D cA ad L rs A (QV below args s D cA ad L rs A out) 6 41 [(0, .ref (ad x0)), (1, .int x1), (2, .int x2), (3, .int x3), (4, .int x4), (5, .int x5)] [] u := by
  obtain ⟨hx, hb, hml, hown, hts, hr, hlocks, hK, hA, hD, hN, hal, hNx⟩ := cx
  intro n
  induction n with
  | zero =>
    intro u x0 x1 x2 x3 x4 x5 h
    cases h
  | succ n ih =>
    intro u x0 x1 x2 x3 x4 x5 h q0 H locs ls hl hP hS
    rw [bk_Md_layParts_41] at h
    refine lv_iload hx hb dMd_layParts_41 (lv_at hl 5 rfl) ?_
    refine lv_aload_n hx hb dMd_layParts_43 rfl (lv_at hl 0 rfl) ?_
    obtain ⟨y1, hy2, h⟩ := bd1_some h
    obtain ⟨hy2a, hy2⟩ := rdR_some hy2
    refine x_get hx hb hts in_Md hown hK hP (hal _ (okk_al q0)) (okk_t q0) rfl rfl 1 (by decide) (hts _ tw_783) (fun _ h9 => h9) (congrArg some (x_rf hy2a)) dMd_layParts_44 ?_
    refine lv_iload hx hb dMd_layParts_47 (lv_at hl 4 rfl) ?_
    obtain ⟨hi3, h⟩ := ck_some h
    refine x_iald hx hb hK hP (hal _ (okk_al hy2)) (okk_t hy2) 0 (fun _ _ _ => rfl) rfl (inb_in hi3) dMd_layParts_49 ?_
    refine lv_icmp_ge (tgt := 81) hx hb dMd_layParts_50 rfl (fun hc => ?_) (fun hc => ?_)
    · replace h := it_t h hc
      refine lv_iload_n hx hb dMd_layParts_81 rfl (lv_at hl 2 rfl) ?_
      refine lv_aload_n hx hb dMd_layParts_82 rfl (lv_at hl 0 rfl) ?_
      obtain ⟨y4, hy5, h⟩ := bd1_some h
      obtain ⟨hy5a, hy5⟩ := rdR_some hy5
      refine x_get hx hb hts in_Md hown hK hP (hal _ (okk_al q0)) (okk_t q0) rfl rfl 1 (by decide) (hts _ tw_783) (fun _ h9 => h9) (congrArg some (x_rf hy5a)) dMd_layParts_83 ?_
      refine lv_iload hx hb dMd_layParts_86 (lv_at hl 4 rfl) ?_
      obtain ⟨hi6, h⟩ := ck_some h
      refine x_iald hx hb hK hP (hal _ (okk_al hy5)) (okk_t hy5) 0 (fun _ _ _ => rfl) rfl (inb_in hi6) dMd_layParts_88 ?_
      refine lv_iadd hx hb dMd_layParts_89 ?_
      refine lv_istore_n (lv' := [(2, .int (x2 + (u.1 y4 x4))), (0, .ref (ad x0)), (1, .int x1), (3, .int x3), (4, .int x4), (5, .int x5)]) hx hb dMd_layParts_90 rfl hl (by decide) rfl (fun ls hl => ?_)
      refine lv_aload_n hx hb dMd_layParts_91 rfl (lv_at hl 1 rfl) ?_
      obtain ⟨y7, hy8, h⟩ := bd1_some h
      obtain ⟨hy8a, hy8⟩ := rdR_some hy8
      refine x_get hx hb hts in_Md hown hK hP (hal _ (okk_al q0)) (okk_t q0) rfl rfl 1 (by decide) (hts _ tw_783) (fun _ h9 => h9) (congrArg some (x_rf hy8a)) dMd_layParts_92 ?_
      refine lv_iload hx hb dMd_layParts_95 (lv_at hl 4 rfl) ?_
      obtain ⟨hi9, h⟩ := ck_some h
      refine x_iald hx hb hK hP (hal _ (okk_al hy8)) (okk_t hy8) 0 (fun _ _ _ => rfl) rfl (inb_in hi9) dMd_layParts_97 ?_
      refine lv_if_le (tgt := 106) hx hb dMd_layParts_98 rfl (fun hc => ?_) (fun hc => ?_)
      · replace h := it_t h hc
        exact wk_Md_layParts_106 ⟨hx, hb, hml, hown, hts, hr, hlocks, hK, hA, hD, hN, hal, hNx⟩ F out hk12 u x0 x1 (x2 + (u.1 y4 x4)) x3 h q0 _ _ _ (lv_sub hl [1, 2, 0, 3] rfl) hP hS
      · replace h := it_f h hc
        refine lv_aload_n hx hb dMd_layParts_101 rfl (lv_at hl 1 rfl) ?_
        refine lv_iload_n hx hb dMd_layParts_102 rfl (lv_at hl 0 rfl) ?_
        refine x_put hx hb hts in_Md t_Md t_Md_ok nm_Md hown hK hD hN hP hS (hal _ (okk_al q0)) (okk_t q0) rfl rfl 18 (by decide) (hts _ tw_800) (fun _ h9 => h9) rfl (ty := .int) (by decide +kernel) rfl rfl (Nat.le_of_ble_eq_true rfl) (stI u x0 18 (x2 + (u.1 y4 x4))) stI_o (by rw [stI_up]; exact eg_32_18) dMd_layParts_103 (fun H locs hP hS => ?_)
        exact wk_Md_layParts_106 ⟨hx, hb, hml, hown, hts, hr, hlocks, hK, hA, hD, hN, hal, hNx⟩ F out hk12 (stI u x0 18 (x2 + (u.1 y4 x4))) x0 x1 (x2 + (u.1 y4 x4)) x3 h q0 _ _ _ (lv_sub hl [1, 2, 0, 3] rfl) hP hS
    · replace h := it_f h hc
      refine lv_aload_n hx hb dMd_layParts_53 rfl (lv_at hl 0 rfl) ?_
      obtain ⟨y10, hy11, h⟩ := bd1_some h
      obtain ⟨hy11a, hy11⟩ := rdR_some hy11
      refine x_get hx hb hts in_Md hown hK hP (hal _ (okk_al q0)) (okk_t q0) rfl rfl 19 (by decide) (hts _ tw_801) (fun _ h9 => h9) (congrArg some (x_rf hy11a)) dMd_layParts_54 ?_
      refine lv_iload_n hx hb dMd_layParts_57 rfl (lv_at hl 2 rfl) ?_
      refine lv_iload hx hb dMd_layParts_58 (lv_at hl 5 rfl) ?_
      refine lv_iadd hx hb dMd_layParts_60 ?_
      refine lv_aload_n hx hb dMd_layParts_61 rfl (lv_at hl 0 rfl) ?_
      obtain ⟨y12, hy13, h⟩ := bd1_some h
      obtain ⟨hy13a, hy13⟩ := rdR_some hy13
      refine x_get hx hb hts in_Md hown hK hP (hal _ (okk_al q0)) (okk_t q0) rfl rfl 2 (by decide) (hts _ tw_784) (fun _ h9 => h9) (congrArg some (x_rf hy13a)) dMd_layParts_62 ?_
      refine lv_bipush (v := 40) hx hb dMd_layParts_65 (by decide) ?_
      refine lv_iload hx hb dMd_layParts_67 (lv_at hl 4 rfl) ?_
      refine lv_imul hx hb dMd_layParts_69 ?_
      refine lv_iload hx hb dMd_layParts_70 (lv_at hl 5 rfl) ?_
      refine lv_iadd hx hb dMd_layParts_72 ?_
      obtain ⟨hi14, h⟩ := ck_some h
      refine x_iald hx hb hK hP (hal _ (okk_al hy13)) (okk_t hy13) 0 (fun _ _ _ => rfl) rfl (inb_in hi14) dMd_layParts_73 ?_
      obtain ⟨hi15, h⟩ := ck_some h
      refine x_iast hx hb hK hD hN hP hS (hal _ (okk_al hy11)) (okk_t hy11) 0 (fun _ _ _ => rfl) rfl (by decide) (inb_in hi15) dMd_layParts_74 (fun H locs hP hS => ?_)
      refine lv_iinc (k := 5) (v := x5 + (1 : Int32)) (lv' := [(5, .int (x5 + (1 : Int32))), (0, .ref (ad x0)), (1, .int x1), (2, .int x2), (3, .int x3), (4, .int x4)]) hx hb dMd_layParts_75 hl rfl (congrArg (fun z => _ + z) (show Int32.ofInt 1 = 1 by decide)) (by decide) rfl (fun ls hl => ?_)
      refine lv_goto (tgt := 41) hx hb dMd_layParts_78 rfl ?_
      exact ih (stI u y10 (x2 + x5) (u.1 y12 (((40 : Int32) * x4) + x5))) x0 x1 x2 x3 x4 (x5 + (1 : Int32)) h q0 _ _ _ (lv_sub hl [1, 2, 3, 4, 5, 0] rfl) hP hS
def bk_Md_layParts_12 (F : Nat) (al : Nat → Bool) : Nat → Mr → Nat → Int32 → Int32 → Int32 → Option (Mr × Int32)
  | 0, _, _, _, _, _ => none
  | n + 1, u, x0, x1, x2, x3 => if (4 : Int32) ≤ x3 then (bd1 (rdR al u x0 21 42) fun y1 => (ck (inb x1 5) (some (stI u y1 x1 (u.1 x0 18), 0)))) else (bd2 (fn_Md_up F al u x2 (4 : Int32)) fun u4 v4 => (bd1 (rdR al u4 x0 22 33) fun y5 => (ck (inb (((2 : Int32) * x3) + x1) 8) (bk_Md_layParts_41 F al (bk_Md_layParts_12 F al n) F (stI u4 y5 (((2 : Int32) * x3) + x1) v4) x0 x1 v4 x3 (((2 : Int32) * x3) + x1) (0 : Int32)))))
set_option maxHeartbeats 4000000 in
set_option maxRecDepth 100000 in
theorem wk_Md_layParts_12 (cx : Cx p l e s m args below meth c cMd_layParts 6 bw "ImageForgeModel" none D cA ad L rs al A) (F : Nat) (out : Mr × Int32) : ∀ n : Nat, ∀ (u : Mr) (x0 : Nat) (x1 : Int32) (x2 : Int32) (x3 : Int32), bk_Md_layParts_12 F al n u x0 x1 x2 x3 = some out → okk al 32 x0 = true → Wb p l e rm_Md_layParts s m args below meth c D cA ad L rs A (QV below args s D cA ad L rs A out) 6 12 [(0, .ref (ad x0)), (1, .int x1), (2, .int x2), (3, .int x3)] [] u := by
  obtain ⟨hx, hb, hml, hown, hts, hr, hlocks, hK, hA, hD, hN, hal, hNx⟩ := cx
  intro n
  induction n with
  | zero =>
    intro u x0 x1 x2 x3 h
    cases h
  | succ n ih =>
    intro u x0 x1 x2 x3 h q0 H locs ls hl hP hS
    rw [bk_Md_layParts_12] at h
    refine lv_iload_n hx hb dMd_layParts_12 rfl (lv_at hl 3 rfl) ?_
    refine lv_iconst (v := 4) hx hb dMd_layParts_13 (by decide) ?_
    refine lv_icmp_ge (tgt := 112) hx hb dMd_layParts_14 rfl (fun hc => ?_) (fun hc => ?_)
    · replace h := it_t h hc
      refine lv_aload_n hx hb dMd_layParts_112 rfl (lv_at hl 0 rfl) ?_
      obtain ⟨y1, hy2, h⟩ := bd1_some h
      obtain ⟨hy2a, hy2⟩ := rdR_some hy2
      refine x_get hx hb hts in_Md hown hK hP (hal _ (okk_al q0)) (okk_t q0) rfl rfl 21 (by decide) (hts _ tw_803) (fun _ h9 => h9) (congrArg some (x_rf hy2a)) dMd_layParts_113 ?_
      refine lv_iload_n hx hb dMd_layParts_116 rfl (lv_at hl 1 rfl) ?_
      refine lv_aload_n hx hb dMd_layParts_117 rfl (lv_at hl 0 rfl) ?_
      refine x_get hx hb hts in_Md hown hK hP (hal _ (okk_al q0)) (okk_t q0) rfl rfl 18 (by decide) (hts _ tw_800) (fun _ h9 => h9) rfl dMd_layParts_118 ?_
      obtain ⟨hi3, h⟩ := ck_some h
      refine x_iast hx hb hK hD hN hP hS (hal _ (okk_al hy2)) (okk_t hy2) 0 (fun _ _ _ => rfl) rfl (by decide) (inb_in hi3) dMd_layParts_121 (fun H locs hP hS => ?_)
      exact x_vret hx hb hr hlocks h hP hS dMd_layParts_122
    · replace h := it_f h hc
      refine lv_iconst (v := 2) hx hb dMd_layParts_17 (by decide) ?_
      refine lv_iload_n hx hb dMd_layParts_18 rfl (lv_at hl 3 rfl) ?_
      refine lv_imul hx hb dMd_layParts_19 ?_
      refine lv_iload_n hx hb dMd_layParts_20 rfl (lv_at hl 1 rfl) ?_
      refine lv_iadd hx hb dMd_layParts_21 ?_
      refine lv_istore (lv' := [(4, .int (((2 : Int32) * x3) + x1)), (0, .ref (ad x0)), (1, .int x1), (2, .int x2), (3, .int x3)]) hx hb dMd_layParts_22 hl (by decide) rfl (fun ls hl => ?_)
      refine lv_iload_n hx hb dMd_layParts_24 rfl (lv_at hl 3 rfl) ?_
      refine lv_iconst (v := 4) hx hb dMd_layParts_25 (by decide) ?_
      obtain ⟨u4, v4, hc4, h⟩ := bd2_some h
      refine x_ci (u := u) (out := (u4, v4)) hA hD hS (va_runS (As := [.int x2, .int (4 : Int32)]) (rest := []) ⟨hx, hb, hml, hown, hts⟩ (ct_Md_up hal hN F u x2 (4 : Int32) (u4, v4) hc4  _) ⟨callB_of 2 hts gdMd_up rfl rfl rfl (hts _ tw_11) (hts _ tw_939) hdMd_up ⟨Nat.le_of_ble_eq_true rfl, Nat.le_of_ble_eq_true rfl⟩, (hts _ tw_940)⟩ (x_preS hK hD hNx hP) rfl rfl hl.1 rfl (lv_room (Nat.le_of_ble_eq_true rfl)) dMd_layParts_26 ⟨Nat.zero_le _, Nat.zero_le _⟩) (fun H locs hP hS => ?_)
      refine lv_istore_n (lv' := [(2, .int v4), (4, .int (((2 : Int32) * x3) + x1)), (0, .ref (ad x0)), (1, .int x1), (3, .int x3)]) hx hb dMd_layParts_29 rfl hl (by decide) rfl (fun ls hl => ?_)
      refine lv_aload_n hx hb dMd_layParts_30 rfl (lv_at hl 2 rfl) ?_
      obtain ⟨y5, hy6, h⟩ := bd1_some h
      obtain ⟨hy6a, hy6⟩ := rdR_some hy6
      refine x_get hx hb hts in_Md hown hK hP (hal _ (okk_al q0)) (okk_t q0) rfl rfl 22 (by decide) (hts _ tw_804) (fun _ h9 => h9) (congrArg some (x_rf hy6a)) dMd_layParts_31 ?_
      refine lv_iload hx hb dMd_layParts_34 (lv_at hl 1 rfl) ?_
      refine lv_iload_n hx hb dMd_layParts_36 rfl (lv_at hl 0 rfl) ?_
      obtain ⟨hi7, h⟩ := ck_some h
      refine x_iast hx hb hK hD hN hP hS (hal _ (okk_al hy6)) (okk_t hy6) 0 (fun _ _ _ => rfl) rfl (by decide) (inb_in hi7) dMd_layParts_37 (fun H locs hP hS => ?_)
      refine lv_iconst (v := 0) hx hb dMd_layParts_38 (by decide) ?_
      refine lv_istore (lv' := [(5, .int (0 : Int32)), (2, .int v4), (4, .int (((2 : Int32) * x3) + x1)), (0, .ref (ad x0)), (1, .int x1), (3, .int x3)]) hx hb dMd_layParts_39 hl (by decide) rfl (fun ls hl => ?_)
      exact wk_Md_layParts_41 ⟨hx, hb, hml, hown, hts, hr, hlocks, hK, hA, hD, hN, hal, hNx⟩ F out ih F (stI u4 y5 (((2 : Int32) * x3) + x1) v4) x0 x1 v4 x3 (((2 : Int32) * x3) + x1) (0 : Int32) h q0 _ _ _ (lv_sub hl [3, 4, 1, 5, 2, 0] rfl) hP hS
def bk_Md_layParts_0 (F : Nat) (al : Nat → Bool) (u : Mr) (x0 : Nat) (x1 : Int32) : Option (Mr × Int32) := bd2 (fn_Md_begin F al u x0 x1) fun u1 v1 => (bk_Md_layParts_12 F al F u1 x0 x1 (u1.1 x0 18) (0 : Int32))
set_option maxHeartbeats 4000000 in
set_option maxRecDepth 100000 in
theorem wk_Md_layParts_0 (cx : Cx p l e s m args below meth c cMd_layParts 6 bw "ImageForgeModel" none D cA ad L rs al A) (F : Nat) (out : Mr × Int32) : ∀ (u : Mr) (x0 : Nat) (x1 : Int32), bk_Md_layParts_0 F al u x0 x1 = some out → okk al 32 x0 = true → Wb p l e rm_Md_layParts s m args below meth c D cA ad L rs A (QV below args s D cA ad L rs A out) 6 0 [(0, .ref (ad x0)), (1, .int x1)] [] u := by
  obtain ⟨hx, hb, hml, hown, hts, hr, hlocks, hK, hA, hD, hN, hal, hNx⟩ := cx
  intro u x0 x1 h q0 H locs ls hl hP hS
  unfold bk_Md_layParts_0 at h
  refine lv_aload_n hx hb dMd_layParts_0 rfl (lv_at hl 0 rfl) ?_
  refine lv_iload_n hx hb dMd_layParts_1 rfl (lv_at hl 1 rfl) ?_
  obtain ⟨u1, v1, hc1, h⟩ := bd2_some h
  refine x_cv (u := u) (out := (u1, v1)) hA hD hS (va_runV (As := [.int x1]) (rest := []) ⟨hx, hb, hml, hown, hts⟩ (ct_Md_begin hal hN F u x0 x1 (u1, v1) hc1 q0 _) ⟨callB_of 1 hts gdMd_begin rfl rfl rfl (hts _ tw_11) (hts _ tw_935) hdMd_begin ⟨Nat.le_of_ble_eq_true rfl, Nat.le_of_ble_eq_true rfl⟩, (hts _ tw_937), (hts _ tp_57)⟩ (x_preV hK hD hNx hP (hal _ (okk_al q0)) (okk_t q0) rfl rfl) rfl rfl hl.1 rfl (lv_room (Nat.le_of_ble_eq_true rfl)) dMd_layParts_2 ⟨Nat.zero_le _, Nat.zero_le _⟩) (fun H locs hP hS => ?_)
  refine lv_aload_n hx hb dMd_layParts_5 rfl (lv_at hl 0 rfl) ?_
  refine x_get hx hb hts in_Md hown hK hP (hal _ (okk_al q0)) (okk_t q0) rfl rfl 18 (by decide) (hts _ tw_800) (fun _ h9 => h9) rfl dMd_layParts_6 ?_
  refine lv_istore_n (lv' := [(2, .int (u1.1 x0 18)), (0, .ref (ad x0)), (1, .int x1)]) hx hb dMd_layParts_9 rfl hl (by decide) rfl (fun ls hl => ?_)
  refine lv_iconst (v := 0) hx hb dMd_layParts_10 (by decide) ?_
  refine lv_istore_n (lv' := [(3, .int (0 : Int32)), (2, .int (u1.1 x0 18)), (0, .ref (ad x0)), (1, .int x1)]) hx hb dMd_layParts_11 rfl hl (by decide) rfl (fun ls hl => ?_)
  exact wk_Md_layParts_12 ⟨hx, hb, hml, hown, hts, hr, hlocks, hK, hA, hD, hN, hal, hNx⟩ F out F u1 x0 x1 (u1.1 x0 18) (0 : Int32) h q0 _ _ _ (lv_sub hl [2, 3, 1, 0] rfl) hP hS
def fn_Md_layParts (F : Nat) (al : Nat → Bool) (u : Mr) (x0 : Nat) (x1 : Int32) : Option (Mr × Int32) := bk_Md_layParts_0 F al u x0 x1
set_option maxHeartbeats 4000000 in
set_option maxRecDepth 100000 in
theorem ct_Md_layParts {l : Launch} {D : va_G} {cA : Nat → ClassId} {ad : Nat → Nat} {L : List Nat} {rs : va_W} {al : Nat → Bool} (hal : ∀ k, al k = true → k ∈ L) (hN : L.Nodup) (F : Nat) (u : Mr) (x0 : Nat) (x1 : Int32) (out : Mr × Int32) (h : fn_Md_layParts F al u x0 x1 = some out) (q0 : okk al 32 x0 = true) : CtV l yMd_layParts wsMd_layParts rm_Md_layParts [.ref (ad x0), .int x1] D cA ad L rs u out := by
  intro sz
  refine Met.ofW (cc := cMd_layParts) (maxL := 6) (ret := none) (by decide) rfl ?_
  intro p e s m args below meth c s₁ B hml hv
  obtain ⟨rfl, hsz, hP, hK, hD0, hNx⟩ := hv
  subst hsz
  have hD := hD0.self (sz := s.heap.size)
  generalize hAe : va_A (ww ad cA L rs u) s.heap.size = A at hD ⊢
  have hA : ∀ q, s.heap.size ≤ q → A q := fun q h => by rw [← hAe]; exact Or.inr h
  have hl := lv_entry ([.ref (ad x0), .int x1]) (n := 6) (Nat.le_of_ble_eq_true rfl)
  rw [lg_entry_eq]
  generalize (lg_sl ([.ref (ad x0), .int x1]) ++ List.replicate (6 - (lg_sl ([.ref (ad x0), .int x1])).length) Slot.unset).toArray = ls at hl ⊢
  exact wk_Md_layParts_0 ⟨B.exec, B.bytes, hml, findClass_of_methodNamed B.named, hts_bw (atoms_spec (ws := wsMd_layParts) B.pre), B.returns, B.notSynchronized, hK, hA, fun v => ww_D hD, hN, hal, hNx⟩ F out u x0 x1 h q0 _ _ _ (lv_sub hl [0, 1] rfl) hP va_S.rf
abbrev rm_Md_namesOf : Room := { frames := 0, cells := 0, slots := 0, locals := 0 }
def bk_Md_namesOf_28 (F : Nat) (al : Nat → Bool) (k4 : Mr → Nat → Int32 → Int32 → Int32 → Option (Mr × Int32)) (u : Mr) (s0 : Int32) (s1 : Int32) (x0 : Nat) (x1 : Int32) (x3 : Int32) : Option (Mr × Int32) := k4 u x0 x1 (s0 + s1) (x3 + (1 : Int32))
set_option maxHeartbeats 4000000 in
set_option maxRecDepth 100000 in
theorem wk_Md_namesOf_28 (cx : Cx p l e s m args below meth c cMd_namesOf 4 bw "ImageForgeModel" (some .int) D cA ad L rs al A) (F : Nat) (out : Mr × Int32) {k4 : Mr → Nat → Int32 → Int32 → Int32 → Option (Mr × Int32)} (hk4 : ∀ (u : Mr) (x0 : Nat) (x1 : Int32) (x2 : Int32) (x3 : Int32), k4 u x0 x1 x2 x3 = some out → okk al 32 x0 = true → Wb p l e rm_Md_namesOf s m args below meth c D cA ad L rs A (QI below args s D cA ad L rs A out) 4 4 [(0, .ref (ad x0)), (1, .int x1), (2, .int x2), (3, .int x3)] [] u) : ∀ (u : Mr) (s0 : Int32) (s1 : Int32) (x0 : Nat) (x1 : Int32) (x3 : Int32), bk_Md_namesOf_28 F al k4 u s0 s1 x0 x1 x3 = some out → okk al 32 x0 = true → Wb p l e rm_Md_namesOf s m args below meth c D cA ad L rs A (QI below args s D cA ad L rs A out) 4 28 [(0, .ref (ad x0)), (1, .int x1), (3, .int x3)] [.int s1, .int s0] u := by
  obtain ⟨hx, hb, hml, hown, hts, hr, hlocks, hK, hA, hD, hN, hal, hNx⟩ := cx
  intro u s0 s1 x0 x1 x3 h q0 H locs ls hl hP hS
  unfold bk_Md_namesOf_28 at h
  refine lv_iadd hx hb dMd_namesOf_28 ?_
  refine lv_istore_n (lv' := [(2, .int (s0 + s1)), (0, .ref (ad x0)), (1, .int x1), (3, .int x3)]) hx hb dMd_namesOf_29 rfl hl (by decide) rfl (fun ls hl => ?_)
  refine lv_iinc (k := 3) (v := x3 + (1 : Int32)) (lv' := [(3, .int (x3 + (1 : Int32))), (2, .int (s0 + s1)), (0, .ref (ad x0)), (1, .int x1)]) hx hb dMd_namesOf_30 hl rfl (congrArg (fun z => _ + z) (show Int32.ofInt 1 = 1 by decide)) (by decide) rfl (fun ls hl => ?_)
  refine lv_goto (tgt := 4) hx hb dMd_namesOf_33 rfl ?_
  exact hk4 u x0 x1 (s0 + s1) (x3 + (1 : Int32)) h q0 _ _ _ (lv_sub hl [2, 3, 1, 0] rfl) hP hS
def bk_Md_namesOf_4 (F : Nat) (al : Nat → Bool) : Nat → Mr → Nat → Int32 → Int32 → Int32 → Option (Mr × Int32)
  | 0, _, _, _, _, _ => none
  | n + 1, u, x0, x1, x2, x3 => if (16 : Int32) ≤ x3 then (some (u, x2)) else (bd1 (rdR al u x0 12 38) fun y1 => (ck (inb x3 16) (if (u.1 y1 x3) = (x1 + (1 : Int32)) then (bk_Md_namesOf_28 F al (bk_Md_namesOf_4 F al n) u x2 (1 : Int32) x0 x1 x3) else (bk_Md_namesOf_28 F al (bk_Md_namesOf_4 F al n) u x2 (0 : Int32) x0 x1 x3))))
set_option maxHeartbeats 4000000 in
set_option maxRecDepth 100000 in
theorem wk_Md_namesOf_4 (cx : Cx p l e s m args below meth c cMd_namesOf 4 bw "ImageForgeModel" (some .int) D cA ad L rs al A) (F : Nat) (out : Mr × Int32) : ∀ n : Nat, ∀ (u : Mr) (x0 : Nat) (x1 : Int32) (x2 : Int32) (x3 : Int32), bk_Md_namesOf_4 F al n u x0 x1 x2 x3 = some out → okk al 32 x0 = true → Wb p l e rm_Md_namesOf s m args below meth c D cA ad L rs A (QI below args s D cA ad L rs A out) 4 4 [(0, .ref (ad x0)), (1, .int x1), (2, .int x2), (3, .int x3)] [] u := by
  obtain ⟨hx, hb, hml, hown, hts, hr, hlocks, hK, hA, hD, hN, hal, hNx⟩ := cx
  intro n
  induction n with
  | zero =>
    intro u x0 x1 x2 x3 h
    cases h
  | succ n ih =>
    intro u x0 x1 x2 x3 h q0 H locs ls hl hP hS
    rw [bk_Md_namesOf_4] at h
    refine lv_iload_n hx hb dMd_namesOf_4 rfl (lv_at hl 3 rfl) ?_
    refine lv_bipush (v := 16) hx hb dMd_namesOf_5 (by decide) ?_
    refine lv_icmp_ge (tgt := 36) hx hb dMd_namesOf_7 rfl (fun hc => ?_) (fun hc => ?_)
    · replace h := it_t h hc
      refine lv_iload_n hx hb dMd_namesOf_36 rfl (lv_at hl 2 rfl) ?_
      exact x_iret hx hb hr hlocks h hP hS dMd_namesOf_37
    · replace h := it_f h hc
      refine lv_iload_n hx hb dMd_namesOf_10 rfl (lv_at hl 2 rfl) ?_
      refine lv_aload_n hx hb dMd_namesOf_11 rfl (lv_at hl 0 rfl) ?_
      obtain ⟨y1, hy2, h⟩ := bd1_some h
      obtain ⟨hy2a, hy2⟩ := rdR_some hy2
      refine x_get hx hb hts in_Md hown hK hP (hal _ (okk_al q0)) (okk_t q0) rfl rfl 12 (by decide) (hts _ tw_794) (fun _ h9 => h9) (congrArg some (x_rf hy2a)) dMd_namesOf_12 ?_
      refine lv_iload_n hx hb dMd_namesOf_15 rfl (lv_at hl 3 rfl) ?_
      obtain ⟨hi3, h⟩ := ck_some h
      refine x_iald hx hb hK hP (hal _ (okk_al hy2)) (okk_t hy2) 0 (fun _ _ _ => rfl) rfl (inb_in hi3) dMd_namesOf_16 ?_
      refine lv_iload_n hx hb dMd_namesOf_17 rfl (lv_at hl 1 rfl) ?_
      refine lv_iconst (v := 1) hx hb dMd_namesOf_18 (by decide) ?_
      refine lv_iadd hx hb dMd_namesOf_19 ?_
      refine lv_icmp_ne (tgt := 27) hx hb dMd_namesOf_20 rfl (fun hc => ?_) (fun hc => ?_)
      · replace h := it_f h hc
        refine lv_iconst (v := 0) hx hb dMd_namesOf_27 (by decide) ?_
        exact wk_Md_namesOf_28 ⟨hx, hb, hml, hown, hts, hr, hlocks, hK, hA, hD, hN, hal, hNx⟩ F out ih u x2 (0 : Int32) x0 x1 x3 h q0 _ _ _ (lv_sub hl [0, 1, 3] rfl) hP hS
      · replace h := it_t h hc
        refine lv_iconst (v := 1) hx hb dMd_namesOf_23 (by decide) ?_
        refine lv_goto (tgt := 28) hx hb dMd_namesOf_24 rfl ?_
        exact wk_Md_namesOf_28 ⟨hx, hb, hml, hown, hts, hr, hlocks, hK, hA, hD, hN, hal, hNx⟩ F out ih u x2 (1 : Int32) x0 x1 x3 h q0 _ _ _ (lv_sub hl [0, 1, 3] rfl) hP hS
def bk_Md_namesOf_0 (F : Nat) (al : Nat → Bool) (u : Mr) (x0 : Nat) (x1 : Int32) : Option (Mr × Int32) := bk_Md_namesOf_4 F al F u x0 x1 (0 : Int32) (0 : Int32)
set_option maxHeartbeats 4000000 in
set_option maxRecDepth 100000 in
theorem wk_Md_namesOf_0 (cx : Cx p l e s m args below meth c cMd_namesOf 4 bw "ImageForgeModel" (some .int) D cA ad L rs al A) (F : Nat) (out : Mr × Int32) : ∀ (u : Mr) (x0 : Nat) (x1 : Int32), bk_Md_namesOf_0 F al u x0 x1 = some out → okk al 32 x0 = true → Wb p l e rm_Md_namesOf s m args below meth c D cA ad L rs A (QI below args s D cA ad L rs A out) 4 0 [(0, .ref (ad x0)), (1, .int x1)] [] u := by
  obtain ⟨hx, hb, hml, hown, hts, hr, hlocks, hK, hA, hD, hN, hal, hNx⟩ := cx
  intro u x0 x1 h q0 H locs ls hl hP hS
  unfold bk_Md_namesOf_0 at h
  refine lv_iconst (v := 0) hx hb dMd_namesOf_0 (by decide) ?_
  refine lv_istore_n (lv' := [(2, .int (0 : Int32)), (0, .ref (ad x0)), (1, .int x1)]) hx hb dMd_namesOf_1 rfl hl (by decide) rfl (fun ls hl => ?_)
  refine lv_iconst (v := 0) hx hb dMd_namesOf_2 (by decide) ?_
  refine lv_istore_n (lv' := [(3, .int (0 : Int32)), (2, .int (0 : Int32)), (0, .ref (ad x0)), (1, .int x1)]) hx hb dMd_namesOf_3 rfl hl (by decide) rfl (fun ls hl => ?_)
  exact wk_Md_namesOf_4 ⟨hx, hb, hml, hown, hts, hr, hlocks, hK, hA, hD, hN, hal, hNx⟩ F out F u x0 x1 (0 : Int32) (0 : Int32) h q0 _ _ _ (lv_sub hl [2, 3, 1, 0] rfl) hP hS
def fn_Md_namesOf (F : Nat) (al : Nat → Bool) (u : Mr) (x0 : Nat) (x1 : Int32) : Option (Mr × Int32) := bk_Md_namesOf_0 F al u x0 x1
set_option maxHeartbeats 4000000 in
set_option maxRecDepth 100000 in
theorem ct_Md_namesOf {l : Launch} {D : va_G} {cA : Nat → ClassId} {ad : Nat → Nat} {L : List Nat} {rs : va_W} {al : Nat → Bool} (hal : ∀ k, al k = true → k ∈ L) (hN : L.Nodup) (F : Nat) (u : Mr) (x0 : Nat) (x1 : Int32) (out : Mr × Int32) (h : fn_Md_namesOf F al u x0 x1 = some out) (q0 : okk al 32 x0 = true) : CtI l yMd_namesOf wsMd_namesOf rm_Md_namesOf [.ref (ad x0), .int x1] D cA ad L rs u out := by
  intro sz
  refine Met.ofW (cc := cMd_namesOf) (maxL := 4) (ret := (some .int)) (by decide) rfl ?_
  intro p e s m args below meth c s₁ B hml hv
  obtain ⟨rfl, hsz, hP, hK, hD0, hNx⟩ := hv
  subst hsz
  have hD := hD0.self (sz := s.heap.size)
  generalize hAe : va_A (ww ad cA L rs u) s.heap.size = A at hD ⊢
  have hA : ∀ q, s.heap.size ≤ q → A q := fun q h => by rw [← hAe]; exact Or.inr h
  have hl := lv_entry ([.ref (ad x0), .int x1]) (n := 4) (Nat.le_of_ble_eq_true rfl)
  rw [lg_entry_eq]
  generalize (lg_sl ([.ref (ad x0), .int x1]) ++ List.replicate (4 - (lg_sl ([.ref (ad x0), .int x1])).length) Slot.unset).toArray = ls at hl ⊢
  exact wk_Md_namesOf_0 ⟨B.exec, B.bytes, hml, findClass_of_methodNamed B.named, hts_bw (atoms_spec (ws := wsMd_namesOf) B.pre), B.returns, B.notSynchronized, hK, hA, fun v => ww_D hD, hN, hal, hNx⟩ F out u x0 x1 h q0 _ _ _ (lv_sub hl [0, 1] rfl) hP va_S.rf
abbrev rm_Md_layImports : Room := { frames := 2, cells := 0, slots := 0, locals := 44 }
def bk_Md_layImports_159 (F : Nat) (al : Nat → Bool) (u : Mr) (x0 : Nat) : Option (Mr × Int32) := bd1 (rdR al u x0 21 42) fun y1 => (some (stI u y1 (2 : Int32) (u.1 x0 18), 0))
set_option maxHeartbeats 4000000 in
set_option maxRecDepth 100000 in
theorem wk_Md_layImports_159 (cx : Cx p l e s m args below meth c cMd_layImports 5 bw "ImageForgeModel" none D cA ad L rs al A) (F : Nat) (out : Mr × Int32) : ∀ (u : Mr) (x0 : Nat), bk_Md_layImports_159 F al u x0 = some out → okk al 32 x0 = true → Wb p l e rm_Md_layImports s m args below meth c D cA ad L rs A (QV below args s D cA ad L rs A out) 5 159 [(0, .ref (ad x0))] [] u := by
  obtain ⟨hx, hb, hml, hown, hts, hr, hlocks, hK, hA, hD, hN, hal, hNx⟩ := cx
  intro u x0 h q0 H locs ls hl hP hS
  unfold bk_Md_layImports_159 at h
  refine lv_aload_n hx hb dMd_layImports_159 rfl (lv_at hl 0 rfl) ?_
  obtain ⟨y1, hy2, h⟩ := bd1_some h
  obtain ⟨hy2a, hy2⟩ := rdR_some hy2
  refine x_get hx hb hts in_Md hown hK hP (hal _ (okk_al q0)) (okk_t q0) rfl rfl 21 (by decide) (hts _ tw_803) (fun _ h9 => h9) (congrArg some (x_rf hy2a)) dMd_layImports_160 ?_
  refine lv_iconst (v := 2) hx hb dMd_layImports_163 (by decide) ?_
  refine lv_aload_n hx hb dMd_layImports_164 rfl (lv_at hl 0 rfl) ?_
  refine x_get hx hb hts in_Md hown hK hP (hal _ (okk_al q0)) (okk_t q0) rfl rfl 18 (by decide) (hts _ tw_800) (fun _ h9 => h9) rfl dMd_layImports_165 ?_
  refine x_iast hx hb hK hD hN hP hS (hal _ (okk_al hy2)) (okk_t hy2) 0 (fun _ _ _ => rfl) rfl (by decide) (inb_in (show inb (2 : Int32) 5 = true by decide)) dMd_layImports_168 (fun H locs hP hS => ?_)
  exact x_vret hx hb hr hlocks h hP hS dMd_layImports_169
def bk_Md_layImports_150 (F : Nat) (al : Nat → Bool) (u : Mr) (x0 : Nat) (x1 : Int32) (x2 : Int32) : Option (Mr × Int32) := if x1 ≤ 0 then (bk_Md_layImports_159 F al u x0) else (bk_Md_layImports_159 F al (stI u x0 18 x2) x0)
set_option maxHeartbeats 4000000 in
set_option maxRecDepth 100000 in
theorem wk_Md_layImports_150 (cx : Cx p l e s m args below meth c cMd_layImports 5 bw "ImageForgeModel" none D cA ad L rs al A) (F : Nat) (out : Mr × Int32) : ∀ (u : Mr) (x0 : Nat) (x1 : Int32) (x2 : Int32), bk_Md_layImports_150 F al u x0 x1 x2 = some out → okk al 32 x0 = true → Wb p l e rm_Md_layImports s m args below meth c D cA ad L rs A (QV below args s D cA ad L rs A out) 5 150 [(0, .ref (ad x0)), (1, .int x1), (2, .int x2)] [] u := by
  obtain ⟨hx, hb, hml, hown, hts, hr, hlocks, hK, hA, hD, hN, hal, hNx⟩ := cx
  intro u x0 x1 x2 h q0 H locs ls hl hP hS
  unfold bk_Md_layImports_150 at h
  refine lv_iload_n hx hb dMd_layImports_150 rfl (lv_at hl 1 rfl) ?_
  refine lv_if_le (tgt := 159) hx hb dMd_layImports_151 rfl (fun hc => ?_) (fun hc => ?_)
  · replace h := it_t h hc
    exact wk_Md_layImports_159 ⟨hx, hb, hml, hown, hts, hr, hlocks, hK, hA, hD, hN, hal, hNx⟩ F out u x0 h q0 _ _ _ (lv_sub hl [0] rfl) hP hS
  · replace h := it_f h hc
    refine lv_aload_n hx hb dMd_layImports_154 rfl (lv_at hl 0 rfl) ?_
    refine lv_iload_n hx hb dMd_layImports_155 rfl (lv_at hl 2 rfl) ?_
    refine x_put hx hb hts in_Md t_Md t_Md_ok nm_Md hown hK hD hN hP hS (hal _ (okk_al q0)) (okk_t q0) rfl rfl 18 (by decide) (hts _ tw_800) (fun _ h9 => h9) rfl (ty := .int) (by decide +kernel) rfl rfl (Nat.le_of_ble_eq_true rfl) (stI u x0 18 x2) stI_o (by rw [stI_up]; exact eg_32_18) dMd_layImports_156 (fun H locs hP hS => ?_)
    exact wk_Md_layImports_159 ⟨hx, hb, hml, hown, hts, hr, hlocks, hK, hA, hD, hN, hal, hNx⟩ F out (stI u x0 18 x2) x0 h q0 _ _ _ (lv_sub hl [0] rfl) hP hS
def bk_Md_layImports_144 (F : Nat) (al : Nat → Bool) (k51 : Mr → Nat → Int32 → Int32 → Int32 → Option (Mr × Int32)) (u : Mr) (x0 : Nat) (x1 : Int32) (x2 : Int32) (x3 : Int32) : Option (Mr × Int32) := k51 u x0 x1 x2 (x3 + (1 : Int32))
set_option maxHeartbeats 4000000 in
set_option maxRecDepth 100000 in
theorem wk_Md_layImports_144 (cx : Cx p l e s m args below meth c cMd_layImports 5 bw "ImageForgeModel" none D cA ad L rs al A) (F : Nat) (out : Mr × Int32) {k51 : Mr → Nat → Int32 → Int32 → Int32 → Option (Mr × Int32)} (hk51 : ∀ (u : Mr) (x0 : Nat) (x1 : Int32) (x2 : Int32) (x3 : Int32), k51 u x0 x1 x2 x3 = some out → okk al 32 x0 = true → Wb p l e rm_Md_layImports s m args below meth c D cA ad L rs A (QV below args s D cA ad L rs A out) 5 51 [(0, .ref (ad x0)), (1, .int x1), (2, .int x2), (3, .int x3)] [] u) : ∀ (u : Mr) (x0 : Nat) (x1 : Int32) (x2 : Int32) (x3 : Int32), bk_Md_layImports_144 F al k51 u x0 x1 x2 x3 = some out → okk al 32 x0 = true → Wb p l e rm_Md_layImports s m args below meth c D cA ad L rs A (QV below args s D cA ad L rs A out) 5 144 [(0, .ref (ad x0)), (1, .int x1), (2, .int x2), (3, .int x3)] [] u := by
  obtain ⟨hx, hb, hml, hown, hts, hr, hlocks, hK, hA, hD, hN, hal, hNx⟩ := cx
  intro u x0 x1 x2 x3 h q0 H locs ls hl hP hS
  unfold bk_Md_layImports_144 at h
  refine lv_iinc (k := 3) (v := x3 + (1 : Int32)) (lv' := [(3, .int (x3 + (1 : Int32))), (0, .ref (ad x0)), (1, .int x1), (2, .int x2)]) hx hb dMd_layImports_144 hl rfl (congrArg (fun z => _ + z) (show Int32.ofInt 1 = 1 by decide)) (by decide) rfl (fun ls hl => ?_)
  refine lv_goto (tgt := 51) hx hb dMd_layImports_147 rfl ?_
  exact hk51 u x0 x1 x2 (x3 + (1 : Int32)) h q0 _ _ _ (lv_sub hl [1, 2, 3, 0] rfl) hP hS
def bk_Md_layImports_135 (F : Nat) (al : Nat → Bool) (k51 : Mr → Nat → Int32 → Int32 → Int32 → Option (Mr × Int32)) (k86 : Mr → Nat → Int32 → Int32 → Int32 → Int32 → Option (Mr × Int32)) (u : Mr) (x0 : Nat) (x1 : Int32) (x2 : Int32) (x3 : Int32) (x4 : Int32) : Option (Mr × Int32) := k86 u x0 x1 x2 x3 (x4 + (1 : Int32))
set_option maxHeartbeats 4000000 in
set_option maxRecDepth 100000 in
theorem wk_Md_layImports_135 (cx : Cx p l e s m args below meth c cMd_layImports 5 bw "ImageForgeModel" none D cA ad L rs al A) (F : Nat) (out : Mr × Int32) {k51 : Mr → Nat → Int32 → Int32 → Int32 → Option (Mr × Int32)} {k86 : Mr → Nat → Int32 → Int32 → Int32 → Int32 → Option (Mr × Int32)} (hk51 : ∀ (u : Mr) (x0 : Nat) (x1 : Int32) (x2 : Int32) (x3 : Int32), k51 u x0 x1 x2 x3 = some out → okk al 32 x0 = true → Wb p l e rm_Md_layImports s m args below meth c D cA ad L rs A (QV below args s D cA ad L rs A out) 5 51 [(0, .ref (ad x0)), (1, .int x1), (2, .int x2), (3, .int x3)] [] u) (hk86 : ∀ (u : Mr) (x0 : Nat) (x1 : Int32) (x2 : Int32) (x3 : Int32) (x4 : Int32), k86 u x0 x1 x2 x3 x4 = some out → okk al 32 x0 = true → Wb p l e rm_Md_layImports s m args below meth c D cA ad L rs A (QV below args s D cA ad L rs A out) 5 86 [(0, .ref (ad x0)), (1, .int x1), (2, .int x2), (3, .int x3), (4, .int x4)] [] u) : ∀ (u : Mr) (x0 : Nat) (x1 : Int32) (x2 : Int32) (x3 : Int32) (x4 : Int32), bk_Md_layImports_135 F al k51 k86 u x0 x1 x2 x3 x4 = some out → okk al 32 x0 = true → Wb p l e rm_Md_layImports s m args below meth c D cA ad L rs A (QV below args s D cA ad L rs A out) 5 135 [(0, .ref (ad x0)), (1, .int x1), (2, .int x2), (3, .int x3), (4, .int x4)] [] u := by
  obtain ⟨hx, hb, hml, hown, hts, hr, hlocks, hK, hA, hD, hN, hal, hNx⟩ := cx
  intro u x0 x1 x2 x3 x4 h q0 H locs ls hl hP hS
  unfold bk_Md_layImports_135 at h
  refine lv_iinc (k := 4) (v := x4 + (1 : Int32)) (lv' := [(4, .int (x4 + (1 : Int32))), (0, .ref (ad x0)), (1, .int x1), (2, .int x2), (3, .int x3)]) hx hb dMd_layImports_135 hl rfl (congrArg (fun z => _ + z) (show Int32.ofInt 1 = 1 by decide)) (by decide) rfl (fun ls hl => ?_)
  refine lv_goto (tgt := 86) hx hb dMd_layImports_138 rfl ?_
  exact hk86 u x0 x1 x2 x3 (x4 + (1 : Int32)) h q0 _ _ _ (lv_sub hl [1, 2, 3, 4, 0] rfl) hP hS
def bk_Md_layImports_86 (F : Nat) (al : Nat → Bool) (k51 : Mr → Nat → Int32 → Int32 → Int32 → Option (Mr × Int32)) : Nat → Mr → Nat → Int32 → Int32 → Int32 → Int32 → Option (Mr × Int32)
  | 0, _, _, _, _, _, _ => none
  | n + 1, u, x0, x1, x2, x3, x4 => if (16 : Int32) ≤ x4 then (bk_Md_layImports_144 F al k51 u x0 x1 (x2 + (4 : Int32)) x3) else (bd1 (rdR al u x0 12 38) fun y1 => (ck (inb x4 16) (if (u.1 y1 x4) = (x3 + (1 : Int32)) then (bd1 (rdR al u x0 23 38) fun y4 => (ck (inb x4 16) (bd1 (rdR al (stI u y4 x4 x2) x0 13 38) fun y7 => (ck (inb x4 16) (bd2 (fn_Md_word F al (stI u y4 x4 x2) x0 x2 (((stI u y4 x4 x2).1 y7 x4) ||| (-2147483648 : Int32))) fun u10 v10 => (bk_Md_layImports_135 F al k51 (bk_Md_layImports_86 F al k51 n) u10 x0 x1 (x2 + (4 : Int32)) x3 x4)))))) else (bk_Md_layImports_135 F al k51 (bk_Md_layImports_86 F al k51 n) u x0 x1 x2 x3 x4))))
set_option maxHeartbeats 4000000 in
set_option maxRecDepth 100000 in
theorem wk_Md_layImports_86 (cx : Cx p l e s m args below meth c cMd_layImports 5 bw "ImageForgeModel" none D cA ad L rs al A) (F : Nat) (out : Mr × Int32) {k51 : Mr → Nat → Int32 → Int32 → Int32 → Option (Mr × Int32)} (hk51 : ∀ (u : Mr) (x0 : Nat) (x1 : Int32) (x2 : Int32) (x3 : Int32), k51 u x0 x1 x2 x3 = some out → okk al 32 x0 = true → Wb p l e rm_Md_layImports s m args below meth c D cA ad L rs A (QV below args s D cA ad L rs A out) 5 51 [(0, .ref (ad x0)), (1, .int x1), (2, .int x2), (3, .int x3)] [] u) : ∀ n : Nat, ∀ (u : Mr) (x0 : Nat) (x1 : Int32) (x2 : Int32) (x3 : Int32) (x4 : Int32), bk_Md_layImports_86 F al k51 n u x0 x1 x2 x3 x4 = some out → okk al 32 x0 = true → Wb p l e rm_Md_layImports s m args below meth c D cA ad L rs A (QV below args s D cA ad L rs A out) 5 86 [(0, .ref (ad x0)), (1, .int x1), (2, .int x2), (3, .int x3), (4, .int x4)] [] u := by
  obtain ⟨hx, hb, hml, hown, hts, hr, hlocks, hK, hA, hD, hN, hal, hNx⟩ := cx
  intro n
  induction n with
  | zero =>
    intro u x0 x1 x2 x3 x4 h
    cases h
  | succ n ih =>
    intro u x0 x1 x2 x3 x4 h q0 H locs ls hl hP hS
    rw [bk_Md_layImports_86] at h
    refine lv_iload hx hb dMd_layImports_86 (lv_at hl 4 rfl) ?_
    refine lv_bipush (v := 16) hx hb dMd_layImports_88 (by decide) ?_
    refine lv_icmp_ge (tgt := 141) hx hb dMd_layImports_90 rfl (fun hc => ?_) (fun hc => ?_)
    · replace h := it_t h hc
      refine lv_iinc (k := 2) (v := x2 + (4 : Int32)) (lv' := [(2, .int (x2 + (4 : Int32))), (0, .ref (ad x0)), (1, .int x1), (3, .int x3), (4, .int x4)]) hx hb dMd_layImports_141 hl rfl (congrArg (fun z => _ + z) (show Int32.ofInt 4 = 4 by decide)) (by decide) rfl (fun ls hl => ?_)
      exact wk_Md_layImports_144 ⟨hx, hb, hml, hown, hts, hr, hlocks, hK, hA, hD, hN, hal, hNx⟩ F out hk51 u x0 x1 (x2 + (4 : Int32)) x3 h q0 _ _ _ (lv_sub hl [1, 2, 0, 3] rfl) hP hS
    · replace h := it_f h hc
      refine lv_aload_n hx hb dMd_layImports_93 rfl (lv_at hl 0 rfl) ?_
      obtain ⟨y1, hy2, h⟩ := bd1_some h
      obtain ⟨hy2a, hy2⟩ := rdR_some hy2
      refine x_get hx hb hts in_Md hown hK hP (hal _ (okk_al q0)) (okk_t q0) rfl rfl 12 (by decide) (hts _ tw_794) (fun _ h9 => h9) (congrArg some (x_rf hy2a)) dMd_layImports_94 ?_
      refine lv_iload hx hb dMd_layImports_97 (lv_at hl 4 rfl) ?_
      obtain ⟨hi3, h⟩ := ck_some h
      refine x_iald hx hb hK hP (hal _ (okk_al hy2)) (okk_t hy2) 0 (fun _ _ _ => rfl) rfl (inb_in hi3) dMd_layImports_99 ?_
      refine lv_iload_n hx hb dMd_layImports_100 rfl (lv_at hl 3 rfl) ?_
      refine lv_iconst (v := 1) hx hb dMd_layImports_101 (by decide) ?_
      refine lv_iadd hx hb dMd_layImports_102 ?_
      refine lv_icmp_eq (tgt := 109) hx hb dMd_layImports_103 rfl (fun hc => ?_) (fun hc => ?_)
      · replace h := it_t h hc
        refine lv_aload_n hx hb dMd_layImports_109 rfl (lv_at hl 0 rfl) ?_
        obtain ⟨y4, hy5, h⟩ := bd1_some h
        obtain ⟨hy5a, hy5⟩ := rdR_some hy5
        refine x_get hx hb hts in_Md hown hK hP (hal _ (okk_al q0)) (okk_t q0) rfl rfl 23 (by decide) (hts _ tw_805) (fun _ h9 => h9) (congrArg some (x_rf hy5a)) dMd_layImports_110 ?_
        refine lv_iload hx hb dMd_layImports_113 (lv_at hl 4 rfl) ?_
        refine lv_iload_n hx hb dMd_layImports_115 rfl (lv_at hl 2 rfl) ?_
        obtain ⟨hi6, h⟩ := ck_some h
        refine x_iast hx hb hK hD hN hP hS (hal _ (okk_al hy5)) (okk_t hy5) 0 (fun _ _ _ => rfl) rfl (by decide) (inb_in hi6) dMd_layImports_116 (fun H locs hP hS => ?_)
        refine lv_aload_n hx hb dMd_layImports_117 rfl (lv_at hl 0 rfl) ?_
        refine lv_iload_n hx hb dMd_layImports_118 rfl (lv_at hl 2 rfl) ?_
        refine lv_aload_n hx hb dMd_layImports_119 rfl (lv_at hl 0 rfl) ?_
        obtain ⟨y7, hy8, h⟩ := bd1_some h
        obtain ⟨hy8a, hy8⟩ := rdR_some hy8
        refine x_get hx hb hts in_Md hown hK hP (hal _ (okk_al q0)) (okk_t q0) rfl rfl 13 (by decide) (hts _ tw_795) (fun _ h9 => h9) (congrArg some (x_rf hy8a)) dMd_layImports_120 ?_
        refine lv_iload hx hb dMd_layImports_123 (lv_at hl 4 rfl) ?_
        obtain ⟨hi9, h⟩ := ck_some h
        refine x_iald hx hb hK hP (hal _ (okk_al hy8)) (okk_t hy8) 0 (fun _ _ _ => rfl) rfl (inb_in hi9) dMd_layImports_125 ?_
        refine lv_ldc (v := (-2147483648)) hx hb hown (hts _ tw_962) dMd_layImports_126 ?_
        refine lv_ior hx hb dMd_layImports_128 ?_
        obtain ⟨u10, v10, hc10, h⟩ := bd2_some h
        refine x_cv (u := stI u y4 x4 x2) (out := (u10, v10)) hA hD hS (va_runV (As := [.int x2, .int (((stI u y4 x4 x2).1 y7 x4) ||| (-2147483648 : Int32))]) (rest := []) ⟨hx, hb, hml, hown, hts⟩ (ct_Md_word hal hN F (stI u y4 x4 x2) x0 x2 (((stI u y4 x4 x2).1 y7 x4) ||| (-2147483648 : Int32)) (u10, v10) hc10 q0 _) ⟨callB_of 2 hts gdMd_word rfl rfl rfl (hts _ tw_11) (hts _ tw_958) hdMd_word ⟨Nat.le_of_ble_eq_true rfl, Nat.le_of_ble_eq_true rfl⟩, (hts _ tw_960), (hts _ tp_62)⟩ (x_preV hK hD hNx hP (hal _ (okk_al q0)) (okk_t q0) rfl rfl) rfl rfl hl.1 rfl (lv_room (Nat.le_of_ble_eq_true rfl)) dMd_layImports_129 ⟨Nat.zero_le _, Nat.zero_le _⟩) (fun H locs hP hS => ?_)
        refine lv_iinc (k := 2) (v := x2 + (4 : Int32)) (lv' := [(2, .int (x2 + (4 : Int32))), (0, .ref (ad x0)), (1, .int x1), (3, .int x3), (4, .int x4)]) hx hb dMd_layImports_132 hl rfl (congrArg (fun z => _ + z) (show Int32.ofInt 4 = 4 by decide)) (by decide) rfl (fun ls hl => ?_)
        exact wk_Md_layImports_135 ⟨hx, hb, hml, hown, hts, hr, hlocks, hK, hA, hD, hN, hal, hNx⟩ F out hk51 ih u10 x0 x1 (x2 + (4 : Int32)) x3 x4 h q0 _ _ _ (lv_sub hl [1, 2, 0, 3, 4] rfl) hP hS
      · replace h := it_f h hc
        refine lv_goto (tgt := 135) hx hb dMd_layImports_106 rfl ?_
        exact wk_Md_layImports_135 ⟨hx, hb, hml, hown, hts, hr, hlocks, hK, hA, hD, hN, hal, hNx⟩ F out hk51 ih u x0 x1 x2 x3 x4 h q0 _ _ _ (lv_sub hl [0, 1, 2, 3, 4] rfl) hP hS
def bk_Md_layImports_51 (F : Nat) (al : Nat → Bool) : Nat → Mr → Nat → Int32 → Int32 → Int32 → Option (Mr × Int32)
  | 0, _, _, _, _, _ => none
  | n + 1, u, x0, x1, x2, x3 => if (4 : Int32) ≤ x3 then (bk_Md_layImports_150 F al u x0 x1 x2) else (if x1 ≤ 0 then (bk_Md_layImports_150 F al u x0 x1 x2) else (bd2 (fn_Md_namesOf F al u x0 x3) fun u1 v1 => (if v1 = 0 then (bk_Md_layImports_144 F al (bk_Md_layImports_51 F al n) u1 x0 x1 x2 x3) else (bd2 (fn_Md_add F al u1 x0 (x3 + (1 : Int32))) fun u2 v2 => (bd2 (fn_Md_add F al u2 x0 x2) fun u3 v3 => (bk_Md_layImports_86 F al (bk_Md_layImports_51 F al n) F u3 x0 x1 x2 x3 (0 : Int32)))))))
set_option maxHeartbeats 4000000 in
set_option maxRecDepth 100000 in
theorem wk_Md_layImports_51 (cx : Cx p l e s m args below meth c cMd_layImports 5 bw "ImageForgeModel" none D cA ad L rs al A) (F : Nat) (out : Mr × Int32) : ∀ n : Nat, ∀ (u : Mr) (x0 : Nat) (x1 : Int32) (x2 : Int32) (x3 : Int32), bk_Md_layImports_51 F al n u x0 x1 x2 x3 = some out → okk al 32 x0 = true → Wb p l e rm_Md_layImports s m args below meth c D cA ad L rs A (QV below args s D cA ad L rs A out) 5 51 [(0, .ref (ad x0)), (1, .int x1), (2, .int x2), (3, .int x3)] [] u := by
  obtain ⟨hx, hb, hml, hown, hts, hr, hlocks, hK, hA, hD, hN, hal, hNx⟩ := cx
  intro n
  induction n with
  | zero =>
    intro u x0 x1 x2 x3 h
    cases h
  | succ n ih =>
    intro u x0 x1 x2 x3 h q0 H locs ls hl hP hS
    rw [bk_Md_layImports_51] at h
    refine lv_iload_n hx hb dMd_layImports_51 rfl (lv_at hl 3 rfl) ?_
    refine lv_iconst (v := 4) hx hb dMd_layImports_52 (by decide) ?_
    refine lv_icmp_ge (tgt := 150) hx hb dMd_layImports_53 rfl (fun hc => ?_) (fun hc => ?_)
    · replace h := it_t h hc
      exact wk_Md_layImports_150 ⟨hx, hb, hml, hown, hts, hr, hlocks, hK, hA, hD, hN, hal, hNx⟩ F out u x0 x1 x2 h q0 _ _ _ (lv_sub hl [0, 1, 2] rfl) hP hS
    · replace h := it_f h hc
      refine lv_iload_n hx hb dMd_layImports_56 rfl (lv_at hl 1 rfl) ?_
      refine lv_if_le (tgt := 150) hx hb dMd_layImports_57 rfl (fun hc => ?_) (fun hc => ?_)
      · replace h := it_t h hc
        exact wk_Md_layImports_150 ⟨hx, hb, hml, hown, hts, hr, hlocks, hK, hA, hD, hN, hal, hNx⟩ F out u x0 x1 x2 h q0 _ _ _ (lv_sub hl [0, 1, 2] rfl) hP hS
      · replace h := it_f h hc
        refine lv_aload_n hx hb dMd_layImports_60 rfl (lv_at hl 0 rfl) ?_
        refine lv_iload_n hx hb dMd_layImports_61 rfl (lv_at hl 3 rfl) ?_
        obtain ⟨u1, v1, hc1, h⟩ := bd2_some h
        refine x_ci (u := u) (out := (u1, v1)) hA hD hS (va_runV (As := [.int x3]) (rest := []) ⟨hx, hb, hml, hown, hts⟩ (ct_Md_namesOf hal hN F u x0 x3 (u1, v1) hc1 q0 _) ⟨callB_of 1 hts gdMd_namesOf rfl rfl rfl (hts _ tw_11) (hts _ tw_950) hdMd_namesOf ⟨Nat.le_of_ble_eq_true rfl, Nat.le_of_ble_eq_true rfl⟩, (hts _ tw_952), (hts _ tp_60)⟩ (x_preV hK hD hNx hP (hal _ (okk_al q0)) (okk_t q0) rfl rfl) rfl rfl hl.1 rfl (lv_room (Nat.le_of_ble_eq_true rfl)) dMd_layImports_62 ⟨Nat.zero_le _, Nat.zero_le _⟩) (fun H locs hP hS => ?_)
        refine lv_if_ne (tgt := 71) hx hb dMd_layImports_65 rfl (fun hc => ?_) (fun hc => ?_)
        · replace h := it_f h hc
          refine lv_aload_n hx hb dMd_layImports_71 rfl (lv_at hl 0 rfl) ?_
          refine lv_iload_n hx hb dMd_layImports_72 rfl (lv_at hl 3 rfl) ?_
          refine lv_iconst (v := 1) hx hb dMd_layImports_73 (by decide) ?_
          refine lv_iadd hx hb dMd_layImports_74 ?_
          obtain ⟨u2, v2, hc2, h⟩ := bd2_some h
          refine x_cv (u := u1) (out := (u2, v2)) hA hD hS (va_runV (As := [.int (x3 + (1 : Int32))]) (rest := []) ⟨hx, hb, hml, hown, hts⟩ (ct_Md_add hal hN F u1 x0 (x3 + (1 : Int32)) (u2, v2) hc2 q0 _) ⟨callB_of 1 hts gdMd_add rfl rfl rfl (hts _ tw_11) (hts _ tw_954) hdMd_add ⟨Nat.le_of_ble_eq_true rfl, Nat.le_of_ble_eq_true rfl⟩, (hts _ tw_956), (hts _ tp_61)⟩ (x_preV hK hD hNx hP (hal _ (okk_al q0)) (okk_t q0) rfl rfl) rfl rfl hl.1 rfl (lv_room (Nat.le_of_ble_eq_true rfl)) dMd_layImports_75 ⟨Nat.zero_le _, Nat.zero_le _⟩) (fun H locs hP hS => ?_)
          refine lv_aload_n hx hb dMd_layImports_78 rfl (lv_at hl 0 rfl) ?_
          refine lv_iload_n hx hb dMd_layImports_79 rfl (lv_at hl 2 rfl) ?_
          obtain ⟨u3, v3, hc3, h⟩ := bd2_some h
          refine x_cv (u := u2) (out := (u3, v3)) hA hD hS (va_runV (As := [.int x2]) (rest := []) ⟨hx, hb, hml, hown, hts⟩ (ct_Md_add hal hN F u2 x0 x2 (u3, v3) hc3 q0 _) ⟨callB_of 1 hts gdMd_add rfl rfl rfl (hts _ tw_11) (hts _ tw_954) hdMd_add ⟨Nat.le_of_ble_eq_true rfl, Nat.le_of_ble_eq_true rfl⟩, (hts _ tw_956), (hts _ tp_61)⟩ (x_preV hK hD hNx hP (hal _ (okk_al q0)) (okk_t q0) rfl rfl) rfl rfl hl.1 rfl (lv_room (Nat.le_of_ble_eq_true rfl)) dMd_layImports_80 ⟨Nat.zero_le _, Nat.zero_le _⟩) (fun H locs hP hS => ?_)
          refine lv_iconst (v := 0) hx hb dMd_layImports_83 (by decide) ?_
          refine lv_istore (lv' := [(4, .int (0 : Int32)), (0, .ref (ad x0)), (1, .int x1), (2, .int x2), (3, .int x3)]) hx hb dMd_layImports_84 hl (by decide) rfl (fun ls hl => ?_)
          exact wk_Md_layImports_86 ⟨hx, hb, hml, hown, hts, hr, hlocks, hK, hA, hD, hN, hal, hNx⟩ F out ih F u3 x0 x1 x2 x3 (0 : Int32) h q0 _ _ _ (lv_sub hl [1, 2, 3, 4, 0] rfl) hP hS
        · replace h := it_t h hc
          refine lv_goto (tgt := 144) hx hb dMd_layImports_68 rfl ?_
          exact wk_Md_layImports_144 ⟨hx, hb, hml, hown, hts, hr, hlocks, hK, hA, hD, hN, hal, hNx⟩ F out ih u1 x0 x1 x2 x3 h q0 _ _ _ (lv_sub hl [0, 1, 2, 3] rfl) hP hS
def bk_Md_layImports_28 (F : Nat) (al : Nat → Bool) (k9 : Mr → Nat → Int32 → Int32 → Option (Mr × Int32)) (u : Mr) (s0 : Int32) (s1 : Int32) (x0 : Nat) (x2 : Int32) : Option (Mr × Int32) := k9 u x0 (s0 + s1) (x2 + (1 : Int32))
set_option maxHeartbeats 4000000 in
set_option maxRecDepth 100000 in
theorem wk_Md_layImports_28 (cx : Cx p l e s m args below meth c cMd_layImports 5 bw "ImageForgeModel" none D cA ad L rs al A) (F : Nat) (out : Mr × Int32) {k9 : Mr → Nat → Int32 → Int32 → Option (Mr × Int32)} (hk9 : ∀ (u : Mr) (x0 : Nat) (x1 : Int32) (x2 : Int32), k9 u x0 x1 x2 = some out → okk al 32 x0 = true → Wb p l e rm_Md_layImports s m args below meth c D cA ad L rs A (QV below args s D cA ad L rs A out) 5 9 [(0, .ref (ad x0)), (1, .int x1), (2, .int x2)] [] u) : ∀ (u : Mr) (s0 : Int32) (s1 : Int32) (x0 : Nat) (x2 : Int32), bk_Md_layImports_28 F al k9 u s0 s1 x0 x2 = some out → okk al 32 x0 = true → Wb p l e rm_Md_layImports s m args below meth c D cA ad L rs A (QV below args s D cA ad L rs A out) 5 28 [(0, .ref (ad x0)), (2, .int x2)] [.int s1, .int s0] u := by
  obtain ⟨hx, hb, hml, hown, hts, hr, hlocks, hK, hA, hD, hN, hal, hNx⟩ := cx
  intro u s0 s1 x0 x2 h q0 H locs ls hl hP hS
  unfold bk_Md_layImports_28 at h
  refine lv_iadd hx hb dMd_layImports_28 ?_
  refine lv_istore_n (lv' := [(1, .int (s0 + s1)), (0, .ref (ad x0)), (2, .int x2)]) hx hb dMd_layImports_29 rfl hl (by decide) rfl (fun ls hl => ?_)
  refine lv_iinc (k := 2) (v := x2 + (1 : Int32)) (lv' := [(2, .int (x2 + (1 : Int32))), (1, .int (s0 + s1)), (0, .ref (ad x0))]) hx hb dMd_layImports_30 hl rfl (congrArg (fun z => _ + z) (show Int32.ofInt 1 = 1 by decide)) (by decide) rfl (fun ls hl => ?_)
  refine lv_goto (tgt := 9) hx hb dMd_layImports_33 rfl ?_
  exact hk9 u x0 (s0 + s1) (x2 + (1 : Int32)) h q0 _ _ _ (lv_sub hl [2, 1, 0] rfl) hP hS
def bk_Md_layImports_9 (F : Nat) (al : Nat → Bool) : Nat → Mr → Nat → Int32 → Int32 → Option (Mr × Int32)
  | 0, _, _, _, _ => none
  | n + 1, u, x0, x1, x2 => if (4 : Int32) ≤ x2 then (bk_Md_layImports_51 F al F u x0 x1 (((u.1 x0 18) + ((8 : Int32) * x1)) + (8 : Int32)) (0 : Int32)) else (bd2 (fn_Md_namesOf F al u x0 x2) fun u1 v1 => (if v1 ≤ 0 then (bk_Md_layImports_28 F al (bk_Md_layImports_9 F al n) u1 x1 (0 : Int32) x0 x2) else (bk_Md_layImports_28 F al (bk_Md_layImports_9 F al n) u1 x1 (1 : Int32) x0 x2)))
set_option maxHeartbeats 4000000 in
set_option maxRecDepth 100000 in
theorem wk_Md_layImports_9 (cx : Cx p l e s m args below meth c cMd_layImports 5 bw "ImageForgeModel" none D cA ad L rs al A) (F : Nat) (out : Mr × Int32) : ∀ n : Nat, ∀ (u : Mr) (x0 : Nat) (x1 : Int32) (x2 : Int32), bk_Md_layImports_9 F al n u x0 x1 x2 = some out → okk al 32 x0 = true → Wb p l e rm_Md_layImports s m args below meth c D cA ad L rs A (QV below args s D cA ad L rs A out) 5 9 [(0, .ref (ad x0)), (1, .int x1), (2, .int x2)] [] u := by
  obtain ⟨hx, hb, hml, hown, hts, hr, hlocks, hK, hA, hD, hN, hal, hNx⟩ := cx
  intro n
  induction n with
  | zero =>
    intro u x0 x1 x2 h
    cases h
  | succ n ih =>
    intro u x0 x1 x2 h q0 H locs ls hl hP hS
    rw [bk_Md_layImports_9] at h
    refine lv_iload_n hx hb dMd_layImports_9 rfl (lv_at hl 2 rfl) ?_
    refine lv_iconst (v := 4) hx hb dMd_layImports_10 (by decide) ?_
    refine lv_icmp_ge (tgt := 36) hx hb dMd_layImports_11 rfl (fun hc => ?_) (fun hc => ?_)
    · replace h := it_t h hc
      refine lv_aload_n hx hb dMd_layImports_36 rfl (lv_at hl 0 rfl) ?_
      refine x_get hx hb hts in_Md hown hK hP (hal _ (okk_al q0)) (okk_t q0) rfl rfl 18 (by decide) (hts _ tw_800) (fun _ h9 => h9) rfl dMd_layImports_37 ?_
      refine lv_bipush (v := 8) hx hb dMd_layImports_40 (by decide) ?_
      refine lv_iload_n hx hb dMd_layImports_42 rfl (lv_at hl 1 rfl) ?_
      refine lv_imul hx hb dMd_layImports_43 ?_
      refine lv_iadd hx hb dMd_layImports_44 ?_
      refine lv_bipush (v := 8) hx hb dMd_layImports_45 (by decide) ?_
      refine lv_iadd hx hb dMd_layImports_47 ?_
      refine lv_istore_n (lv' := [(2, .int (((u.1 x0 18) + ((8 : Int32) * x1)) + (8 : Int32))), (0, .ref (ad x0)), (1, .int x1)]) hx hb dMd_layImports_48 rfl hl (by decide) rfl (fun ls hl => ?_)
      refine lv_iconst (v := 0) hx hb dMd_layImports_49 (by decide) ?_
      refine lv_istore_n (lv' := [(3, .int (0 : Int32)), (2, .int (((u.1 x0 18) + ((8 : Int32) * x1)) + (8 : Int32))), (0, .ref (ad x0)), (1, .int x1)]) hx hb dMd_layImports_50 rfl hl (by decide) rfl (fun ls hl => ?_)
      exact wk_Md_layImports_51 ⟨hx, hb, hml, hown, hts, hr, hlocks, hK, hA, hD, hN, hal, hNx⟩ F out F u x0 x1 (((u.1 x0 18) + ((8 : Int32) * x1)) + (8 : Int32)) (0 : Int32) h q0 _ _ _ (lv_sub hl [2, 3, 1, 0] rfl) hP hS
    · replace h := it_f h hc
      refine lv_iload_n hx hb dMd_layImports_14 rfl (lv_at hl 1 rfl) ?_
      refine lv_aload_n hx hb dMd_layImports_15 rfl (lv_at hl 0 rfl) ?_
      refine lv_iload_n hx hb dMd_layImports_16 rfl (lv_at hl 2 rfl) ?_
      obtain ⟨u1, v1, hc1, h⟩ := bd2_some h
      refine x_ci (u := u) (out := (u1, v1)) hA hD hS (va_runV (As := [.int x2]) (rest := [.int x1]) ⟨hx, hb, hml, hown, hts⟩ (ct_Md_namesOf hal hN F u x0 x2 (u1, v1) hc1 q0 _) ⟨callB_of 1 hts gdMd_namesOf rfl rfl rfl (hts _ tw_11) (hts _ tw_950) hdMd_namesOf ⟨Nat.le_of_ble_eq_true rfl, Nat.le_of_ble_eq_true rfl⟩, (hts _ tw_952), (hts _ tp_60)⟩ (x_preV hK hD hNx hP (hal _ (okk_al q0)) (okk_t q0) rfl rfl) rfl rfl hl.1 rfl (lv_room (Nat.le_of_ble_eq_true rfl)) dMd_layImports_17 ⟨Nat.zero_le _, Nat.zero_le _⟩) (fun H locs hP hS => ?_)
      refine lv_if_le (tgt := 27) hx hb dMd_layImports_20 rfl (fun hc => ?_) (fun hc => ?_)
      · replace h := it_t h hc
        refine lv_iconst (v := 0) hx hb dMd_layImports_27 (by decide) ?_
        exact wk_Md_layImports_28 ⟨hx, hb, hml, hown, hts, hr, hlocks, hK, hA, hD, hN, hal, hNx⟩ F out ih u1 x1 (0 : Int32) x0 x2 h q0 _ _ _ (lv_sub hl [0, 2] rfl) hP hS
      · replace h := it_f h hc
        refine lv_iconst (v := 1) hx hb dMd_layImports_23 (by decide) ?_
        refine lv_goto (tgt := 28) hx hb dMd_layImports_24 rfl ?_
        exact wk_Md_layImports_28 ⟨hx, hb, hml, hown, hts, hr, hlocks, hK, hA, hD, hN, hal, hNx⟩ F out ih u1 x1 (1 : Int32) x0 x2 h q0 _ _ _ (lv_sub hl [0, 2] rfl) hP hS
def bk_Md_layImports_0 (F : Nat) (al : Nat → Bool) (u : Mr) (x0 : Nat) : Option (Mr × Int32) := bd2 (fn_Md_begin F al u x0 (2 : Int32)) fun u1 v1 => (bk_Md_layImports_9 F al F u1 x0 (0 : Int32) (0 : Int32))
set_option maxHeartbeats 4000000 in
set_option maxRecDepth 100000 in
theorem wk_Md_layImports_0 (cx : Cx p l e s m args below meth c cMd_layImports 5 bw "ImageForgeModel" none D cA ad L rs al A) (F : Nat) (out : Mr × Int32) : ∀ (u : Mr) (x0 : Nat), bk_Md_layImports_0 F al u x0 = some out → okk al 32 x0 = true → Wb p l e rm_Md_layImports s m args below meth c D cA ad L rs A (QV below args s D cA ad L rs A out) 5 0 [(0, .ref (ad x0))] [] u := by
  obtain ⟨hx, hb, hml, hown, hts, hr, hlocks, hK, hA, hD, hN, hal, hNx⟩ := cx
  intro u x0 h q0 H locs ls hl hP hS
  unfold bk_Md_layImports_0 at h
  refine lv_aload_n hx hb dMd_layImports_0 rfl (lv_at hl 0 rfl) ?_
  refine lv_iconst (v := 2) hx hb dMd_layImports_1 (by decide) ?_
  obtain ⟨u1, v1, hc1, h⟩ := bd2_some h
  refine x_cv (u := u) (out := (u1, v1)) hA hD hS (va_runV (As := [.int (2 : Int32)]) (rest := []) ⟨hx, hb, hml, hown, hts⟩ (ct_Md_begin hal hN F u x0 (2 : Int32) (u1, v1) hc1 q0 _) ⟨callB_of 1 hts gdMd_begin rfl rfl rfl (hts _ tw_11) (hts _ tw_935) hdMd_begin ⟨Nat.le_of_ble_eq_true rfl, Nat.le_of_ble_eq_true rfl⟩, (hts _ tw_937), (hts _ tp_57)⟩ (x_preV hK hD hNx hP (hal _ (okk_al q0)) (okk_t q0) rfl rfl) rfl rfl hl.1 rfl (lv_room (Nat.le_of_ble_eq_true rfl)) dMd_layImports_2 ⟨Nat.zero_le _, Nat.zero_le _⟩) (fun H locs hP hS => ?_)
  refine lv_iconst (v := 0) hx hb dMd_layImports_5 (by decide) ?_
  refine lv_istore_n (lv' := [(1, .int (0 : Int32)), (0, .ref (ad x0))]) hx hb dMd_layImports_6 rfl hl (by decide) rfl (fun ls hl => ?_)
  refine lv_iconst (v := 0) hx hb dMd_layImports_7 (by decide) ?_
  refine lv_istore_n (lv' := [(2, .int (0 : Int32)), (1, .int (0 : Int32)), (0, .ref (ad x0))]) hx hb dMd_layImports_8 rfl hl (by decide) rfl (fun ls hl => ?_)
  exact wk_Md_layImports_9 ⟨hx, hb, hml, hown, hts, hr, hlocks, hK, hA, hD, hN, hal, hNx⟩ F out F u1 x0 (0 : Int32) (0 : Int32) h q0 _ _ _ (lv_sub hl [2, 1, 0] rfl) hP hS
def fn_Md_layImports (F : Nat) (al : Nat → Bool) (u : Mr) (x0 : Nat) : Option (Mr × Int32) := bk_Md_layImports_0 F al u x0
set_option maxHeartbeats 4000000 in
set_option maxRecDepth 100000 in
theorem ct_Md_layImports {l : Launch} {D : va_G} {cA : Nat → ClassId} {ad : Nat → Nat} {L : List Nat} {rs : va_W} {al : Nat → Bool} (hal : ∀ k, al k = true → k ∈ L) (hN : L.Nodup) (F : Nat) (u : Mr) (x0 : Nat) (out : Mr × Int32) (h : fn_Md_layImports F al u x0 = some out) (q0 : okk al 32 x0 = true) : CtV l yMd_layImports wsMd_layImports rm_Md_layImports [.ref (ad x0)] D cA ad L rs u out := by
  intro sz
  refine Met.ofW (cc := cMd_layImports) (maxL := 5) (ret := none) (by decide) rfl ?_
  intro p e s m args below meth c s₁ B hml hv
  obtain ⟨rfl, hsz, hP, hK, hD0, hNx⟩ := hv
  subst hsz
  have hD := hD0.self (sz := s.heap.size)
  generalize hAe : va_A (ww ad cA L rs u) s.heap.size = A at hD ⊢
  have hA : ∀ q, s.heap.size ≤ q → A q := fun q h => by rw [← hAe]; exact Or.inr h
  have hl := lv_entry ([.ref (ad x0)]) (n := 5) (Nat.le_of_ble_eq_true rfl)
  rw [lg_entry_eq]
  generalize (lg_sl ([.ref (ad x0)]) ++ List.replicate (5 - (lg_sl ([.ref (ad x0)])).length) Slot.unset).toArray = ls at hl ⊢
  exact wk_Md_layImports_0 ⟨B.exec, B.bytes, hml, findClass_of_methodNamed B.named, hts_bw (atoms_spec (ws := wsMd_layImports) B.pre), B.returns, B.notSynchronized, hK, hA, fun v => ww_D hD, hN, hal, hNx⟩ F out u x0 h q0 _ _ _ (lv_sub hl [0] rfl) hP va_S.rf
abbrev rm_Md_layExports : Room := { frames := 2, cells := 0, slots := 0, locals := 44 }
def bk_Md_layExports_82 (F : Nat) (al : Nat → Bool) (k49 : Mr → Nat → Int32 → Option (Mr × Int32)) (u : Mr) (x0 : Nat) (x2 : Int32) : Option (Mr × Int32) := k49 u x0 (x2 + (1 : Int32))
set_option maxHeartbeats 4000000 in
set_option maxRecDepth 100000 in
theorem wk_Md_layExports_82 (cx : Cx p l e s m args below meth c cMd_layExports 3 bw "ImageForgeModel" none D cA ad L rs al A) (F : Nat) (out : Mr × Int32) {k49 : Mr → Nat → Int32 → Option (Mr × Int32)} (hk49 : ∀ (u : Mr) (x0 : Nat) (x2 : Int32), k49 u x0 x2 = some out → okk al 32 x0 = true → Wb p l e rm_Md_layExports s m args below meth c D cA ad L rs A (QV below args s D cA ad L rs A out) 3 49 [(0, .ref (ad x0)), (2, .int x2)] [] u) : ∀ (u : Mr) (x0 : Nat) (x2 : Int32), bk_Md_layExports_82 F al k49 u x0 x2 = some out → okk al 32 x0 = true → Wb p l e rm_Md_layExports s m args below meth c D cA ad L rs A (QV below args s D cA ad L rs A out) 3 82 [(0, .ref (ad x0)), (2, .int x2)] [] u := by
  obtain ⟨hx, hb, hml, hown, hts, hr, hlocks, hK, hA, hD, hN, hal, hNx⟩ := cx
  intro u x0 x2 h q0 H locs ls hl hP hS
  unfold bk_Md_layExports_82 at h
  refine lv_iinc (k := 1) (v := x2 + (1 : Int32)) (lv' := [(2, .int (x2 + (1 : Int32))), (0, .ref (ad x0))]) hx hb dMd_layExports_82 hl rfl (congrArg (fun z => _ + z) (show Int32.ofInt 1 = 1 by decide)) (by decide) rfl (fun ls hl => ?_)
  refine lv_goto (tgt := 49) hx hb dMd_layExports_85 rfl ?_
  exact hk49 u x0 (x2 + (1 : Int32)) h q0 _ _ _ (lv_sub hl [1, 0] rfl) hP hS
def bk_Md_layExports_49 (F : Nat) (al : Nat → Bool) : Nat → Mr → Nat → Int32 → Option (Mr × Int32)
  | 0, _, _, _ => none
  | n + 1, u, x0, x2 => if (16 : Int32) ≤ x2 then (bd1 (rdR al u x0 21 42) fun y1 => (some (stI u y1 (3 : Int32) (u.1 x0 18), 0))) else (bd1 (rdR al u x0 14 39) fun y3 => (ck (inb x2 16) (if (u.1 y3 x2) = 0 then (bk_Md_layExports_82 F al (bk_Md_layExports_49 F al n) u x0 x2) else (bd2 (fn_Md_add F al u x0 x2) fun u6 v6 => (bd1 (rdR al u6 x0 23 38) fun y7 => (ck (inb x2 16) (bd2 (fn_Md_add F al u6 x0 (u6.1 y7 x2)) fun u10 v10 => (bk_Md_layExports_82 F al (bk_Md_layExports_49 F al n) u10 x0 x2))))))))
set_option maxHeartbeats 4000000 in
set_option maxRecDepth 100000 in
theorem wk_Md_layExports_49 (cx : Cx p l e s m args below meth c cMd_layExports 3 bw "ImageForgeModel" none D cA ad L rs al A) (F : Nat) (out : Mr × Int32) : ∀ n : Nat, ∀ (u : Mr) (x0 : Nat) (x2 : Int32), bk_Md_layExports_49 F al n u x0 x2 = some out → okk al 32 x0 = true → Wb p l e rm_Md_layExports s m args below meth c D cA ad L rs A (QV below args s D cA ad L rs A out) 3 49 [(0, .ref (ad x0)), (2, .int x2)] [] u := by
  obtain ⟨hx, hb, hml, hown, hts, hr, hlocks, hK, hA, hD, hN, hal, hNx⟩ := cx
  intro n
  induction n with
  | zero =>
    intro u x0 x2 h
    cases h
  | succ n ih =>
    intro u x0 x2 h q0 H locs ls hl hP hS
    rw [bk_Md_layExports_49] at h
    refine lv_iload_n hx hb dMd_layExports_49 rfl (lv_at hl 1 rfl) ?_
    refine lv_bipush (v := 16) hx hb dMd_layExports_50 (by decide) ?_
    refine lv_icmp_ge (tgt := 88) hx hb dMd_layExports_52 rfl (fun hc => ?_) (fun hc => ?_)
    · replace h := it_t h hc
      refine lv_aload_n hx hb dMd_layExports_88 rfl (lv_at hl 0 rfl) ?_
      obtain ⟨y1, hy2, h⟩ := bd1_some h
      obtain ⟨hy2a, hy2⟩ := rdR_some hy2
      refine x_get hx hb hts in_Md hown hK hP (hal _ (okk_al q0)) (okk_t q0) rfl rfl 21 (by decide) (hts _ tw_803) (fun _ h9 => h9) (congrArg some (x_rf hy2a)) dMd_layExports_89 ?_
      refine lv_iconst (v := 3) hx hb dMd_layExports_92 (by decide) ?_
      refine lv_aload_n hx hb dMd_layExports_93 rfl (lv_at hl 0 rfl) ?_
      refine x_get hx hb hts in_Md hown hK hP (hal _ (okk_al q0)) (okk_t q0) rfl rfl 18 (by decide) (hts _ tw_800) (fun _ h9 => h9) rfl dMd_layExports_94 ?_
      refine x_iast hx hb hK hD hN hP hS (hal _ (okk_al hy2)) (okk_t hy2) 0 (fun _ _ _ => rfl) rfl (by decide) (inb_in (show inb (3 : Int32) 5 = true by decide)) dMd_layExports_97 (fun H locs hP hS => ?_)
      exact x_vret hx hb hr hlocks h hP hS dMd_layExports_98
    · replace h := it_f h hc
      refine lv_aload_n hx hb dMd_layExports_55 rfl (lv_at hl 0 rfl) ?_
      obtain ⟨y3, hy4, h⟩ := bd1_some h
      obtain ⟨hy4a, hy4⟩ := rdR_some hy4
      refine x_get hx hb hts in_Md hown hK hP (hal _ (okk_al q0)) (okk_t q0) rfl rfl 14 (by decide) (hts _ tw_796) (fun _ h9 => h9) (congrArg some (x_rf hy4a)) dMd_layExports_56 ?_
      refine lv_iload_n hx hb dMd_layExports_59 rfl (lv_at hl 1 rfl) ?_
      obtain ⟨hi5, h⟩ := ck_some h
      refine x_zald hx hb hK hP (hal _ (okk_al hy4)) (okk_t hy4) 2 (fun _ _ _ => rfl) rfl (inb_in hi5) dMd_layExports_60 ?_
      refine lv_if_ne (tgt := 67) hx hb dMd_layExports_61 rfl (fun hc => ?_) (fun hc => ?_)
      · replace h := it_f h hc
        refine lv_aload_n hx hb dMd_layExports_67 rfl (lv_at hl 0 rfl) ?_
        refine lv_iload_n hx hb dMd_layExports_68 rfl (lv_at hl 1 rfl) ?_
        obtain ⟨u6, v6, hc6, h⟩ := bd2_some h
        refine x_cv (u := u) (out := (u6, v6)) hA hD hS (va_runV (As := [.int x2]) (rest := []) ⟨hx, hb, hml, hown, hts⟩ (ct_Md_add hal hN F u x0 x2 (u6, v6) hc6 q0 _) ⟨callB_of 1 hts gdMd_add rfl rfl rfl (hts _ tw_11) (hts _ tw_954) hdMd_add ⟨Nat.le_of_ble_eq_true rfl, Nat.le_of_ble_eq_true rfl⟩, (hts _ tw_956), (hts _ tp_61)⟩ (x_preV hK hD hNx hP (hal _ (okk_al q0)) (okk_t q0) rfl rfl) rfl rfl hl.1 rfl (lv_room (Nat.le_of_ble_eq_true rfl)) dMd_layExports_69 ⟨Nat.zero_le _, Nat.zero_le _⟩) (fun H locs hP hS => ?_)
        refine lv_aload_n hx hb dMd_layExports_72 rfl (lv_at hl 0 rfl) ?_
        refine lv_aload_n hx hb dMd_layExports_73 rfl (lv_at hl 0 rfl) ?_
        obtain ⟨y7, hy8, h⟩ := bd1_some h
        obtain ⟨hy8a, hy8⟩ := rdR_some hy8
        refine x_get hx hb hts in_Md hown hK hP (hal _ (okk_al q0)) (okk_t q0) rfl rfl 23 (by decide) (hts _ tw_805) (fun _ h9 => h9) (congrArg some (x_rf hy8a)) dMd_layExports_74 ?_
        refine lv_iload_n hx hb dMd_layExports_77 rfl (lv_at hl 1 rfl) ?_
        obtain ⟨hi9, h⟩ := ck_some h
        refine x_iald hx hb hK hP (hal _ (okk_al hy8)) (okk_t hy8) 0 (fun _ _ _ => rfl) rfl (inb_in hi9) dMd_layExports_78 ?_
        obtain ⟨u10, v10, hc10, h⟩ := bd2_some h
        refine x_cv (u := u6) (out := (u10, v10)) hA hD hS (va_runV (As := [.int (u6.1 y7 x2)]) (rest := []) ⟨hx, hb, hml, hown, hts⟩ (ct_Md_add hal hN F u6 x0 (u6.1 y7 x2) (u10, v10) hc10 q0 _) ⟨callB_of 1 hts gdMd_add rfl rfl rfl (hts _ tw_11) (hts _ tw_954) hdMd_add ⟨Nat.le_of_ble_eq_true rfl, Nat.le_of_ble_eq_true rfl⟩, (hts _ tw_956), (hts _ tp_61)⟩ (x_preV hK hD hNx hP (hal _ (okk_al q0)) (okk_t q0) rfl rfl) rfl rfl hl.1 rfl (lv_room (Nat.le_of_ble_eq_true rfl)) dMd_layExports_79 ⟨Nat.zero_le _, Nat.zero_le _⟩) (fun H locs hP hS => ?_)
        exact wk_Md_layExports_82 ⟨hx, hb, hml, hown, hts, hr, hlocks, hK, hA, hD, hN, hal, hNx⟩ F out ih u10 x0 x2 h q0 _ _ _ (lv_sub hl [0, 1] rfl) hP hS
      · replace h := it_t h hc
        refine lv_goto (tgt := 82) hx hb dMd_layExports_64 rfl ?_
        exact wk_Md_layExports_82 ⟨hx, hb, hml, hown, hts, hr, hlocks, hK, hA, hD, hN, hal, hNx⟩ F out ih u x0 x2 h q0 _ _ _ (lv_sub hl [0, 1] rfl) hP hS
def bk_Md_layExports_47 (F : Nat) (al : Nat → Bool) (u : Mr) (x0 : Nat) : Option (Mr × Int32) := bk_Md_layExports_49 F al F u x0 (0 : Int32)
set_option maxHeartbeats 4000000 in
set_option maxRecDepth 100000 in
theorem wk_Md_layExports_47 (cx : Cx p l e s m args below meth c cMd_layExports 3 bw "ImageForgeModel" none D cA ad L rs al A) (F : Nat) (out : Mr × Int32) : ∀ (u : Mr) (x0 : Nat), bk_Md_layExports_47 F al u x0 = some out → okk al 32 x0 = true → Wb p l e rm_Md_layExports s m args below meth c D cA ad L rs A (QV below args s D cA ad L rs A out) 3 47 [(0, .ref (ad x0))] [] u := by
  obtain ⟨hx, hb, hml, hown, hts, hr, hlocks, hK, hA, hD, hN, hal, hNx⟩ := cx
  intro u x0 h q0 H locs ls hl hP hS
  unfold bk_Md_layExports_47 at h
  refine lv_iconst (v := 0) hx hb dMd_layExports_47 (by decide) ?_
  refine lv_istore_n (lv' := [(2, .int (0 : Int32)), (0, .ref (ad x0))]) hx hb dMd_layExports_48 rfl hl (by decide) rfl (fun ls hl => ?_)
  exact wk_Md_layExports_49 ⟨hx, hb, hml, hown, hts, hr, hlocks, hK, hA, hD, hN, hal, hNx⟩ F out F u x0 (0 : Int32) h q0 _ _ _ (lv_sub hl [1, 0] rfl) hP hS
def bk_Md_layExports_30 (F : Nat) (al : Nat → Bool) (k9 : Mr → Nat → Int32 → Int32 → Option (Mr × Int32)) (u : Mr) (s0 : Int32) (s1 : Int32) (x0 : Nat) (x2 : Int32) : Option (Mr × Int32) := k9 u x0 (s0 + s1) (x2 + (1 : Int32))
set_option maxHeartbeats 4000000 in
set_option maxRecDepth 100000 in
theorem wk_Md_layExports_30 (cx : Cx p l e s m args below meth c cMd_layExports 3 bw "ImageForgeModel" none D cA ad L rs al A) (F : Nat) (out : Mr × Int32) {k9 : Mr → Nat → Int32 → Int32 → Option (Mr × Int32)} (hk9 : ∀ (u : Mr) (x0 : Nat) (x1 : Int32) (x2 : Int32), k9 u x0 x1 x2 = some out → okk al 32 x0 = true → Wb p l e rm_Md_layExports s m args below meth c D cA ad L rs A (QV below args s D cA ad L rs A out) 3 9 [(0, .ref (ad x0)), (1, .int x1), (2, .int x2)] [] u) : ∀ (u : Mr) (s0 : Int32) (s1 : Int32) (x0 : Nat) (x2 : Int32), bk_Md_layExports_30 F al k9 u s0 s1 x0 x2 = some out → okk al 32 x0 = true → Wb p l e rm_Md_layExports s m args below meth c D cA ad L rs A (QV below args s D cA ad L rs A out) 3 30 [(0, .ref (ad x0)), (2, .int x2)] [.int s1, .int s0] u := by
  obtain ⟨hx, hb, hml, hown, hts, hr, hlocks, hK, hA, hD, hN, hal, hNx⟩ := cx
  intro u s0 s1 x0 x2 h q0 H locs ls hl hP hS
  unfold bk_Md_layExports_30 at h
  refine lv_iadd hx hb dMd_layExports_30 ?_
  refine lv_istore_n (lv' := [(1, .int (s0 + s1)), (0, .ref (ad x0)), (2, .int x2)]) hx hb dMd_layExports_31 rfl hl (by decide) rfl (fun ls hl => ?_)
  refine lv_iinc (k := 2) (v := x2 + (1 : Int32)) (lv' := [(2, .int (x2 + (1 : Int32))), (1, .int (s0 + s1)), (0, .ref (ad x0))]) hx hb dMd_layExports_32 hl rfl (congrArg (fun z => _ + z) (show Int32.ofInt 1 = 1 by decide)) (by decide) rfl (fun ls hl => ?_)
  refine lv_goto (tgt := 9) hx hb dMd_layExports_35 rfl ?_
  exact hk9 u x0 (s0 + s1) (x2 + (1 : Int32)) h q0 _ _ _ (lv_sub hl [2, 1, 0] rfl) hP hS
def bk_Md_layExports_9 (F : Nat) (al : Nat → Bool) : Nat → Mr → Nat → Int32 → Int32 → Option (Mr × Int32)
  | 0, _, _, _, _ => none
  | n + 1, u, x0, x1, x2 => if (16 : Int32) ≤ x2 then (if x1 ≤ 0 then (bk_Md_layExports_47 F al u x0) else (bd2 (fn_Md_add F al u x0 x1) fun u1 v1 => (bk_Md_layExports_47 F al u1 x0))) else (bd1 (rdR al u x0 14 39) fun y2 => (ck (inb x2 16) (if (u.1 y2 x2) = 0 then (bk_Md_layExports_30 F al (bk_Md_layExports_9 F al n) u x1 (0 : Int32) x0 x2) else (bk_Md_layExports_30 F al (bk_Md_layExports_9 F al n) u x1 (1 : Int32) x0 x2))))
set_option maxHeartbeats 4000000 in
set_option maxRecDepth 100000 in
theorem wk_Md_layExports_9 (cx : Cx p l e s m args below meth c cMd_layExports 3 bw "ImageForgeModel" none D cA ad L rs al A) (F : Nat) (out : Mr × Int32) : ∀ n : Nat, ∀ (u : Mr) (x0 : Nat) (x1 : Int32) (x2 : Int32), bk_Md_layExports_9 F al n u x0 x1 x2 = some out → okk al 32 x0 = true → Wb p l e rm_Md_layExports s m args below meth c D cA ad L rs A (QV below args s D cA ad L rs A out) 3 9 [(0, .ref (ad x0)), (1, .int x1), (2, .int x2)] [] u := by
  obtain ⟨hx, hb, hml, hown, hts, hr, hlocks, hK, hA, hD, hN, hal, hNx⟩ := cx
  intro n
  induction n with
  | zero =>
    intro u x0 x1 x2 h
    cases h
  | succ n ih =>
    intro u x0 x1 x2 h q0 H locs ls hl hP hS
    rw [bk_Md_layExports_9] at h
    refine lv_iload_n hx hb dMd_layExports_9 rfl (lv_at hl 2 rfl) ?_
    refine lv_bipush (v := 16) hx hb dMd_layExports_10 (by decide) ?_
    refine lv_icmp_ge (tgt := 38) hx hb dMd_layExports_12 rfl (fun hc => ?_) (fun hc => ?_)
    · replace h := it_t h hc
      refine lv_iload_n hx hb dMd_layExports_38 rfl (lv_at hl 1 rfl) ?_
      refine lv_if_le (tgt := 47) hx hb dMd_layExports_39 rfl (fun hc => ?_) (fun hc => ?_)
      · replace h := it_t h hc
        exact wk_Md_layExports_47 ⟨hx, hb, hml, hown, hts, hr, hlocks, hK, hA, hD, hN, hal, hNx⟩ F out u x0 h q0 _ _ _ (lv_sub hl [0] rfl) hP hS
      · replace h := it_f h hc
        refine lv_aload_n hx hb dMd_layExports_42 rfl (lv_at hl 0 rfl) ?_
        refine lv_iload_n hx hb dMd_layExports_43 rfl (lv_at hl 1 rfl) ?_
        obtain ⟨u1, v1, hc1, h⟩ := bd2_some h
        refine x_cv (u := u) (out := (u1, v1)) hA hD hS (va_runV (As := [.int x1]) (rest := []) ⟨hx, hb, hml, hown, hts⟩ (ct_Md_add hal hN F u x0 x1 (u1, v1) hc1 q0 _) ⟨callB_of 1 hts gdMd_add rfl rfl rfl (hts _ tw_11) (hts _ tw_954) hdMd_add ⟨Nat.le_of_ble_eq_true rfl, Nat.le_of_ble_eq_true rfl⟩, (hts _ tw_956), (hts _ tp_61)⟩ (x_preV hK hD hNx hP (hal _ (okk_al q0)) (okk_t q0) rfl rfl) rfl rfl hl.1 rfl (lv_room (Nat.le_of_ble_eq_true rfl)) dMd_layExports_44 ⟨Nat.zero_le _, Nat.zero_le _⟩) (fun H locs hP hS => ?_)
        exact wk_Md_layExports_47 ⟨hx, hb, hml, hown, hts, hr, hlocks, hK, hA, hD, hN, hal, hNx⟩ F out u1 x0 h q0 _ _ _ (lv_sub hl [0] rfl) hP hS
    · replace h := it_f h hc
      refine lv_iload_n hx hb dMd_layExports_15 rfl (lv_at hl 1 rfl) ?_
      refine lv_aload_n hx hb dMd_layExports_16 rfl (lv_at hl 0 rfl) ?_
      obtain ⟨y2, hy3, h⟩ := bd1_some h
      obtain ⟨hy3a, hy3⟩ := rdR_some hy3
      refine x_get hx hb hts in_Md hown hK hP (hal _ (okk_al q0)) (okk_t q0) rfl rfl 14 (by decide) (hts _ tw_796) (fun _ h9 => h9) (congrArg some (x_rf hy3a)) dMd_layExports_17 ?_
      refine lv_iload_n hx hb dMd_layExports_20 rfl (lv_at hl 2 rfl) ?_
      obtain ⟨hi4, h⟩ := ck_some h
      refine x_zald hx hb hK hP (hal _ (okk_al hy3)) (okk_t hy3) 2 (fun _ _ _ => rfl) rfl (inb_in hi4) dMd_layExports_21 ?_
      refine lv_if_eq (tgt := 29) hx hb dMd_layExports_22 rfl (fun hc => ?_) (fun hc => ?_)
      · replace h := it_t h hc
        refine lv_iconst (v := 0) hx hb dMd_layExports_29 (by decide) ?_
        exact wk_Md_layExports_30 ⟨hx, hb, hml, hown, hts, hr, hlocks, hK, hA, hD, hN, hal, hNx⟩ F out ih u x1 (0 : Int32) x0 x2 h q0 _ _ _ (lv_sub hl [0, 2] rfl) hP hS
      · replace h := it_f h hc
        refine lv_iconst (v := 1) hx hb dMd_layExports_25 (by decide) ?_
        refine lv_goto (tgt := 30) hx hb dMd_layExports_26 rfl ?_
        exact wk_Md_layExports_30 ⟨hx, hb, hml, hown, hts, hr, hlocks, hK, hA, hD, hN, hal, hNx⟩ F out ih u x1 (1 : Int32) x0 x2 h q0 _ _ _ (lv_sub hl [0, 2] rfl) hP hS
def bk_Md_layExports_0 (F : Nat) (al : Nat → Bool) (u : Mr) (x0 : Nat) : Option (Mr × Int32) := bd2 (fn_Md_begin F al u x0 (3 : Int32)) fun u1 v1 => (bk_Md_layExports_9 F al F u1 x0 (0 : Int32) (0 : Int32))
set_option maxHeartbeats 4000000 in
set_option maxRecDepth 100000 in
theorem wk_Md_layExports_0 (cx : Cx p l e s m args below meth c cMd_layExports 3 bw "ImageForgeModel" none D cA ad L rs al A) (F : Nat) (out : Mr × Int32) : ∀ (u : Mr) (x0 : Nat), bk_Md_layExports_0 F al u x0 = some out → okk al 32 x0 = true → Wb p l e rm_Md_layExports s m args below meth c D cA ad L rs A (QV below args s D cA ad L rs A out) 3 0 [(0, .ref (ad x0))] [] u := by
  obtain ⟨hx, hb, hml, hown, hts, hr, hlocks, hK, hA, hD, hN, hal, hNx⟩ := cx
  intro u x0 h q0 H locs ls hl hP hS
  unfold bk_Md_layExports_0 at h
  refine lv_aload_n hx hb dMd_layExports_0 rfl (lv_at hl 0 rfl) ?_
  refine lv_iconst (v := 3) hx hb dMd_layExports_1 (by decide) ?_
  obtain ⟨u1, v1, hc1, h⟩ := bd2_some h
  refine x_cv (u := u) (out := (u1, v1)) hA hD hS (va_runV (As := [.int (3 : Int32)]) (rest := []) ⟨hx, hb, hml, hown, hts⟩ (ct_Md_begin hal hN F u x0 (3 : Int32) (u1, v1) hc1 q0 _) ⟨callB_of 1 hts gdMd_begin rfl rfl rfl (hts _ tw_11) (hts _ tw_935) hdMd_begin ⟨Nat.le_of_ble_eq_true rfl, Nat.le_of_ble_eq_true rfl⟩, (hts _ tw_937), (hts _ tp_57)⟩ (x_preV hK hD hNx hP (hal _ (okk_al q0)) (okk_t q0) rfl rfl) rfl rfl hl.1 rfl (lv_room (Nat.le_of_ble_eq_true rfl)) dMd_layExports_2 ⟨Nat.zero_le _, Nat.zero_le _⟩) (fun H locs hP hS => ?_)
  refine lv_iconst (v := 0) hx hb dMd_layExports_5 (by decide) ?_
  refine lv_istore_n (lv' := [(1, .int (0 : Int32)), (0, .ref (ad x0))]) hx hb dMd_layExports_6 rfl hl (by decide) rfl (fun ls hl => ?_)
  refine lv_iconst (v := 0) hx hb dMd_layExports_7 (by decide) ?_
  refine lv_istore_n (lv' := [(2, .int (0 : Int32)), (1, .int (0 : Int32)), (0, .ref (ad x0))]) hx hb dMd_layExports_8 rfl hl (by decide) rfl (fun ls hl => ?_)
  exact wk_Md_layExports_9 ⟨hx, hb, hml, hown, hts, hr, hlocks, hK, hA, hD, hN, hal, hNx⟩ F out F u1 x0 (0 : Int32) (0 : Int32) h q0 _ _ _ (lv_sub hl [2, 1, 0] rfl) hP hS
def fn_Md_layExports (F : Nat) (al : Nat → Bool) (u : Mr) (x0 : Nat) : Option (Mr × Int32) := bk_Md_layExports_0 F al u x0
set_option maxHeartbeats 4000000 in
set_option maxRecDepth 100000 in
theorem ct_Md_layExports {l : Launch} {D : va_G} {cA : Nat → ClassId} {ad : Nat → Nat} {L : List Nat} {rs : va_W} {al : Nat → Bool} (hal : ∀ k, al k = true → k ∈ L) (hN : L.Nodup) (F : Nat) (u : Mr) (x0 : Nat) (out : Mr × Int32) (h : fn_Md_layExports F al u x0 = some out) (q0 : okk al 32 x0 = true) : CtV l yMd_layExports wsMd_layExports rm_Md_layExports [.ref (ad x0)] D cA ad L rs u out := by
  intro sz
  refine Met.ofW (cc := cMd_layExports) (maxL := 3) (ret := none) (by decide) rfl ?_
  intro p e s m args below meth c s₁ B hml hv
  obtain ⟨rfl, hsz, hP, hK, hD0, hNx⟩ := hv
  subst hsz
  have hD := hD0.self (sz := s.heap.size)
  generalize hAe : va_A (ww ad cA L rs u) s.heap.size = A at hD ⊢
  have hA : ∀ q, s.heap.size ≤ q → A q := fun q h => by rw [← hAe]; exact Or.inr h
  have hl := lv_entry ([.ref (ad x0)]) (n := 3) (Nat.le_of_ble_eq_true rfl)
  rw [lg_entry_eq]
  generalize (lg_sl ([.ref (ad x0)]) ++ List.replicate (3 - (lg_sl ([.ref (ad x0)])).length) Slot.unset).toArray = ls at hl ⊢
  exact wk_Md_layExports_0 ⟨B.exec, B.bytes, hml, findClass_of_methodNamed B.named, hts_bw (atoms_spec (ws := wsMd_layExports) B.pre), B.returns, B.notSynchronized, hK, hA, fun v => ww_D hD, hN, hal, hNx⟩ F out u x0 h q0 _ _ _ (lv_sub hl [0] rfl) hP va_S.rf
abbrev rm_Md_isAbsolute : Room := { frames := 0, cells := 0, slots := 0, locals := 0 }
def bk_Md_isAbsolute_78 (F : Nat) (al : Nat → Bool) (k4 : Mr → Nat → Int32 → Int32 → Int32 → Option (Mr × Int32)) (k15 : Mr → Nat → Int32 → Int32 → Int32 → Int32 → Option (Mr × Int32)) (u : Mr) (s0 : Int32) (x0 : Nat) (x1 : Int32) (x3 : Int32) (x4 : Int32) : Option (Mr × Int32) := k15 u x0 x1 s0 x3 (x4 + (1 : Int32))
set_option maxHeartbeats 4000000 in
set_option maxRecDepth 100000 in
theorem wk_Md_isAbsolute_78 (cx : Cx p l e s m args below meth c cMd_isAbsolute 5 bw "ImageForgeModel" (some .boolean) D cA ad L rs al A) (F : Nat) (out : Mr × Int32) {k4 : Mr → Nat → Int32 → Int32 → Int32 → Option (Mr × Int32)} {k15 : Mr → Nat → Int32 → Int32 → Int32 → Int32 → Option (Mr × Int32)} (hk4 : ∀ (u : Mr) (x0 : Nat) (x1 : Int32) (x2 : Int32) (x3 : Int32), k4 u x0 x1 x2 x3 = some out → okk al 32 x0 = true → Wb p l e rm_Md_isAbsolute s m args below meth c D cA ad L rs A (QI below args s D cA ad L rs A out) 5 4 [(0, .ref (ad x0)), (1, .int x1), (2, .int x2), (3, .int x3)] [] u) (hk15 : ∀ (u : Mr) (x0 : Nat) (x1 : Int32) (x2 : Int32) (x3 : Int32) (x4 : Int32), k15 u x0 x1 x2 x3 x4 = some out → okk al 32 x0 = true → Wb p l e rm_Md_isAbsolute s m args below meth c D cA ad L rs A (QI below args s D cA ad L rs A out) 5 15 [(0, .ref (ad x0)), (1, .int x1), (2, .int x2), (3, .int x3), (4, .int x4)] [] u) : ∀ (u : Mr) (s0 : Int32) (x0 : Nat) (x1 : Int32) (x3 : Int32) (x4 : Int32), bk_Md_isAbsolute_78 F al k4 k15 u s0 x0 x1 x3 x4 = some out → okk al 32 x0 = true → Wb p l e rm_Md_isAbsolute s m args below meth c D cA ad L rs A (QI below args s D cA ad L rs A out) 5 78 [(0, .ref (ad x0)), (1, .int x1), (3, .int x3), (4, .int x4)] [.int s0] u := by
  obtain ⟨hx, hb, hml, hown, hts, hr, hlocks, hK, hA, hD, hN, hal, hNx⟩ := cx
  intro u s0 x0 x1 x3 x4 h q0 H locs ls hl hP hS
  unfold bk_Md_isAbsolute_78 at h
  refine lv_istore_n (lv' := [(2, .int s0), (0, .ref (ad x0)), (1, .int x1), (3, .int x3), (4, .int x4)]) hx hb dMd_isAbsolute_78 rfl hl (by decide) rfl (fun ls hl => ?_)
  refine lv_iinc (k := 4) (v := x4 + (1 : Int32)) (lv' := [(4, .int (x4 + (1 : Int32))), (2, .int s0), (0, .ref (ad x0)), (1, .int x1), (3, .int x3)]) hx hb dMd_isAbsolute_79 hl rfl (congrArg (fun z => _ + z) (show Int32.ofInt 1 = 1 by decide)) (by decide) rfl (fun ls hl => ?_)
  refine lv_goto (tgt := 15) hx hb dMd_isAbsolute_82 rfl ?_
  exact hk15 u x0 x1 s0 x3 (x4 + (1 : Int32)) h q0 _ _ _ (lv_sub hl [2, 3, 1, 4, 0] rfl) hP hS
def bk_Md_isAbsolute_73 (F : Nat) (al : Nat → Bool) (k4 : Mr → Nat → Int32 → Int32 → Int32 → Option (Mr × Int32)) (k15 : Mr → Nat → Int32 → Int32 → Int32 → Int32 → Option (Mr × Int32)) (u : Mr) (x0 : Nat) (x1 : Int32) (x3 : Int32) (x4 : Int32) : Option (Mr × Int32) := bk_Md_isAbsolute_78 F al k4 k15 u (1 : Int32) x0 x1 x3 x4
set_option maxHeartbeats 4000000 in
set_option maxRecDepth 100000 in
theorem wk_Md_isAbsolute_73 (cx : Cx p l e s m args below meth c cMd_isAbsolute 5 bw "ImageForgeModel" (some .boolean) D cA ad L rs al A) (F : Nat) (out : Mr × Int32) {k4 : Mr → Nat → Int32 → Int32 → Int32 → Option (Mr × Int32)} {k15 : Mr → Nat → Int32 → Int32 → Int32 → Int32 → Option (Mr × Int32)} (hk4 : ∀ (u : Mr) (x0 : Nat) (x1 : Int32) (x2 : Int32) (x3 : Int32), k4 u x0 x1 x2 x3 = some out → okk al 32 x0 = true → Wb p l e rm_Md_isAbsolute s m args below meth c D cA ad L rs A (QI below args s D cA ad L rs A out) 5 4 [(0, .ref (ad x0)), (1, .int x1), (2, .int x2), (3, .int x3)] [] u) (hk15 : ∀ (u : Mr) (x0 : Nat) (x1 : Int32) (x2 : Int32) (x3 : Int32) (x4 : Int32), k15 u x0 x1 x2 x3 x4 = some out → okk al 32 x0 = true → Wb p l e rm_Md_isAbsolute s m args below meth c D cA ad L rs A (QI below args s D cA ad L rs A out) 5 15 [(0, .ref (ad x0)), (1, .int x1), (2, .int x2), (3, .int x3), (4, .int x4)] [] u) : ∀ (u : Mr) (x0 : Nat) (x1 : Int32) (x3 : Int32) (x4 : Int32), bk_Md_isAbsolute_73 F al k4 k15 u x0 x1 x3 x4 = some out → okk al 32 x0 = true → Wb p l e rm_Md_isAbsolute s m args below meth c D cA ad L rs A (QI below args s D cA ad L rs A out) 5 73 [(0, .ref (ad x0)), (1, .int x1), (3, .int x3), (4, .int x4)] [] u := by
  obtain ⟨hx, hb, hml, hown, hts, hr, hlocks, hK, hA, hD, hN, hal, hNx⟩ := cx
  intro u x0 x1 x3 x4 h q0 H locs ls hl hP hS
  unfold bk_Md_isAbsolute_73 at h
  refine lv_iconst (v := 1) hx hb dMd_isAbsolute_73 (by decide) ?_
  refine lv_goto (tgt := 78) hx hb dMd_isAbsolute_74 rfl ?_
  exact wk_Md_isAbsolute_78 ⟨hx, hb, hml, hown, hts, hr, hlocks, hK, hA, hD, hN, hal, hNx⟩ F out hk4 hk15 u (1 : Int32) x0 x1 x3 x4 h q0 _ _ _ (lv_sub hl [0, 1, 2, 3] rfl) hP hS
def bk_Md_isAbsolute_77 (F : Nat) (al : Nat → Bool) (k4 : Mr → Nat → Int32 → Int32 → Int32 → Option (Mr × Int32)) (k15 : Mr → Nat → Int32 → Int32 → Int32 → Int32 → Option (Mr × Int32)) (u : Mr) (x0 : Nat) (x1 : Int32) (x3 : Int32) (x4 : Int32) : Option (Mr × Int32) := bk_Md_isAbsolute_78 F al k4 k15 u (0 : Int32) x0 x1 x3 x4
set_option maxHeartbeats 4000000 in
set_option maxRecDepth 100000 in
theorem wk_Md_isAbsolute_77 (cx : Cx p l e s m args below meth c cMd_isAbsolute 5 bw "ImageForgeModel" (some .boolean) D cA ad L rs al A) (F : Nat) (out : Mr × Int32) {k4 : Mr → Nat → Int32 → Int32 → Int32 → Option (Mr × Int32)} {k15 : Mr → Nat → Int32 → Int32 → Int32 → Int32 → Option (Mr × Int32)} (hk4 : ∀ (u : Mr) (x0 : Nat) (x1 : Int32) (x2 : Int32) (x3 : Int32), k4 u x0 x1 x2 x3 = some out → okk al 32 x0 = true → Wb p l e rm_Md_isAbsolute s m args below meth c D cA ad L rs A (QI below args s D cA ad L rs A out) 5 4 [(0, .ref (ad x0)), (1, .int x1), (2, .int x2), (3, .int x3)] [] u) (hk15 : ∀ (u : Mr) (x0 : Nat) (x1 : Int32) (x2 : Int32) (x3 : Int32) (x4 : Int32), k15 u x0 x1 x2 x3 x4 = some out → okk al 32 x0 = true → Wb p l e rm_Md_isAbsolute s m args below meth c D cA ad L rs A (QI below args s D cA ad L rs A out) 5 15 [(0, .ref (ad x0)), (1, .int x1), (2, .int x2), (3, .int x3), (4, .int x4)] [] u) : ∀ (u : Mr) (x0 : Nat) (x1 : Int32) (x3 : Int32) (x4 : Int32), bk_Md_isAbsolute_77 F al k4 k15 u x0 x1 x3 x4 = some out → okk al 32 x0 = true → Wb p l e rm_Md_isAbsolute s m args below meth c D cA ad L rs A (QI below args s D cA ad L rs A out) 5 77 [(0, .ref (ad x0)), (1, .int x1), (3, .int x3), (4, .int x4)] [] u := by
  obtain ⟨hx, hb, hml, hown, hts, hr, hlocks, hK, hA, hD, hN, hal, hNx⟩ := cx
  intro u x0 x1 x3 x4 h q0 H locs ls hl hP hS
  unfold bk_Md_isAbsolute_77 at h
  refine lv_iconst (v := 0) hx hb dMd_isAbsolute_77 (by decide) ?_
  exact wk_Md_isAbsolute_78 ⟨hx, hb, hml, hown, hts, hr, hlocks, hK, hA, hD, hN, hal, hNx⟩ F out hk4 hk15 u (0 : Int32) x0 x1 x3 x4 h q0 _ _ _ (lv_sub hl [0, 1, 2, 3] rfl) hP hS
def bk_Md_isAbsolute_15 (F : Nat) (al : Nat → Bool) (k4 : Mr → Nat → Int32 → Int32 → Int32 → Option (Mr × Int32)) : Nat → Mr → Nat → Int32 → Int32 → Int32 → Int32 → Option (Mr × Int32)
  | 0, _, _, _, _, _, _ => none
  | n + 1, u, x0, x1, x2, x3, x4 => bd1 (rdR al u x0 7 35) fun y1 => (ck (inb x3 4) (if (((8 : Int32) * x3) + (u.1 y1 x3)) ≤ x4 then (k4 u x0 x1 x2 (x3 + (1 : Int32))) else (if x2 = 0 then (bd1 (rdR al u x0 10 37) fun y4 => (ck (inb x4 32) (if (u.1 y4 x4) = 0 then (bd1 (rdR al u x0 22 33) fun y7 => (bd1 (rdR al u x0 8 37) fun y9 => (ck (inb x4 32) (ck (inb (((2 : Int32) * x3) + (u.1 y9 x4)) 8) (bd1 (rdR al u x0 9 37) fun y13 => (ck (inb x4 32) (if ((u.1 y7 (((2 : Int32) * x3) + (u.1 y9 x4))) + (u.1 y13 x4)) = x1 then (bk_Md_isAbsolute_73 F al k4 (bk_Md_isAbsolute_15 F al k4 n) u x0 x1 x3 x4) else (bk_Md_isAbsolute_77 F al k4 (bk_Md_isAbsolute_15 F al k4 n) u x0 x1 x3 x4)))))))) else (bk_Md_isAbsolute_77 F al k4 (bk_Md_isAbsolute_15 F al k4 n) u x0 x1 x3 x4)))) else (bk_Md_isAbsolute_73 F al k4 (bk_Md_isAbsolute_15 F al k4 n) u x0 x1 x3 x4))))
set_option maxHeartbeats 4000000 in
set_option maxRecDepth 100000 in
theorem wk_Md_isAbsolute_15 (cx : Cx p l e s m args below meth c cMd_isAbsolute 5 bw "ImageForgeModel" (some .boolean) D cA ad L rs al A) (F : Nat) (out : Mr × Int32) {k4 : Mr → Nat → Int32 → Int32 → Int32 → Option (Mr × Int32)} (hk4 : ∀ (u : Mr) (x0 : Nat) (x1 : Int32) (x2 : Int32) (x3 : Int32), k4 u x0 x1 x2 x3 = some out → okk al 32 x0 = true → Wb p l e rm_Md_isAbsolute s m args below meth c D cA ad L rs A (QI below args s D cA ad L rs A out) 5 4 [(0, .ref (ad x0)), (1, .int x1), (2, .int x2), (3, .int x3)] [] u) : ∀ n : Nat, ∀ (u : Mr) (x0 : Nat) (x1 : Int32) (x2 : Int32) (x3 : Int32) (x4 : Int32), bk_Md_isAbsolute_15 F al k4 n u x0 x1 x2 x3 x4 = some out → okk al 32 x0 = true → Wb p l e rm_Md_isAbsolute s m args below meth c D cA ad L rs A (QI below args s D cA ad L rs A out) 5 15 [(0, .ref (ad x0)), (1, .int x1), (2, .int x2), (3, .int x3), (4, .int x4)] [] u := by
  obtain ⟨hx, hb, hml, hown, hts, hr, hlocks, hK, hA, hD, hN, hal, hNx⟩ := cx
  intro n
  induction n with
  | zero =>
    intro u x0 x1 x2 x3 x4 h
    cases h
  | succ n ih =>
    intro u x0 x1 x2 x3 x4 h q0 H locs ls hl hP hS
    rw [bk_Md_isAbsolute_15] at h
    refine lv_iload hx hb dMd_isAbsolute_15 (lv_at hl 4 rfl) ?_
    refine lv_bipush (v := 8) hx hb dMd_isAbsolute_17 (by decide) ?_
    refine lv_iload_n hx hb dMd_isAbsolute_19 rfl (lv_at hl 3 rfl) ?_
    refine lv_imul hx hb dMd_isAbsolute_20 ?_
    refine lv_aload_n hx hb dMd_isAbsolute_21 rfl (lv_at hl 0 rfl) ?_
    obtain ⟨y1, hy2, h⟩ := bd1_some h
    obtain ⟨hy2a, hy2⟩ := rdR_some hy2
    refine x_get hx hb hts in_Md hown hK hP (hal _ (okk_al q0)) (okk_t q0) rfl rfl 7 (by decide) (hts _ tw_789) (fun _ h9 => h9) (congrArg some (x_rf hy2a)) dMd_isAbsolute_22 ?_
    refine lv_iload_n hx hb dMd_isAbsolute_25 rfl (lv_at hl 3 rfl) ?_
    obtain ⟨hi3, h⟩ := ck_some h
    refine x_iald hx hb hK hP (hal _ (okk_al hy2)) (okk_t hy2) 0 (fun _ _ _ => rfl) rfl (inb_in hi3) dMd_isAbsolute_26 ?_
    refine lv_iadd hx hb dMd_isAbsolute_27 ?_
    refine lv_icmp_ge (tgt := 85) hx hb dMd_isAbsolute_28 rfl (fun hc => ?_) (fun hc => ?_)
    · replace h := it_t h hc
      refine lv_iinc (k := 3) (v := x3 + (1 : Int32)) (lv' := [(3, .int (x3 + (1 : Int32))), (0, .ref (ad x0)), (1, .int x1), (2, .int x2), (4, .int x4)]) hx hb dMd_isAbsolute_85 hl rfl (congrArg (fun z => _ + z) (show Int32.ofInt 1 = 1 by decide)) (by decide) rfl (fun ls hl => ?_)
      refine lv_goto (tgt := 4) hx hb dMd_isAbsolute_88 rfl ?_
      exact hk4 u x0 x1 x2 (x3 + (1 : Int32)) h q0 _ _ _ (lv_sub hl [1, 2, 3, 0] rfl) hP hS
    · replace h := it_f h hc
      refine lv_iload_n hx hb dMd_isAbsolute_31 rfl (lv_at hl 2 rfl) ?_
      refine lv_if_ne (tgt := 73) hx hb dMd_isAbsolute_32 rfl (fun hc => ?_) (fun hc => ?_)
      · replace h := it_f h hc
        exact wk_Md_isAbsolute_73 ⟨hx, hb, hml, hown, hts, hr, hlocks, hK, hA, hD, hN, hal, hNx⟩ F out hk4 ih u x0 x1 x3 x4 h q0 _ _ _ (lv_sub hl [0, 1, 3, 4] rfl) hP hS
      · replace h := it_t h hc
        refine lv_aload_n hx hb dMd_isAbsolute_35 rfl (lv_at hl 0 rfl) ?_
        obtain ⟨y4, hy5, h⟩ := bd1_some h
        obtain ⟨hy5a, hy5⟩ := rdR_some hy5
        refine x_get hx hb hts in_Md hown hK hP (hal _ (okk_al q0)) (okk_t q0) rfl rfl 10 (by decide) (hts _ tw_792) (fun _ h9 => h9) (congrArg some (x_rf hy5a)) dMd_isAbsolute_36 ?_
        refine lv_iload hx hb dMd_isAbsolute_39 (lv_at hl 4 rfl) ?_
        obtain ⟨hi6, h⟩ := ck_some h
        refine x_iald hx hb hK hP (hal _ (okk_al hy5)) (okk_t hy5) 0 (fun _ _ _ => rfl) rfl (inb_in hi6) dMd_isAbsolute_41 ?_
        refine lv_if_ne (tgt := 77) hx hb dMd_isAbsolute_42 rfl (fun hc => ?_) (fun hc => ?_)
        · replace h := it_f h hc
          exact wk_Md_isAbsolute_77 ⟨hx, hb, hml, hown, hts, hr, hlocks, hK, hA, hD, hN, hal, hNx⟩ F out hk4 ih u x0 x1 x3 x4 h q0 _ _ _ (lv_sub hl [0, 1, 3, 4] rfl) hP hS
        · replace h := it_t h hc
          refine lv_aload_n hx hb dMd_isAbsolute_45 rfl (lv_at hl 0 rfl) ?_
          obtain ⟨y7, hy8, h⟩ := bd1_some h
          obtain ⟨hy8a, hy8⟩ := rdR_some hy8
          refine x_get hx hb hts in_Md hown hK hP (hal _ (okk_al q0)) (okk_t q0) rfl rfl 22 (by decide) (hts _ tw_804) (fun _ h9 => h9) (congrArg some (x_rf hy8a)) dMd_isAbsolute_46 ?_
          refine lv_iconst (v := 2) hx hb dMd_isAbsolute_49 (by decide) ?_
          refine lv_iload_n hx hb dMd_isAbsolute_50 rfl (lv_at hl 3 rfl) ?_
          refine lv_imul hx hb dMd_isAbsolute_51 ?_
          refine lv_aload_n hx hb dMd_isAbsolute_52 rfl (lv_at hl 0 rfl) ?_
          obtain ⟨y9, hy10, h⟩ := bd1_some h
          obtain ⟨hy10a, hy10⟩ := rdR_some hy10
          refine x_get hx hb hts in_Md hown hK hP (hal _ (okk_al q0)) (okk_t q0) rfl rfl 8 (by decide) (hts _ tw_790) (fun _ h9 => h9) (congrArg some (x_rf hy10a)) dMd_isAbsolute_53 ?_
          refine lv_iload hx hb dMd_isAbsolute_56 (lv_at hl 4 rfl) ?_
          obtain ⟨hi11, h⟩ := ck_some h
          refine x_iald hx hb hK hP (hal _ (okk_al hy10)) (okk_t hy10) 0 (fun _ _ _ => rfl) rfl (inb_in hi11) dMd_isAbsolute_58 ?_
          refine lv_iadd hx hb dMd_isAbsolute_59 ?_
          obtain ⟨hi12, h⟩ := ck_some h
          refine x_iald hx hb hK hP (hal _ (okk_al hy8)) (okk_t hy8) 0 (fun _ _ _ => rfl) rfl (inb_in hi12) dMd_isAbsolute_60 ?_
          refine lv_aload_n hx hb dMd_isAbsolute_61 rfl (lv_at hl 0 rfl) ?_
          obtain ⟨y13, hy14, h⟩ := bd1_some h
          obtain ⟨hy14a, hy14⟩ := rdR_some hy14
          refine x_get hx hb hts in_Md hown hK hP (hal _ (okk_al q0)) (okk_t q0) rfl rfl 9 (by decide) (hts _ tw_791) (fun _ h9 => h9) (congrArg some (x_rf hy14a)) dMd_isAbsolute_62 ?_
          refine lv_iload hx hb dMd_isAbsolute_65 (lv_at hl 4 rfl) ?_
          obtain ⟨hi15, h⟩ := ck_some h
          refine x_iald hx hb hK hP (hal _ (okk_al hy14)) (okk_t hy14) 0 (fun _ _ _ => rfl) rfl (inb_in hi15) dMd_isAbsolute_67 ?_
          refine lv_iadd hx hb dMd_isAbsolute_68 ?_
          refine lv_iload_n hx hb dMd_isAbsolute_69 rfl (lv_at hl 1 rfl) ?_
          refine lv_icmp_ne (tgt := 77) hx hb dMd_isAbsolute_70 rfl (fun hc => ?_) (fun hc => ?_)
          · replace h := it_f h hc
            exact wk_Md_isAbsolute_77 ⟨hx, hb, hml, hown, hts, hr, hlocks, hK, hA, hD, hN, hal, hNx⟩ F out hk4 ih u x0 x1 x3 x4 h q0 _ _ _ (lv_sub hl [0, 1, 3, 4] rfl) hP hS
          · replace h := it_t h hc
            exact wk_Md_isAbsolute_73 ⟨hx, hb, hml, hown, hts, hr, hlocks, hK, hA, hD, hN, hal, hNx⟩ F out hk4 ih u x0 x1 x3 x4 h q0 _ _ _ (lv_sub hl [0, 1, 3, 4] rfl) hP hS
def bk_Md_isAbsolute_4 (F : Nat) (al : Nat → Bool) : Nat → Mr → Nat → Int32 → Int32 → Int32 → Option (Mr × Int32)
  | 0, _, _, _, _, _ => none
  | n + 1, u, x0, x1, x2, x3 => if (4 : Int32) ≤ x3 then (ck (isz x2) (some (u, x2))) else (bk_Md_isAbsolute_15 F al (bk_Md_isAbsolute_4 F al n) F u x0 x1 x2 x3 ((8 : Int32) * x3))
set_option maxHeartbeats 4000000 in
set_option maxRecDepth 100000 in
theorem wk_Md_isAbsolute_4 (cx : Cx p l e s m args below meth c cMd_isAbsolute 5 bw "ImageForgeModel" (some .boolean) D cA ad L rs al A) (F : Nat) (out : Mr × Int32) : ∀ n : Nat, ∀ (u : Mr) (x0 : Nat) (x1 : Int32) (x2 : Int32) (x3 : Int32), bk_Md_isAbsolute_4 F al n u x0 x1 x2 x3 = some out → okk al 32 x0 = true → Wb p l e rm_Md_isAbsolute s m args below meth c D cA ad L rs A (QI below args s D cA ad L rs A out) 5 4 [(0, .ref (ad x0)), (1, .int x1), (2, .int x2), (3, .int x3)] [] u := by
  obtain ⟨hx, hb, hml, hown, hts, hr, hlocks, hK, hA, hD, hN, hal, hNx⟩ := cx
  intro n
  induction n with
  | zero =>
    intro u x0 x1 x2 x3 h
    cases h
  | succ n ih =>
    intro u x0 x1 x2 x3 h q0 H locs ls hl hP hS
    rw [bk_Md_isAbsolute_4] at h
    refine lv_iload_n hx hb dMd_isAbsolute_4 rfl (lv_at hl 3 rfl) ?_
    refine lv_iconst (v := 4) hx hb dMd_isAbsolute_5 (by decide) ?_
    refine lv_icmp_ge (tgt := 91) hx hb dMd_isAbsolute_6 rfl (fun hc => ?_) (fun hc => ?_)
    · replace h := it_t h hc
      refine lv_iload_n hx hb dMd_isAbsolute_91 rfl (lv_at hl 2 rfl) ?_
      obtain ⟨h8, h⟩ := ck_some h
      exact x_zret hx hb hr hlocks (isz_nar h8) h hP hS dMd_isAbsolute_92
    · replace h := it_f h hc
      refine lv_bipush (v := 8) hx hb dMd_isAbsolute_9 (by decide) ?_
      refine lv_iload_n hx hb dMd_isAbsolute_11 rfl (lv_at hl 3 rfl) ?_
      refine lv_imul hx hb dMd_isAbsolute_12 ?_
      refine lv_istore (lv' := [(4, .int ((8 : Int32) * x3)), (0, .ref (ad x0)), (1, .int x1), (2, .int x2), (3, .int x3)]) hx hb dMd_isAbsolute_13 hl (by decide) rfl (fun ls hl => ?_)
      exact wk_Md_isAbsolute_15 ⟨hx, hb, hml, hown, hts, hr, hlocks, hK, hA, hD, hN, hal, hNx⟩ F out ih F u x0 x1 x2 x3 ((8 : Int32) * x3) h q0 _ _ _ (lv_sub hl [1, 2, 3, 4, 0] rfl) hP hS
def bk_Md_isAbsolute_0 (F : Nat) (al : Nat → Bool) (u : Mr) (x0 : Nat) (x1 : Int32) : Option (Mr × Int32) := bk_Md_isAbsolute_4 F al F u x0 x1 (0 : Int32) (0 : Int32)
set_option maxHeartbeats 4000000 in
set_option maxRecDepth 100000 in
theorem wk_Md_isAbsolute_0 (cx : Cx p l e s m args below meth c cMd_isAbsolute 5 bw "ImageForgeModel" (some .boolean) D cA ad L rs al A) (F : Nat) (out : Mr × Int32) : ∀ (u : Mr) (x0 : Nat) (x1 : Int32), bk_Md_isAbsolute_0 F al u x0 x1 = some out → okk al 32 x0 = true → Wb p l e rm_Md_isAbsolute s m args below meth c D cA ad L rs A (QI below args s D cA ad L rs A out) 5 0 [(0, .ref (ad x0)), (1, .int x1)] [] u := by
  obtain ⟨hx, hb, hml, hown, hts, hr, hlocks, hK, hA, hD, hN, hal, hNx⟩ := cx
  intro u x0 x1 h q0 H locs ls hl hP hS
  unfold bk_Md_isAbsolute_0 at h
  refine lv_iconst (v := 0) hx hb dMd_isAbsolute_0 (by decide) ?_
  refine lv_istore_n (lv' := [(2, .int (0 : Int32)), (0, .ref (ad x0)), (1, .int x1)]) hx hb dMd_isAbsolute_1 rfl hl (by decide) rfl (fun ls hl => ?_)
  refine lv_iconst (v := 0) hx hb dMd_isAbsolute_2 (by decide) ?_
  refine lv_istore_n (lv' := [(3, .int (0 : Int32)), (2, .int (0 : Int32)), (0, .ref (ad x0)), (1, .int x1)]) hx hb dMd_isAbsolute_3 rfl hl (by decide) rfl (fun ls hl => ?_)
  exact wk_Md_isAbsolute_4 ⟨hx, hb, hml, hown, hts, hr, hlocks, hK, hA, hD, hN, hal, hNx⟩ F out F u x0 x1 (0 : Int32) (0 : Int32) h q0 _ _ _ (lv_sub hl [2, 3, 1, 0] rfl) hP hS
def fn_Md_isAbsolute (F : Nat) (al : Nat → Bool) (u : Mr) (x0 : Nat) (x1 : Int32) : Option (Mr × Int32) := bk_Md_isAbsolute_0 F al u x0 x1
set_option maxHeartbeats 4000000 in
set_option maxRecDepth 100000 in
theorem ct_Md_isAbsolute {l : Launch} {D : va_G} {cA : Nat → ClassId} {ad : Nat → Nat} {L : List Nat} {rs : va_W} {al : Nat → Bool} (hal : ∀ k, al k = true → k ∈ L) (hN : L.Nodup) (F : Nat) (u : Mr) (x0 : Nat) (x1 : Int32) (out : Mr × Int32) (h : fn_Md_isAbsolute F al u x0 x1 = some out) (q0 : okk al 32 x0 = true) : CtI l yMd_isAbsolute wsMd_isAbsolute rm_Md_isAbsolute [.ref (ad x0), .int x1] D cA ad L rs u out := by
  intro sz
  refine Met.ofW (cc := cMd_isAbsolute) (maxL := 5) (ret := (some .boolean)) (by decide) rfl ?_
  intro p e s m args below meth c s₁ B hml hv
  obtain ⟨rfl, hsz, hP, hK, hD0, hNx⟩ := hv
  subst hsz
  have hD := hD0.self (sz := s.heap.size)
  generalize hAe : va_A (ww ad cA L rs u) s.heap.size = A at hD ⊢
  have hA : ∀ q, s.heap.size ≤ q → A q := fun q h => by rw [← hAe]; exact Or.inr h
  have hl := lv_entry ([.ref (ad x0), .int x1]) (n := 5) (Nat.le_of_ble_eq_true rfl)
  rw [lg_entry_eq]
  generalize (lg_sl ([.ref (ad x0), .int x1]) ++ List.replicate (5 - (lg_sl ([.ref (ad x0), .int x1])).length) Slot.unset).toArray = ls at hl ⊢
  exact wk_Md_isAbsolute_0 ⟨B.exec, B.bytes, hml, findClass_of_methodNamed B.named, hts_bw (atoms_spec (ws := wsMd_isAbsolute) B.pre), B.returns, B.notSynchronized, hK, hA, fun v => ww_D hD, hN, hal, hNx⟩ F out u x0 x1 h q0 _ _ _ (lv_sub hl [0, 1] rfl) hP va_S.rf
abbrev rm_Md_layRelocations : Room := { frames := 2, cells := 0, slots := 0, locals := 44 }
def bk_Md_layRelocations_122 (F : Nat) (al : Nat → Bool) (k7 : Mr → Nat → Int32 → Option (Mr × Int32)) (u : Mr) (x0 : Nat) (x1 : Int32) : Option (Mr × Int32) := k7 u x0 (x1 + (64 : Int32))
set_option maxHeartbeats 4000000 in
set_option maxRecDepth 100000 in
theorem wk_Md_layRelocations_122 (cx : Cx p l e s m args below meth c cMd_layRelocations 4 bw "ImageForgeModel" none D cA ad L rs al A) (F : Nat) (out : Mr × Int32) {k7 : Mr → Nat → Int32 → Option (Mr × Int32)} (hk7 : ∀ (u : Mr) (x0 : Nat) (x1 : Int32), k7 u x0 x1 = some out → okk al 32 x0 = true → Wb p l e rm_Md_layRelocations s m args below meth c D cA ad L rs A (QV below args s D cA ad L rs A out) 4 7 [(0, .ref (ad x0)), (1, .int x1)] [] u) : ∀ (u : Mr) (x0 : Nat) (x1 : Int32), bk_Md_layRelocations_122 F al k7 u x0 x1 = some out → okk al 32 x0 = true → Wb p l e rm_Md_layRelocations s m args below meth c D cA ad L rs A (QV below args s D cA ad L rs A out) 4 122 [(0, .ref (ad x0)), (1, .int x1)] [] u := by
  obtain ⟨hx, hb, hml, hown, hts, hr, hlocks, hK, hA, hD, hN, hal, hNx⟩ := cx
  intro u x0 x1 h q0 H locs ls hl hP hS
  unfold bk_Md_layRelocations_122 at h
  refine lv_iinc (k := 1) (v := x1 + (64 : Int32)) (lv' := [(1, .int (x1 + (64 : Int32))), (0, .ref (ad x0))]) hx hb dMd_layRelocations_122 hl rfl (congrArg (fun z => _ + z) (show Int32.ofInt 64 = 64 by decide)) (by decide) rfl (fun ls hl => ?_)
  refine lv_goto (tgt := 7) hx hb dMd_layRelocations_125 rfl ?_
  exact hk7 u x0 (x1 + (64 : Int32)) h q0 _ _ _ (lv_sub hl [1, 0] rfl) hP hS
def bk_Md_layRelocations_104 (F : Nat) (al : Nat → Bool) (k7 : Mr → Nat → Int32 → Option (Mr × Int32)) (k79 : Mr → Nat → Int32 → Int32 → Int32 → Option (Mr × Int32)) (u : Mr) (x0 : Nat) (x1 : Int32) (x2 : Int32) (x3 : Int32) : Option (Mr × Int32) := k79 u x0 x1 x2 (x3 + (1 : Int32))
set_option maxHeartbeats 4000000 in
set_option maxRecDepth 100000 in
theorem wk_Md_layRelocations_104 (cx : Cx p l e s m args below meth c cMd_layRelocations 4 bw "ImageForgeModel" none D cA ad L rs al A) (F : Nat) (out : Mr × Int32) {k7 : Mr → Nat → Int32 → Option (Mr × Int32)} {k79 : Mr → Nat → Int32 → Int32 → Int32 → Option (Mr × Int32)} (hk7 : ∀ (u : Mr) (x0 : Nat) (x1 : Int32), k7 u x0 x1 = some out → okk al 32 x0 = true → Wb p l e rm_Md_layRelocations s m args below meth c D cA ad L rs A (QV below args s D cA ad L rs A out) 4 7 [(0, .ref (ad x0)), (1, .int x1)] [] u) (hk79 : ∀ (u : Mr) (x0 : Nat) (x1 : Int32) (x2 : Int32) (x3 : Int32), k79 u x0 x1 x2 x3 = some out → okk al 32 x0 = true → Wb p l e rm_Md_layRelocations s m args below meth c D cA ad L rs A (QV below args s D cA ad L rs A out) 4 79 [(0, .ref (ad x0)), (1, .int x1), (2, .int x2), (3, .int x3)] [] u) : ∀ (u : Mr) (x0 : Nat) (x1 : Int32) (x2 : Int32) (x3 : Int32), bk_Md_layRelocations_104 F al k7 k79 u x0 x1 x2 x3 = some out → okk al 32 x0 = true → Wb p l e rm_Md_layRelocations s m args below meth c D cA ad L rs A (QV below args s D cA ad L rs A out) 4 104 [(0, .ref (ad x0)), (1, .int x1), (2, .int x2), (3, .int x3)] [] u := by
  obtain ⟨hx, hb, hml, hown, hts, hr, hlocks, hK, hA, hD, hN, hal, hNx⟩ := cx
  intro u x0 x1 x2 x3 h q0 H locs ls hl hP hS
  unfold bk_Md_layRelocations_104 at h
  refine lv_iinc (k := 3) (v := x3 + (1 : Int32)) (lv' := [(3, .int (x3 + (1 : Int32))), (0, .ref (ad x0)), (1, .int x1), (2, .int x2)]) hx hb dMd_layRelocations_104 hl rfl (congrArg (fun z => _ + z) (show Int32.ofInt 1 = 1 by decide)) (by decide) rfl (fun ls hl => ?_)
  refine lv_goto (tgt := 79) hx hb dMd_layRelocations_107 rfl ?_
  exact hk79 u x0 x1 x2 (x3 + (1 : Int32)) h q0 _ _ _ (lv_sub hl [1, 2, 3, 0] rfl) hP hS
def bk_Md_layRelocations_79 (F : Nat) (al : Nat → Bool) (k7 : Mr → Nat → Int32 → Option (Mr × Int32)) : Nat → Mr → Nat → Int32 → Int32 → Int32 → Option (Mr × Int32)
  | 0, _, _, _, _, _ => none
  | n + 1, u, x0, x1, x2, x3 => if (64 : Int32) ≤ x3 then (if (x2 - x2 / (2 : Int32) * (2 : Int32)) = (1 : Int32) then (bd2 (fn_Md_addPair F al u x0 (0 : Int32)) fun u1 v1 => (bk_Md_layRelocations_122 F al k7 u1 x0 x1)) else (bk_Md_layRelocations_122 F al k7 u x0 x1)) else (bd2 (fn_Md_isAbsolute F al u x0 (x1 + x3)) fun u2 v2 => (if v2 = 0 then (bk_Md_layRelocations_104 F al k7 (bk_Md_layRelocations_79 F al k7 n) u2 x0 x1 x2 x3) else (bd2 (fn_Md_addPair F al u2 x0 ((12288 : Int32) + x3)) fun u3 v3 => (bk_Md_layRelocations_104 F al k7 (bk_Md_layRelocations_79 F al k7 n) u3 x0 x1 x2 x3))))
set_option maxHeartbeats 4000000 in
set_option maxRecDepth 100000 in
theorem wk_Md_layRelocations_79 (cx : Cx p l e s m args below meth c cMd_layRelocations 4 bw "ImageForgeModel" none D cA ad L rs al A) (F : Nat) (out : Mr × Int32) {k7 : Mr → Nat → Int32 → Option (Mr × Int32)} (hk7 : ∀ (u : Mr) (x0 : Nat) (x1 : Int32), k7 u x0 x1 = some out → okk al 32 x0 = true → Wb p l e rm_Md_layRelocations s m args below meth c D cA ad L rs A (QV below args s D cA ad L rs A out) 4 7 [(0, .ref (ad x0)), (1, .int x1)] [] u) : ∀ n : Nat, ∀ (u : Mr) (x0 : Nat) (x1 : Int32) (x2 : Int32) (x3 : Int32), bk_Md_layRelocations_79 F al k7 n u x0 x1 x2 x3 = some out → okk al 32 x0 = true → Wb p l e rm_Md_layRelocations s m args below meth c D cA ad L rs A (QV below args s D cA ad L rs A out) 4 79 [(0, .ref (ad x0)), (1, .int x1), (2, .int x2), (3, .int x3)] [] u := by
  obtain ⟨hx, hb, hml, hown, hts, hr, hlocks, hK, hA, hD, hN, hal, hNx⟩ := cx
  intro n
  induction n with
  | zero =>
    intro u x0 x1 x2 x3 h
    cases h
  | succ n ih =>
    intro u x0 x1 x2 x3 h q0 H locs ls hl hP hS
    rw [bk_Md_layRelocations_79] at h
    refine lv_iload_n hx hb dMd_layRelocations_79 rfl (lv_at hl 3 rfl) ?_
    refine lv_bipush (v := 64) hx hb dMd_layRelocations_80 (by decide) ?_
    refine lv_icmp_ge (tgt := 110) hx hb dMd_layRelocations_82 rfl (fun hc => ?_) (fun hc => ?_)
    · replace h := it_t h hc
      refine lv_iload_n hx hb dMd_layRelocations_110 rfl (lv_at hl 2 rfl) ?_
      refine lv_iconst (v := 2) hx hb dMd_layRelocations_111 (by decide) ?_
      refine lv_irem hx hb dMd_layRelocations_112 (by decide) ?_
      refine lv_iconst (v := 1) hx hb dMd_layRelocations_113 (by decide) ?_
      refine lv_icmp_ne (tgt := 122) hx hb dMd_layRelocations_114 rfl (fun hc => ?_) (fun hc => ?_)
      · replace h := it_f h hc
        exact wk_Md_layRelocations_122 ⟨hx, hb, hml, hown, hts, hr, hlocks, hK, hA, hD, hN, hal, hNx⟩ F out hk7 u x0 x1 h q0 _ _ _ (lv_sub hl [0, 1] rfl) hP hS
      · replace h := it_t h hc
        refine lv_aload_n hx hb dMd_layRelocations_117 rfl (lv_at hl 0 rfl) ?_
        refine lv_iconst (v := 0) hx hb dMd_layRelocations_118 (by decide) ?_
        obtain ⟨u1, v1, hc1, h⟩ := bd2_some h
        refine x_cv (u := u) (out := (u1, v1)) hA hD hS (va_runV (As := [.int (0 : Int32)]) (rest := []) ⟨hx, hb, hml, hown, hts⟩ (ct_Md_addPair hal hN F u x0 (0 : Int32) (u1, v1) hc1 q0 _) ⟨callB_of 1 hts gdMd_addPair rfl rfl rfl (hts _ tw_11) (hts _ tw_975) hdMd_addPair ⟨Nat.le_of_ble_eq_true rfl, Nat.le_of_ble_eq_true rfl⟩, (hts _ tw_977), (hts _ tp_66)⟩ (x_preV hK hD hNx hP (hal _ (okk_al q0)) (okk_t q0) rfl rfl) rfl rfl hl.1 rfl (lv_room (Nat.le_of_ble_eq_true rfl)) dMd_layRelocations_119 ⟨Nat.zero_le _, Nat.zero_le _⟩) (fun H locs hP hS => ?_)
        exact wk_Md_layRelocations_122 ⟨hx, hb, hml, hown, hts, hr, hlocks, hK, hA, hD, hN, hal, hNx⟩ F out hk7 u1 x0 x1 h q0 _ _ _ (lv_sub hl [0, 1] rfl) hP hS
    · replace h := it_f h hc
      refine lv_aload_n hx hb dMd_layRelocations_85 rfl (lv_at hl 0 rfl) ?_
      refine lv_iload_n hx hb dMd_layRelocations_86 rfl (lv_at hl 1 rfl) ?_
      refine lv_iload_n hx hb dMd_layRelocations_87 rfl (lv_at hl 3 rfl) ?_
      refine lv_iadd hx hb dMd_layRelocations_88 ?_
      obtain ⟨u2, v2, hc2, h⟩ := bd2_some h
      refine x_ci (u := u) (out := (u2, v2)) hA hD hS (va_runV (As := [.int (x1 + x3)]) (rest := []) ⟨hx, hb, hml, hown, hts⟩ (ct_Md_isAbsolute hal hN F u x0 (x1 + x3) (u2, v2) hc2 q0 _) ⟨callB_of 1 hts gdMd_isAbsolute rfl rfl rfl (hts _ tw_11) (hts _ tw_971) hdMd_isAbsolute ⟨Nat.le_of_ble_eq_true rfl, Nat.le_of_ble_eq_true rfl⟩, (hts _ tw_973), (hts _ tp_65)⟩ (x_preV hK hD hNx hP (hal _ (okk_al q0)) (okk_t q0) rfl rfl) rfl rfl hl.1 rfl (lv_room (Nat.le_of_ble_eq_true rfl)) dMd_layRelocations_89 ⟨Nat.zero_le _, Nat.zero_le _⟩) (fun H locs hP hS => ?_)
      refine lv_if_eq (tgt := 104) hx hb dMd_layRelocations_92 rfl (fun hc => ?_) (fun hc => ?_)
      · replace h := it_t h hc
        exact wk_Md_layRelocations_104 ⟨hx, hb, hml, hown, hts, hr, hlocks, hK, hA, hD, hN, hal, hNx⟩ F out hk7 ih u2 x0 x1 x2 x3 h q0 _ _ _ (lv_sub hl [0, 1, 2, 3] rfl) hP hS
      · replace h := it_f h hc
        refine lv_aload_n hx hb dMd_layRelocations_95 rfl (lv_at hl 0 rfl) ?_
        refine lv_sipush (v := 12288) hx hb dMd_layRelocations_96 (by decide) ?_
        refine lv_iload_n hx hb dMd_layRelocations_99 rfl (lv_at hl 3 rfl) ?_
        refine lv_iadd hx hb dMd_layRelocations_100 ?_
        obtain ⟨u3, v3, hc3, h⟩ := bd2_some h
        refine x_cv (u := u2) (out := (u3, v3)) hA hD hS (va_runV (As := [.int ((12288 : Int32) + x3)]) (rest := []) ⟨hx, hb, hml, hown, hts⟩ (ct_Md_addPair hal hN F u2 x0 ((12288 : Int32) + x3) (u3, v3) hc3 q0 _) ⟨callB_of 1 hts gdMd_addPair rfl rfl rfl (hts _ tw_11) (hts _ tw_975) hdMd_addPair ⟨Nat.le_of_ble_eq_true rfl, Nat.le_of_ble_eq_true rfl⟩, (hts _ tw_977), (hts _ tp_66)⟩ (x_preV hK hD hNx hP (hal _ (okk_al q0)) (okk_t q0) rfl rfl) rfl rfl hl.1 rfl (lv_room (Nat.le_of_ble_eq_true rfl)) dMd_layRelocations_101 ⟨Nat.zero_le _, Nat.zero_le _⟩) (fun H locs hP hS => ?_)
        exact wk_Md_layRelocations_104 ⟨hx, hb, hml, hown, hts, hr, hlocks, hK, hA, hD, hN, hal, hNx⟩ F out hk7 ih u3 x0 x1 x2 x3 h q0 _ _ _ (lv_sub hl [0, 1, 2, 3] rfl) hP hS
def bk_Md_layRelocations_43 (F : Nat) (al : Nat → Bool) (k7 : Mr → Nat → Int32 → Option (Mr × Int32)) (k21 : Mr → Nat → Int32 → Int32 → Int32 → Option (Mr × Int32)) (u : Mr) (s0 : Int32) (s1 : Int32) (x0 : Nat) (x1 : Int32) (x3 : Int32) : Option (Mr × Int32) := k21 u x0 x1 (s0 + s1) (x3 + (1 : Int32))
set_option maxHeartbeats 4000000 in
set_option maxRecDepth 100000 in
theorem wk_Md_layRelocations_43 (cx : Cx p l e s m args below meth c cMd_layRelocations 4 bw "ImageForgeModel" none D cA ad L rs al A) (F : Nat) (out : Mr × Int32) {k7 : Mr → Nat → Int32 → Option (Mr × Int32)} {k21 : Mr → Nat → Int32 → Int32 → Int32 → Option (Mr × Int32)} (hk7 : ∀ (u : Mr) (x0 : Nat) (x1 : Int32), k7 u x0 x1 = some out → okk al 32 x0 = true → Wb p l e rm_Md_layRelocations s m args below meth c D cA ad L rs A (QV below args s D cA ad L rs A out) 4 7 [(0, .ref (ad x0)), (1, .int x1)] [] u) (hk21 : ∀ (u : Mr) (x0 : Nat) (x1 : Int32) (x2 : Int32) (x3 : Int32), k21 u x0 x1 x2 x3 = some out → okk al 32 x0 = true → Wb p l e rm_Md_layRelocations s m args below meth c D cA ad L rs A (QV below args s D cA ad L rs A out) 4 21 [(0, .ref (ad x0)), (1, .int x1), (2, .int x2), (3, .int x3)] [] u) : ∀ (u : Mr) (s0 : Int32) (s1 : Int32) (x0 : Nat) (x1 : Int32) (x3 : Int32), bk_Md_layRelocations_43 F al k7 k21 u s0 s1 x0 x1 x3 = some out → okk al 32 x0 = true → Wb p l e rm_Md_layRelocations s m args below meth c D cA ad L rs A (QV below args s D cA ad L rs A out) 4 43 [(0, .ref (ad x0)), (1, .int x1), (3, .int x3)] [.int s1, .int s0] u := by
  obtain ⟨hx, hb, hml, hown, hts, hr, hlocks, hK, hA, hD, hN, hal, hNx⟩ := cx
  intro u s0 s1 x0 x1 x3 h q0 H locs ls hl hP hS
  unfold bk_Md_layRelocations_43 at h
  refine lv_iadd hx hb dMd_layRelocations_43 ?_
  refine lv_istore_n (lv' := [(2, .int (s0 + s1)), (0, .ref (ad x0)), (1, .int x1), (3, .int x3)]) hx hb dMd_layRelocations_44 rfl hl (by decide) rfl (fun ls hl => ?_)
  refine lv_iinc (k := 3) (v := x3 + (1 : Int32)) (lv' := [(3, .int (x3 + (1 : Int32))), (2, .int (s0 + s1)), (0, .ref (ad x0)), (1, .int x1)]) hx hb dMd_layRelocations_45 hl rfl (congrArg (fun z => _ + z) (show Int32.ofInt 1 = 1 by decide)) (by decide) rfl (fun ls hl => ?_)
  refine lv_goto (tgt := 21) hx hb dMd_layRelocations_48 rfl ?_
  exact hk21 u x0 x1 (s0 + s1) (x3 + (1 : Int32)) h q0 _ _ _ (lv_sub hl [2, 3, 1, 0] rfl) hP hS
def bk_Md_layRelocations_21 (F : Nat) (al : Nat → Bool) (k7 : Mr → Nat → Int32 → Option (Mr × Int32)) : Nat → Mr → Nat → Int32 → Int32 → Int32 → Option (Mr × Int32)
  | 0, _, _, _, _, _ => none
  | n + 1, u, x0, x1, x2, x3 => if (x1 + (64 : Int32)) ≤ x3 then (if x2 = 0 then (bk_Md_layRelocations_122 F al k7 u x0 x1) else (bd2 (fn_Md_add F al u x0 x1) fun u1 v1 => (bd2 (fn_Md_add F al u1 x0 ((8 : Int32) + ((2 : Int32) * (x2 + (x2 - x2 / (2 : Int32) * (2 : Int32)))))) fun u2 v2 => (bk_Md_layRelocations_79 F al k7 F u2 x0 x1 x2 (0 : Int32))))) else (bd2 (fn_Md_isAbsolute F al u x0 x3) fun u3 v3 => (if v3 = 0 then (bk_Md_layRelocations_43 F al k7 (bk_Md_layRelocations_21 F al k7 n) u3 x2 (0 : Int32) x0 x1 x3) else (bk_Md_layRelocations_43 F al k7 (bk_Md_layRelocations_21 F al k7 n) u3 x2 (1 : Int32) x0 x1 x3)))
set_option maxHeartbeats 4000000 in
set_option maxRecDepth 100000 in
theorem wk_Md_layRelocations_21 (cx : Cx p l e s m args below meth c cMd_layRelocations 4 bw "ImageForgeModel" none D cA ad L rs al A) (F : Nat) (out : Mr × Int32) {k7 : Mr → Nat → Int32 → Option (Mr × Int32)} (hk7 : ∀ (u : Mr) (x0 : Nat) (x1 : Int32), k7 u x0 x1 = some out → okk al 32 x0 = true → Wb p l e rm_Md_layRelocations s m args below meth c D cA ad L rs A (QV below args s D cA ad L rs A out) 4 7 [(0, .ref (ad x0)), (1, .int x1)] [] u) : ∀ n : Nat, ∀ (u : Mr) (x0 : Nat) (x1 : Int32) (x2 : Int32) (x3 : Int32), bk_Md_layRelocations_21 F al k7 n u x0 x1 x2 x3 = some out → okk al 32 x0 = true → Wb p l e rm_Md_layRelocations s m args below meth c D cA ad L rs A (QV below args s D cA ad L rs A out) 4 21 [(0, .ref (ad x0)), (1, .int x1), (2, .int x2), (3, .int x3)] [] u := by
  obtain ⟨hx, hb, hml, hown, hts, hr, hlocks, hK, hA, hD, hN, hal, hNx⟩ := cx
  intro n
  induction n with
  | zero =>
    intro u x0 x1 x2 x3 h
    cases h
  | succ n ih =>
    intro u x0 x1 x2 x3 h q0 H locs ls hl hP hS
    rw [bk_Md_layRelocations_21] at h
    refine lv_iload_n hx hb dMd_layRelocations_21 rfl (lv_at hl 3 rfl) ?_
    refine lv_iload_n hx hb dMd_layRelocations_22 rfl (lv_at hl 1 rfl) ?_
    refine lv_bipush (v := 64) hx hb dMd_layRelocations_23 (by decide) ?_
    refine lv_iadd hx hb dMd_layRelocations_25 ?_
    refine lv_icmp_ge (tgt := 51) hx hb dMd_layRelocations_26 rfl (fun hc => ?_) (fun hc => ?_)
    · replace h := it_t h hc
      refine lv_iload_n hx hb dMd_layRelocations_51 rfl (lv_at hl 2 rfl) ?_
      refine lv_if_ne (tgt := 58) hx hb dMd_layRelocations_52 rfl (fun hc => ?_) (fun hc => ?_)
      · replace h := it_f h hc
        refine lv_aload_n hx hb dMd_layRelocations_58 rfl (lv_at hl 0 rfl) ?_
        refine lv_iload_n hx hb dMd_layRelocations_59 rfl (lv_at hl 1 rfl) ?_
        obtain ⟨u1, v1, hc1, h⟩ := bd2_some h
        refine x_cv (u := u) (out := (u1, v1)) hA hD hS (va_runV (As := [.int x1]) (rest := []) ⟨hx, hb, hml, hown, hts⟩ (ct_Md_add hal hN F u x0 x1 (u1, v1) hc1 q0 _) ⟨callB_of 1 hts gdMd_add rfl rfl rfl (hts _ tw_11) (hts _ tw_954) hdMd_add ⟨Nat.le_of_ble_eq_true rfl, Nat.le_of_ble_eq_true rfl⟩, (hts _ tw_956), (hts _ tp_61)⟩ (x_preV hK hD hNx hP (hal _ (okk_al q0)) (okk_t q0) rfl rfl) rfl rfl hl.1 rfl (lv_room (Nat.le_of_ble_eq_true rfl)) dMd_layRelocations_60 ⟨Nat.zero_le _, Nat.zero_le _⟩) (fun H locs hP hS => ?_)
        refine lv_aload_n hx hb dMd_layRelocations_63 rfl (lv_at hl 0 rfl) ?_
        refine lv_bipush (v := 8) hx hb dMd_layRelocations_64 (by decide) ?_
        refine lv_iconst (v := 2) hx hb dMd_layRelocations_66 (by decide) ?_
        refine lv_iload_n hx hb dMd_layRelocations_67 rfl (lv_at hl 2 rfl) ?_
        refine lv_iload_n hx hb dMd_layRelocations_68 rfl (lv_at hl 2 rfl) ?_
        refine lv_iconst (v := 2) hx hb dMd_layRelocations_69 (by decide) ?_
        refine lv_irem hx hb dMd_layRelocations_70 (by decide) ?_
        refine lv_iadd hx hb dMd_layRelocations_71 ?_
        refine lv_imul hx hb dMd_layRelocations_72 ?_
        refine lv_iadd hx hb dMd_layRelocations_73 ?_
        obtain ⟨u2, v2, hc2, h⟩ := bd2_some h
        refine x_cv (u := u1) (out := (u2, v2)) hA hD hS (va_runV (As := [.int ((8 : Int32) + ((2 : Int32) * (x2 + (x2 - x2 / (2 : Int32) * (2 : Int32)))))]) (rest := []) ⟨hx, hb, hml, hown, hts⟩ (ct_Md_add hal hN F u1 x0 ((8 : Int32) + ((2 : Int32) * (x2 + (x2 - x2 / (2 : Int32) * (2 : Int32))))) (u2, v2) hc2 q0 _) ⟨callB_of 1 hts gdMd_add rfl rfl rfl (hts _ tw_11) (hts _ tw_954) hdMd_add ⟨Nat.le_of_ble_eq_true rfl, Nat.le_of_ble_eq_true rfl⟩, (hts _ tw_956), (hts _ tp_61)⟩ (x_preV hK hD hNx hP (hal _ (okk_al q0)) (okk_t q0) rfl rfl) rfl rfl hl.1 rfl (lv_room (Nat.le_of_ble_eq_true rfl)) dMd_layRelocations_74 ⟨Nat.zero_le _, Nat.zero_le _⟩) (fun H locs hP hS => ?_)
        refine lv_iconst (v := 0) hx hb dMd_layRelocations_77 (by decide) ?_
        refine lv_istore_n (lv' := [(3, .int (0 : Int32)), (0, .ref (ad x0)), (1, .int x1), (2, .int x2)]) hx hb dMd_layRelocations_78 rfl hl (by decide) rfl (fun ls hl => ?_)
        exact wk_Md_layRelocations_79 ⟨hx, hb, hml, hown, hts, hr, hlocks, hK, hA, hD, hN, hal, hNx⟩ F out hk7 F u2 x0 x1 x2 (0 : Int32) h q0 _ _ _ (lv_sub hl [1, 2, 3, 0] rfl) hP hS
      · replace h := it_t h hc
        refine lv_goto (tgt := 122) hx hb dMd_layRelocations_55 rfl ?_
        exact wk_Md_layRelocations_122 ⟨hx, hb, hml, hown, hts, hr, hlocks, hK, hA, hD, hN, hal, hNx⟩ F out hk7 u x0 x1 h q0 _ _ _ (lv_sub hl [0, 1] rfl) hP hS
    · replace h := it_f h hc
      refine lv_iload_n hx hb dMd_layRelocations_29 rfl (lv_at hl 2 rfl) ?_
      refine lv_aload_n hx hb dMd_layRelocations_30 rfl (lv_at hl 0 rfl) ?_
      refine lv_iload_n hx hb dMd_layRelocations_31 rfl (lv_at hl 3 rfl) ?_
      obtain ⟨u3, v3, hc3, h⟩ := bd2_some h
      refine x_ci (u := u) (out := (u3, v3)) hA hD hS (va_runV (As := [.int x3]) (rest := [.int x2]) ⟨hx, hb, hml, hown, hts⟩ (ct_Md_isAbsolute hal hN F u x0 x3 (u3, v3) hc3 q0 _) ⟨callB_of 1 hts gdMd_isAbsolute rfl rfl rfl (hts _ tw_11) (hts _ tw_971) hdMd_isAbsolute ⟨Nat.le_of_ble_eq_true rfl, Nat.le_of_ble_eq_true rfl⟩, (hts _ tw_973), (hts _ tp_65)⟩ (x_preV hK hD hNx hP (hal _ (okk_al q0)) (okk_t q0) rfl rfl) rfl rfl hl.1 rfl (lv_room (Nat.le_of_ble_eq_true rfl)) dMd_layRelocations_32 ⟨Nat.zero_le _, Nat.zero_le _⟩) (fun H locs hP hS => ?_)
      refine lv_if_eq (tgt := 42) hx hb dMd_layRelocations_35 rfl (fun hc => ?_) (fun hc => ?_)
      · replace h := it_t h hc
        refine lv_iconst (v := 0) hx hb dMd_layRelocations_42 (by decide) ?_
        exact wk_Md_layRelocations_43 ⟨hx, hb, hml, hown, hts, hr, hlocks, hK, hA, hD, hN, hal, hNx⟩ F out hk7 ih u3 x2 (0 : Int32) x0 x1 x3 h q0 _ _ _ (lv_sub hl [0, 1, 3] rfl) hP hS
      · replace h := it_f h hc
        refine lv_iconst (v := 1) hx hb dMd_layRelocations_38 (by decide) ?_
        refine lv_goto (tgt := 43) hx hb dMd_layRelocations_39 rfl ?_
        exact wk_Md_layRelocations_43 ⟨hx, hb, hml, hown, hts, hr, hlocks, hK, hA, hD, hN, hal, hNx⟩ F out hk7 ih u3 x2 (1 : Int32) x0 x1 x3 h q0 _ _ _ (lv_sub hl [0, 1, 3] rfl) hP hS
def bk_Md_layRelocations_7 (F : Nat) (al : Nat → Bool) : Nat → Mr → Nat → Int32 → Option (Mr × Int32)
  | 0, _, _, _ => none
  | n + 1, u, x0, x1 => bd1 (rdR al u x0 20 42) fun y1 => (if (u.1 y1 (2 : Int32)) ≤ x1 then (bd1 (rdR al u x0 21 42) fun y3 => (some (stI u y3 (4 : Int32) (u.1 x0 18), 0))) else (bk_Md_layRelocations_21 F al (bk_Md_layRelocations_7 F al n) F u x0 x1 (0 : Int32) x1))
set_option maxHeartbeats 4000000 in
set_option maxRecDepth 100000 in
theorem wk_Md_layRelocations_7 (cx : Cx p l e s m args below meth c cMd_layRelocations 4 bw "ImageForgeModel" none D cA ad L rs al A) (F : Nat) (out : Mr × Int32) : ∀ n : Nat, ∀ (u : Mr) (x0 : Nat) (x1 : Int32), bk_Md_layRelocations_7 F al n u x0 x1 = some out → okk al 32 x0 = true → Wb p l e rm_Md_layRelocations s m args below meth c D cA ad L rs A (QV below args s D cA ad L rs A out) 4 7 [(0, .ref (ad x0)), (1, .int x1)] [] u := by
  obtain ⟨hx, hb, hml, hown, hts, hr, hlocks, hK, hA, hD, hN, hal, hNx⟩ := cx
  intro n
  induction n with
  | zero =>
    intro u x0 x1 h
    cases h
  | succ n ih =>
    intro u x0 x1 h q0 H locs ls hl hP hS
    rw [bk_Md_layRelocations_7] at h
    refine lv_iload_n hx hb dMd_layRelocations_7 rfl (lv_at hl 1 rfl) ?_
    refine lv_aload_n hx hb dMd_layRelocations_8 rfl (lv_at hl 0 rfl) ?_
    obtain ⟨y1, hy2, h⟩ := bd1_some h
    obtain ⟨hy2a, hy2⟩ := rdR_some hy2
    refine x_get hx hb hts in_Md hown hK hP (hal _ (okk_al q0)) (okk_t q0) rfl rfl 20 (by decide) (hts _ tw_802) (fun _ h9 => h9) (congrArg some (x_rf hy2a)) dMd_layRelocations_9 ?_
    refine lv_iconst (v := 2) hx hb dMd_layRelocations_12 (by decide) ?_
    refine x_iald hx hb hK hP (hal _ (okk_al hy2)) (okk_t hy2) 0 (fun _ _ _ => rfl) rfl (inb_in (show inb (2 : Int32) 5 = true by decide)) dMd_layRelocations_13 ?_
    refine lv_icmp_ge (tgt := 128) hx hb dMd_layRelocations_14 rfl (fun hc => ?_) (fun hc => ?_)
    · replace h := it_t h hc
      refine lv_aload_n hx hb dMd_layRelocations_128 rfl (lv_at hl 0 rfl) ?_
      obtain ⟨y3, hy4, h⟩ := bd1_some h
      obtain ⟨hy4a, hy4⟩ := rdR_some hy4
      refine x_get hx hb hts in_Md hown hK hP (hal _ (okk_al q0)) (okk_t q0) rfl rfl 21 (by decide) (hts _ tw_803) (fun _ h9 => h9) (congrArg some (x_rf hy4a)) dMd_layRelocations_129 ?_
      refine lv_iconst (v := 4) hx hb dMd_layRelocations_132 (by decide) ?_
      refine lv_aload_n hx hb dMd_layRelocations_133 rfl (lv_at hl 0 rfl) ?_
      refine x_get hx hb hts in_Md hown hK hP (hal _ (okk_al q0)) (okk_t q0) rfl rfl 18 (by decide) (hts _ tw_800) (fun _ h9 => h9) rfl dMd_layRelocations_134 ?_
      refine x_iast hx hb hK hD hN hP hS (hal _ (okk_al hy4)) (okk_t hy4) 0 (fun _ _ _ => rfl) rfl (by decide) (inb_in (show inb (4 : Int32) 5 = true by decide)) dMd_layRelocations_137 (fun H locs hP hS => ?_)
      exact x_vret hx hb hr hlocks h hP hS dMd_layRelocations_138
    · replace h := it_f h hc
      refine lv_iconst (v := 0) hx hb dMd_layRelocations_17 (by decide) ?_
      refine lv_istore_n (lv' := [(2, .int (0 : Int32)), (0, .ref (ad x0)), (1, .int x1)]) hx hb dMd_layRelocations_18 rfl hl (by decide) rfl (fun ls hl => ?_)
      refine lv_iload_n hx hb dMd_layRelocations_19 rfl (lv_at hl 2 rfl) ?_
      refine lv_istore_n (lv' := [(3, .int x1), (2, .int (0 : Int32)), (0, .ref (ad x0)), (1, .int x1)]) hx hb dMd_layRelocations_20 rfl hl (by decide) rfl (fun ls hl => ?_)
      exact wk_Md_layRelocations_21 ⟨hx, hb, hml, hown, hts, hr, hlocks, hK, hA, hD, hN, hal, hNx⟩ F out ih F u x0 x1 (0 : Int32) x1 h q0 _ _ _ (lv_sub hl [2, 3, 1, 0] rfl) hP hS
def bk_Md_layRelocations_0 (F : Nat) (al : Nat → Bool) (u : Mr) (x0 : Nat) : Option (Mr × Int32) := bd2 (fn_Md_begin F al u x0 (4 : Int32)) fun u1 v1 => (bk_Md_layRelocations_7 F al F u1 x0 (0 : Int32))
set_option maxHeartbeats 4000000 in
set_option maxRecDepth 100000 in
theorem wk_Md_layRelocations_0 (cx : Cx p l e s m args below meth c cMd_layRelocations 4 bw "ImageForgeModel" none D cA ad L rs al A) (F : Nat) (out : Mr × Int32) : ∀ (u : Mr) (x0 : Nat), bk_Md_layRelocations_0 F al u x0 = some out → okk al 32 x0 = true → Wb p l e rm_Md_layRelocations s m args below meth c D cA ad L rs A (QV below args s D cA ad L rs A out) 4 0 [(0, .ref (ad x0))] [] u := by
  obtain ⟨hx, hb, hml, hown, hts, hr, hlocks, hK, hA, hD, hN, hal, hNx⟩ := cx
  intro u x0 h q0 H locs ls hl hP hS
  unfold bk_Md_layRelocations_0 at h
  refine lv_aload_n hx hb dMd_layRelocations_0 rfl (lv_at hl 0 rfl) ?_
  refine lv_iconst (v := 4) hx hb dMd_layRelocations_1 (by decide) ?_
  obtain ⟨u1, v1, hc1, h⟩ := bd2_some h
  refine x_cv (u := u) (out := (u1, v1)) hA hD hS (va_runV (As := [.int (4 : Int32)]) (rest := []) ⟨hx, hb, hml, hown, hts⟩ (ct_Md_begin hal hN F u x0 (4 : Int32) (u1, v1) hc1 q0 _) ⟨callB_of 1 hts gdMd_begin rfl rfl rfl (hts _ tw_11) (hts _ tw_935) hdMd_begin ⟨Nat.le_of_ble_eq_true rfl, Nat.le_of_ble_eq_true rfl⟩, (hts _ tw_937), (hts _ tp_57)⟩ (x_preV hK hD hNx hP (hal _ (okk_al q0)) (okk_t q0) rfl rfl) rfl rfl hl.1 rfl (lv_room (Nat.le_of_ble_eq_true rfl)) dMd_layRelocations_2 ⟨Nat.zero_le _, Nat.zero_le _⟩) (fun H locs hP hS => ?_)
  refine lv_iconst (v := 0) hx hb dMd_layRelocations_5 (by decide) ?_
  refine lv_istore_n (lv' := [(1, .int (0 : Int32)), (0, .ref (ad x0))]) hx hb dMd_layRelocations_6 rfl hl (by decide) rfl (fun ls hl => ?_)
  exact wk_Md_layRelocations_7 ⟨hx, hb, hml, hown, hts, hr, hlocks, hK, hA, hD, hN, hal, hNx⟩ F out F u1 x0 (0 : Int32) h q0 _ _ _ (lv_sub hl [1, 0] rfl) hP hS
def fn_Md_layRelocations (F : Nat) (al : Nat → Bool) (u : Mr) (x0 : Nat) : Option (Mr × Int32) := bk_Md_layRelocations_0 F al u x0
set_option maxHeartbeats 4000000 in
set_option maxRecDepth 100000 in
theorem ct_Md_layRelocations {l : Launch} {D : va_G} {cA : Nat → ClassId} {ad : Nat → Nat} {L : List Nat} {rs : va_W} {al : Nat → Bool} (hal : ∀ k, al k = true → k ∈ L) (hN : L.Nodup) (F : Nat) (u : Mr) (x0 : Nat) (out : Mr × Int32) (h : fn_Md_layRelocations F al u x0 = some out) (q0 : okk al 32 x0 = true) : CtV l yMd_layRelocations wsMd_layRelocations rm_Md_layRelocations [.ref (ad x0)] D cA ad L rs u out := by
  intro sz
  refine Met.ofW (cc := cMd_layRelocations) (maxL := 4) (ret := none) (by decide) rfl ?_
  intro p e s m args below meth c s₁ B hml hv
  obtain ⟨rfl, hsz, hP, hK, hD0, hNx⟩ := hv
  subst hsz
  have hD := hD0.self (sz := s.heap.size)
  generalize hAe : va_A (ww ad cA L rs u) s.heap.size = A at hD ⊢
  have hA : ∀ q, s.heap.size ≤ q → A q := fun q h => by rw [← hAe]; exact Or.inr h
  have hl := lv_entry ([.ref (ad x0)]) (n := 4) (Nat.le_of_ble_eq_true rfl)
  rw [lg_entry_eq]
  generalize (lg_sl ([.ref (ad x0)]) ++ List.replicate (4 - (lg_sl ([.ref (ad x0)])).length) Slot.unset).toArray = ls at hl ⊢
  exact wk_Md_layRelocations_0 ⟨B.exec, B.bytes, hml, findClass_of_methodNamed B.named, hts_bw (atoms_spec (ws := wsMd_layRelocations) B.pre), B.returns, B.notSynchronized, hK, hA, fun v => ww_D hD, hN, hal, hNx⟩ F out u x0 h q0 _ _ _ (lv_sub hl [0] rfl) hP va_S.rf
end

abbrev yIm_isNone : MethodName := ⟨"ImageForge$Image", "isNone", "()Z"⟩
abbrev cIm_isNone : ByteArray := prog_2_method_2_code
abbrev wsIm_isNone : List Cond := .code yIm_isNone cIm_isNone 1 (some .boolean) :: bw
theorem gdIm_isNone : GoodIn bw wsIm_isNone := gd_of tw_694
theorem hdIm_isNone : yIm_isNone.cls ≠ "java/lang/invoke/MethodHandle" ∧ yIm_isNone.cls ≠ "java/lang/invoke/VarHandle" ∧ (parseMethodDescriptor yIm_isNone.desc).map (fun d => d.parameters.length) = some 0 := by decide +kernel
theorem dIm_isNone_0 : decode cIm_isNone 0 = .ok (.aload_n 0, 1) := by decide +kernel
theorem dIm_isNone_1 : decode cIm_isNone 1 = .ok (.getfield 15, 3) := by decide +kernel
theorem dIm_isNone_4 : decode cIm_isNone 4 = .ok (.ifCond .ne 7, 3) := by decide +kernel
theorem dIm_isNone_7 : decode cIm_isNone 7 = .ok (.iconst 1, 1) := by decide +kernel
theorem dIm_isNone_8 : decode cIm_isNone 8 = .ok (.goto 4, 3) := by decide +kernel
theorem dIm_isNone_11 : decode cIm_isNone 11 = .ok (.iconst 0, 1) := by decide +kernel
theorem dIm_isNone_12 : decode cIm_isNone 12 = .ok (.ireturn, 1) := by decide +kernel
abbrev yIm_byteAt : MethodName := ⟨"ImageForge$Image", "byteAt", "(I)I"⟩
abbrev cIm_byteAt : ByteArray := prog_2_method_5_code
abbrev wsIm_byteAt : List Cond := .code yIm_byteAt cIm_byteAt 2 (some .int) :: bw
theorem gdIm_byteAt : GoodIn bw wsIm_byteAt := gd_of tw_229
theorem hdIm_byteAt : yIm_byteAt.cls ≠ "java/lang/invoke/MethodHandle" ∧ yIm_byteAt.cls ≠ "java/lang/invoke/VarHandle" ∧ (parseMethodDescriptor yIm_byteAt.desc).map (fun d => d.parameters.length) = some 1 := by decide +kernel
theorem dIm_byteAt_0 : decode cIm_byteAt 0 = .ok (.aload_n 0, 1) := by decide +kernel
theorem dIm_byteAt_1 : decode cIm_byteAt 1 = .ok (.getfield 9, 3) := by decide +kernel
theorem dIm_byteAt_4 : decode cIm_byteAt 4 = .ok (.iload_n 1, 1) := by decide +kernel
theorem dIm_byteAt_5 : decode cIm_byteAt 5 = .ok (.baload, 1) := by decide +kernel
theorem dIm_byteAt_6 : decode cIm_byteAt 6 = .ok (.sipush 255, 3) := by decide +kernel
theorem dIm_byteAt_9 : decode cIm_byteAt 9 = .ok (.iand, 1) := by decide +kernel
theorem dIm_byteAt_10 : decode cIm_byteAt 10 = .ok (.ireturn, 1) := by decide +kernel
abbrev yIm_setByte : MethodName := ⟨"ImageForge$Image", "setByte", "(II)V"⟩
abbrev cIm_setByte : ByteArray := prog_2_method_6_code
abbrev wsIm_setByte : List Cond := .code yIm_setByte cIm_setByte 3 none :: bw
theorem gdIm_setByte : GoodIn bw wsIm_setByte := gd_of tw_683
theorem hdIm_setByte : yIm_setByte.cls ≠ "java/lang/invoke/MethodHandle" ∧ yIm_setByte.cls ≠ "java/lang/invoke/VarHandle" ∧ (parseMethodDescriptor yIm_setByte.desc).map (fun d => d.parameters.length) = some 2 := by decide +kernel
theorem dIm_setByte_0 : decode cIm_setByte 0 = .ok (.aload_n 0, 1) := by decide +kernel
theorem dIm_setByte_1 : decode cIm_setByte 1 = .ok (.getfield 9, 3) := by decide +kernel
theorem dIm_setByte_4 : decode cIm_setByte 4 = .ok (.iload_n 1, 1) := by decide +kernel
theorem dIm_setByte_5 : decode cIm_setByte 5 = .ok (.iload_n 2, 1) := by decide +kernel
theorem dIm_setByte_6 : decode cIm_setByte 6 = .ok (.i2b, 1) := by decide +kernel
theorem dIm_setByte_7 : decode cIm_setByte 7 = .ok (.bastore, 1) := by decide +kernel
theorem dIm_setByte_8 : decode cIm_setByte 8 = .ok (.return_, 1) := by decide +kernel
abbrev yIm_halfAt : MethodName := ⟨"ImageForge$Image", "halfAt", "(I)I"⟩
abbrev cIm_halfAt : ByteArray := prog_2_method_7_code
abbrev wsIm_halfAt : List Cond := .code yIm_halfAt cIm_halfAt 2 (some .int) :: bw
theorem gdIm_halfAt : GoodIn bw wsIm_halfAt := gd_of tw_662
theorem hdIm_halfAt : yIm_halfAt.cls ≠ "java/lang/invoke/MethodHandle" ∧ yIm_halfAt.cls ≠ "java/lang/invoke/VarHandle" ∧ (parseMethodDescriptor yIm_halfAt.desc).map (fun d => d.parameters.length) = some 1 := by decide +kernel
theorem dIm_halfAt_0 : decode cIm_halfAt 0 = .ok (.aload_n 0, 1) := by decide +kernel
theorem dIm_halfAt_1 : decode cIm_halfAt 1 = .ok (.getfield 9, 3) := by decide +kernel
theorem dIm_halfAt_4 : decode cIm_halfAt 4 = .ok (.iload_n 1, 1) := by decide +kernel
theorem dIm_halfAt_5 : decode cIm_halfAt 5 = .ok (.baload, 1) := by decide +kernel
theorem dIm_halfAt_6 : decode cIm_halfAt 6 = .ok (.sipush 255, 3) := by decide +kernel
theorem dIm_halfAt_9 : decode cIm_halfAt 9 = .ok (.iand, 1) := by decide +kernel
theorem dIm_halfAt_10 : decode cIm_halfAt 10 = .ok (.aload_n 0, 1) := by decide +kernel
theorem dIm_halfAt_11 : decode cIm_halfAt 11 = .ok (.getfield 9, 3) := by decide +kernel
theorem dIm_halfAt_14 : decode cIm_halfAt 14 = .ok (.iload_n 1, 1) := by decide +kernel
theorem dIm_halfAt_15 : decode cIm_halfAt 15 = .ok (.iconst 1, 1) := by decide +kernel
theorem dIm_halfAt_16 : decode cIm_halfAt 16 = .ok (.iadd, 1) := by decide +kernel
theorem dIm_halfAt_17 : decode cIm_halfAt 17 = .ok (.baload, 1) := by decide +kernel
theorem dIm_halfAt_18 : decode cIm_halfAt 18 = .ok (.sipush 255, 3) := by decide +kernel
theorem dIm_halfAt_21 : decode cIm_halfAt 21 = .ok (.iand, 1) := by decide +kernel
theorem dIm_halfAt_22 : decode cIm_halfAt 22 = .ok (.bipush 8, 2) := by decide +kernel
theorem dIm_halfAt_24 : decode cIm_halfAt 24 = .ok (.ishl, 1) := by decide +kernel
theorem dIm_halfAt_25 : decode cIm_halfAt 25 = .ok (.ior, 1) := by decide +kernel
theorem dIm_halfAt_26 : decode cIm_halfAt 26 = .ok (.ireturn, 1) := by decide +kernel
abbrev yIm_setHalf : MethodName := ⟨"ImageForge$Image", "setHalf", "(II)V"⟩
abbrev cIm_setHalf : ByteArray := prog_2_method_8_code
abbrev wsIm_setHalf : List Cond := .code yIm_setHalf cIm_setHalf 3 none :: bw
theorem gdIm_setHalf : GoodIn bw wsIm_setHalf := gd_of tw_649
theorem hdIm_setHalf : yIm_setHalf.cls ≠ "java/lang/invoke/MethodHandle" ∧ yIm_setHalf.cls ≠ "java/lang/invoke/VarHandle" ∧ (parseMethodDescriptor yIm_setHalf.desc).map (fun d => d.parameters.length) = some 2 := by decide +kernel
theorem dIm_setHalf_0 : decode cIm_setHalf 0 = .ok (.aload_n 0, 1) := by decide +kernel
theorem dIm_setHalf_1 : decode cIm_setHalf 1 = .ok (.getfield 9, 3) := by decide +kernel
theorem dIm_setHalf_4 : decode cIm_setHalf 4 = .ok (.iload_n 1, 1) := by decide +kernel
theorem dIm_setHalf_5 : decode cIm_setHalf 5 = .ok (.iload_n 2, 1) := by decide +kernel
theorem dIm_setHalf_6 : decode cIm_setHalf 6 = .ok (.i2b, 1) := by decide +kernel
theorem dIm_setHalf_7 : decode cIm_setHalf 7 = .ok (.bastore, 1) := by decide +kernel
theorem dIm_setHalf_8 : decode cIm_setHalf 8 = .ok (.aload_n 0, 1) := by decide +kernel
theorem dIm_setHalf_9 : decode cIm_setHalf 9 = .ok (.getfield 9, 3) := by decide +kernel
theorem dIm_setHalf_12 : decode cIm_setHalf 12 = .ok (.iload_n 1, 1) := by decide +kernel
theorem dIm_setHalf_13 : decode cIm_setHalf 13 = .ok (.iconst 1, 1) := by decide +kernel
theorem dIm_setHalf_14 : decode cIm_setHalf 14 = .ok (.iadd, 1) := by decide +kernel
theorem dIm_setHalf_15 : decode cIm_setHalf 15 = .ok (.iload_n 2, 1) := by decide +kernel
theorem dIm_setHalf_16 : decode cIm_setHalf 16 = .ok (.bipush 8, 2) := by decide +kernel
theorem dIm_setHalf_18 : decode cIm_setHalf 18 = .ok (.ishr, 1) := by decide +kernel
theorem dIm_setHalf_19 : decode cIm_setHalf 19 = .ok (.i2b, 1) := by decide +kernel
theorem dIm_setHalf_20 : decode cIm_setHalf 20 = .ok (.bastore, 1) := by decide +kernel
theorem dIm_setHalf_21 : decode cIm_setHalf 21 = .ok (.return_, 1) := by decide +kernel
abbrev yIm_wordAt : MethodName := ⟨"ImageForge$Image", "wordAt", "(I)I"⟩
abbrev cIm_wordAt : ByteArray := prog_2_method_9_code
abbrev wsIm_wordAt : List Cond := .code yIm_wordAt cIm_wordAt 2 (some .int) :: bw
theorem gdIm_wordAt : GoodIn bw wsIm_wordAt := gd_of tw_241
theorem hdIm_wordAt : yIm_wordAt.cls ≠ "java/lang/invoke/MethodHandle" ∧ yIm_wordAt.cls ≠ "java/lang/invoke/VarHandle" ∧ (parseMethodDescriptor yIm_wordAt.desc).map (fun d => d.parameters.length) = some 1 := by decide +kernel
theorem dIm_wordAt_0 : decode cIm_wordAt 0 = .ok (.aload_n 0, 1) := by decide +kernel
theorem dIm_wordAt_1 : decode cIm_wordAt 1 = .ok (.getfield 9, 3) := by decide +kernel
theorem dIm_wordAt_4 : decode cIm_wordAt 4 = .ok (.iload_n 1, 1) := by decide +kernel
theorem dIm_wordAt_5 : decode cIm_wordAt 5 = .ok (.baload, 1) := by decide +kernel
theorem dIm_wordAt_6 : decode cIm_wordAt 6 = .ok (.sipush 255, 3) := by decide +kernel
theorem dIm_wordAt_9 : decode cIm_wordAt 9 = .ok (.iand, 1) := by decide +kernel
theorem dIm_wordAt_10 : decode cIm_wordAt 10 = .ok (.aload_n 0, 1) := by decide +kernel
theorem dIm_wordAt_11 : decode cIm_wordAt 11 = .ok (.getfield 9, 3) := by decide +kernel
theorem dIm_wordAt_14 : decode cIm_wordAt 14 = .ok (.iload_n 1, 1) := by decide +kernel
theorem dIm_wordAt_15 : decode cIm_wordAt 15 = .ok (.iconst 1, 1) := by decide +kernel
theorem dIm_wordAt_16 : decode cIm_wordAt 16 = .ok (.iadd, 1) := by decide +kernel
theorem dIm_wordAt_17 : decode cIm_wordAt 17 = .ok (.baload, 1) := by decide +kernel
theorem dIm_wordAt_18 : decode cIm_wordAt 18 = .ok (.sipush 255, 3) := by decide +kernel
theorem dIm_wordAt_21 : decode cIm_wordAt 21 = .ok (.iand, 1) := by decide +kernel
theorem dIm_wordAt_22 : decode cIm_wordAt 22 = .ok (.bipush 8, 2) := by decide +kernel
theorem dIm_wordAt_24 : decode cIm_wordAt 24 = .ok (.ishl, 1) := by decide +kernel
theorem dIm_wordAt_25 : decode cIm_wordAt 25 = .ok (.ior, 1) := by decide +kernel
theorem dIm_wordAt_26 : decode cIm_wordAt 26 = .ok (.aload_n 0, 1) := by decide +kernel
theorem dIm_wordAt_27 : decode cIm_wordAt 27 = .ok (.getfield 9, 3) := by decide +kernel
theorem dIm_wordAt_30 : decode cIm_wordAt 30 = .ok (.iload_n 1, 1) := by decide +kernel
theorem dIm_wordAt_31 : decode cIm_wordAt 31 = .ok (.iconst 2, 1) := by decide +kernel
theorem dIm_wordAt_32 : decode cIm_wordAt 32 = .ok (.iadd, 1) := by decide +kernel
theorem dIm_wordAt_33 : decode cIm_wordAt 33 = .ok (.baload, 1) := by decide +kernel
theorem dIm_wordAt_34 : decode cIm_wordAt 34 = .ok (.sipush 255, 3) := by decide +kernel
theorem dIm_wordAt_37 : decode cIm_wordAt 37 = .ok (.iand, 1) := by decide +kernel
theorem dIm_wordAt_38 : decode cIm_wordAt 38 = .ok (.bipush 16, 2) := by decide +kernel
theorem dIm_wordAt_40 : decode cIm_wordAt 40 = .ok (.ishl, 1) := by decide +kernel
theorem dIm_wordAt_41 : decode cIm_wordAt 41 = .ok (.ior, 1) := by decide +kernel
theorem dIm_wordAt_42 : decode cIm_wordAt 42 = .ok (.aload_n 0, 1) := by decide +kernel
theorem dIm_wordAt_43 : decode cIm_wordAt 43 = .ok (.getfield 9, 3) := by decide +kernel
theorem dIm_wordAt_46 : decode cIm_wordAt 46 = .ok (.iload_n 1, 1) := by decide +kernel
theorem dIm_wordAt_47 : decode cIm_wordAt 47 = .ok (.iconst 3, 1) := by decide +kernel
theorem dIm_wordAt_48 : decode cIm_wordAt 48 = .ok (.iadd, 1) := by decide +kernel
theorem dIm_wordAt_49 : decode cIm_wordAt 49 = .ok (.baload, 1) := by decide +kernel
theorem dIm_wordAt_50 : decode cIm_wordAt 50 = .ok (.sipush 255, 3) := by decide +kernel
theorem dIm_wordAt_53 : decode cIm_wordAt 53 = .ok (.iand, 1) := by decide +kernel
theorem dIm_wordAt_54 : decode cIm_wordAt 54 = .ok (.bipush 24, 2) := by decide +kernel
theorem dIm_wordAt_56 : decode cIm_wordAt 56 = .ok (.ishl, 1) := by decide +kernel
theorem dIm_wordAt_57 : decode cIm_wordAt 57 = .ok (.ior, 1) := by decide +kernel
theorem dIm_wordAt_58 : decode cIm_wordAt 58 = .ok (.ireturn, 1) := by decide +kernel
abbrev yIm_setWord : MethodName := ⟨"ImageForge$Image", "setWord", "(II)V"⟩
abbrev cIm_setWord : ByteArray := prog_2_method_10_code
abbrev wsIm_setWord : List Cond := .code yIm_setWord cIm_setWord 4 none :: bw
theorem gdIm_setWord : GoodIn bw wsIm_setWord := gd_of tw_585
theorem hdIm_setWord : yIm_setWord.cls ≠ "java/lang/invoke/MethodHandle" ∧ yIm_setWord.cls ≠ "java/lang/invoke/VarHandle" ∧ (parseMethodDescriptor yIm_setWord.desc).map (fun d => d.parameters.length) = some 2 := by decide +kernel
theorem dIm_setWord_0 : decode cIm_setWord 0 = .ok (.iconst 0, 1) := by decide +kernel
theorem dIm_setWord_1 : decode cIm_setWord 1 = .ok (.istore_n 3, 1) := by decide +kernel
theorem dIm_setWord_2 : decode cIm_setWord 2 = .ok (.iload_n 3, 1) := by decide +kernel
theorem dIm_setWord_3 : decode cIm_setWord 3 = .ok (.iconst 4, 1) := by decide +kernel
theorem dIm_setWord_4 : decode cIm_setWord 4 = .ok (.if_icmp .ge 24, 3) := by decide +kernel
theorem dIm_setWord_7 : decode cIm_setWord 7 = .ok (.aload_n 0, 1) := by decide +kernel
theorem dIm_setWord_8 : decode cIm_setWord 8 = .ok (.getfield 9, 3) := by decide +kernel
theorem dIm_setWord_11 : decode cIm_setWord 11 = .ok (.iload_n 1, 1) := by decide +kernel
theorem dIm_setWord_12 : decode cIm_setWord 12 = .ok (.iload_n 3, 1) := by decide +kernel
theorem dIm_setWord_13 : decode cIm_setWord 13 = .ok (.iadd, 1) := by decide +kernel
theorem dIm_setWord_14 : decode cIm_setWord 14 = .ok (.iload_n 2, 1) := by decide +kernel
theorem dIm_setWord_15 : decode cIm_setWord 15 = .ok (.bipush 8, 2) := by decide +kernel
theorem dIm_setWord_17 : decode cIm_setWord 17 = .ok (.iload_n 3, 1) := by decide +kernel
theorem dIm_setWord_18 : decode cIm_setWord 18 = .ok (.imul, 1) := by decide +kernel
theorem dIm_setWord_19 : decode cIm_setWord 19 = .ok (.ishr, 1) := by decide +kernel
theorem dIm_setWord_20 : decode cIm_setWord 20 = .ok (.i2b, 1) := by decide +kernel
theorem dIm_setWord_21 : decode cIm_setWord 21 = .ok (.bastore, 1) := by decide +kernel
theorem dIm_setWord_22 : decode cIm_setWord 22 = .ok (.iinc 3 1, 3) := by decide +kernel
theorem dIm_setWord_25 : decode cIm_setWord 25 = .ok (.goto (-23), 3) := by decide +kernel
theorem dIm_setWord_28 : decode cIm_setWord 28 = .ok (.return_, 1) := by decide +kernel
abbrev yIm_addToWord : MethodName := ⟨"ImageForge$Image", "addToWord", "(II)V"⟩
abbrev cIm_addToWord : ByteArray := prog_2_method_11_code
abbrev wsIm_addToWord : List Cond := .code yIm_addToWord cIm_addToWord 3 none :: bw
theorem gdIm_addToWord : GoodIn bw wsIm_addToWord := gd_of tw_636
theorem hdIm_addToWord : yIm_addToWord.cls ≠ "java/lang/invoke/MethodHandle" ∧ yIm_addToWord.cls ≠ "java/lang/invoke/VarHandle" ∧ (parseMethodDescriptor yIm_addToWord.desc).map (fun d => d.parameters.length) = some 2 := by decide +kernel
theorem dIm_addToWord_0 : decode cIm_addToWord 0 = .ok (.aload_n 0, 1) := by decide +kernel
theorem dIm_addToWord_1 : decode cIm_addToWord 1 = .ok (.iload_n 1, 1) := by decide +kernel
theorem dIm_addToWord_2 : decode cIm_addToWord 2 = .ok (.aload_n 0, 1) := by decide +kernel
theorem dIm_addToWord_3 : decode cIm_addToWord 3 = .ok (.iload_n 1, 1) := by decide +kernel
theorem dIm_addToWord_4 : decode cIm_addToWord 4 = .ok (.invokevirtual 31, 3) := by decide +kernel
theorem dIm_addToWord_7 : decode cIm_addToWord 7 = .ok (.iload_n 2, 1) := by decide +kernel
theorem dIm_addToWord_8 : decode cIm_addToWord 8 = .ok (.iadd, 1) := by decide +kernel
theorem dIm_addToWord_9 : decode cIm_addToWord 9 = .ok (.invokevirtual 35, 3) := by decide +kernel
theorem dIm_addToWord_12 : decode cIm_addToWord 12 = .ok (.return_, 1) := by decide +kernel
abbrev yIm_holdsWord : MethodName := ⟨"ImageForge$Image", "holdsWord", "(J)Z"⟩
abbrev cIm_holdsWord : ByteArray := prog_2_method_12_code
abbrev wsIm_holdsWord : List Cond := .code yIm_holdsWord cIm_holdsWord 3 (some .boolean) :: bw
theorem gdIm_holdsWord : GoodIn bw wsIm_holdsWord := gd_of tw_763
theorem hdIm_holdsWord : yIm_holdsWord.cls ≠ "java/lang/invoke/MethodHandle" ∧ yIm_holdsWord.cls ≠ "java/lang/invoke/VarHandle" ∧ (parseMethodDescriptor yIm_holdsWord.desc).map (fun d => d.parameters.length) = some 1 := by decide +kernel
theorem dIm_holdsWord_0 : decode cIm_holdsWord 0 = .ok (.lload_n 1, 1) := by decide +kernel
theorem dIm_holdsWord_1 : decode cIm_holdsWord 1 = .ok (.lconst 0, 1) := by decide +kernel
theorem dIm_holdsWord_2 : decode cIm_holdsWord 2 = .ok (.lcmp, 1) := by decide +kernel
theorem dIm_holdsWord_3 : decode cIm_holdsWord 3 = .ok (.ifCond .lt 19, 3) := by decide +kernel
theorem dIm_holdsWord_6 : decode cIm_holdsWord 6 = .ok (.lload_n 1, 1) := by decide +kernel
theorem dIm_holdsWord_7 : decode cIm_holdsWord 7 = .ok (.aload_n 0, 1) := by decide +kernel
theorem dIm_holdsWord_8 : decode cIm_holdsWord 8 = .ok (.getfield 15, 3) := by decide +kernel
theorem dIm_holdsWord_11 : decode cIm_holdsWord 11 = .ok (.iconst 4, 1) := by decide +kernel
theorem dIm_holdsWord_12 : decode cIm_holdsWord 12 = .ok (.isub, 1) := by decide +kernel
theorem dIm_holdsWord_13 : decode cIm_holdsWord 13 = .ok (.i2l, 1) := by decide +kernel
theorem dIm_holdsWord_14 : decode cIm_holdsWord 14 = .ok (.lcmp, 1) := by decide +kernel
theorem dIm_holdsWord_15 : decode cIm_holdsWord 15 = .ok (.ifCond .gt 7, 3) := by decide +kernel
theorem dIm_holdsWord_18 : decode cIm_holdsWord 18 = .ok (.iconst 1, 1) := by decide +kernel
theorem dIm_holdsWord_19 : decode cIm_holdsWord 19 = .ok (.goto 4, 3) := by decide +kernel
theorem dIm_holdsWord_22 : decode cIm_holdsWord 22 = .ok (.iconst 0, 1) := by decide +kernel
theorem dIm_holdsWord_23 : decode cIm_holdsWord 23 = .ok (.ireturn, 1) := by decide +kernel
abbrev yIm_sectionBegin : MethodName := ⟨"ImageForge$Image", "sectionBegin", "(I)I"⟩
abbrev cIm_sectionBegin : ByteArray := prog_2_method_13_code
abbrev wsIm_sectionBegin : List Cond := .code yIm_sectionBegin cIm_sectionBegin 2 (some .int) :: bw
theorem gdIm_sectionBegin : GoodIn bw wsIm_sectionBegin := gd_of tw_744
theorem hdIm_sectionBegin : yIm_sectionBegin.cls ≠ "java/lang/invoke/MethodHandle" ∧ yIm_sectionBegin.cls ≠ "java/lang/invoke/VarHandle" ∧ (parseMethodDescriptor yIm_sectionBegin.desc).map (fun d => d.parameters.length) = some 1 := by decide +kernel
theorem dIm_sectionBegin_0 : decode cIm_sectionBegin 0 = .ok (.aload_n 0, 1) := by decide +kernel
theorem dIm_sectionBegin_1 : decode cIm_sectionBegin 1 = .ok (.bipush 24, 2) := by decide +kernel
theorem dIm_sectionBegin_3 : decode cIm_sectionBegin 3 = .ok (.iload_n 1, 1) := by decide +kernel
theorem dIm_sectionBegin_4 : decode cIm_sectionBegin 4 = .ok (.bipush 8, 2) := by decide +kernel
theorem dIm_sectionBegin_6 : decode cIm_sectionBegin 6 = .ok (.imul, 1) := by decide +kernel
theorem dIm_sectionBegin_7 : decode cIm_sectionBegin 7 = .ok (.iadd, 1) := by decide +kernel
theorem dIm_sectionBegin_8 : decode cIm_sectionBegin 8 = .ok (.invokevirtual 31, 3) := by decide +kernel
theorem dIm_sectionBegin_11 : decode cIm_sectionBegin 11 = .ok (.ireturn, 1) := by decide +kernel
abbrev yIm_sectionSize : MethodName := ⟨"ImageForge$Image", "sectionSize", "(I)I"⟩
abbrev cIm_sectionSize : ByteArray := prog_2_method_14_code
abbrev wsIm_sectionSize : List Cond := .code yIm_sectionSize cIm_sectionSize 2 (some .int) :: bw
theorem gdIm_sectionSize : GoodIn bw wsIm_sectionSize := gd_of tw_748
theorem hdIm_sectionSize : yIm_sectionSize.cls ≠ "java/lang/invoke/MethodHandle" ∧ yIm_sectionSize.cls ≠ "java/lang/invoke/VarHandle" ∧ (parseMethodDescriptor yIm_sectionSize.desc).map (fun d => d.parameters.length) = some 1 := by decide +kernel
theorem dIm_sectionSize_0 : decode cIm_sectionSize 0 = .ok (.aload_n 0, 1) := by decide +kernel
theorem dIm_sectionSize_1 : decode cIm_sectionSize 1 = .ok (.bipush 24, 2) := by decide +kernel
theorem dIm_sectionSize_3 : decode cIm_sectionSize 3 = .ok (.iload_n 1, 1) := by decide +kernel
theorem dIm_sectionSize_4 : decode cIm_sectionSize 4 = .ok (.bipush 8, 2) := by decide +kernel
theorem dIm_sectionSize_6 : decode cIm_sectionSize 6 = .ok (.imul, 1) := by decide +kernel
theorem dIm_sectionSize_7 : decode cIm_sectionSize 7 = .ok (.iadd, 1) := by decide +kernel
theorem dIm_sectionSize_8 : decode cIm_sectionSize 8 = .ok (.iconst 4, 1) := by decide +kernel
theorem dIm_sectionSize_9 : decode cIm_sectionSize 9 = .ok (.iadd, 1) := by decide +kernel
theorem dIm_sectionSize_10 : decode cIm_sectionSize 10 = .ok (.invokevirtual 31, 3) := by decide +kernel
theorem dIm_sectionSize_13 : decode cIm_sectionSize 13 = .ok (.ireturn, 1) := by decide +kernel
abbrev yIm_setSection : MethodName := ⟨"ImageForge$Image", "setSection", "(III)V"⟩
abbrev cIm_setSection : ByteArray := prog_2_method_15_code
abbrev wsIm_setSection : List Cond := .code yIm_setSection cIm_setSection 4 none :: bw
theorem gdIm_setSection : GoodIn bw wsIm_setSection := gd_of tw_581
theorem hdIm_setSection : yIm_setSection.cls ≠ "java/lang/invoke/MethodHandle" ∧ yIm_setSection.cls ≠ "java/lang/invoke/VarHandle" ∧ (parseMethodDescriptor yIm_setSection.desc).map (fun d => d.parameters.length) = some 3 := by decide +kernel
theorem dIm_setSection_0 : decode cIm_setSection 0 = .ok (.aload_n 0, 1) := by decide +kernel
theorem dIm_setSection_1 : decode cIm_setSection 1 = .ok (.bipush 24, 2) := by decide +kernel
theorem dIm_setSection_3 : decode cIm_setSection 3 = .ok (.iload_n 1, 1) := by decide +kernel
theorem dIm_setSection_4 : decode cIm_setSection 4 = .ok (.bipush 8, 2) := by decide +kernel
theorem dIm_setSection_6 : decode cIm_setSection 6 = .ok (.imul, 1) := by decide +kernel
theorem dIm_setSection_7 : decode cIm_setSection 7 = .ok (.iadd, 1) := by decide +kernel
theorem dIm_setSection_8 : decode cIm_setSection 8 = .ok (.iload_n 2, 1) := by decide +kernel
theorem dIm_setSection_9 : decode cIm_setSection 9 = .ok (.invokevirtual 35, 3) := by decide +kernel
theorem dIm_setSection_12 : decode cIm_setSection 12 = .ok (.aload_n 0, 1) := by decide +kernel
theorem dIm_setSection_13 : decode cIm_setSection 13 = .ok (.bipush 24, 2) := by decide +kernel
theorem dIm_setSection_15 : decode cIm_setSection 15 = .ok (.iload_n 1, 1) := by decide +kernel
theorem dIm_setSection_16 : decode cIm_setSection 16 = .ok (.bipush 8, 2) := by decide +kernel
theorem dIm_setSection_18 : decode cIm_setSection 18 = .ok (.imul, 1) := by decide +kernel
theorem dIm_setSection_19 : decode cIm_setSection 19 = .ok (.iadd, 1) := by decide +kernel
theorem dIm_setSection_20 : decode cIm_setSection 20 = .ok (.iconst 4, 1) := by decide +kernel
theorem dIm_setSection_21 : decode cIm_setSection 21 = .ok (.iadd, 1) := by decide +kernel
theorem dIm_setSection_22 : decode cIm_setSection 22 = .ok (.iload_n 3, 1) := by decide +kernel
theorem dIm_setSection_23 : decode cIm_setSection 23 = .ok (.invokevirtual 35, 3) := by decide +kernel
theorem dIm_setSection_26 : decode cIm_setSection 26 = .ok (.return_, 1) := by decide +kernel
abbrev yIm_holdsSection : MethodName := ⟨"ImageForge$Image", "holdsSection", "(I)Z"⟩
abbrev cIm_holdsSection : ByteArray := prog_2_method_16_code
abbrev wsIm_holdsSection : List Cond := .code yIm_holdsSection cIm_holdsSection 4 (some .boolean) :: bw
theorem gdIm_holdsSection : GoodIn bw wsIm_holdsSection := gd_of tw_740
theorem hdIm_holdsSection : yIm_holdsSection.cls ≠ "java/lang/invoke/MethodHandle" ∧ yIm_holdsSection.cls ≠ "java/lang/invoke/VarHandle" ∧ (parseMethodDescriptor yIm_holdsSection.desc).map (fun d => d.parameters.length) = some 1 := by decide +kernel
theorem dIm_holdsSection_0 : decode cIm_holdsSection 0 = .ok (.aload_n 0, 1) := by decide +kernel
theorem dIm_holdsSection_1 : decode cIm_holdsSection 1 = .ok (.iload_n 1, 1) := by decide +kernel
theorem dIm_holdsSection_2 : decode cIm_holdsSection 2 = .ok (.invokevirtual 39, 3) := by decide +kernel
theorem dIm_holdsSection_5 : decode cIm_holdsSection 5 = .ok (.istore_n 2, 1) := by decide +kernel
theorem dIm_holdsSection_6 : decode cIm_holdsSection 6 = .ok (.aload_n 0, 1) := by decide +kernel
theorem dIm_holdsSection_7 : decode cIm_holdsSection 7 = .ok (.iload_n 1, 1) := by decide +kernel
theorem dIm_holdsSection_8 : decode cIm_holdsSection 8 = .ok (.invokevirtual 42, 3) := by decide +kernel
theorem dIm_holdsSection_11 : decode cIm_holdsSection 11 = .ok (.istore_n 3, 1) := by decide +kernel
theorem dIm_holdsSection_12 : decode cIm_holdsSection 12 = .ok (.iload_n 2, 1) := by decide +kernel
theorem dIm_holdsSection_13 : decode cIm_holdsSection 13 = .ok (.ifCond .lt 25, 3) := by decide +kernel
theorem dIm_holdsSection_16 : decode cIm_holdsSection 16 = .ok (.iload_n 3, 1) := by decide +kernel
theorem dIm_holdsSection_17 : decode cIm_holdsSection 17 = .ok (.ifCond .lt 21, 3) := by decide +kernel
theorem dIm_holdsSection_20 : decode cIm_holdsSection 20 = .ok (.iload_n 2, 1) := by decide +kernel
theorem dIm_holdsSection_21 : decode cIm_holdsSection 21 = .ok (.i2l, 1) := by decide +kernel
theorem dIm_holdsSection_22 : decode cIm_holdsSection 22 = .ok (.iload_n 3, 1) := by decide +kernel
theorem dIm_holdsSection_23 : decode cIm_holdsSection 23 = .ok (.i2l, 1) := by decide +kernel
theorem dIm_holdsSection_24 : decode cIm_holdsSection 24 = .ok (.ladd, 1) := by decide +kernel
theorem dIm_holdsSection_25 : decode cIm_holdsSection 25 = .ok (.aload_n 0, 1) := by decide +kernel
theorem dIm_holdsSection_26 : decode cIm_holdsSection 26 = .ok (.getfield 15, 3) := by decide +kernel
theorem dIm_holdsSection_29 : decode cIm_holdsSection 29 = .ok (.i2l, 1) := by decide +kernel
theorem dIm_holdsSection_30 : decode cIm_holdsSection 30 = .ok (.lcmp, 1) := by decide +kernel
theorem dIm_holdsSection_31 : decode cIm_holdsSection 31 = .ok (.ifCond .gt 7, 3) := by decide +kernel
theorem dIm_holdsSection_34 : decode cIm_holdsSection 34 = .ok (.iconst 1, 1) := by decide +kernel
theorem dIm_holdsSection_35 : decode cIm_holdsSection 35 = .ok (.goto 4, 3) := by decide +kernel
theorem dIm_holdsSection_38 : decode cIm_holdsSection 38 = .ok (.iconst 0, 1) := by decide +kernel
theorem dIm_holdsSection_39 : decode cIm_holdsSection 39 = .ok (.ireturn, 1) := by decide +kernel
abbrev yIm_checksum : MethodName := ⟨"ImageForge$Image", "checksum", "()I"⟩
abbrev cIm_checksum : ByteArray := prog_2_method_17_code
abbrev wsIm_checksum : List Cond := .code yIm_checksum cIm_checksum 3 (some .int) :: bw
theorem gdIm_checksum : GoodIn bw wsIm_checksum := gd_of tw_658
theorem hdIm_checksum : yIm_checksum.cls ≠ "java/lang/invoke/MethodHandle" ∧ yIm_checksum.cls ≠ "java/lang/invoke/VarHandle" ∧ (parseMethodDescriptor yIm_checksum.desc).map (fun d => d.parameters.length) = some 0 := by decide +kernel
theorem dIm_checksum_0 : decode cIm_checksum 0 = .ok (.iconst 0, 1) := by decide +kernel
theorem dIm_checksum_1 : decode cIm_checksum 1 = .ok (.istore_n 1, 1) := by decide +kernel
theorem dIm_checksum_2 : decode cIm_checksum 2 = .ok (.iconst 0, 1) := by decide +kernel
theorem dIm_checksum_3 : decode cIm_checksum 3 = .ok (.istore_n 2, 1) := by decide +kernel
theorem dIm_checksum_4 : decode cIm_checksum 4 = .ok (.iload_n 2, 1) := by decide +kernel
theorem dIm_checksum_5 : decode cIm_checksum 5 = .ok (.aload_n 0, 1) := by decide +kernel
theorem dIm_checksum_6 : decode cIm_checksum 6 = .ok (.getfield 15, 3) := by decide +kernel
theorem dIm_checksum_9 : decode cIm_checksum 9 = .ok (.if_icmp .ge 39, 3) := by decide +kernel
theorem dIm_checksum_12 : decode cIm_checksum 12 = .ok (.iload_n 2, 1) := by decide +kernel
theorem dIm_checksum_13 : decode cIm_checksum 13 = .ok (.bipush 20, 2) := by decide +kernel
theorem dIm_checksum_15 : decode cIm_checksum 15 = .ok (.if_icmp .lt 9, 3) := by decide +kernel
theorem dIm_checksum_18 : decode cIm_checksum 18 = .ok (.iload_n 2, 1) := by decide +kernel
theorem dIm_checksum_19 : decode cIm_checksum 19 = .ok (.bipush 24, 2) := by decide +kernel
theorem dIm_checksum_21 : decode cIm_checksum 21 = .ok (.if_icmp .lt 21, 3) := by decide +kernel
theorem dIm_checksum_24 : decode cIm_checksum 24 = .ok (.iload_n 1, 1) := by decide +kernel
theorem dIm_checksum_25 : decode cIm_checksum 25 = .ok (.aload_n 0, 1) := by decide +kernel
theorem dIm_checksum_26 : decode cIm_checksum 26 = .ok (.iload_n 2, 1) := by decide +kernel
theorem dIm_checksum_27 : decode cIm_checksum 27 = .ok (.invokevirtual 45, 3) := by decide +kernel
theorem dIm_checksum_30 : decode cIm_checksum 30 = .ok (.iadd, 1) := by decide +kernel
theorem dIm_checksum_31 : decode cIm_checksum 31 = .ok (.istore_n 1, 1) := by decide +kernel
theorem dIm_checksum_32 : decode cIm_checksum 32 = .ok (.iload_n 1, 1) := by decide +kernel
theorem dIm_checksum_33 : decode cIm_checksum 33 = .ok (.ldc 48, 2) := by decide +kernel
theorem dIm_checksum_35 : decode cIm_checksum 35 = .ok (.iand, 1) := by decide +kernel
theorem dIm_checksum_36 : decode cIm_checksum 36 = .ok (.iload_n 1, 1) := by decide +kernel
theorem dIm_checksum_37 : decode cIm_checksum 37 = .ok (.bipush 16, 2) := by decide +kernel
theorem dIm_checksum_39 : decode cIm_checksum 39 = .ok (.ishr, 1) := by decide +kernel
theorem dIm_checksum_40 : decode cIm_checksum 40 = .ok (.iadd, 1) := by decide +kernel
theorem dIm_checksum_41 : decode cIm_checksum 41 = .ok (.istore_n 1, 1) := by decide +kernel
theorem dIm_checksum_42 : decode cIm_checksum 42 = .ok (.iinc 2 2, 3) := by decide +kernel
theorem dIm_checksum_45 : decode cIm_checksum 45 = .ok (.goto (-41), 3) := by decide +kernel
theorem dIm_checksum_48 : decode cIm_checksum 48 = .ok (.iload_n 1, 1) := by decide +kernel
theorem dIm_checksum_49 : decode cIm_checksum 49 = .ok (.aload_n 0, 1) := by decide +kernel
theorem dIm_checksum_50 : decode cIm_checksum 50 = .ok (.getfield 15, 3) := by decide +kernel
theorem dIm_checksum_53 : decode cIm_checksum 53 = .ok (.iadd, 1) := by decide +kernel
theorem dIm_checksum_54 : decode cIm_checksum 54 = .ok (.ireturn, 1) := by decide +kernel

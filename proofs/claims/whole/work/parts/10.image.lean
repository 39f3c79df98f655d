abbrev yAr_fill : MethodName := ⟨"java/util/Arrays", "fill", "([BB)V"⟩
abbrev cAr_fill : ByteArray := prog_27_method_109_code
abbrev wsAr_fill : List Cond := .code yAr_fill cAr_fill 4 none :: bw
theorem gdAr_fill : GoodIn bw wsAr_fill := gd_of tw_565
theorem hdAr_fill : yAr_fill.cls ≠ "java/lang/invoke/MethodHandle" ∧ yAr_fill.cls ≠ "java/lang/invoke/VarHandle" ∧ (parseMethodDescriptor yAr_fill.desc).map (fun d => d.parameters.length) = some 2 := by decide +kernel
theorem dAr_fill_0 : decode cAr_fill 0 = .ok (.iconst 0, 1) := by decide +kernel
theorem dAr_fill_1 : decode cAr_fill 1 = .ok (.istore_n 2, 1) := by decide +kernel
theorem dAr_fill_2 : decode cAr_fill 2 = .ok (.aload_n 0, 1) := by decide +kernel
theorem dAr_fill_3 : decode cAr_fill 3 = .ok (.arraylength, 1) := by decide +kernel
theorem dAr_fill_4 : decode cAr_fill 4 = .ok (.istore_n 3, 1) := by decide +kernel
theorem dAr_fill_5 : decode cAr_fill 5 = .ok (.iload_n 2, 1) := by decide +kernel
theorem dAr_fill_6 : decode cAr_fill 6 = .ok (.iload_n 3, 1) := by decide +kernel
theorem dAr_fill_7 : decode cAr_fill 7 = .ok (.if_icmp .ge 13, 3) := by decide +kernel
theorem dAr_fill_10 : decode cAr_fill 10 = .ok (.aload_n 0, 1) := by decide +kernel
theorem dAr_fill_11 : decode cAr_fill 11 = .ok (.iload_n 2, 1) := by decide +kernel
theorem dAr_fill_12 : decode cAr_fill 12 = .ok (.iload_n 1, 1) := by decide +kernel
theorem dAr_fill_13 : decode cAr_fill 13 = .ok (.bastore, 1) := by decide +kernel
theorem dAr_fill_14 : decode cAr_fill 14 = .ok (.iinc 2 1, 3) := by decide +kernel
theorem dAr_fill_17 : decode cAr_fill 17 = .ok (.goto (-12), 3) := by decide +kernel
theorem dAr_fill_20 : decode cAr_fill 20 = .ok (.return_, 1) := by decide +kernel
abbrev yIm_isNone : MethodName := ⟨"ImageForge$Image", "isNone", "()Z"⟩
abbrev cIm_isNone : ByteArray := prog_2_method_2_code
abbrev wsIm_isNone : List Cond := .code yIm_isNone cIm_isNone 1 (some .boolean) :: bw
theorem gdIm_isNone : GoodIn bw wsIm_isNone := gd_of tw_694
theorem hdIm_isNone : yIm_isNone.cls ≠ "java/lang/invoke/MethodHandle" ∧ yIm_isNone.cls ≠ "java/lang/invoke/VarHandle" ∧ (parseMethodDescriptor yIm_isNone.desc).map (fun d => d.parameters.length) = some 0 := by decide +kernel
theorem dIm_isNone_0 : decode cIm_isNone 0 = .ok (.aload_n 0, 1) := by decide +kernel
theorem dIm_isNone_1 : decode cIm_isNone 1 = .ok (.getfield 15, 3) := by decide +kernel
theorem dIm_isNone_4 : decode cIm_isNone 4 = .ok (.ifCond .ne 7, 3) := by decide +kernel
theorem dIm_isNone_7 : decode cIm_isNone 7 = .ok (.iconst 1, 1) := by decide +kernel
theorem dIm_isNone_8 : decode cIm_isNone 8 = .ok (.goto 4, 3) := by decide +kernel
theorem dIm_isNone_11 : decode cIm_isNone 11 = .ok (.iconst 0, 1) := by decide +kernel
theorem dIm_isNone_12 : decode cIm_isNone 12 = .ok (.ireturn, 1) := by decide +kernel
abbrev yIm_clear : MethodName := ⟨"ImageForge$Image", "clear", "()V"⟩
abbrev cIm_clear : ByteArray := prog_2_method_3_code
abbrev wsIm_clear : List Cond := .code yIm_clear cIm_clear 1 none :: bw
theorem gdIm_clear : GoodIn bw wsIm_clear := gd_of tw_562
theorem hdIm_clear : yIm_clear.cls ≠ "java/lang/invoke/MethodHandle" ∧ yIm_clear.cls ≠ "java/lang/invoke/VarHandle" ∧ (parseMethodDescriptor yIm_clear.desc).map (fun d => d.parameters.length) = some 0 := by decide +kernel
theorem dIm_clear_0 : decode cIm_clear 0 = .ok (.aload_n 0, 1) := by decide +kernel
theorem dIm_clear_1 : decode cIm_clear 1 = .ok (.getfield 9, 3) := by decide +kernel
theorem dIm_clear_4 : decode cIm_clear 4 = .ok (.iconst 0, 1) := by decide +kernel
theorem dIm_clear_5 : decode cIm_clear 5 = .ok (.invokestatic 19, 3) := by decide +kernel
theorem dIm_clear_8 : decode cIm_clear 8 = .ok (.return_, 1) := by decide +kernel
abbrev yIm_copyFrom : MethodName := ⟨"ImageForge$Image", "copyFrom", "(LImageForge$Image;)V"⟩
abbrev cIm_copyFrom : ByteArray := prog_2_method_4_code
abbrev wsIm_copyFrom : List Cond := .code yIm_copyFrom cIm_copyFrom 2 none :: bw
theorem gdIm_copyFrom : GoodIn bw wsIm_copyFrom := gd_of tw_722
theorem hdIm_copyFrom : yIm_copyFrom.cls ≠ "java/lang/invoke/MethodHandle" ∧ yIm_copyFrom.cls ≠ "java/lang/invoke/VarHandle" ∧ (parseMethodDescriptor yIm_copyFrom.desc).map (fun d => d.parameters.length) = some 1 := by decide +kernel
theorem dIm_copyFrom_0 : decode cIm_copyFrom 0 = .ok (.aload_n 1, 1) := by decide +kernel
theorem dIm_copyFrom_1 : decode cIm_copyFrom 1 = .ok (.getfield 9, 3) := by decide +kernel
theorem dIm_copyFrom_4 : decode cIm_copyFrom 4 = .ok (.iconst 0, 1) := by decide +kernel
theorem dIm_copyFrom_5 : decode cIm_copyFrom 5 = .ok (.aload_n 0, 1) := by decide +kernel
theorem dIm_copyFrom_6 : decode cIm_copyFrom 6 = .ok (.getfield 9, 3) := by decide +kernel
theorem dIm_copyFrom_9 : decode cIm_copyFrom 9 = .ok (.iconst 0, 1) := by decide +kernel
theorem dIm_copyFrom_10 : decode cIm_copyFrom 10 = .ok (.aload_n 1, 1) := by decide +kernel
theorem dIm_copyFrom_11 : decode cIm_copyFrom 11 = .ok (.getfield 15, 3) := by decide +kernel
theorem dIm_copyFrom_14 : decode cIm_copyFrom 14 = .ok (.invokestatic 25, 3) := by decide +kernel
theorem dIm_copyFrom_17 : decode cIm_copyFrom 17 = .ok (.aload_n 0, 1) := by decide +kernel
theorem dIm_copyFrom_18 : decode cIm_copyFrom 18 = .ok (.aload_n 1, 1) := by decide +kernel
theorem dIm_copyFrom_19 : decode cIm_copyFrom 19 = .ok (.getfield 15, 3) := by decide +kernel
theorem dIm_copyFrom_22 : decode cIm_copyFrom 22 = .ok (.putfield 15, 3) := by decide +kernel
theorem dIm_copyFrom_25 : decode cIm_copyFrom 25 = .ok (.return_, 1) := by decide +kernel
abbrev yIm_byteAt : MethodName := ⟨"ImageForge$Image", "byteAt", "(I)I"⟩
abbrev cIm_byteAt : ByteArray := prog_2_method_5_code
abbrev wsIm_byteAt : List Cond := .code yIm_byteAt cIm_byteAt 2 (some .int) :: bw
theorem gdIm_byteAt : GoodIn bw wsIm_byteAt := gd_of tw_229
theorem hdIm_byteAt : yIm_byteAt.cls ≠ "java/lang/invoke/MethodHandle" ∧ yIm_byteAt.cls ≠ "java/lang/invoke/VarHandle" ∧ (parseMethodDescriptor yIm_byteAt.desc).map (fun d => d.parameters.length) = some 1 := by decide +kernel
theorem dIm_byteAt_0 : decode cIm_byteAt 0 = .ok (.aload_n 0, 1) := by decide +kernel
theorem dIm_byteAt_1 : decode cIm_byteAt 1 = .ok (.getfield 9, 3) := by decide +kernel
theorem dIm_byteAt_4 : decode cIm_byteAt 4 = .ok (.iload_n 1, 1) := by decide +kernel
theorem dIm_byteAt_5 : decode cIm_byteAt 5 = .ok (.baload, 1) := by decide +kernel
theorem dIm_byteAt_6 : decode cIm_byteAt 6 = .ok (.sipush 255, 3) := by decide +kernel
theorem dIm_byteAt_9 : decode cIm_byteAt 9 = .ok (.iand, 1) := by decide +kernel
theorem dIm_byteAt_10 : decode cIm_byteAt 10 = .ok (.ireturn, 1) := by decide +kernel
abbrev yIm_setByte : MethodName := ⟨"ImageForge$Image", "setByte", "(II)V"⟩
abbrev cIm_setByte : ByteArray := prog_2_method_6_code
abbrev wsIm_setByte : List Cond := .code yIm_setByte cIm_setByte 3 none :: bw
theorem gdIm_setByte : GoodIn bw wsIm_setByte := gd_of tw_683
theorem hdIm_setByte : yIm_setByte.cls ≠ "java/lang/invoke/MethodHandle" ∧ yIm_setByte.cls ≠ "java/lang/invoke/VarHandle" ∧ (parseMethodDescriptor yIm_setByte.desc).map (fun d => d.parameters.length) = some 2 := by decide +kernel
theorem dIm_setByte_0 : decode cIm_setByte 0 = .ok (.aload_n 0, 1) := by decide +kernel
theorem dIm_setByte_1 : decode cIm_setByte 1 = .ok (.getfield 9, 3) := by decide +kernel
theorem dIm_setByte_4 : decode cIm_setByte 4 = .ok (.iload_n 1, 1) := by decide +kernel
theorem dIm_setByte_5 : decode cIm_setByte 5 = .ok (.iload_n 2, 1) := by decide +kernel
theorem dIm_setByte_6 : decode cIm_setByte 6 = .ok (.i2b, 1) := by decide +kernel
theorem dIm_setByte_7 : decode cIm_setByte 7 = .ok (.bastore, 1) := by decide +kernel
theorem dIm_setByte_8 : decode cIm_setByte 8 = .ok (.return_, 1) := by decide +kernel
abbrev yIm_halfAt : MethodName := ⟨"ImageForge$Image", "halfAt", "(I)I"⟩
abbrev cIm_halfAt : ByteArray := prog_2_method_7_code
abbrev wsIm_halfAt : List Cond := .code yIm_halfAt cIm_halfAt 2 (some .int) :: bw
theorem gdIm_halfAt : GoodIn bw wsIm_halfAt := gd_of tw_662
theorem hdIm_halfAt : yIm_halfAt.cls ≠ "java/lang/invoke/MethodHandle" ∧ yIm_halfAt.cls ≠ "java/lang/invoke/VarHandle" ∧ (parseMethodDescriptor yIm_halfAt.desc).map (fun d => d.parameters.length) = some 1 := by decide +kernel
theorem dIm_halfAt_0 : decode cIm_halfAt 0 = .ok (.aload_n 0, 1) := by decide +kernel
theorem dIm_halfAt_1 : decode cIm_halfAt 1 = .ok (.getfield 9, 3) := by decide +kernel
theorem dIm_halfAt_4 : decode cIm_halfAt 4 = .ok (.iload_n 1, 1) := by decide +kernel
theorem dIm_halfAt_5 : decode cIm_halfAt 5 = .ok (.baload, 1) := by decide +kernel
theorem dIm_halfAt_6 : decode cIm_halfAt 6 = .ok (.sipush 255, 3) := by decide +kernel
theorem dIm_halfAt_9 : decode cIm_halfAt 9 = .ok (.iand, 1) := by decide +kernel
theorem dIm_halfAt_10 : decode cIm_halfAt 10 = .ok (.aload_n 0, 1) := by decide +kernel
theorem dIm_halfAt_11 : decode cIm_halfAt 11 = .ok (.getfield 9, 3) := by decide +kernel
theorem dIm_halfAt_14 : decode cIm_halfAt 14 = .ok (.iload_n 1, 1) := by decide +kernel
theorem dIm_halfAt_15 : decode cIm_halfAt 15 = .ok (.iconst 1, 1) := by decide +kernel
theorem dIm_halfAt_16 : decode cIm_halfAt 16 = .ok (.iadd, 1) := by decide +kernel
theorem dIm_halfAt_17 : decode cIm_halfAt 17 = .ok (.baload, 1) := by decide +kernel
theorem dIm_halfAt_18 : decode cIm_halfAt 18 = .ok (.sipush 255, 3) := by decide +kernel
theorem dIm_halfAt_21 : decode cIm_halfAt 21 = .ok (.iand, 1) := by decide +kernel
theorem dIm_halfAt_22 : decode cIm_halfAt 22 = .ok (.bipush 8, 2) := by decide +kernel
theorem dIm_halfAt_24 : decode cIm_halfAt 24 = .ok (.ishl, 1) := by decide +kernel
theorem dIm_halfAt_25 : decode cIm_halfAt 25 = .ok (.ior, 1) := by decide +kernel
theorem dIm_halfAt_26 : decode cIm_halfAt 26 = .ok (.ireturn, 1) := by decide +kernel
abbrev yIm_setHalf : MethodName := ⟨"ImageForge$Image", "setHalf", "(II)V"⟩
abbrev cIm_setHalf : ByteArray := prog_2_method_8_code
abbrev wsIm_setHalf : List Cond := .code yIm_setHalf cIm_setHalf 3 none :: bw
theorem gdIm_setHalf : GoodIn bw wsIm_setHalf := gd_of tw_649
theorem hdIm_setHalf : yIm_setHalf.cls ≠ "java/lang/invoke/MethodHandle" ∧ yIm_setHalf.cls ≠ "java/lang/invoke/VarHandle" ∧ (parseMethodDescriptor yIm_setHalf.desc).map (fun d => d.parameters.length) = some 2 := by decide +kernel
theorem dIm_setHalf_0 : decode cIm_setHalf 0 = .ok (.aload_n 0, 1) := by decide +kernel
theorem dIm_setHalf_1 : decode cIm_setHalf 1 = .ok (.getfield 9, 3) := by decide +kernel
theorem dIm_setHalf_4 : decode cIm_setHalf 4 = .ok (.iload_n 1, 1) := by decide +kernel
theorem dIm_setHalf_5 : decode cIm_setHalf 5 = .ok (.iload_n 2, 1) := by decide +kernel
theorem dIm_setHalf_6 : decode cIm_setHalf 6 = .ok (.i2b, 1) := by decide +kernel
theorem dIm_setHalf_7 : decode cIm_setHalf 7 = .ok (.bastore, 1) := by decide +kernel
theorem dIm_setHalf_8 : decode cIm_setHalf 8 = .ok (.aload_n 0, 1) := by decide +kernel
theorem dIm_setHalf_9 : decode cIm_setHalf 9 = .ok (.getfield 9, 3) := by decide +kernel
theorem dIm_setHalf_12 : decode cIm_setHalf 12 = .ok (.iload_n 1, 1) := by decide +kernel
theorem dIm_setHalf_13 : decode cIm_setHalf 13 = .ok (.iconst 1, 1) := by decide +kernel
theorem dIm_setHalf_14 : decode cIm_setHalf 14 = .ok (.iadd, 1) := by decide +kernel
theorem dIm_setHalf_15 : decode cIm_setHalf 15 = .ok (.iload_n 2, 1) := by decide +kernel
theorem dIm_setHalf_16 : decode cIm_setHalf 16 = .ok (.bipush 8, 2) := by decide +kernel
theorem dIm_setHalf_18 : decode cIm_setHalf 18 = .ok (.ishr, 1) := by decide +kernel
theorem dIm_setHalf_19 : decode cIm_setHalf 19 = .ok (.i2b, 1) := by decide +kernel
theorem dIm_setHalf_20 : decode cIm_setHalf 20 = .ok (.bastore, 1) := by decide +kernel
theorem dIm_setHalf_21 : decode cIm_setHalf 21 = .ok (.return_, 1) := by decide +kernel
abbrev yIm_wordAt : MethodName := ⟨"ImageForge$Image", "wordAt", "(I)I"⟩
abbrev cIm_wordAt : ByteArray := prog_2_method_9_code
abbrev wsIm_wordAt : List Cond := .code yIm_wordAt cIm_wordAt 2 (some .int) :: bw
theorem gdIm_wordAt : GoodIn bw wsIm_wordAt := gd_of tw_241
theorem hdIm_wordAt : yIm_wordAt.cls ≠ "java/lang/invoke/MethodHandle" ∧ yIm_wordAt.cls ≠ "java/lang/invoke/VarHandle" ∧ (parseMethodDescriptor yIm_wordAt.desc).map (fun d => d.parameters.length) = some 1 := by decide +kernel
theorem dIm_wordAt_0 : decode cIm_wordAt 0 = .ok (.aload_n 0, 1) := by decide +kernel
theorem dIm_wordAt_1 : decode cIm_wordAt 1 = .ok (.getfield 9, 3) := by decide +kernel
theorem dIm_wordAt_4 : decode cIm_wordAt 4 = .ok (.iload_n 1, 1) := by decide +kernel
theorem dIm_wordAt_5 : decode cIm_wordAt 5 = .ok (.baload, 1) := by decide +kernel
theorem dIm_wordAt_6 : decode cIm_wordAt 6 = .ok (.sipush 255, 3) := by decide +kernel
theorem dIm_wordAt_9 : decode cIm_wordAt 9 = .ok (.iand, 1) := by decide +kernel
theorem dIm_wordAt_10 : decode cIm_wordAt 10 = .ok (.aload_n 0, 1) := by decide +kernel
theorem dIm_wordAt_11 : decode cIm_wordAt 11 = .ok (.getfield 9, 3) := by decide +kernel
theorem dIm_wordAt_14 : decode cIm_wordAt 14 = .ok (.iload_n 1, 1) := by decide +kernel
theorem dIm_wordAt_15 : decode cIm_wordAt 15 = .ok (.iconst 1, 1) := by decide +kernel
theorem dIm_wordAt_16 : decode cIm_wordAt 16 = .ok (.iadd, 1) := by decide +kernel
theorem dIm_wordAt_17 : decode cIm_wordAt 17 = .ok (.baload, 1) := by decide +kernel
theorem dIm_wordAt_18 : decode cIm_wordAt 18 = .ok (.sipush 255, 3) := by decide +kernel
theorem dIm_wordAt_21 : decode cIm_wordAt 21 = .ok (.iand, 1) := by decide +kernel
theorem dIm_wordAt_22 : decode cIm_wordAt 22 = .ok (.bipush 8, 2) := by decide +kernel
theorem dIm_wordAt_24 : decode cIm_wordAt 24 = .ok (.ishl, 1) := by decide +kernel
theorem dIm_wordAt_25 : decode cIm_wordAt 25 = .ok (.ior, 1) := by decide +kernel
theorem dIm_wordAt_26 : decode cIm_wordAt 26 = .ok (.aload_n 0, 1) := by decide +kernel
theorem dIm_wordAt_27 : decode cIm_wordAt 27 = .ok (.getfield 9, 3) := by decide +kernel
theorem dIm_wordAt_30 : decode cIm_wordAt 30 = .ok (.iload_n 1, 1) := by decide +kernel
theorem dIm_wordAt_31 : decode cIm_wordAt 31 = .ok (.iconst 2, 1) := by decide +kernel
theorem dIm_wordAt_32 : decode cIm_wordAt 32 = .ok (.iadd, 1) := by decide +kernel
theorem dIm_wordAt_33 : decode cIm_wordAt 33 = .ok (.baload, 1) := by decide +kernel
theorem dIm_wordAt_34 : decode cIm_wordAt 34 = .ok (.sipush 255, 3) := by decide +kernel
theorem dIm_wordAt_37 : decode cIm_wordAt 37 = .ok (.iand, 1) := by decide +kernel
theorem dIm_wordAt_38 : decode cIm_wordAt 38 = .ok (.bipush 16, 2) := by decide +kernel
theorem dIm_wordAt_40 : decode cIm_wordAt 40 = .ok (.ishl, 1) := by decide +kernel
theorem dIm_wordAt_41 : decode cIm_wordAt 41 = .ok (.ior, 1) := by decide +kernel
theorem dIm_wordAt_42 : decode cIm_wordAt 42 = .ok (.aload_n 0, 1) := by decide +kernel
theorem dIm_wordAt_43 : decode cIm_wordAt 43 = .ok (.getfield 9, 3) := by decide +kernel
theorem dIm_wordAt_46 : decode cIm_wordAt 46 = .ok (.iload_n 1, 1) := by decide +kernel
theorem dIm_wordAt_47 : decode cIm_wordAt 47 = .ok (.iconst 3, 1) := by decide +kernel
theorem dIm_wordAt_48 : decode cIm_wordAt 48 = .ok (.iadd, 1) := by decide +kernel
theorem dIm_wordAt_49 : decode cIm_wordAt 49 = .ok (.baload, 1) := by decide +kernel
theorem dIm_wordAt_50 : decode cIm_wordAt 50 = .ok (.sipush 255, 3) := by decide +kernel
theorem dIm_wordAt_53 : decode cIm_wordAt 53 = .ok (.iand, 1) := by decide +kernel
theorem dIm_wordAt_54 : decode cIm_wordAt 54 = .ok (.bipush 24, 2) := by decide +kernel
theorem dIm_wordAt_56 : decode cIm_wordAt 56 = .ok (.ishl, 1) := by decide +kernel
theorem dIm_wordAt_57 : decode cIm_wordAt 57 = .ok (.ior, 1) := by decide +kernel
theorem dIm_wordAt_58 : decode cIm_wordAt 58 = .ok (.ireturn, 1) := by decide +kernel
abbrev yIm_setWord : MethodName := ⟨"ImageForge$Image", "setWord", "(II)V"⟩
abbrev cIm_setWord : ByteArray := prog_2_method_10_code
abbrev wsIm_setWord : List Cond := .code yIm_setWord cIm_setWord 4 none :: bw
theorem gdIm_setWord : GoodIn bw wsIm_setWord := gd_of tw_585
theorem hdIm_setWord : yIm_setWord.cls ≠ "java/lang/invoke/MethodHandle" ∧ yIm_setWord.cls ≠ "java/lang/invoke/VarHandle" ∧ (parseMethodDescriptor yIm_setWord.desc).map (fun d => d.parameters.length) = some 2 := by decide +kernel
theorem dIm_setWord_0 : decode cIm_setWord 0 = .ok (.iconst 0, 1) := by decide +kernel
theorem dIm_setWord_1 : decode cIm_setWord 1 = .ok (.istore_n 3, 1) := by decide +kernel
theorem dIm_setWord_2 : decode cIm_setWord 2 = .ok (.iload_n 3, 1) := by decide +kernel
theorem dIm_setWord_3 : decode cIm_setWord 3 = .ok (.iconst 4, 1) := by decide +kernel
theorem dIm_setWord_4 : decode cIm_setWord 4 = .ok (.if_icmp .ge 24, 3) := by decide +kernel
theorem dIm_setWord_7 : decode cIm_setWord 7 = .ok (.aload_n 0, 1) := by decide +kernel
theorem dIm_setWord_8 : decode cIm_setWord 8 = .ok (.getfield 9, 3) := by decide +kernel
theorem dIm_setWord_11 : decode cIm_setWord 11 = .ok (.iload_n 1, 1) := by decide +kernel
theorem dIm_setWord_12 : decode cIm_setWord 12 = .ok (.iload_n 3, 1) := by decide +kernel
theorem dIm_setWord_13 : decode cIm_setWord 13 = .ok (.iadd, 1) := by decide +kernel
theorem dIm_setWord_14 : decode cIm_setWord 14 = .ok (.iload_n 2, 1) := by decide +kernel
theorem dIm_setWord_15 : decode cIm_setWord 15 = .ok (.bipush 8, 2) := by decide +kernel
theorem dIm_setWord_17 : decode cIm_setWord 17 = .ok (.iload_n 3, 1) := by decide +kernel
theorem dIm_setWord_18 : decode cIm_setWord 18 = .ok (.imul, 1) := by decide +kernel
theorem dIm_setWord_19 : decode cIm_setWord 19 = .ok (.ishr, 1) := by decide +kernel
theorem dIm_setWord_20 : decode cIm_setWord 20 = .ok (.i2b, 1) := by decide +kernel
theorem dIm_setWord_21 : decode cIm_setWord 21 = .ok (.bastore, 1) := by decide +kernel
theorem dIm_setWord_22 : decode cIm_setWord 22 = .ok (.iinc 3 1, 3) := by decide +kernel
theorem dIm_setWord_25 : decode cIm_setWord 25 = .ok (.goto (-23), 3) := by decide +kernel
theorem dIm_setWord_28 : decode cIm_setWord 28 = .ok (.return_, 1) := by decide +kernel
abbrev yIm_addToWord : MethodName := ⟨"ImageForge$Image", "addToWord", "(II)V"⟩
abbrev cIm_addToWord : ByteArray := prog_2_method_11_code
abbrev wsIm_addToWord : List Cond := .code yIm_addToWord cIm_addToWord 3 none :: bw
theorem gdIm_addToWord : GoodIn bw wsIm_addToWord := gd_of tw_636
theorem hdIm_addToWord : yIm_addToWord.cls ≠ "java/lang/invoke/MethodHandle" ∧ yIm_addToWord.cls ≠ "java/lang/invoke/VarHandle" ∧ (parseMethodDescriptor yIm_addToWord.desc).map (fun d => d.parameters.length) = some 2 := by decide +kernel
theorem dIm_addToWord_0 : decode cIm_addToWord 0 = .ok (.aload_n 0, 1) := by decide +kernel
theorem dIm_addToWord_1 : decode cIm_addToWord 1 = .ok (.iload_n 1, 1) := by decide +kernel
theorem dIm_addToWord_2 : decode cIm_addToWord 2 = .ok (.aload_n 0, 1) := by decide +kernel
theorem dIm_addToWord_3 : decode cIm_addToWord 3 = .ok (.iload_n 1, 1) := by decide +kernel
theorem dIm_addToWord_4 : decode cIm_addToWord 4 = .ok (.invokevirtual 31, 3) := by decide +kernel
theorem dIm_addToWord_7 : decode cIm_addToWord 7 = .ok (.iload_n 2, 1) := by decide +kernel
theorem dIm_addToWord_8 : decode cIm_addToWord 8 = .ok (.iadd, 1) := by decide +kernel
theorem dIm_addToWord_9 : decode cIm_addToWord 9 = .ok (.invokevirtual 35, 3) := by decide +kernel
theorem dIm_addToWord_12 : decode cIm_addToWord 12 = .ok (.return_, 1) := by decide +kernel
abbrev yIm_holdsWord : MethodName := ⟨"ImageForge$Image", "holdsWord", "(J)Z"⟩
abbrev cIm_holdsWord : ByteArray := prog_2_method_12_code
abbrev wsIm_holdsWord : List Cond := .code yIm_holdsWord cIm_holdsWord 3 (some .boolean) :: bw
theorem gdIm_holdsWord : GoodIn bw wsIm_holdsWord := gd_of tw_763
theorem hdIm_holdsWord : yIm_holdsWord.cls ≠ "java/lang/invoke/MethodHandle" ∧ yIm_holdsWord.cls ≠ "java/lang/invoke/VarHandle" ∧ (parseMethodDescriptor yIm_holdsWord.desc).map (fun d => d.parameters.length) = some 1 := by decide +kernel
theorem dIm_holdsWord_0 : decode cIm_holdsWord 0 = .ok (.lload_n 1, 1) := by decide +kernel
theorem dIm_holdsWord_1 : decode cIm_holdsWord 1 = .ok (.lconst 0, 1) := by decide +kernel
theorem dIm_holdsWord_2 : decode cIm_holdsWord 2 = .ok (.lcmp, 1) := by decide +kernel
theorem dIm_holdsWord_3 : decode cIm_holdsWord 3 = .ok (.ifCond .lt 19, 3) := by decide +kernel
theorem dIm_holdsWord_6 : decode cIm_holdsWord 6 = .ok (.lload_n 1, 1) := by decide +kernel
theorem dIm_holdsWord_7 : decode cIm_holdsWord 7 = .ok (.aload_n 0, 1) := by decide +kernel
theorem dIm_holdsWord_8 : decode cIm_holdsWord 8 = .ok (.getfield 15, 3) := by decide +kernel
theorem dIm_holdsWord_11 : decode cIm_holdsWord 11 = .ok (.iconst 4, 1) := by decide +kernel
theorem dIm_holdsWord_12 : decode cIm_holdsWord 12 = .ok (.isub, 1) := by decide +kernel
theorem dIm_holdsWord_13 : decode cIm_holdsWord 13 = .ok (.i2l, 1) := by decide +kernel
theorem dIm_holdsWord_14 : decode cIm_holdsWord 14 = .ok (.lcmp, 1) := by decide +kernel
theorem dIm_holdsWord_15 : decode cIm_holdsWord 15 = .ok (.ifCond .gt 7, 3) := by decide +kernel
theorem dIm_holdsWord_18 : decode cIm_holdsWord 18 = .ok (.iconst 1, 1) := by decide +kernel
theorem dIm_holdsWord_19 : decode cIm_holdsWord 19 = .ok (.goto 4, 3) := by decide +kernel
theorem dIm_holdsWord_22 : decode cIm_holdsWord 22 = .ok (.iconst 0, 1) := by decide +kernel
theorem dIm_holdsWord_23 : decode cIm_holdsWord 23 = .ok (.ireturn, 1) := by decide +kernel
abbrev yIm_sectionBegin : MethodName := ⟨"ImageForge$Image", "sectionBegin", "(I)I"⟩
abbrev cIm_sectionBegin : ByteArray := prog_2_method_13_code
abbrev wsIm_sectionBegin : List Cond := .code yIm_sectionBegin cIm_sectionBegin 2 (some .int) :: bw
theorem gdIm_sectionBegin : GoodIn bw wsIm_sectionBegin := gd_of tw_744
theorem hdIm_sectionBegin : yIm_sectionBegin.cls ≠ "java/lang/invoke/MethodHandle" ∧ yIm_sectionBegin.cls ≠ "java/lang/invoke/VarHandle" ∧ (parseMethodDescriptor yIm_sectionBegin.desc).map (fun d => d.parameters.length) = some 1 := by decide +kernel
theorem dIm_sectionBegin_0 : decode cIm_sectionBegin 0 = .ok (.aload_n 0, 1) := by decide +kernel
theorem dIm_sectionBegin_1 : decode cIm_sectionBegin 1 = .ok (.bipush 24, 2) := by decide +kernel
theorem dIm_sectionBegin_3 : decode cIm_sectionBegin 3 = .ok (.iload_n 1, 1) := by decide +kernel
theorem dIm_sectionBegin_4 : decode cIm_sectionBegin 4 = .ok (.bipush 8, 2) := by decide +kernel
theorem dIm_sectionBegin_6 : decode cIm_sectionBegin 6 = .ok (.imul, 1) := by decide +kernel
theorem dIm_sectionBegin_7 : decode cIm_sectionBegin 7 = .ok (.iadd, 1) := by decide +kernel
theorem dIm_sectionBegin_8 : decode cIm_sectionBegin 8 = .ok (.invokevirtual 31, 3) := by decide +kernel
theorem dIm_sectionBegin_11 : decode cIm_sectionBegin 11 = .ok (.ireturn, 1) := by decide +kernel
abbrev yIm_sectionSize : MethodName := ⟨"ImageForge$Image", "sectionSize", "(I)I"⟩
abbrev cIm_sectionSize : ByteArray := prog_2_method_14_code
abbrev wsIm_sectionSize : List Cond := .code yIm_sectionSize cIm_sectionSize 2 (some .int) :: bw
theorem gdIm_sectionSize : GoodIn bw wsIm_sectionSize := gd_of tw_748
theorem hdIm_sectionSize : yIm_sectionSize.cls ≠ "java/lang/invoke/MethodHandle" ∧ yIm_sectionSize.cls ≠ "java/lang/invoke/VarHandle" ∧ (parseMethodDescriptor yIm_sectionSize.desc).map (fun d => d.parameters.length) = some 1 := by decide +kernel
theorem dIm_sectionSize_0 : decode cIm_sectionSize 0 = .ok (.aload_n 0, 1) := by decide +kernel
theorem dIm_sectionSize_1 : decode cIm_sectionSize 1 = .ok (.bipush 24, 2) := by decide +kernel
theorem dIm_sectionSize_3 : decode cIm_sectionSize 3 = .ok (.iload_n 1, 1) := by decide +kernel
theorem dIm_sectionSize_4 : decode cIm_sectionSize 4 = .ok (.bipush 8, 2) := by decide +kernel
theorem dIm_sectionSize_6 : decode cIm_sectionSize 6 = .ok (.imul, 1) := by decide +kernel
theorem dIm_sectionSize_7 : decode cIm_sectionSize 7 = .ok (.iadd, 1) := by decide +kernel
theorem dIm_sectionSize_8 : decode cIm_sectionSize 8 = .ok (.iconst 4, 1) := by decide +kernel
theorem dIm_sectionSize_9 : decode cIm_sectionSize 9 = .ok (.iadd, 1) := by decide +kernel
theorem dIm_sectionSize_10 : decode cIm_sectionSize 10 = .ok (.invokevirtual 31, 3) := by decide +kernel
theorem dIm_sectionSize_13 : decode cIm_sectionSize 13 = .ok (.ireturn, 1) := by decide +kernel
abbrev yIm_setSection : MethodName := ⟨"ImageForge$Image", "setSection", "(III)V"⟩
abbrev cIm_setSection : ByteArray := prog_2_method_15_code
abbrev wsIm_setSection : List Cond := .code yIm_setSection cIm_setSection 4 none :: bw
theorem gdIm_setSection : GoodIn bw wsIm_setSection := gd_of tw_581
theorem hdIm_setSection : yIm_setSection.cls ≠ "java/lang/invoke/MethodHandle" ∧ yIm_setSection.cls ≠ "java/lang/invoke/VarHandle" ∧ (parseMethodDescriptor yIm_setSection.desc).map (fun d => d.parameters.length) = some 3 := by decide +kernel
theorem dIm_setSection_0 : decode cIm_setSection 0 = .ok (.aload_n 0, 1) := by decide +kernel
theorem dIm_setSection_1 : decode cIm_setSection 1 = .ok (.bipush 24, 2) := by decide +kernel
theorem dIm_setSection_3 : decode cIm_setSection 3 = .ok (.iload_n 1, 1) := by decide +kernel
theorem dIm_setSection_4 : decode cIm_setSection 4 = .ok (.bipush 8, 2) := by decide +kernel
theorem dIm_setSection_6 : decode cIm_setSection 6 = .ok (.imul, 1) := by decide +kernel
theorem dIm_setSection_7 : decode cIm_setSection 7 = .ok (.iadd, 1) := by decide +kernel
theorem dIm_setSection_8 : decode cIm_setSection 8 = .ok (.iload_n 2, 1) := by decide +kernel
theorem dIm_setSection_9 : decode cIm_setSection 9 = .ok (.invokevirtual 35, 3) := by decide +kernel
theorem dIm_setSection_12 : decode cIm_setSection 12 = .ok (.aload_n 0, 1) := by decide +kernel
theorem dIm_setSection_13 : decode cIm_setSection 13 = .ok (.bipush 24, 2) := by decide +kernel
theorem dIm_setSection_15 : decode cIm_setSection 15 = .ok (.iload_n 1, 1) := by decide +kernel
theorem dIm_setSection_16 : decode cIm_setSection 16 = .ok (.bipush 8, 2) := by decide +kernel
theorem dIm_setSection_18 : decode cIm_setSection 18 = .ok (.imul, 1) := by decide +kernel
theorem dIm_setSection_19 : decode cIm_setSection 19 = .ok (.iadd, 1) := by decide +kernel
theorem dIm_setSection_20 : decode cIm_setSection 20 = .ok (.iconst 4, 1) := by decide +kernel
theorem dIm_setSection_21 : decode cIm_setSection 21 = .ok (.iadd, 1) := by decide +kernel
theorem dIm_setSection_22 : decode cIm_setSection 22 = .ok (.iload_n 3, 1) := by decide +kernel
theorem dIm_setSection_23 : decode cIm_setSection 23 = .ok (.invokevirtual 35, 3) := by decide +kernel
theorem dIm_setSection_26 : decode cIm_setSection 26 = .ok (.return_, 1) := by decide +kernel
abbrev yIm_holdsSection : MethodName := ⟨"ImageForge$Image", "holdsSection", "(I)Z"⟩
abbrev cIm_holdsSection : ByteArray := prog_2_method_16_code
abbrev wsIm_holdsSection : List Cond := .code yIm_holdsSection cIm_holdsSection 4 (some .boolean) :: bw
theorem gdIm_holdsSection : GoodIn bw wsIm_holdsSection := gd_of tw_740
theorem hdIm_holdsSection : yIm_holdsSection.cls ≠ "java/lang/invoke/MethodHandle" ∧ yIm_holdsSection.cls ≠ "java/lang/invoke/VarHandle" ∧ (parseMethodDescriptor yIm_holdsSection.desc).map (fun d => d.parameters.length) = some 1 := by decide +kernel
theorem dIm_holdsSection_0 : decode cIm_holdsSection 0 = .ok (.aload_n 0, 1) := by decide +kernel
theorem dIm_holdsSection_1 : decode cIm_holdsSection 1 = .ok (.iload_n 1, 1) := by decide +kernel
theorem dIm_holdsSection_2 : decode cIm_holdsSection 2 = .ok (.invokevirtual 39, 3) := by decide +kernel
theorem dIm_holdsSection_5 : decode cIm_holdsSection 5 = .ok (.istore_n 2, 1) := by decide +kernel
theorem dIm_holdsSection_6 : decode cIm_holdsSection 6 = .ok (.aload_n 0, 1) := by decide +kernel
theorem dIm_holdsSection_7 : decode cIm_holdsSection 7 = .ok (.iload_n 1, 1) := by decide +kernel
theorem dIm_holdsSection_8 : decode cIm_holdsSection 8 = .ok (.invokevirtual 42, 3) := by decide +kernel
theorem dIm_holdsSection_11 : decode cIm_holdsSection 11 = .ok (.istore_n 3, 1) := by decide +kernel
theorem dIm_holdsSection_12 : decode cIm_holdsSection 12 = .ok (.iload_n 2, 1) := by decide +kernel
theorem dIm_holdsSection_13 : decode cIm_holdsSection 13 = .ok (.ifCond .lt 25, 3) := by decide +kernel
theorem dIm_holdsSection_16 : decode cIm_holdsSection 16 = .ok (.iload_n 3, 1) := by decide +kernel
theorem dIm_holdsSection_17 : decode cIm_holdsSection 17 = .ok (.ifCond .lt 21, 3) := by decide +kernel
theorem dIm_holdsSection_20 : decode cIm_holdsSection 20 = .ok (.iload_n 2, 1) := by decide +kernel
theorem dIm_holdsSection_21 : decode cIm_holdsSection 21 = .ok (.i2l, 1) := by decide +kernel
theorem dIm_holdsSection_22 : decode cIm_holdsSection 22 = .ok (.iload_n 3, 1) := by decide +kernel
theorem dIm_holdsSection_23 : decode cIm_holdsSection 23 = .ok (.i2l, 1) := by decide +kernel
theorem dIm_holdsSection_24 : decode cIm_holdsSection 24 = .ok (.ladd, 1) := by decide +kernel
theorem dIm_holdsSection_25 : decode cIm_holdsSection 25 = .ok (.aload_n 0, 1) := by decide +kernel
theorem dIm_holdsSection_26 : decode cIm_holdsSection 26 = .ok (.getfield 15, 3) := by decide +kernel
theorem dIm_holdsSection_29 : decode cIm_holdsSection 29 = .ok (.i2l, 1) := by decide +kernel
theorem dIm_holdsSection_30 : decode cIm_holdsSection 30 = .ok (.lcmp, 1) := by decide +kernel
theorem dIm_holdsSection_31 : decode cIm_holdsSection 31 = .ok (.ifCond .gt 7, 3) := by decide +kernel
theorem dIm_holdsSection_34 : decode cIm_holdsSection 34 = .ok (.iconst 1, 1) := by decide +kernel
theorem dIm_holdsSection_35 : decode cIm_holdsSection 35 = .ok (.goto 4, 3) := by decide +kernel
theorem dIm_holdsSection_38 : decode cIm_holdsSection 38 = .ok (.iconst 0, 1) := by decide +kernel
theorem dIm_holdsSection_39 : decode cIm_holdsSection 39 = .ok (.ireturn, 1) := by decide +kernel
abbrev yIm_checksum : MethodName := ⟨"ImageForge$Image", "checksum", "()I"⟩
abbrev cIm_checksum : ByteArray := prog_2_method_17_code
abbrev wsIm_checksum : List Cond := .code yIm_checksum cIm_checksum 3 (some .int) :: bw
theorem gdIm_checksum : GoodIn bw wsIm_checksum := gd_of tw_658
theorem hdIm_checksum : yIm_checksum.cls ≠ "java/lang/invoke/MethodHandle" ∧ yIm_checksum.cls ≠ "java/lang/invoke/VarHandle" ∧ (parseMethodDescriptor yIm_checksum.desc).map (fun d => d.parameters.length) = some 0 := by decide +kernel
theorem dIm_checksum_0 : decode cIm_checksum 0 = .ok (.iconst 0, 1) := by decide +kernel
theorem dIm_checksum_1 : decode cIm_checksum 1 = .ok (.istore_n 1, 1) := by decide +kernel
theorem dIm_checksum_2 : decode cIm_checksum 2 = .ok (.iconst 0, 1) := by decide +kernel
theorem dIm_checksum_3 : decode cIm_checksum 3 = .ok (.istore_n 2, 1) := by decide +kernel
theorem dIm_checksum_4 : decode cIm_checksum 4 = .ok (.iload_n 2, 1) := by decide +kernel
theorem dIm_checksum_5 : decode cIm_checksum 5 = .ok (.aload_n 0, 1) := by decide +kernel
theorem dIm_checksum_6 : decode cIm_checksum 6 = .ok (.getfield 15, 3) := by decide +kernel
theorem dIm_checksum_9 : decode cIm_checksum 9 = .ok (.if_icmp .ge 39, 3) := by decide +kernel
theorem dIm_checksum_12 : decode cIm_checksum 12 = .ok (.iload_n 2, 1) := by decide +kernel
theorem dIm_checksum_13 : decode cIm_checksum 13 = .ok (.bipush 20, 2) := by decide +kernel
theorem dIm_checksum_15 : decode cIm_checksum 15 = .ok (.if_icmp .lt 9, 3) := by decide +kernel
theorem dIm_checksum_18 : decode cIm_checksum 18 = .ok (.iload_n 2, 1) := by decide +kernel
theorem dIm_checksum_19 : decode cIm_checksum 19 = .ok (.bipush 24, 2) := by decide +kernel
theorem dIm_checksum_21 : decode cIm_checksum 21 = .ok (.if_icmp .lt 21, 3) := by decide +kernel
theorem dIm_checksum_24 : decode cIm_checksum 24 = .ok (.iload_n 1, 1) := by decide +kernel
theorem dIm_checksum_25 : decode cIm_checksum 25 = .ok (.aload_n 0, 1) := by decide +kernel
theorem dIm_checksum_26 : decode cIm_checksum 26 = .ok (.iload_n 2, 1) := by decide +kernel
theorem dIm_checksum_27 : decode cIm_checksum 27 = .ok (.invokevirtual 45, 3) := by decide +kernel
theorem dIm_checksum_30 : decode cIm_checksum 30 = .ok (.iadd, 1) := by decide +kernel
theorem dIm_checksum_31 : decode cIm_checksum 31 = .ok (.istore_n 1, 1) := by decide +kernel
theorem dIm_checksum_32 : decode cIm_checksum 32 = .ok (.iload_n 1, 1) := by decide +kernel
theorem dIm_checksum_33 : decode cIm_checksum 33 = .ok (.ldc 48, 2) := by decide +kernel
theorem dIm_checksum_35 : decode cIm_checksum 35 = .ok (.iand, 1) := by decide +kernel
theorem dIm_checksum_36 : decode cIm_checksum 36 = .ok (.iload_n 1, 1) := by decide +kernel
theorem dIm_checksum_37 : decode cIm_checksum 37 = .ok (.bipush 16, 2) := by decide +kernel
theorem dIm_checksum_39 : decode cIm_checksum 39 = .ok (.ishr, 1) := by decide +kernel
theorem dIm_checksum_40 : decode cIm_checksum 40 = .ok (.iadd, 1) := by decide +kernel
theorem dIm_checksum_41 : decode cIm_checksum 41 = .ok (.istore_n 1, 1) := by decide +kernel
theorem dIm_checksum_42 : decode cIm_checksum 42 = .ok (.iinc 2 2, 3) := by decide +kernel
theorem dIm_checksum_45 : decode cIm_checksum 45 = .ok (.goto (-41), 3) := by decide +kernel
theorem dIm_checksum_48 : decode cIm_checksum 48 = .ok (.iload_n 1, 1) := by decide +kernel
theorem dIm_checksum_49 : decode cIm_checksum 49 = .ok (.aload_n 0, 1) := by decide +kernel
theorem dIm_checksum_50 : decode cIm_checksum 50 = .ok (.getfield 15, 3) := by decide +kernel
theorem dIm_checksum_53 : decode cIm_checksum 53 = .ok (.iadd, 1) := by decide +kernel
theorem dIm_checksum_54 : decode cIm_checksum 54 = .ok (.ireturn, 1) := by decide +kernel
section
variable {p : Program} {l : Launch} {e : Env} {s : State} {m : MethodId} {args : Array Value} {below : List Frame} {meth : Method} {c : Code} {D : va_G} {cA : Nat → ClassId} {ad : Nat → Nat} {L : List Nat} {rs : va_W} {al : Nat → Bool} {A : Nat → Prop}
abbrev rm_Ar_fill : Room := { frames := 0, cells := 0, slots := 0, locals := 0 }
def bk_Ar_fill_5 (F : Nat) (al : Nat → Bool) : Nat → Mr → Nat → Int32 → Int32 → Int32 → Option (Mr × Int32)
  | 0, _, _, _, _, _ => none
  | n + 1, u, x0, x1, x2, x3 => if x3 ≤ x2 then (some (u, 0)) else (ck (inb x2 896) (bk_Ar_fill_5 F al n (stI u x0 x2 (x1.toInt8.toInt32)) x0 x1 (x2 + (1 : Int32)) x3))
set_option maxHeartbeats 4000000 in
set_option maxRecDepth 100000 in
theorem wk_Ar_fill_5 (cx : Cx p l e s m args below meth c cAr_fill 4 bw "java/util/Arrays" none D cA ad L rs al A) (F : Nat) (out : Mr × Int32) : ∀ n : Nat, ∀ (u : Mr) (x0 : Nat) (x1 : Int32) (x2 : Int32) (x3 : Int32), bk_Ar_fill_5 F al n u x0 x1 x2 x3 = some out → okk al 7 x0 = true → Wb p l e rm_Ar_fill s m args below meth c D cA ad L rs A (QV below args s D cA ad L rs A out) 4 5 [(0, .ref (ad x0)), (1, .int x1), (2, .int x2), (3, .int x3)] [] u := by
  obtain ⟨hx, hb, hml, hown, hts, hr, hlocks, hK, hA, hD, hN, hal, hNx⟩ := cx
  intro n
  induction n with
  | zero =>
    intro u x0 x1 x2 x3 h
    cases h
  | succ n ih =>
    intro u x0 x1 x2 x3 h q0 H locs ls hl hP hS
    rw [bk_Ar_fill_5] at h
    refine lv_iload_n hx hb dAr_fill_5 rfl (lv_at hl 2 rfl) ?_
    refine lv_iload_n hx hb dAr_fill_6 rfl (lv_at hl 3 rfl) ?_
    refine lv_icmp_ge (tgt := 20) hx hb dAr_fill_7 rfl (fun hc => ?_) (fun hc => ?_)
    · replace h := it_t h hc
      exact x_vret hx hb hr hlocks h hP hS dAr_fill_20
    · replace h := it_f h hc
      refine lv_aload_n hx hb dAr_fill_10 rfl (lv_at hl 0 rfl) ?_
      refine lv_iload_n hx hb dAr_fill_11 rfl (lv_at hl 2 rfl) ?_
      refine lv_iload_n hx hb dAr_fill_12 rfl (lv_at hl 1 rfl) ?_
      obtain ⟨hi1, h⟩ := ck_some h
      refine x_bast hx hb hK hD hN hP hS (hal _ (okk_al q0)) (okk_t q0) 1 (fun _ _ _ => rfl) rfl (by decide) (inb_in hi1) dAr_fill_13 (fun H locs hP hS => ?_)
      refine lv_iinc (k := 2) (v := x2 + (1 : Int32)) (lv' := [(2, .int (x2 + (1 : Int32))), (0, .ref (ad x0)), (1, .int x1), (3, .int x3)]) hx hb dAr_fill_14 hl rfl (congrArg (fun z => _ + z) (show Int32.ofInt 1 = 1 by decide)) (by decide) rfl (fun ls hl => ?_)
      refine lv_goto (tgt := 5) hx hb dAr_fill_17 rfl ?_
      exact ih (stI u x0 x2 (x1.toInt8.toInt32)) x0 x1 (x2 + (1 : Int32)) x3 h q0 _ _ _ (lv_sub hl [1, 2, 0, 3] rfl) hP hS
def bk_Ar_fill_0 (F : Nat) (al : Nat → Bool) (u : Mr) (x0 : Nat) (x1 : Int32) : Option (Mr × Int32) := bk_Ar_fill_5 F al F u x0 x1 (0 : Int32) (896 : Int32)
set_option maxHeartbeats 4000000 in
set_option maxRecDepth 100000 in
theorem wk_Ar_fill_0 (cx : Cx p l e s m args below meth c cAr_fill 4 bw "java/util/Arrays" none D cA ad L rs al A) (F : Nat) (out : Mr × Int32) : ∀ (u : Mr) (x0 : Nat) (x1 : Int32), bk_Ar_fill_0 F al u x0 x1 = some out → okk al 7 x0 = true → Wb p l e rm_Ar_fill s m args below meth c D cA ad L rs A (QV below args s D cA ad L rs A out) 4 0 [(0, .ref (ad x0)), (1, .int x1)] [] u := by
  obtain ⟨hx, hb, hml, hown, hts, hr, hlocks, hK, hA, hD, hN, hal, hNx⟩ := cx
  intro u x0 x1 h q0 H locs ls hl hP hS
  unfold bk_Ar_fill_0 at h
  refine lv_iconst (v := 0) hx hb dAr_fill_0 (by decide) ?_
  refine lv_istore_n (lv' := [(2, .int (0 : Int32)), (0, .ref (ad x0)), (1, .int x1)]) hx hb dAr_fill_1 rfl hl (by decide) rfl (fun ls hl => ?_)
  refine lv_aload_n hx hb dAr_fill_2 rfl (lv_at hl 1 rfl) ?_
  refine x_alen hx hb hK hP (hal _ (okk_al q0)) (okk_t q0) 1 rfl rfl rfl (v := 896) rfl dAr_fill_3 ?_
  refine lv_istore_n (lv' := [(3, .int (896 : Int32)), (2, .int (0 : Int32)), (0, .ref (ad x0)), (1, .int x1)]) hx hb dAr_fill_4 rfl hl (by decide) rfl (fun ls hl => ?_)
  exact wk_Ar_fill_5 ⟨hx, hb, hml, hown, hts, hr, hlocks, hK, hA, hD, hN, hal, hNx⟩ F out F u x0 x1 (0 : Int32) (896 : Int32) h q0 _ _ _ (lv_sub hl [2, 3, 1, 0] rfl) hP hS
def fn_Ar_fill (F : Nat) (al : Nat → Bool) (u : Mr) (x0 : Nat) (x1 : Int32) : Option (Mr × Int32) := bk_Ar_fill_0 F al u x0 x1
set_option maxHeartbeats 4000000 in
set_option maxRecDepth 100000 in
theorem ct_Ar_fill {l : Launch} {D : va_G} {cA : Nat → ClassId} {ad : Nat → Nat} {L : List Nat} {rs : va_W} {al : Nat → Bool} (hal : ∀ k, al k = true → k ∈ L) (hN : L.Nodup) (F : Nat) (u : Mr) (x0 : Nat) (x1 : Int32) (out : Mr × Int32) (h : fn_Ar_fill F al u x0 x1 = some out) (q0 : okk al 7 x0 = true) : CtV l yAr_fill wsAr_fill rm_Ar_fill [.ref (ad x0), .int x1] D cA ad L rs u out := by
  intro sz
  refine Met.ofW (cc := cAr_fill) (maxL := 4) (ret := none) (by decide) rfl ?_
  intro p e s m args below meth c s₁ B hml hv
  obtain ⟨rfl, hsz, hP, hK, hD0, hNx⟩ := hv
  subst hsz
  have hD := hD0.self (sz := s.heap.size)
  generalize hAe : va_A (ww ad cA L rs u) s.heap.size = A at hD ⊢
  have hA : ∀ q, s.heap.size ≤ q → A q := fun q h => by rw [← hAe]; exact Or.inr h
  have hl := lv_entry ([.ref (ad x0), .int x1]) (n := 4) (Nat.le_of_ble_eq_true rfl)
  rw [lg_entry_eq]
  generalize (lg_sl ([.ref (ad x0), .int x1]) ++ List.replicate (4 - (lg_sl ([.ref (ad x0), .int x1])).length) Slot.unset).toArray = ls at hl ⊢
  exact wk_Ar_fill_0 ⟨B.exec, B.bytes, hml, findClass_of_methodNamed B.named, hts_bw (atoms_spec (ws := wsAr_fill) B.pre), B.returns, B.notSynchronized, hK, hA, fun v => ww_D hD, hN, hal, hNx⟩ F out u x0 x1 h q0 _ _ _ (lv_sub hl [0, 1] rfl) hP va_S.rf
abbrev rm_Im_isNone : Room := { frames := 0, cells := 0, slots := 0, locals := 0 }
def bk_Im_isNone_0 (F : Nat) (al : Nat → Bool) (u : Mr) (x0 : Nat) : Option (Mr × Int32) := if (u.1 x0 1) = 0 then (some (u, (1 : Int32))) else (some (u, (0 : Int32)))
set_option maxHeartbeats 4000000 in
set_option maxRecDepth 100000 in
theorem wk_Im_isNone_0 (cx : Cx p l e s m args below meth c cIm_isNone 1 bw "ImageForge$Image" (some .boolean) D cA ad L rs al A) (F : Nat) (out : Mr × Int32) : ∀ (u : Mr) (x0 : Nat), bk_Im_isNone_0 F al u x0 = some out → okk al 6 x0 = true → Wb p l e rm_Im_isNone s m args below meth c D cA ad L rs A (QI below args s D cA ad L rs A out) 1 0 [(0, .ref (ad x0))] [] u := by
  obtain ⟨hx, hb, hml, hown, hts, hr, hlocks, hK, hA, hD, hN, hal, hNx⟩ := cx
  intro u x0 h q0 H locs ls hl hP hS
  unfold bk_Im_isNone_0 at h
  refine lv_aload_n hx hb dIm_isNone_0 rfl (lv_at hl 0 rfl) ?_
  refine x_get hx hb hts in_Im hown hK hP (hal _ (okk_al q0)) (okk_t q0) rfl rfl 1 (by decide) (hts _ tw_49) (fun _ h9 => h9) rfl dIm_isNone_1 ?_
  refine lv_if_ne (tgt := 11) hx hb dIm_isNone_4 rfl (fun hc => ?_) (fun hc => ?_)
  · replace h := it_f h hc
    refine lv_iconst (v := 0) hx hb dIm_isNone_11 (by decide) ?_
    exact x_zret hx hb hr hlocks rfl h hP hS dIm_isNone_12
  · replace h := it_t h hc
    refine lv_iconst (v := 1) hx hb dIm_isNone_7 (by decide) ?_
    refine lv_goto (tgt := 12) hx hb dIm_isNone_8 rfl ?_
    exact x_zret hx hb hr hlocks rfl h hP hS dIm_isNone_12
def fn_Im_isNone (F : Nat) (al : Nat → Bool) (u : Mr) (x0 : Nat) : Option (Mr × Int32) := bk_Im_isNone_0 F al u x0
set_option maxHeartbeats 4000000 in
set_option maxRecDepth 100000 in
theorem ct_Im_isNone {l : Launch} {D : va_G} {cA : Nat → ClassId} {ad : Nat → Nat} {L : List Nat} {rs : va_W} {al : Nat → Bool} (hal : ∀ k, al k = true → k ∈ L) (hN : L.Nodup) (F : Nat) (u : Mr) (x0 : Nat) (out : Mr × Int32) (h : fn_Im_isNone F al u x0 = some out) (q0 : okk al 6 x0 = true) : CtI l yIm_isNone wsIm_isNone rm_Im_isNone [.ref (ad x0)] D cA ad L rs u out := by
  intro sz
  refine Met.ofW (cc := cIm_isNone) (maxL := 1) (ret := (some .boolean)) (by decide) rfl ?_
  intro p e s m args below meth c s₁ B hml hv
  obtain ⟨rfl, hsz, hP, hK, hD0, hNx⟩ := hv
  subst hsz
  have hD := hD0.self (sz := s.heap.size)
  generalize hAe : va_A (ww ad cA L rs u) s.heap.size = A at hD ⊢
  have hA : ∀ q, s.heap.size ≤ q → A q := fun q h => by rw [← hAe]; exact Or.inr h
  have hl := lv_entry ([.ref (ad x0)]) (n := 1) (Nat.le_of_ble_eq_true rfl)
  rw [lg_entry_eq]
  generalize (lg_sl ([.ref (ad x0)]) ++ List.replicate (1 - (lg_sl ([.ref (ad x0)])).length) Slot.unset).toArray = ls at hl ⊢
  exact wk_Im_isNone_0 ⟨B.exec, B.bytes, hml, findClass_of_methodNamed B.named, hts_bw (atoms_spec (ws := wsIm_isNone) B.pre), B.returns, B.notSynchronized, hK, hA, fun v => ww_D hD, hN, hal, hNx⟩ F out u x0 h q0 _ _ _ (lv_sub hl [0] rfl) hP va_S.rf
abbrev rm_Im_clear : Room := { frames := 1, cells := 0, slots := 0, locals := 23 }
def bk_Im_clear_0 (F : Nat) (al : Nat → Bool) (u : Mr) (x0 : Nat) : Option (Mr × Int32) := bd1 (rdR al u x0 0 7) fun y1 => (bd2 (fn_Ar_fill F al u y1 (0 : Int32)) fun u3 v3 => (some (u3, 0)))
set_option maxHeartbeats 4000000 in
set_option maxRecDepth 100000 in
theorem wk_Im_clear_0 (cx : Cx p l e s m args below meth c cIm_clear 1 bw "ImageForge$Image" none D cA ad L rs al A) (F : Nat) (out : Mr × Int32) : ∀ (u : Mr) (x0 : Nat), bk_Im_clear_0 F al u x0 = some out → okk al 6 x0 = true → Wb p l e rm_Im_clear s m args below meth c D cA ad L rs A (QV below args s D cA ad L rs A out) 1 0 [(0, .ref (ad x0))] [] u := by
  obtain ⟨hx, hb, hml, hown, hts, hr, hlocks, hK, hA, hD, hN, hal, hNx⟩ := cx
  intro u x0 h q0 H locs ls hl hP hS
  unfold bk_Im_clear_0 at h
  refine lv_aload_n hx hb dIm_clear_0 rfl (lv_at hl 0 rfl) ?_
  obtain ⟨y1, hy2, h⟩ := bd1_some h
  obtain ⟨hy2a, hy2⟩ := rdR_some hy2
  refine x_get hx hb hts in_Im hown hK hP (hal _ (okk_al q0)) (okk_t q0) rfl rfl 0 (by decide) (hts _ tw_47) (fun _ h9 => h9) (congrArg some (x_rf hy2a)) dIm_clear_1 ?_
  refine lv_iconst (v := 0) hx hb dIm_clear_4 (by decide) ?_
  obtain ⟨u3, v3, hc3, h⟩ := bd2_some h
  refine x_cv (u := u) (out := (u3, v3)) hA hD hS (va_runS (As := [.ref (ad y1), .int (0 : Int32)]) (rest := []) ⟨hx, hb, hml, hown, hts⟩ (ct_Ar_fill hal hN F u y1 (0 : Int32) (u3, v3) hc3 hy2 _) ⟨callB_of 2 hts gdAr_fill rfl rfl rfl (hts _ tw_23) (hts _ tw_563) hdAr_fill ⟨Nat.le_of_ble_eq_true rfl, Nat.le_of_ble_eq_true rfl⟩, (hts _ tw_564)⟩ (x_preS hK hD hNx hP) rfl rfl hl.1 rfl (lv_room (Nat.le_of_ble_eq_true rfl)) dIm_clear_5 ⟨Nat.zero_le _, Nat.zero_le _⟩) (fun H locs hP hS => ?_)
  exact x_vret hx hb hr hlocks h hP hS dIm_clear_8
def fn_Im_clear (F : Nat) (al : Nat → Bool) (u : Mr) (x0 : Nat) : Option (Mr × Int32) := bk_Im_clear_0 F al u x0
set_option maxHeartbeats 4000000 in
set_option maxRecDepth 100000 in
theorem ct_Im_clear {l : Launch} {D : va_G} {cA : Nat → ClassId} {ad : Nat → Nat} {L : List Nat} {rs : va_W} {al : Nat → Bool} (hal : ∀ k, al k = true → k ∈ L) (hN : L.Nodup) (F : Nat) (u : Mr) (x0 : Nat) (out : Mr × Int32) (h : fn_Im_clear F al u x0 = some out) (q0 : okk al 6 x0 = true) : CtV l yIm_clear wsIm_clear rm_Im_clear [.ref (ad x0)] D cA ad L rs u out := by
  intro sz
  refine Met.ofW (cc := cIm_clear) (maxL := 1) (ret := none) (by decide) rfl ?_
  intro p e s m args below meth c s₁ B hml hv
  obtain ⟨rfl, hsz, hP, hK, hD0, hNx⟩ := hv
  subst hsz
  have hD := hD0.self (sz := s.heap.size)
  generalize hAe : va_A (ww ad cA L rs u) s.heap.size = A at hD ⊢
  have hA : ∀ q, s.heap.size ≤ q → A q := fun q h => by rw [← hAe]; exact Or.inr h
  have hl := lv_entry ([.ref (ad x0)]) (n := 1) (Nat.le_of_ble_eq_true rfl)
  rw [lg_entry_eq]
  generalize (lg_sl ([.ref (ad x0)]) ++ List.replicate (1 - (lg_sl ([.ref (ad x0)])).length) Slot.unset).toArray = ls at hl ⊢
  exact wk_Im_clear_0 ⟨B.exec, B.bytes, hml, findClass_of_methodNamed B.named, hts_bw (atoms_spec (ws := wsIm_clear) B.pre), B.returns, B.notSynchronized, hK, hA, fun v => ww_D hD, hN, hal, hNx⟩ F out u x0 h q0 _ _ _ (lv_sub hl [0] rfl) hP va_S.rf
abbrev rm_Im_copyFrom : Room := { frames := 1, cells := 0, slots := 0, locals := 30 }
def bk_Im_copyFrom_0 (F : Nat) (al : Nat → Bool) (u : Mr) (x0 : Nat) (x1 : Nat) : Option (Mr × Int32) := bd1 (rdR al u x1 0 7) fun y1 => (bd1 (rdR al u x0 0 7) fun y3 => (ck (cpk u y1 896 (0 : Int32) 896 (0 : Int32) (u.1 x1 1)) (some (stI (cpI u y1 (0 : Int32) y3 (0 : Int32) (u.1 x1 1)) x0 1 ((cpI u y1 (0 : Int32) y3 (0 : Int32) (u.1 x1 1)).1 x1 1), 0))))
set_option maxHeartbeats 4000000 in
set_option maxRecDepth 100000 in
theorem wk_Im_copyFrom_0 (cx : Cx p l e s m args below meth c cIm_copyFrom 2 bw "ImageForge$Image" none D cA ad L rs al A) (F : Nat) (out : Mr × Int32) : ∀ (u : Mr) (x0 : Nat) (x1 : Nat), bk_Im_copyFrom_0 F al u x0 x1 = some out → okk al 6 x0 = true → okk al 6 x1 = true → Wb p l e rm_Im_copyFrom s m args below meth c D cA ad L rs A (QV below args s D cA ad L rs A out) 2 0 [(0, .ref (ad x0)), (1, .ref (ad x1))] [] u := by
  obtain ⟨hx, hb, hml, hown, hts, hr, hlocks, hK, hA, hD, hN, hal, hNx⟩ := cx
  intro u x0 x1 h q0 q1 H locs ls hl hP hS
  unfold bk_Im_copyFrom_0 at h
  refine lv_aload_n hx hb dIm_copyFrom_0 rfl (lv_at hl 1 rfl) ?_
  obtain ⟨y1, hy2, h⟩ := bd1_some h
  obtain ⟨hy2a, hy2⟩ := rdR_some hy2
  refine x_get hx hb hts in_Im hown hK hP (hal _ (okk_al q1)) (okk_t q1) rfl rfl 0 (by decide) (hts _ tw_47) (fun _ h9 => h9) (congrArg some (x_rf hy2a)) dIm_copyFrom_1 ?_
  refine lv_iconst (v := 0) hx hb dIm_copyFrom_4 (by decide) ?_
  refine lv_aload_n hx hb dIm_copyFrom_5 rfl (lv_at hl 0 rfl) ?_
  obtain ⟨y3, hy4, h⟩ := bd1_some h
  obtain ⟨hy4a, hy4⟩ := rdR_some hy4
  refine x_get hx hb hts in_Im hown hK hP (hal _ (okk_al q0)) (okk_t q0) rfl rfl 0 (by decide) (hts _ tw_47) (fun _ h9 => h9) (congrArg some (x_rf hy4a)) dIm_copyFrom_6 ?_
  refine lv_iconst (v := 0) hx hb dIm_copyFrom_9 (by decide) ?_
  refine lv_aload_n hx hb dIm_copyFrom_10 rfl (lv_at hl 1 rfl) ?_
  refine x_get hx hb hts in_Im hown hK hP (hal _ (okk_al q1)) (okk_t q1) rfl rfl 1 (by decide) (hts _ tw_49) (fun _ h9 => h9) rfl dIm_copyFrom_11 ?_
  obtain ⟨hy5, h⟩ := ck_some h
  refine x_copy hx hb (by rw [hml]; exact hl.1.symm) hown (hts _ tw_723) (hts _ tw_483) (hts _ tw_482) (hts _ tw_24) hK hD hN hP hS (hal _ (okk_al hy2)) (okk_t hy2) (fun _ _ _ => rfl) (hal _ (okk_al hy4)) (okk_t hy4) (fun _ _ _ => rfl) (by decide) hy5 (by decide) (by decide) dIm_copyFrom_14 (fun H locs hP hS => ?_)
  refine lv_aload_n hx hb dIm_copyFrom_17 rfl (lv_at hl 0 rfl) ?_
  refine lv_aload_n hx hb dIm_copyFrom_18 rfl (lv_at hl 1 rfl) ?_
  refine x_get hx hb hts in_Im hown hK hP (hal _ (okk_al q1)) (okk_t q1) rfl rfl 1 (by decide) (hts _ tw_49) (fun _ h9 => h9) rfl dIm_copyFrom_19 ?_
  refine x_put hx hb hts in_Im t_Im t_Im_ok nm_Im hown hK hD hN hP hS (hal _ (okk_al q0)) (okk_t q0) rfl rfl 1 (by decide) (hts _ tw_49) (fun _ h9 => h9) rfl (ty := .int) (by decide +kernel) rfl rfl (Nat.le_of_ble_eq_true rfl) (stI (cpI u y1 (0 : Int32) y3 (0 : Int32) (u.1 x1 1)) x0 1 ((cpI u y1 (0 : Int32) y3 (0 : Int32) (u.1 x1 1)).1 x1 1)) stI_o (by rw [stI_up]; exact eg_6_1) dIm_copyFrom_22 (fun H locs hP hS => ?_)
  exact x_vret hx hb hr hlocks h hP hS dIm_copyFrom_25
def fn_Im_copyFrom (F : Nat) (al : Nat → Bool) (u : Mr) (x0 : Nat) (x1 : Nat) : Option (Mr × Int32) := bk_Im_copyFrom_0 F al u x0 x1
set_option maxHeartbeats 4000000 in
set_option maxRecDepth 100000 in
theorem ct_Im_copyFrom {l : Launch} {D : va_G} {cA : Nat → ClassId} {ad : Nat → Nat} {L : List Nat} {rs : va_W} {al : Nat → Bool} (hal : ∀ k, al k = true → k ∈ L) (hN : L.Nodup) (F : Nat) (u : Mr) (x0 : Nat) (x1 : Nat) (out : Mr × Int32) (h : fn_Im_copyFrom F al u x0 x1 = some out) (q0 : okk al 6 x0 = true) (q1 : okk al 6 x1 = true) : CtV l yIm_copyFrom wsIm_copyFrom rm_Im_copyFrom [.ref (ad x0), .ref (ad x1)] D cA ad L rs u out := by
  intro sz
  refine Met.ofW (cc := cIm_copyFrom) (maxL := 2) (ret := none) (by decide) rfl ?_
  intro p e s m args below meth c s₁ B hml hv
  obtain ⟨rfl, hsz, hP, hK, hD0, hNx⟩ := hv
  subst hsz
  have hD := hD0.self (sz := s.heap.size)
  generalize hAe : va_A (ww ad cA L rs u) s.heap.size = A at hD ⊢
  have hA : ∀ q, s.heap.size ≤ q → A q := fun q h => by rw [← hAe]; exact Or.inr h
  have hl := lv_entry ([.ref (ad x0), .ref (ad x1)]) (n := 2) (Nat.le_of_ble_eq_true rfl)
  rw [lg_entry_eq]
  generalize (lg_sl ([.ref (ad x0), .ref (ad x1)]) ++ List.replicate (2 - (lg_sl ([.ref (ad x0), .ref (ad x1)])).length) Slot.unset).toArray = ls at hl ⊢
  exact wk_Im_copyFrom_0 ⟨B.exec, B.bytes, hml, findClass_of_methodNamed B.named, hts_bw (atoms_spec (ws := wsIm_copyFrom) B.pre), B.returns, B.notSynchronized, hK, hA, fun v => ww_D hD, hN, hal, hNx⟩ F out u x0 x1 h q0 q1 _ _ _ (lv_sub hl [0, 1] rfl) hP va_S.rf
abbrev rm_Im_byteAt : Room := { frames := 0, cells := 0, slots := 0, locals := 0 }
def bk_Im_byteAt_0 (F : Nat) (al : Nat → Bool) (u : Mr) (x0 : Nat) (x1 : Int32) : Option (Mr × Int32) := bd1 (rdR al u x0 0 7) fun y1 => (ck (inb x1 896) (some (u, (u.1 y1 x1) &&& (255 : Int32))))
set_option maxHeartbeats 4000000 in
set_option maxRecDepth 100000 in
theorem wk_Im_byteAt_0 (cx : Cx p l e s m args below meth c cIm_byteAt 2 bw "ImageForge$Image" (some .int) D cA ad L rs al A) (F : Nat) (out : Mr × Int32) : ∀ (u : Mr) (x0 : Nat) (x1 : Int32), bk_Im_byteAt_0 F al u x0 x1 = some out → okk al 6 x0 = true → Wb p l e rm_Im_byteAt s m args below meth c D cA ad L rs A (QI below args s D cA ad L rs A out) 2 0 [(0, .ref (ad x0)), (1, .int x1)] [] u := by
  obtain ⟨hx, hb, hml, hown, hts, hr, hlocks, hK, hA, hD, hN, hal, hNx⟩ := cx
  intro u x0 x1 h q0 H locs ls hl hP hS
  unfold bk_Im_byteAt_0 at h
  refine lv_aload_n hx hb dIm_byteAt_0 rfl (lv_at hl 0 rfl) ?_
  obtain ⟨y1, hy2, h⟩ := bd1_some h
  obtain ⟨hy2a, hy2⟩ := rdR_some hy2
  refine x_get hx hb hts in_Im hown hK hP (hal _ (okk_al q0)) (okk_t q0) rfl rfl 0 (by decide) (hts _ tw_47) (fun _ h9 => h9) (congrArg some (x_rf hy2a)) dIm_byteAt_1 ?_
  refine lv_iload_n hx hb dIm_byteAt_4 rfl (lv_at hl 1 rfl) ?_
  obtain ⟨hi3, h⟩ := ck_some h
  refine x_bald hx hb hK hP (hal _ (okk_al hy2)) (okk_t hy2) 1 (fun _ _ _ => rfl) rfl (inb_in hi3) dIm_byteAt_5 ?_
  refine lv_sipush (v := 255) hx hb dIm_byteAt_6 (by decide) ?_
  refine lv_iand hx hb dIm_byteAt_9 ?_
  exact x_iret hx hb hr hlocks h hP hS dIm_byteAt_10
def fn_Im_byteAt (F : Nat) (al : Nat → Bool) (u : Mr) (x0 : Nat) (x1 : Int32) : Option (Mr × Int32) := bk_Im_byteAt_0 F al u x0 x1
set_option maxHeartbeats 4000000 in
set_option maxRecDepth 100000 in
theorem ct_Im_byteAt {l : Launch} {D : va_G} {cA : Nat → ClassId} {ad : Nat → Nat} {L : List Nat} {rs : va_W} {al : Nat → Bool} (hal : ∀ k, al k = true → k ∈ L) (hN : L.Nodup) (F : Nat) (u : Mr) (x0 : Nat) (x1 : Int32) (out : Mr × Int32) (h : fn_Im_byteAt F al u x0 x1 = some out) (q0 : okk al 6 x0 = true) : CtI l yIm_byteAt wsIm_byteAt rm_Im_byteAt [.ref (ad x0), .int x1] D cA ad L rs u out := by
  intro sz
  refine Met.ofW (cc := cIm_byteAt) (maxL := 2) (ret := (some .int)) (by decide) rfl ?_
  intro p e s m args below meth c s₁ B hml hv
  obtain ⟨rfl, hsz, hP, hK, hD0, hNx⟩ := hv
  subst hsz
  have hD := hD0.self (sz := s.heap.size)
  generalize hAe : va_A (ww ad cA L rs u) s.heap.size = A at hD ⊢
  have hA : ∀ q, s.heap.size ≤ q → A q := fun q h => by rw [← hAe]; exact Or.inr h
  have hl := lv_entry ([.ref (ad x0), .int x1]) (n := 2) (Nat.le_of_ble_eq_true rfl)
  rw [lg_entry_eq]
  generalize (lg_sl ([.ref (ad x0), .int x1]) ++ List.replicate (2 - (lg_sl ([.ref (ad x0), .int x1])).length) Slot.unset).toArray = ls at hl ⊢
  exact wk_Im_byteAt_0 ⟨B.exec, B.bytes, hml, findClass_of_methodNamed B.named, hts_bw (atoms_spec (ws := wsIm_byteAt) B.pre), B.returns, B.notSynchronized, hK, hA, fun v => ww_D hD, hN, hal, hNx⟩ F out u x0 x1 h q0 _ _ _ (lv_sub hl [0, 1] rfl) hP va_S.rf
abbrev rm_Im_setByte : Room := { frames := 0, cells := 0, slots := 0, locals := 0 }
def bk_Im_setByte_0 (F : Nat) (al : Nat → Bool) (u : Mr) (x0 : Nat) (x1 : Int32) (x2 : Int32) : Option (Mr × Int32) := bd1 (rdR al u x0 0 7) fun y1 => (ck (inb x1 896) (some (stI u y1 x1 x2.toInt8.toInt32, 0)))
set_option maxHeartbeats 4000000 in
set_option maxRecDepth 100000 in
theorem wk_Im_setByte_0 (cx : Cx p l e s m args below meth c cIm_setByte 3 bw "ImageForge$Image" none D cA ad L rs al A) (F : Nat) (out : Mr × Int32) : ∀ (u : Mr) (x0 : Nat) (x1 : Int32) (x2 : Int32), bk_Im_setByte_0 F al u x0 x1 x2 = some out → okk al 6 x0 = true → Wb p l e rm_Im_setByte s m args below meth c D cA ad L rs A (QV below args s D cA ad L rs A out) 3 0 [(0, .ref (ad x0)), (1, .int x1), (2, .int x2)] [] u := by
  obtain ⟨hx, hb, hml, hown, hts, hr, hlocks, hK, hA, hD, hN, hal, hNx⟩ := cx
  intro u x0 x1 x2 h q0 H locs ls hl hP hS
  unfold bk_Im_setByte_0 at h
  refine lv_aload_n hx hb dIm_setByte_0 rfl (lv_at hl 0 rfl) ?_
  obtain ⟨y1, hy2, h⟩ := bd1_some h
  obtain ⟨hy2a, hy2⟩ := rdR_some hy2
  refine x_get hx hb hts in_Im hown hK hP (hal _ (okk_al q0)) (okk_t q0) rfl rfl 0 (by decide) (hts _ tw_47) (fun _ h9 => h9) (congrArg some (x_rf hy2a)) dIm_setByte_1 ?_
  refine lv_iload_n hx hb dIm_setByte_4 rfl (lv_at hl 1 rfl) ?_
  refine lv_iload_n hx hb dIm_setByte_5 rfl (lv_at hl 2 rfl) ?_
  refine lv_i2b (v := x2.toInt8.toInt32) hx hb dIm_setByte_6 rfl ?_
  obtain ⟨hi3, h⟩ := ck_some h
  refine x_bastB hx hb hK hD hN hP hS (hal _ (okk_al hy2)) (okk_t hy2) 1 (fun _ _ _ => rfl) rfl (by decide) (inb_in hi3) dIm_setByte_7 (fun H locs hP hS => ?_)
  exact x_vret hx hb hr hlocks h hP hS dIm_setByte_8
def fn_Im_setByte (F : Nat) (al : Nat → Bool) (u : Mr) (x0 : Nat) (x1 : Int32) (x2 : Int32) : Option (Mr × Int32) := bk_Im_setByte_0 F al u x0 x1 x2
set_option maxHeartbeats 4000000 in
set_option maxRecDepth 100000 in
theorem ct_Im_setByte {l : Launch} {D : va_G} {cA : Nat → ClassId} {ad : Nat → Nat} {L : List Nat} {rs : va_W} {al : Nat → Bool} (hal : ∀ k, al k = true → k ∈ L) (hN : L.Nodup) (F : Nat) (u : Mr) (x0 : Nat) (x1 : Int32) (x2 : Int32) (out : Mr × Int32) (h : fn_Im_setByte F al u x0 x1 x2 = some out) (q0 : okk al 6 x0 = true) : CtV l yIm_setByte wsIm_setByte rm_Im_setByte [.ref (ad x0), .int x1, .int x2] D cA ad L rs u out := by
  intro sz
  refine Met.ofW (cc := cIm_setByte) (maxL := 3) (ret := none) (by decide) rfl ?_
  intro p e s m args below meth c s₁ B hml hv
  obtain ⟨rfl, hsz, hP, hK, hD0, hNx⟩ := hv
  subst hsz
  have hD := hD0.self (sz := s.heap.size)
  generalize hAe : va_A (ww ad cA L rs u) s.heap.size = A at hD ⊢
  have hA : ∀ q, s.heap.size ≤ q → A q := fun q h => by rw [← hAe]; exact Or.inr h
  have hl := lv_entry ([.ref (ad x0), .int x1, .int x2]) (n := 3) (Nat.le_of_ble_eq_true rfl)
  rw [lg_entry_eq]
  generalize (lg_sl ([.ref (ad x0), .int x1, .int x2]) ++ List.replicate (3 - (lg_sl ([.ref (ad x0), .int x1, .int x2])).length) Slot.unset).toArray = ls at hl ⊢
  exact wk_Im_setByte_0 ⟨B.exec, B.bytes, hml, findClass_of_methodNamed B.named, hts_bw (atoms_spec (ws := wsIm_setByte) B.pre), B.returns, B.notSynchronized, hK, hA, fun v => ww_D hD, hN, hal, hNx⟩ F out u x0 x1 x2 h q0 _ _ _ (lv_sub hl [0, 1, 2] rfl) hP va_S.rf
abbrev rm_Im_halfAt : Room := { frames := 0, cells := 0, slots := 0, locals := 0 }
def bk_Im_halfAt_0 (F : Nat) (al : Nat → Bool) (u : Mr) (x0 : Nat) (x1 : Int32) : Option (Mr × Int32) := bd1 (rdR al u x0 0 7) fun y1 => (ck (inb x1 896) (bd1 (rdR al u x0 0 7) fun y4 => (ck (inb (x1 + (1 : Int32)) 896) (some (u, ((u.1 y1 x1) &&& (255 : Int32)) ||| (((u.1 y4 (x1 + (1 : Int32))) &&& (255 : Int32)) <<< ((8 : Int32) &&& 31)))))))
set_option maxHeartbeats 4000000 in
set_option maxRecDepth 100000 in
theorem wk_Im_halfAt_0 (cx : Cx p l e s m args below meth c cIm_halfAt 2 bw "ImageForge$Image" (some .int) D cA ad L rs al A) (F : Nat) (out : Mr × Int32) : ∀ (u : Mr) (x0 : Nat) (x1 : Int32), bk_Im_halfAt_0 F al u x0 x1 = some out → okk al 6 x0 = true → Wb p l e rm_Im_halfAt s m args below meth c D cA ad L rs A (QI below args s D cA ad L rs A out) 2 0 [(0, .ref (ad x0)), (1, .int x1)] [] u := by
  obtain ⟨hx, hb, hml, hown, hts, hr, hlocks, hK, hA, hD, hN, hal, hNx⟩ := cx
  intro u x0 x1 h q0 H locs ls hl hP hS
  unfold bk_Im_halfAt_0 at h
  refine lv_aload_n hx hb dIm_halfAt_0 rfl (lv_at hl 0 rfl) ?_
  obtain ⟨y1, hy2, h⟩ := bd1_some h
  obtain ⟨hy2a, hy2⟩ := rdR_some hy2
  refine x_get hx hb hts in_Im hown hK hP (hal _ (okk_al q0)) (okk_t q0) rfl rfl 0 (by decide) (hts _ tw_47) (fun _ h9 => h9) (congrArg some (x_rf hy2a)) dIm_halfAt_1 ?_
  refine lv_iload_n hx hb dIm_halfAt_4 rfl (lv_at hl 1 rfl) ?_
  obtain ⟨hi3, h⟩ := ck_some h
  refine x_bald hx hb hK hP (hal _ (okk_al hy2)) (okk_t hy2) 1 (fun _ _ _ => rfl) rfl (inb_in hi3) dIm_halfAt_5 ?_
  refine lv_sipush (v := 255) hx hb dIm_halfAt_6 (by decide) ?_
  refine lv_iand hx hb dIm_halfAt_9 ?_
  refine lv_aload_n hx hb dIm_halfAt_10 rfl (lv_at hl 0 rfl) ?_
  obtain ⟨y4, hy5, h⟩ := bd1_some h
  obtain ⟨hy5a, hy5⟩ := rdR_some hy5
  refine x_get hx hb hts in_Im hown hK hP (hal _ (okk_al q0)) (okk_t q0) rfl rfl 0 (by decide) (hts _ tw_47) (fun _ h9 => h9) (congrArg some (x_rf hy5a)) dIm_halfAt_11 ?_
  refine lv_iload_n hx hb dIm_halfAt_14 rfl (lv_at hl 1 rfl) ?_
  refine lv_iconst (v := 1) hx hb dIm_halfAt_15 (by decide) ?_
  refine lv_iadd hx hb dIm_halfAt_16 ?_
  obtain ⟨hi6, h⟩ := ck_some h
  refine x_bald hx hb hK hP (hal _ (okk_al hy5)) (okk_t hy5) 1 (fun _ _ _ => rfl) rfl (inb_in hi6) dIm_halfAt_17 ?_
  refine lv_sipush (v := 255) hx hb dIm_halfAt_18 (by decide) ?_
  refine lv_iand hx hb dIm_halfAt_21 ?_
  refine lv_bipush (v := 8) hx hb dIm_halfAt_22 (by decide) ?_
  refine lv_ishl hx hb dIm_halfAt_24 ?_
  refine lv_ior hx hb dIm_halfAt_25 ?_
  exact x_iret hx hb hr hlocks h hP hS dIm_halfAt_26
def fn_Im_halfAt (F : Nat) (al : Nat → Bool) (u : Mr) (x0 : Nat) (x1 : Int32) : Option (Mr × Int32) := bk_Im_halfAt_0 F al u x0 x1
set_option maxHeartbeats 4000000 in
set_option maxRecDepth 100000 in
theorem ct_Im_halfAt {l : Launch} {D : va_G} {cA : Nat → ClassId} {ad : Nat → Nat} {L : List Nat} {rs : va_W} {al : Nat → Bool} (hal : ∀ k, al k = true → k ∈ L) (hN : L.Nodup) (F : Nat) (u : Mr) (x0 : Nat) (x1 : Int32) (out : Mr × Int32) (h : fn_Im_halfAt F al u x0 x1 = some out) (q0 : okk al 6 x0 = true) : CtI l yIm_halfAt wsIm_halfAt rm_Im_halfAt [.ref (ad x0), .int x1] D cA ad L rs u out := by
  intro sz
  refine Met.ofW (cc := cIm_halfAt) (maxL := 2) (ret := (some .int)) (by decide) rfl ?_
  intro p e s m args below meth c s₁ B hml hv
  obtain ⟨rfl, hsz, hP, hK, hD0, hNx⟩ := hv
  subst hsz
  have hD := hD0.self (sz := s.heap.size)
  generalize hAe : va_A (ww ad cA L rs u) s.heap.size = A at hD ⊢
  have hA : ∀ q, s.heap.size ≤ q → A q := fun q h => by rw [← hAe]; exact Or.inr h
  have hl := lv_entry ([.ref (ad x0), .int x1]) (n := 2) (Nat.le_of_ble_eq_true rfl)
  rw [lg_entry_eq]
  generalize (lg_sl ([.ref (ad x0), .int x1]) ++ List.replicate (2 - (lg_sl ([.ref (ad x0), .int x1])).length) Slot.unset).toArray = ls at hl ⊢
  exact wk_Im_halfAt_0 ⟨B.exec, B.bytes, hml, findClass_of_methodNamed B.named, hts_bw (atoms_spec (ws := wsIm_halfAt) B.pre), B.returns, B.notSynchronized, hK, hA, fun v => ww_D hD, hN, hal, hNx⟩ F out u x0 x1 h q0 _ _ _ (lv_sub hl [0, 1] rfl) hP va_S.rf
abbrev rm_Im_setHalf : Room := { frames := 0, cells := 0, slots := 0, locals := 0 }
def bk_Im_setHalf_0 (F : Nat) (al : Nat → Bool) (u : Mr) (x0 : Nat) (x1 : Int32) (x2 : Int32) : Option (Mr × Int32) := bd1 (rdR al u x0 0 7) fun y1 => (ck (inb x1 896) (bd1 (rdR al (stI u y1 x1 x2.toInt8.toInt32) x0 0 7) fun y4 => (ck (inb (x1 + (1 : Int32)) 896) (some (stI (stI u y1 x1 x2.toInt8.toInt32) y4 (x1 + (1 : Int32)) ((x2 >>> ((8 : Int32) &&& 31)).toInt8.toInt32), 0)))))
set_option maxHeartbeats 4000000 in
set_option maxRecDepth 100000 in
theorem wk_Im_setHalf_0 (cx : Cx p l e s m args below meth c cIm_setHalf 3 bw "ImageForge$Image" none D cA ad L rs al A) (F : Nat) (out : Mr × Int32) : ∀ (u : Mr) (x0 : Nat) (x1 : Int32) (x2 : Int32), bk_Im_setHalf_0 F al u x0 x1 x2 = some out → okk al 6 x0 = true → Wb p l e rm_Im_setHalf s m args below meth c D cA ad L rs A (QV below args s D cA ad L rs A out) 3 0 [(0, .ref (ad x0)), (1, .int x1), (2, .int x2)] [] u := by
  obtain ⟨hx, hb, hml, hown, hts, hr, hlocks, hK, hA, hD, hN, hal, hNx⟩ := cx
  intro u x0 x1 x2 h q0 H locs ls hl hP hS
  unfold bk_Im_setHalf_0 at h
  refine lv_aload_n hx hb dIm_setHalf_0 rfl (lv_at hl 0 rfl) ?_
  obtain ⟨y1, hy2, h⟩ := bd1_some h
  obtain ⟨hy2a, hy2⟩ := rdR_some hy2
  refine x_get hx hb hts in_Im hown hK hP (hal _ (okk_al q0)) (okk_t q0) rfl rfl 0 (by decide) (hts _ tw_47) (fun _ h9 => h9) (congrArg some (x_rf hy2a)) dIm_setHalf_1 ?_
  refine lv_iload_n hx hb dIm_setHalf_4 rfl (lv_at hl 1 rfl) ?_
  refine lv_iload_n hx hb dIm_setHalf_5 rfl (lv_at hl 2 rfl) ?_
  refine lv_i2b (v := x2.toInt8.toInt32) hx hb dIm_setHalf_6 rfl ?_
  obtain ⟨hi3, h⟩ := ck_some h
  refine x_bastB hx hb hK hD hN hP hS (hal _ (okk_al hy2)) (okk_t hy2) 1 (fun _ _ _ => rfl) rfl (by decide) (inb_in hi3) dIm_setHalf_7 (fun H locs hP hS => ?_)
  refine lv_aload_n hx hb dIm_setHalf_8 rfl (lv_at hl 0 rfl) ?_
  obtain ⟨y4, hy5, h⟩ := bd1_some h
  obtain ⟨hy5a, hy5⟩ := rdR_some hy5
  refine x_get hx hb hts in_Im hown hK hP (hal _ (okk_al q0)) (okk_t q0) rfl rfl 0 (by decide) (hts _ tw_47) (fun _ h9 => h9) (congrArg some (x_rf hy5a)) dIm_setHalf_9 ?_
  refine lv_iload_n hx hb dIm_setHalf_12 rfl (lv_at hl 1 rfl) ?_
  refine lv_iconst (v := 1) hx hb dIm_setHalf_13 (by decide) ?_
  refine lv_iadd hx hb dIm_setHalf_14 ?_
  refine lv_iload_n hx hb dIm_setHalf_15 rfl (lv_at hl 2 rfl) ?_
  refine lv_bipush (v := 8) hx hb dIm_setHalf_16 (by decide) ?_
  refine lv_ishr hx hb dIm_setHalf_18 ?_
  refine lv_i2b (v := (x2 >>> ((8 : Int32) &&& 31)).toInt8.toInt32) hx hb dIm_setHalf_19 rfl ?_
  obtain ⟨hi6, h⟩ := ck_some h
  refine x_bastB hx hb hK hD hN hP hS (hal _ (okk_al hy5)) (okk_t hy5) 1 (fun _ _ _ => rfl) rfl (by decide) (inb_in hi6) dIm_setHalf_20 (fun H locs hP hS => ?_)
  exact x_vret hx hb hr hlocks h hP hS dIm_setHalf_21
def fn_Im_setHalf (F : Nat) (al : Nat → Bool) (u : Mr) (x0 : Nat) (x1 : Int32) (x2 : Int32) : Option (Mr × Int32) := bk_Im_setHalf_0 F al u x0 x1 x2
set_option maxHeartbeats 4000000 in
set_option maxRecDepth 100000 in
theorem ct_Im_setHalf {l : Launch} {D : va_G} {cA : Nat → ClassId} {ad : Nat → Nat} {L : List Nat} {rs : va_W} {al : Nat → Bool} (hal : ∀ k, al k = true → k ∈ L) (hN : L.Nodup) (F : Nat) (u : Mr) (x0 : Nat) (x1 : Int32) (x2 : Int32) (out : Mr × Int32) (h : fn_Im_setHalf F al u x0 x1 x2 = some out) (q0 : okk al 6 x0 = true) : CtV l yIm_setHalf wsIm_setHalf rm_Im_setHalf [.ref (ad x0), .int x1, .int x2] D cA ad L rs u out := by
  intro sz
  refine Met.ofW (cc := cIm_setHalf) (maxL := 3) (ret := none) (by decide) rfl ?_
  intro p e s m args below meth c s₁ B hml hv
  obtain ⟨rfl, hsz, hP, hK, hD0, hNx⟩ := hv
  subst hsz
  have hD := hD0.self (sz := s.heap.size)
  generalize hAe : va_A (ww ad cA L rs u) s.heap.size = A at hD ⊢
  have hA : ∀ q, s.heap.size ≤ q → A q := fun q h => by rw [← hAe]; exact Or.inr h
  have hl := lv_entry ([.ref (ad x0), .int x1, .int x2]) (n := 3) (Nat.le_of_ble_eq_true rfl)
  rw [lg_entry_eq]
  generalize (lg_sl ([.ref (ad x0), .int x1, .int x2]) ++ List.replicate (3 - (lg_sl ([.ref (ad x0), .int x1, .int x2])).length) Slot.unset).toArray = ls at hl ⊢
  exact wk_Im_setHalf_0 ⟨B.exec, B.bytes, hml, findClass_of_methodNamed B.named, hts_bw (atoms_spec (ws := wsIm_setHalf) B.pre), B.returns, B.notSynchronized, hK, hA, fun v => ww_D hD, hN, hal, hNx⟩ F out u x0 x1 x2 h q0 _ _ _ (lv_sub hl [0, 1, 2] rfl) hP va_S.rf
abbrev rm_Im_wordAt : Room := { frames := 0, cells := 0, slots := 0, locals := 0 }
def bk_Im_wordAt_0 (F : Nat) (al : Nat → Bool) (u : Mr) (x0 : Nat) (x1 : Int32) : Option (Mr × Int32) := bd1 (rdR al u x0 0 7) fun y1 => (ck (inb x1 896) (bd1 (rdR al u x0 0 7) fun y4 => (ck (inb (x1 + (1 : Int32)) 896) (bd1 (rdR al u x0 0 7) fun y7 => (ck (inb (x1 + (2 : Int32)) 896) (bd1 (rdR al u x0 0 7) fun y10 => (ck (inb (x1 + (3 : Int32)) 896) (some (u, ((((u.1 y1 x1) &&& (255 : Int32)) ||| (((u.1 y4 (x1 + (1 : Int32))) &&& (255 : Int32)) <<< ((8 : Int32) &&& 31))) ||| (((u.1 y7 (x1 + (2 : Int32))) &&& (255 : Int32)) <<< ((16 : Int32) &&& 31))) ||| (((u.1 y10 (x1 + (3 : Int32))) &&& (255 : Int32)) <<< ((24 : Int32) &&& 31)))))))))))
set_option maxHeartbeats 4000000 in
set_option maxRecDepth 100000 in
theorem wk_Im_wordAt_0 (cx : Cx p l e s m args below meth c cIm_wordAt 2 bw "ImageForge$Image" (some .int) D cA ad L rs al A) (F : Nat) (out : Mr × Int32) : ∀ (u : Mr) (x0 : Nat) (x1 : Int32), bk_Im_wordAt_0 F al u x0 x1 = some out → okk al 6 x0 = true → Wb p l e rm_Im_wordAt s m args below meth c D cA ad L rs A (QI below args s D cA ad L rs A out) 2 0 [(0, .ref (ad x0)), (1, .int x1)] [] u := by
  obtain ⟨hx, hb, hml, hown, hts, hr, hlocks, hK, hA, hD, hN, hal, hNx⟩ := cx
  intro u x0 x1 h q0 H locs ls hl hP hS
  unfold bk_Im_wordAt_0 at h
  refine lv_aload_n hx hb dIm_wordAt_0 rfl (lv_at hl 0 rfl) ?_
  obtain ⟨y1, hy2, h⟩ := bd1_some h
  obtain ⟨hy2a, hy2⟩ := rdR_some hy2
  refine x_get hx hb hts in_Im hown hK hP (hal _ (okk_al q0)) (okk_t q0) rfl rfl 0 (by decide) (hts _ tw_47) (fun _ h9 => h9) (congrArg some (x_rf hy2a)) dIm_wordAt_1 ?_
  refine lv_iload_n hx hb dIm_wordAt_4 rfl (lv_at hl 1 rfl) ?_
  obtain ⟨hi3, h⟩ := ck_some h
  refine x_bald hx hb hK hP (hal _ (okk_al hy2)) (okk_t hy2) 1 (fun _ _ _ => rfl) rfl (inb_in hi3) dIm_wordAt_5 ?_
  refine lv_sipush (v := 255) hx hb dIm_wordAt_6 (by decide) ?_
  refine lv_iand hx hb dIm_wordAt_9 ?_
  refine lv_aload_n hx hb dIm_wordAt_10 rfl (lv_at hl 0 rfl) ?_
  obtain ⟨y4, hy5, h⟩ := bd1_some h
  obtain ⟨hy5a, hy5⟩ := rdR_some hy5
  refine x_get hx hb hts in_Im hown hK hP (hal _ (okk_al q0)) (okk_t q0) rfl rfl 0 (by decide) (hts _ tw_47) (fun _ h9 => h9) (congrArg some (x_rf hy5a)) dIm_wordAt_11 ?_
  refine lv_iload_n hx hb dIm_wordAt_14 rfl (lv_at hl 1 rfl) ?_
  refine lv_iconst (v := 1) hx hb dIm_wordAt_15 (by decide) ?_
  refine lv_iadd hx hb dIm_wordAt_16 ?_
  obtain ⟨hi6, h⟩ := ck_some h
  refine x_bald hx hb hK hP (hal _ (okk_al hy5)) (okk_t hy5) 1 (fun _ _ _ => rfl) rfl (inb_in hi6) dIm_wordAt_17 ?_
  refine lv_sipush (v := 255) hx hb dIm_wordAt_18 (by decide) ?_
  refine lv_iand hx hb dIm_wordAt_21 ?_
  refine lv_bipush (v := 8) hx hb dIm_wordAt_22 (by decide) ?_
  refine lv_ishl hx hb dIm_wordAt_24 ?_
  refine lv_ior hx hb dIm_wordAt_25 ?_
  refine lv_aload_n hx hb dIm_wordAt_26 rfl (lv_at hl 0 rfl) ?_
  obtain ⟨y7, hy8, h⟩ := bd1_some h
  obtain ⟨hy8a, hy8⟩ := rdR_some hy8
  refine x_get hx hb hts in_Im hown hK hP (hal _ (okk_al q0)) (okk_t q0) rfl rfl 0 (by decide) (hts _ tw_47) (fun _ h9 => h9) (congrArg some (x_rf hy8a)) dIm_wordAt_27 ?_
  refine lv_iload_n hx hb dIm_wordAt_30 rfl (lv_at hl 1 rfl) ?_
  refine lv_iconst (v := 2) hx hb dIm_wordAt_31 (by decide) ?_
  refine lv_iadd hx hb dIm_wordAt_32 ?_
  obtain ⟨hi9, h⟩ := ck_some h
  refine x_bald hx hb hK hP (hal _ (okk_al hy8)) (okk_t hy8) 1 (fun _ _ _ => rfl) rfl (inb_in hi9) dIm_wordAt_33 ?_
  refine lv_sipush (v := 255) hx hb dIm_wordAt_34 (by decide) ?_
  refine lv_iand hx hb dIm_wordAt_37 ?_
  refine lv_bipush (v := 16) hx hb dIm_wordAt_38 (by decide) ?_
  refine lv_ishl hx hb dIm_wordAt_40 ?_
  refine lv_ior hx hb dIm_wordAt_41 ?_
  refine lv_aload_n hx hb dIm_wordAt_42 rfl (lv_at hl 0 rfl) ?_
  obtain ⟨y10, hy11, h⟩ := bd1_some h
  obtain ⟨hy11a, hy11⟩ := rdR_some hy11
  refine x_get hx hb hts in_Im hown hK hP (hal _ (okk_al q0)) (okk_t q0) rfl rfl 0 (by decide) (hts _ tw_47) (fun _ h9 => h9) (congrArg some (x_rf hy11a)) dIm_wordAt_43 ?_
  refine lv_iload_n hx hb dIm_wordAt_46 rfl (lv_at hl 1 rfl) ?_
  refine lv_iconst (v := 3) hx hb dIm_wordAt_47 (by decide) ?_
  refine lv_iadd hx hb dIm_wordAt_48 ?_
  obtain ⟨hi12, h⟩ := ck_some h
  refine x_bald hx hb hK hP (hal _ (okk_al hy11)) (okk_t hy11) 1 (fun _ _ _ => rfl) rfl (inb_in hi12) dIm_wordAt_49 ?_
  refine lv_sipush (v := 255) hx hb dIm_wordAt_50 (by decide) ?_
  refine lv_iand hx hb dIm_wordAt_53 ?_
  refine lv_bipush (v := 24) hx hb dIm_wordAt_54 (by decide) ?_
  refine lv_ishl hx hb dIm_wordAt_56 ?_
  refine lv_ior hx hb dIm_wordAt_57 ?_
  exact x_iret hx hb hr hlocks h hP hS dIm_wordAt_58
def fn_Im_wordAt (F : Nat) (al : Nat → Bool) (u : Mr) (x0 : Nat) (x1 : Int32) : Option (Mr × Int32) := bk_Im_wordAt_0 F al u x0 x1
set_option maxHeartbeats 4000000 in
set_option maxRecDepth 100000 in
theorem ct_Im_wordAt {l : Launch} {D : va_G} {cA : Nat → ClassId} {ad : Nat → Nat} {L : List Nat} {rs : va_W} {al : Nat → Bool} (hal : ∀ k, al k = true → k ∈ L) (hN : L.Nodup) (F : Nat) (u : Mr) (x0 : Nat) (x1 : Int32) (out : Mr × Int32) (h : fn_Im_wordAt F al u x0 x1 = some out) (q0 : okk al 6 x0 = true) : CtI l yIm_wordAt wsIm_wordAt rm_Im_wordAt [.ref (ad x0), .int x1] D cA ad L rs u out := by
  intro sz
  refine Met.ofW (cc := cIm_wordAt) (maxL := 2) (ret := (some .int)) (by decide) rfl ?_
  intro p e s m args below meth c s₁ B hml hv
  obtain ⟨rfl, hsz, hP, hK, hD0, hNx⟩ := hv
  subst hsz
  have hD := hD0.self (sz := s.heap.size)
  generalize hAe : va_A (ww ad cA L rs u) s.heap.size = A at hD ⊢
  have hA : ∀ q, s.heap.size ≤ q → A q := fun q h => by rw [← hAe]; exact Or.inr h
  have hl := lv_entry ([.ref (ad x0), .int x1]) (n := 2) (Nat.le_of_ble_eq_true rfl)
  rw [lg_entry_eq]
  generalize (lg_sl ([.ref (ad x0), .int x1]) ++ List.replicate (2 - (lg_sl ([.ref (ad x0), .int x1])).length) Slot.unset).toArray = ls at hl ⊢
  exact wk_Im_wordAt_0 ⟨B.exec, B.bytes, hml, findClass_of_methodNamed B.named, hts_bw (atoms_spec (ws := wsIm_wordAt) B.pre), B.returns, B.notSynchronized, hK, hA, fun v => ww_D hD, hN, hal, hNx⟩ F out u x0 x1 h q0 _ _ _ (lv_sub hl [0, 1] rfl) hP va_S.rf
abbrev rm_Im_setWord : Room := { frames := 0, cells := 0, slots := 0, locals := 0 }
def bk_Im_setWord_2 (F : Nat) (al : Nat → Bool) : Nat → Mr → Nat → Int32 → Int32 → Int32 → Option (Mr × Int32)
  | 0, _, _, _, _, _ => none
  | n + 1, u, x0, x1, x2, x3 => if (4 : Int32) ≤ x3 then (some (u, 0)) else (bd1 (rdR al u x0 0 7) fun y1 => (ck (inb (x1 + x3) 896) (bk_Im_setWord_2 F al n (stI u y1 (x1 + x3) ((x2 >>> (((8 : Int32) * x3) &&& 31)).toInt8.toInt32)) x0 x1 x2 (x3 + (1 : Int32)))))
set_option maxHeartbeats 4000000 in
set_option maxRecDepth 100000 in
theorem wk_Im_setWord_2 (cx : Cx p l e s m args below meth c cIm_setWord 4 bw "ImageForge$Image" none D cA ad L rs al A) (F : Nat) (out : Mr × Int32) : ∀ n : Nat, ∀ (u : Mr) (x0 : Nat) (x1 : Int32) (x2 : Int32) (x3 : Int32), bk_Im_setWord_2 F al n u x0 x1 x2 x3 = some out → okk al 6 x0 = true → Wb p l e rm_Im_setWord s m args below meth c D cA ad L rs A (QV below args s D cA ad L rs A out) 4 2 [(0, .ref (ad x0)), (1, .int x1), (2, .int x2), (3, .int x3)] [] u := by
  obtain ⟨hx, hb, hml, hown, hts, hr, hlocks, hK, hA, hD, hN, hal, hNx⟩ := cx
  intro n
  induction n with
  | zero =>
    intro u x0 x1 x2 x3 h
    cases h
  | succ n ih =>
    intro u x0 x1 x2 x3 h q0 H locs ls hl hP hS
    rw [bk_Im_setWord_2] at h
    refine lv_iload_n hx hb dIm_setWord_2 rfl (lv_at hl 3 rfl) ?_
    refine lv_iconst (v := 4) hx hb dIm_setWord_3 (by decide) ?_
    refine lv_icmp_ge (tgt := 28) hx hb dIm_setWord_4 rfl (fun hc => ?_) (fun hc => ?_)
    · replace h := it_t h hc
      exact x_vret hx hb hr hlocks h hP hS dIm_setWord_28
    · replace h := it_f h hc
      refine lv_aload_n hx hb dIm_setWord_7 rfl (lv_at hl 0 rfl) ?_
      obtain ⟨y1, hy2, h⟩ := bd1_some h
      obtain ⟨hy2a, hy2⟩ := rdR_some hy2
      refine x_get hx hb hts in_Im hown hK hP (hal _ (okk_al q0)) (okk_t q0) rfl rfl 0 (by decide) (hts _ tw_47) (fun _ h9 => h9) (congrArg some (x_rf hy2a)) dIm_setWord_8 ?_
      refine lv_iload_n hx hb dIm_setWord_11 rfl (lv_at hl 1 rfl) ?_
      refine lv_iload_n hx hb dIm_setWord_12 rfl (lv_at hl 3 rfl) ?_
      refine lv_iadd hx hb dIm_setWord_13 ?_
      refine lv_iload_n hx hb dIm_setWord_14 rfl (lv_at hl 2 rfl) ?_
      refine lv_bipush (v := 8) hx hb dIm_setWord_15 (by decide) ?_
      refine lv_iload_n hx hb dIm_setWord_17 rfl (lv_at hl 3 rfl) ?_
      refine lv_imul hx hb dIm_setWord_18 ?_
      refine lv_ishr hx hb dIm_setWord_19 ?_
      refine lv_i2b (v := (x2 >>> (((8 : Int32) * x3) &&& 31)).toInt8.toInt32) hx hb dIm_setWord_20 rfl ?_
      obtain ⟨hi3, h⟩ := ck_some h
      refine x_bastB hx hb hK hD hN hP hS (hal _ (okk_al hy2)) (okk_t hy2) 1 (fun _ _ _ => rfl) rfl (by decide) (inb_in hi3) dIm_setWord_21 (fun H locs hP hS => ?_)
      refine lv_iinc (k := 3) (v := x3 + (1 : Int32)) (lv' := [(3, .int (x3 + (1 : Int32))), (0, .ref (ad x0)), (1, .int x1), (2, .int x2)]) hx hb dIm_setWord_22 hl rfl (congrArg (fun z => _ + z) (show Int32.ofInt 1 = 1 by decide)) (by decide) rfl (fun ls hl => ?_)
      refine lv_goto (tgt := 2) hx hb dIm_setWord_25 rfl ?_
      exact ih (stI u y1 (x1 + x3) ((x2 >>> (((8 : Int32) * x3) &&& 31)).toInt8.toInt32)) x0 x1 x2 (x3 + (1 : Int32)) h q0 _ _ _ (lv_sub hl [1, 2, 3, 0] rfl) hP hS
def bk_Im_setWord_0 (F : Nat) (al : Nat → Bool) (u : Mr) (x0 : Nat) (x1 : Int32) (x2 : Int32) : Option (Mr × Int32) := bk_Im_setWord_2 F al F u x0 x1 x2 (0 : Int32)
set_option maxHeartbeats 4000000 in
set_option maxRecDepth 100000 in
theorem wk_Im_setWord_0 (cx : Cx p l e s m args below meth c cIm_setWord 4 bw "ImageForge$Image" none D cA ad L rs al A) (F : Nat) (out : Mr × Int32) : ∀ (u : Mr) (x0 : Nat) (x1 : Int32) (x2 : Int32), bk_Im_setWord_0 F al u x0 x1 x2 = some out → okk al 6 x0 = true → Wb p l e rm_Im_setWord s m args below meth c D cA ad L rs A (QV below args s D cA ad L rs A out) 4 0 [(0, .ref (ad x0)), (1, .int x1), (2, .int x2)] [] u := by
  obtain ⟨hx, hb, hml, hown, hts, hr, hlocks, hK, hA, hD, hN, hal, hNx⟩ := cx
  intro u x0 x1 x2 h q0 H locs ls hl hP hS
  unfold bk_Im_setWord_0 at h
  refine lv_iconst (v := 0) hx hb dIm_setWord_0 (by decide) ?_
  refine lv_istore_n (lv' := [(3, .int (0 : Int32)), (0, .ref (ad x0)), (1, .int x1), (2, .int x2)]) hx hb dIm_setWord_1 rfl hl (by decide) rfl (fun ls hl => ?_)
  exact wk_Im_setWord_2 ⟨hx, hb, hml, hown, hts, hr, hlocks, hK, hA, hD, hN, hal, hNx⟩ F out F u x0 x1 x2 (0 : Int32) h q0 _ _ _ (lv_sub hl [1, 2, 3, 0] rfl) hP hS
def fn_Im_setWord (F : Nat) (al : Nat → Bool) (u : Mr) (x0 : Nat) (x1 : Int32) (x2 : Int32) : Option (Mr × Int32) := bk_Im_setWord_0 F al u x0 x1 x2
set_option maxHeartbeats 4000000 in
set_option maxRecDepth 100000 in
theorem ct_Im_setWord {l : Launch} {D : va_G} {cA : Nat → ClassId} {ad : Nat → Nat} {L : List Nat} {rs : va_W} {al : Nat → Bool} (hal : ∀ k, al k = true → k ∈ L) (hN : L.Nodup) (F : Nat) (u : Mr) (x0 : Nat) (x1 : Int32) (x2 : Int32) (out : Mr × Int32) (h : fn_Im_setWord F al u x0 x1 x2 = some out) (q0 : okk al 6 x0 = true) : CtV l yIm_setWord wsIm_setWord rm_Im_setWord [.ref (ad x0), .int x1, .int x2] D cA ad L rs u out := by
  intro sz
  refine Met.ofW (cc := cIm_setWord) (maxL := 4) (ret := none) (by decide) rfl ?_
  intro p e s m args below meth c s₁ B hml hv
  obtain ⟨rfl, hsz, hP, hK, hD0, hNx⟩ := hv
  subst hsz
  have hD := hD0.self (sz := s.heap.size)
  generalize hAe : va_A (ww ad cA L rs u) s.heap.size = A at hD ⊢
  have hA : ∀ q, s.heap.size ≤ q → A q := fun q h => by rw [← hAe]; exact Or.inr h
  have hl := lv_entry ([.ref (ad x0), .int x1, .int x2]) (n := 4) (Nat.le_of_ble_eq_true rfl)
  rw [lg_entry_eq]
  generalize (lg_sl ([.ref (ad x0), .int x1, .int x2]) ++ List.replicate (4 - (lg_sl ([.ref (ad x0), .int x1, .int x2])).length) Slot.unset).toArray = ls at hl ⊢
  exact wk_Im_setWord_0 ⟨B.exec, B.bytes, hml, findClass_of_methodNamed B.named, hts_bw (atoms_spec (ws := wsIm_setWord) B.pre), B.returns, B.notSynchronized, hK, hA, fun v => ww_D hD, hN, hal, hNx⟩ F out u x0 x1 x2 h q0 _ _ _ (lv_sub hl [0, 1, 2] rfl) hP va_S.rf
abbrev rm_Im_addToWord : Room := { frames := 1, cells := 0, slots := 0, locals := 23 }
def bk_Im_addToWord_0 (F : Nat) (al : Nat → Bool) (u : Mr) (x0 : Nat) (x1 : Int32) (x2 : Int32) : Option (Mr × Int32) := bd2 (fn_Im_wordAt F al u x0 x1) fun u1 v1 => (bd2 (fn_Im_setWord F al u1 x0 x1 (v1 + x2)) fun u2 v2 => (some (u2, 0)))
set_option maxHeartbeats 4000000 in
set_option maxRecDepth 100000 in
theorem wk_Im_addToWord_0 (cx : Cx p l e s m args below meth c cIm_addToWord 3 bw "ImageForge$Image" none D cA ad L rs al A) (F : Nat) (out : Mr × Int32) : ∀ (u : Mr) (x0 : Nat) (x1 : Int32) (x2 : Int32), bk_Im_addToWord_0 F al u x0 x1 x2 = some out → okk al 6 x0 = true → Wb p l e rm_Im_addToWord s m args below meth c D cA ad L rs A (QV below args s D cA ad L rs A out) 3 0 [(0, .ref (ad x0)), (1, .int x1), (2, .int x2)] [] u := by
  obtain ⟨hx, hb, hml, hown, hts, hr, hlocks, hK, hA, hD, hN, hal, hNx⟩ := cx
  intro u x0 x1 x2 h q0 H locs ls hl hP hS
  unfold bk_Im_addToWord_0 at h
  refine lv_aload_n hx hb dIm_addToWord_0 rfl (lv_at hl 0 rfl) ?_
  refine lv_iload_n hx hb dIm_addToWord_1 rfl (lv_at hl 1 rfl) ?_
  refine lv_aload_n hx hb dIm_addToWord_2 rfl (lv_at hl 0 rfl) ?_
  refine lv_iload_n hx hb dIm_addToWord_3 rfl (lv_at hl 1 rfl) ?_
  obtain ⟨u1, v1, hc1, h⟩ := bd2_some h
  refine x_ci (u := u) (out := (u1, v1)) hA hD hS (va_runV (As := [.int x1]) (rest := [.int x1, .ref (ad x0)]) ⟨hx, hb, hml, hown, hts⟩ (ct_Im_wordAt hal hN F u x0 x1 (u1, v1) hc1 q0 _) ⟨callB_of 1 hts gdIm_wordAt rfl rfl rfl (hts _ tw_2) (hts _ tw_637) hdIm_wordAt ⟨Nat.le_of_ble_eq_true rfl, Nat.le_of_ble_eq_true rfl⟩, (hts _ tw_240), (hts _ tp_3)⟩ (x_preV hK hD hNx hP (hal _ (okk_al q0)) (okk_t q0) rfl rfl) rfl rfl hl.1 rfl (lv_room (Nat.le_of_ble_eq_true rfl)) dIm_addToWord_4 ⟨Nat.zero_le _, Nat.zero_le _⟩) (fun H locs hP hS => ?_)
  refine lv_iload_n hx hb dIm_addToWord_7 rfl (lv_at hl 2 rfl) ?_
  refine lv_iadd hx hb dIm_addToWord_8 ?_
  obtain ⟨u2, v2, hc2, h⟩ := bd2_some h
  refine x_cv (u := u1) (out := (u2, v2)) hA hD hS (va_runV (As := [.int x1, .int (v1 + x2)]) (rest := []) ⟨hx, hb, hml, hown, hts⟩ (ct_Im_setWord hal hN F u1 x0 x1 (v1 + x2) (u2, v2) hc2 q0 _) ⟨callB_of 2 hts gdIm_setWord rfl rfl rfl (hts _ tw_2) (hts _ tw_582) hdIm_setWord ⟨Nat.le_of_ble_eq_true rfl, Nat.le_of_ble_eq_true rfl⟩, (hts _ tw_584), (hts _ tp_22)⟩ (x_preV hK hD hNx hP (hal _ (okk_al q0)) (okk_t q0) rfl rfl) rfl rfl hl.1 rfl (lv_room (Nat.le_of_ble_eq_true rfl)) dIm_addToWord_9 ⟨Nat.zero_le _, Nat.zero_le _⟩) (fun H locs hP hS => ?_)
  exact x_vret hx hb hr hlocks h hP hS dIm_addToWord_12
def fn_Im_addToWord (F : Nat) (al : Nat → Bool) (u : Mr) (x0 : Nat) (x1 : Int32) (x2 : Int32) : Option (Mr × Int32) := bk_Im_addToWord_0 F al u x0 x1 x2
set_option maxHeartbeats 4000000 in
set_option maxRecDepth 100000 in
theorem ct_Im_addToWord {l : Launch} {D : va_G} {cA : Nat → ClassId} {ad : Nat → Nat} {L : List Nat} {rs : va_W} {al : Nat → Bool} (hal : ∀ k, al k = true → k ∈ L) (hN : L.Nodup) (F : Nat) (u : Mr) (x0 : Nat) (x1 : Int32) (x2 : Int32) (out : Mr × Int32) (h : fn_Im_addToWord F al u x0 x1 x2 = some out) (q0 : okk al 6 x0 = true) : CtV l yIm_addToWord wsIm_addToWord rm_Im_addToWord [.ref (ad x0), .int x1, .int x2] D cA ad L rs u out := by
  intro sz
  refine Met.ofW (cc := cIm_addToWord) (maxL := 3) (ret := none) (by decide) rfl ?_
  intro p e s m args below meth c s₁ B hml hv
  obtain ⟨rfl, hsz, hP, hK, hD0, hNx⟩ := hv
  subst hsz
  have hD := hD0.self (sz := s.heap.size)
  generalize hAe : va_A (ww ad cA L rs u) s.heap.size = A at hD ⊢
  have hA : ∀ q, s.heap.size ≤ q → A q := fun q h => by rw [← hAe]; exact Or.inr h
  have hl := lv_entry ([.ref (ad x0), .int x1, .int x2]) (n := 3) (Nat.le_of_ble_eq_true rfl)
  rw [lg_entry_eq]
  generalize (lg_sl ([.ref (ad x0), .int x1, .int x2]) ++ List.replicate (3 - (lg_sl ([.ref (ad x0), .int x1, .int x2])).length) Slot.unset).toArray = ls at hl ⊢
  exact wk_Im_addToWord_0 ⟨B.exec, B.bytes, hml, findClass_of_methodNamed B.named, hts_bw (atoms_spec (ws := wsIm_addToWord) B.pre), B.returns, B.notSynchronized, hK, hA, fun v => ww_D hD, hN, hal, hNx⟩ F out u x0 x1 x2 h q0 _ _ _ (lv_sub hl [0, 1, 2] rfl) hP va_S.rf
abbrev rm_Im_holdsWord : Room := { frames := 0, cells := 0, slots := 0, locals := 0 }
def bk_Im_holdsWord_0 (F : Nat) (al : Nat → Bool) (u : Mr) (x0 : Nat) (x1 : Int64) : Option (Mr × Int32) := if (lg_cmp x1 (0 : Int64)) < 0 then (some (u, (0 : Int32))) else (if 0 < (lg_cmp x1 (((u.1 x0 1) - (4 : Int32)).toInt64)) then (some (u, (0 : Int32))) else (some (u, (1 : Int32))))
set_option maxHeartbeats 4000000 in
set_option maxRecDepth 100000 in
theorem wk_Im_holdsWord_0 (cx : Cx p l e s m args below meth c cIm_holdsWord 3 bw "ImageForge$Image" (some .boolean) D cA ad L rs al A) (F : Nat) (out : Mr × Int32) : ∀ (u : Mr) (x0 : Nat) (x1 : Int64), bk_Im_holdsWord_0 F al u x0 x1 = some out → okk al 6 x0 = true → Wb p l e rm_Im_holdsWord s m args below meth c D cA ad L rs A (QI below args s D cA ad L rs A out) 3 0 [(0, .ref (ad x0)), (1, .long x1)] [] u := by
  obtain ⟨hx, hb, hml, hown, hts, hr, hlocks, hK, hA, hD, hN, hal, hNx⟩ := cx
  intro u x0 x1 h q0 H locs ls hl hP hS
  unfold bk_Im_holdsWord_0 at h
  refine lv_lload_n hx hb dIm_holdsWord_0 rfl (lv_at hl 1 rfl) ?_
  refine lv_lconst (v := 0) hx hb dIm_holdsWord_1 rfl ?_
  refine W.lcmp hx hb dIm_holdsWord_2 ?_
  refine lv_if_lt (tgt := 22) hx hb dIm_holdsWord_3 rfl (fun hc => ?_) (fun hc => ?_)
  · replace h := it_t h hc
    refine lv_iconst (v := 0) hx hb dIm_holdsWord_22 (by decide) ?_
    exact x_zret hx hb hr hlocks rfl h hP hS dIm_holdsWord_23
  · replace h := it_f h hc
    refine lv_lload_n hx hb dIm_holdsWord_6 rfl (lv_at hl 1 rfl) ?_
    refine lv_aload_n hx hb dIm_holdsWord_7 rfl (lv_at hl 0 rfl) ?_
    refine x_get hx hb hts in_Im hown hK hP (hal _ (okk_al q0)) (okk_t q0) rfl rfl 1 (by decide) (hts _ tw_49) (fun _ h9 => h9) rfl dIm_holdsWord_8 ?_
    refine lv_iconst (v := 4) hx hb dIm_holdsWord_11 (by decide) ?_
    refine lv_isub hx hb dIm_holdsWord_12 ?_
    refine lv_i2l (v := ((u.1 x0 1) - (4 : Int32)).toInt64) hx hb dIm_holdsWord_13 rfl ?_
    refine W.lcmp hx hb dIm_holdsWord_14 ?_
    refine lv_if_gt (tgt := 22) hx hb dIm_holdsWord_15 rfl (fun hc => ?_) (fun hc => ?_)
    · replace h := it_t h hc
      refine lv_iconst (v := 0) hx hb dIm_holdsWord_22 (by decide) ?_
      exact x_zret hx hb hr hlocks rfl h hP hS dIm_holdsWord_23
    · replace h := it_f h hc
      refine lv_iconst (v := 1) hx hb dIm_holdsWord_18 (by decide) ?_
      refine lv_goto (tgt := 23) hx hb dIm_holdsWord_19 rfl ?_
      exact x_zret hx hb hr hlocks rfl h hP hS dIm_holdsWord_23
def fn_Im_holdsWord (F : Nat) (al : Nat → Bool) (u : Mr) (x0 : Nat) (x1 : Int64) : Option (Mr × Int32) := bk_Im_holdsWord_0 F al u x0 x1
set_option maxHeartbeats 4000000 in
set_option maxRecDepth 100000 in
theorem ct_Im_holdsWord {l : Launch} {D : va_G} {cA : Nat → ClassId} {ad : Nat → Nat} {L : List Nat} {rs : va_W} {al : Nat → Bool} (hal : ∀ k, al k = true → k ∈ L) (hN : L.Nodup) (F : Nat) (u : Mr) (x0 : Nat) (x1 : Int64) (out : Mr × Int32) (h : fn_Im_holdsWord F al u x0 x1 = some out) (q0 : okk al 6 x0 = true) : CtI l yIm_holdsWord wsIm_holdsWord rm_Im_holdsWord [.ref (ad x0), .long x1] D cA ad L rs u out := by
  intro sz
  refine Met.ofW (cc := cIm_holdsWord) (maxL := 3) (ret := (some .boolean)) (by decide) rfl ?_
  intro p e s m args below meth c s₁ B hml hv
  obtain ⟨rfl, hsz, hP, hK, hD0, hNx⟩ := hv
  subst hsz
  have hD := hD0.self (sz := s.heap.size)
  generalize hAe : va_A (ww ad cA L rs u) s.heap.size = A at hD ⊢
  have hA : ∀ q, s.heap.size ≤ q → A q := fun q h => by rw [← hAe]; exact Or.inr h
  have hl := lv_entry ([.ref (ad x0), .long x1]) (n := 3) (Nat.le_of_ble_eq_true rfl)
  rw [lg_entry_eq]
  generalize (lg_sl ([.ref (ad x0), .long x1]) ++ List.replicate (3 - (lg_sl ([.ref (ad x0), .long x1])).length) Slot.unset).toArray = ls at hl ⊢
  exact wk_Im_holdsWord_0 ⟨B.exec, B.bytes, hml, findClass_of_methodNamed B.named, hts_bw (atoms_spec (ws := wsIm_holdsWord) B.pre), B.returns, B.notSynchronized, hK, hA, fun v => ww_D hD, hN, hal, hNx⟩ F out u x0 x1 h q0 _ _ _ (lv_sub hl [0, 1] rfl) hP va_S.rf
abbrev rm_Im_sectionBegin : Room := { frames := 1, cells := 0, slots := 0, locals := 21 }
def bk_Im_sectionBegin_0 (F : Nat) (al : Nat → Bool) (u : Mr) (x0 : Nat) (x1 : Int32) : Option (Mr × Int32) := bd2 (fn_Im_wordAt F al u x0 ((24 : Int32) + (x1 * (8 : Int32)))) fun u1 v1 => (some (u1, v1))
set_option maxHeartbeats 4000000 in
set_option maxRecDepth 100000 in
theorem wk_Im_sectionBegin_0 (cx : Cx p l e s m args below meth c cIm_sectionBegin 2 bw "ImageForge$Image" (some .int) D cA ad L rs al A) (F : Nat) (out : Mr × Int32) : ∀ (u : Mr) (x0 : Nat) (x1 : Int32), bk_Im_sectionBegin_0 F al u x0 x1 = some out → okk al 6 x0 = true → Wb p l e rm_Im_sectionBegin s m args below meth c D cA ad L rs A (QI below args s D cA ad L rs A out) 2 0 [(0, .ref (ad x0)), (1, .int x1)] [] u := by
  obtain ⟨hx, hb, hml, hown, hts, hr, hlocks, hK, hA, hD, hN, hal, hNx⟩ := cx
  intro u x0 x1 h q0 H locs ls hl hP hS
  unfold bk_Im_sectionBegin_0 at h
  refine lv_aload_n hx hb dIm_sectionBegin_0 rfl (lv_at hl 0 rfl) ?_
  refine lv_bipush (v := 24) hx hb dIm_sectionBegin_1 (by decide) ?_
  refine lv_iload_n hx hb dIm_sectionBegin_3 rfl (lv_at hl 1 rfl) ?_
  refine lv_bipush (v := 8) hx hb dIm_sectionBegin_4 (by decide) ?_
  refine lv_imul hx hb dIm_sectionBegin_6 ?_
  refine lv_iadd hx hb dIm_sectionBegin_7 ?_
  obtain ⟨u1, v1, hc1, h⟩ := bd2_some h
  refine x_ci (u := u) (out := (u1, v1)) hA hD hS (va_runV (As := [.int ((24 : Int32) + (x1 * (8 : Int32)))]) (rest := []) ⟨hx, hb, hml, hown, hts⟩ (ct_Im_wordAt hal hN F u x0 ((24 : Int32) + (x1 * (8 : Int32))) (u1, v1) hc1 q0 _) ⟨callB_of 1 hts gdIm_wordAt rfl rfl rfl (hts _ tw_2) (hts _ tw_637) hdIm_wordAt ⟨Nat.le_of_ble_eq_true rfl, Nat.le_of_ble_eq_true rfl⟩, (hts _ tw_240), (hts _ tp_3)⟩ (x_preV hK hD hNx hP (hal _ (okk_al q0)) (okk_t q0) rfl rfl) rfl rfl hl.1 rfl (lv_room (Nat.le_of_ble_eq_true rfl)) dIm_sectionBegin_8 ⟨Nat.zero_le _, Nat.zero_le _⟩) (fun H locs hP hS => ?_)
  exact x_iret hx hb hr hlocks h hP hS dIm_sectionBegin_11
def fn_Im_sectionBegin (F : Nat) (al : Nat → Bool) (u : Mr) (x0 : Nat) (x1 : Int32) : Option (Mr × Int32) := bk_Im_sectionBegin_0 F al u x0 x1
set_option maxHeartbeats 4000000 in
set_option maxRecDepth 100000 in
theorem ct_Im_sectionBegin {l : Launch} {D : va_G} {cA : Nat → ClassId} {ad : Nat → Nat} {L : List Nat} {rs : va_W} {al : Nat → Bool} (hal : ∀ k, al k = true → k ∈ L) (hN : L.Nodup) (F : Nat) (u : Mr) (x0 : Nat) (x1 : Int32) (out : Mr × Int32) (h : fn_Im_sectionBegin F al u x0 x1 = some out) (q0 : okk al 6 x0 = true) : CtI l yIm_sectionBegin wsIm_sectionBegin rm_Im_sectionBegin [.ref (ad x0), .int x1] D cA ad L rs u out := by
  intro sz
  refine Met.ofW (cc := cIm_sectionBegin) (maxL := 2) (ret := (some .int)) (by decide) rfl ?_
  intro p e s m args below meth c s₁ B hml hv
  obtain ⟨rfl, hsz, hP, hK, hD0, hNx⟩ := hv
  subst hsz
  have hD := hD0.self (sz := s.heap.size)
  generalize hAe : va_A (ww ad cA L rs u) s.heap.size = A at hD ⊢
  have hA : ∀ q, s.heap.size ≤ q → A q := fun q h => by rw [← hAe]; exact Or.inr h
  have hl := lv_entry ([.ref (ad x0), .int x1]) (n := 2) (Nat.le_of_ble_eq_true rfl)
  rw [lg_entry_eq]
  generalize (lg_sl ([.ref (ad x0), .int x1]) ++ List.replicate (2 - (lg_sl ([.ref (ad x0), .int x1])).length) Slot.unset).toArray = ls at hl ⊢
  exact wk_Im_sectionBegin_0 ⟨B.exec, B.bytes, hml, findClass_of_methodNamed B.named, hts_bw (atoms_spec (ws := wsIm_sectionBegin) B.pre), B.returns, B.notSynchronized, hK, hA, fun v => ww_D hD, hN, hal, hNx⟩ F out u x0 x1 h q0 _ _ _ (lv_sub hl [0, 1] rfl) hP va_S.rf
abbrev rm_Im_sectionSize : Room := { frames := 1, cells := 0, slots := 0, locals := 21 }
def bk_Im_sectionSize_0 (F : Nat) (al : Nat → Bool) (u : Mr) (x0 : Nat) (x1 : Int32) : Option (Mr × Int32) := bd2 (fn_Im_wordAt F al u x0 (((24 : Int32) + (x1 * (8 : Int32))) + (4 : Int32))) fun u1 v1 => (some (u1, v1))
set_option maxHeartbeats 4000000 in
set_option maxRecDepth 100000 in
theorem wk_Im_sectionSize_0 (cx : Cx p l e s m args below meth c cIm_sectionSize 2 bw "ImageForge$Image" (some .int) D cA ad L rs al A) (F : Nat) (out : Mr × Int32) : ∀ (u : Mr) (x0 : Nat) (x1 : Int32), bk_Im_sectionSize_0 F al u x0 x1 = some out → okk al 6 x0 = true → Wb p l e rm_Im_sectionSize s m args below meth c D cA ad L rs A (QI below args s D cA ad L rs A out) 2 0 [(0, .ref (ad x0)), (1, .int x1)] [] u := by
  obtain ⟨hx, hb, hml, hown, hts, hr, hlocks, hK, hA, hD, hN, hal, hNx⟩ := cx
  intro u x0 x1 h q0 H locs ls hl hP hS
  unfold bk_Im_sectionSize_0 at h
  refine lv_aload_n hx hb dIm_sectionSize_0 rfl (lv_at hl 0 rfl) ?_
  refine lv_bipush (v := 24) hx hb dIm_sectionSize_1 (by decide) ?_
  refine lv_iload_n hx hb dIm_sectionSize_3 rfl (lv_at hl 1 rfl) ?_
  refine lv_bipush (v := 8) hx hb dIm_sectionSize_4 (by decide) ?_
  refine lv_imul hx hb dIm_sectionSize_6 ?_
  refine lv_iadd hx hb dIm_sectionSize_7 ?_
  refine lv_iconst (v := 4) hx hb dIm_sectionSize_8 (by decide) ?_
  refine lv_iadd hx hb dIm_sectionSize_9 ?_
  obtain ⟨u1, v1, hc1, h⟩ := bd2_some h
  refine x_ci (u := u) (out := (u1, v1)) hA hD hS (va_runV (As := [.int (((24 : Int32) + (x1 * (8 : Int32))) + (4 : Int32))]) (rest := []) ⟨hx, hb, hml, hown, hts⟩ (ct_Im_wordAt hal hN F u x0 (((24 : Int32) + (x1 * (8 : Int32))) + (4 : Int32)) (u1, v1) hc1 q0 _) ⟨callB_of 1 hts gdIm_wordAt rfl rfl rfl (hts _ tw_2) (hts _ tw_637) hdIm_wordAt ⟨Nat.le_of_ble_eq_true rfl, Nat.le_of_ble_eq_true rfl⟩, (hts _ tw_240), (hts _ tp_3)⟩ (x_preV hK hD hNx hP (hal _ (okk_al q0)) (okk_t q0) rfl rfl) rfl rfl hl.1 rfl (lv_room (Nat.le_of_ble_eq_true rfl)) dIm_sectionSize_10 ⟨Nat.zero_le _, Nat.zero_le _⟩) (fun H locs hP hS => ?_)
  exact x_iret hx hb hr hlocks h hP hS dIm_sectionSize_13
def fn_Im_sectionSize (F : Nat) (al : Nat → Bool) (u : Mr) (x0 : Nat) (x1 : Int32) : Option (Mr × Int32) := bk_Im_sectionSize_0 F al u x0 x1
set_option maxHeartbeats 4000000 in
set_option maxRecDepth 100000 in
theorem ct_Im_sectionSize {l : Launch} {D : va_G} {cA : Nat → ClassId} {ad : Nat → Nat} {L : List Nat} {rs : va_W} {al : Nat → Bool} (hal : ∀ k, al k = true → k ∈ L) (hN : L.Nodup) (F : Nat) (u : Mr) (x0 : Nat) (x1 : Int32) (out : Mr × Int32) (h : fn_Im_sectionSize F al u x0 x1 = some out) (q0 : okk al 6 x0 = true) : CtI l yIm_sectionSize wsIm_sectionSize rm_Im_sectionSize [.ref (ad x0), .int x1] D cA ad L rs u out := by
  intro sz
  refine Met.ofW (cc := cIm_sectionSize) (maxL := 2) (ret := (some .int)) (by decide) rfl ?_
  intro p e s m args below meth c s₁ B hml hv
  obtain ⟨rfl, hsz, hP, hK, hD0, hNx⟩ := hv
  subst hsz
  have hD := hD0.self (sz := s.heap.size)
  generalize hAe : va_A (ww ad cA L rs u) s.heap.size = A at hD ⊢
  have hA : ∀ q, s.heap.size ≤ q → A q := fun q h => by rw [← hAe]; exact Or.inr h
  have hl := lv_entry ([.ref (ad x0), .int x1]) (n := 2) (Nat.le_of_ble_eq_true rfl)
  rw [lg_entry_eq]
  generalize (lg_sl ([.ref (ad x0), .int x1]) ++ List.replicate (2 - (lg_sl ([.ref (ad x0), .int x1])).length) Slot.unset).toArray = ls at hl ⊢
  exact wk_Im_sectionSize_0 ⟨B.exec, B.bytes, hml, findClass_of_methodNamed B.named, hts_bw (atoms_spec (ws := wsIm_sectionSize) B.pre), B.returns, B.notSynchronized, hK, hA, fun v => ww_D hD, hN, hal, hNx⟩ F out u x0 x1 h q0 _ _ _ (lv_sub hl [0, 1] rfl) hP va_S.rf
abbrev rm_Im_setSection : Room := { frames := 1, cells := 0, slots := 0, locals := 23 }
def bk_Im_setSection_0 (F : Nat) (al : Nat → Bool) (u : Mr) (x0 : Nat) (x1 : Int32) (x2 : Int32) (x3 : Int32) : Option (Mr × Int32) := bd2 (fn_Im_setWord F al u x0 ((24 : Int32) + (x1 * (8 : Int32))) x2) fun u1 v1 => (bd2 (fn_Im_setWord F al u1 x0 (((24 : Int32) + (x1 * (8 : Int32))) + (4 : Int32)) x3) fun u2 v2 => (some (u2, 0)))
set_option maxHeartbeats 4000000 in
set_option maxRecDepth 100000 in
theorem wk_Im_setSection_0 (cx : Cx p l e s m args below meth c cIm_setSection 4 bw "ImageForge$Image" none D cA ad L rs al A) (F : Nat) (out : Mr × Int32) : ∀ (u : Mr) (x0 : Nat) (x1 : Int32) (x2 : Int32) (x3 : Int32), bk_Im_setSection_0 F al u x0 x1 x2 x3 = some out → okk al 6 x0 = true → Wb p l e rm_Im_setSection s m args below meth c D cA ad L rs A (QV below args s D cA ad L rs A out) 4 0 [(0, .ref (ad x0)), (1, .int x1), (2, .int x2), (3, .int x3)] [] u := by
  obtain ⟨hx, hb, hml, hown, hts, hr, hlocks, hK, hA, hD, hN, hal, hNx⟩ := cx
  intro u x0 x1 x2 x3 h q0 H locs ls hl hP hS
  unfold bk_Im_setSection_0 at h
  refine lv_aload_n hx hb dIm_setSection_0 rfl (lv_at hl 0 rfl) ?_
  refine lv_bipush (v := 24) hx hb dIm_setSection_1 (by decide) ?_
  refine lv_iload_n hx hb dIm_setSection_3 rfl (lv_at hl 1 rfl) ?_
  refine lv_bipush (v := 8) hx hb dIm_setSection_4 (by decide) ?_
  refine lv_imul hx hb dIm_setSection_6 ?_
  refine lv_iadd hx hb dIm_setSection_7 ?_
  refine lv_iload_n hx hb dIm_setSection_8 rfl (lv_at hl 2 rfl) ?_
  obtain ⟨u1, v1, hc1, h⟩ := bd2_some h
  refine x_cv (u := u) (out := (u1, v1)) hA hD hS (va_runV (As := [.int ((24 : Int32) + (x1 * (8 : Int32))), .int x2]) (rest := []) ⟨hx, hb, hml, hown, hts⟩ (ct_Im_setWord hal hN F u x0 ((24 : Int32) + (x1 * (8 : Int32))) x2 (u1, v1) hc1 q0 _) ⟨callB_of 2 hts gdIm_setWord rfl rfl rfl (hts _ tw_2) (hts _ tw_582) hdIm_setWord ⟨Nat.le_of_ble_eq_true rfl, Nat.le_of_ble_eq_true rfl⟩, (hts _ tw_584), (hts _ tp_22)⟩ (x_preV hK hD hNx hP (hal _ (okk_al q0)) (okk_t q0) rfl rfl) rfl rfl hl.1 rfl (lv_room (Nat.le_of_ble_eq_true rfl)) dIm_setSection_9 ⟨Nat.zero_le _, Nat.zero_le _⟩) (fun H locs hP hS => ?_)
  refine lv_aload_n hx hb dIm_setSection_12 rfl (lv_at hl 0 rfl) ?_
  refine lv_bipush (v := 24) hx hb dIm_setSection_13 (by decide) ?_
  refine lv_iload_n hx hb dIm_setSection_15 rfl (lv_at hl 1 rfl) ?_
  refine lv_bipush (v := 8) hx hb dIm_setSection_16 (by decide) ?_
  refine lv_imul hx hb dIm_setSection_18 ?_
  refine lv_iadd hx hb dIm_setSection_19 ?_
  refine lv_iconst (v := 4) hx hb dIm_setSection_20 (by decide) ?_
  refine lv_iadd hx hb dIm_setSection_21 ?_
  refine lv_iload_n hx hb dIm_setSection_22 rfl (lv_at hl 3 rfl) ?_
  obtain ⟨u2, v2, hc2, h⟩ := bd2_some h
  refine x_cv (u := u1) (out := (u2, v2)) hA hD hS (va_runV (As := [.int (((24 : Int32) + (x1 * (8 : Int32))) + (4 : Int32)), .int x3]) (rest := []) ⟨hx, hb, hml, hown, hts⟩ (ct_Im_setWord hal hN F u1 x0 (((24 : Int32) + (x1 * (8 : Int32))) + (4 : Int32)) x3 (u2, v2) hc2 q0 _) ⟨callB_of 2 hts gdIm_setWord rfl rfl rfl (hts _ tw_2) (hts _ tw_582) hdIm_setWord ⟨Nat.le_of_ble_eq_true rfl, Nat.le_of_ble_eq_true rfl⟩, (hts _ tw_584), (hts _ tp_22)⟩ (x_preV hK hD hNx hP (hal _ (okk_al q0)) (okk_t q0) rfl rfl) rfl rfl hl.1 rfl (lv_room (Nat.le_of_ble_eq_true rfl)) dIm_setSection_23 ⟨Nat.zero_le _, Nat.zero_le _⟩) (fun H locs hP hS => ?_)
  exact x_vret hx hb hr hlocks h hP hS dIm_setSection_26
def fn_Im_setSection (F : Nat) (al : Nat → Bool) (u : Mr) (x0 : Nat) (x1 : Int32) (x2 : Int32) (x3 : Int32) : Option (Mr × Int32) := bk_Im_setSection_0 F al u x0 x1 x2 x3
set_option maxHeartbeats 4000000 in
set_option maxRecDepth 100000 in
theorem ct_Im_setSection {l : Launch} {D : va_G} {cA : Nat → ClassId} {ad : Nat → Nat} {L : List Nat} {rs : va_W} {al : Nat → Bool} (hal : ∀ k, al k = true → k ∈ L) (hN : L.Nodup) (F : Nat) (u : Mr) (x0 : Nat) (x1 : Int32) (x2 : Int32) (x3 : Int32) (out : Mr × Int32) (h : fn_Im_setSection F al u x0 x1 x2 x3 = some out) (q0 : okk al 6 x0 = true) : CtV l yIm_setSection wsIm_setSection rm_Im_setSection [.ref (ad x0), .int x1, .int x2, .int x3] D cA ad L rs u out := by
  intro sz
  refine Met.ofW (cc := cIm_setSection) (maxL := 4) (ret := none) (by decide) rfl ?_
  intro p e s m args below meth c s₁ B hml hv
  obtain ⟨rfl, hsz, hP, hK, hD0, hNx⟩ := hv
  subst hsz
  have hD := hD0.self (sz := s.heap.size)
  generalize hAe : va_A (ww ad cA L rs u) s.heap.size = A at hD ⊢
  have hA : ∀ q, s.heap.size ≤ q → A q := fun q h => by rw [← hAe]; exact Or.inr h
  have hl := lv_entry ([.ref (ad x0), .int x1, .int x2, .int x3]) (n := 4) (Nat.le_of_ble_eq_true rfl)
  rw [lg_entry_eq]
  generalize (lg_sl ([.ref (ad x0), .int x1, .int x2, .int x3]) ++ List.replicate (4 - (lg_sl ([.ref (ad x0), .int x1, .int x2, .int x3])).length) Slot.unset).toArray = ls at hl ⊢
  exact wk_Im_setSection_0 ⟨B.exec, B.bytes, hml, findClass_of_methodNamed B.named, hts_bw (atoms_spec (ws := wsIm_setSection) B.pre), B.returns, B.notSynchronized, hK, hA, fun v => ww_D hD, hN, hal, hNx⟩ F out u x0 x1 x2 x3 h q0 _ _ _ (lv_sub hl [0, 1, 2, 3] rfl) hP va_S.rf
abbrev rm_Im_holdsSection : Room := { frames := 2, cells := 0, slots := 0, locals := 42 }
def bk_Im_holdsSection_0 (F : Nat) (al : Nat → Bool) (u : Mr) (x0 : Nat) (x1 : Int32) : Option (Mr × Int32) := bd2 (fn_Im_sectionBegin F al u x0 x1) fun u1 v1 => (bd2 (fn_Im_sectionSize F al u1 x0 x1) fun u2 v2 => (if v1 < 0 then (some (u2, (0 : Int32))) else (if v2 < 0 then (some (u2, (0 : Int32))) else (if 0 < (lg_cmp (v1.toInt64 + v2.toInt64) ((u2.1 x0 1).toInt64)) then (some (u2, (0 : Int32))) else (some (u2, (1 : Int32)))))))
set_option maxHeartbeats 4000000 in
set_option maxRecDepth 100000 in
theorem wk_Im_holdsSection_0 (cx : Cx p l e s m args below meth c cIm_holdsSection 4 bw "ImageForge$Image" (some .boolean) D cA ad L rs al A) (F : Nat) (out : Mr × Int32) : ∀ (u : Mr) (x0 : Nat) (x1 : Int32), bk_Im_holdsSection_0 F al u x0 x1 = some out → okk al 6 x0 = true → Wb p l e rm_Im_holdsSection s m args below meth c D cA ad L rs A (QI below args s D cA ad L rs A out) 4 0 [(0, .ref (ad x0)), (1, .int x1)] [] u := by
  obtain ⟨hx, hb, hml, hown, hts, hr, hlocks, hK, hA, hD, hN, hal, hNx⟩ := cx
  intro u x0 x1 h q0 H locs ls hl hP hS
  unfold bk_Im_holdsSection_0 at h
  refine lv_aload_n hx hb dIm_holdsSection_0 rfl (lv_at hl 0 rfl) ?_
  refine lv_iload_n hx hb dIm_holdsSection_1 rfl (lv_at hl 1 rfl) ?_
  obtain ⟨u1, v1, hc1, h⟩ := bd2_some h
  refine x_ci (u := u) (out := (u1, v1)) hA hD hS (va_runV (As := [.int x1]) (rest := []) ⟨hx, hb, hml, hown, hts⟩ (ct_Im_sectionBegin hal hN F u x0 x1 (u1, v1) hc1 q0 _) ⟨callB_of 1 hts gdIm_sectionBegin rfl rfl rfl (hts _ tw_2) (hts _ tw_741) hdIm_sectionBegin ⟨Nat.le_of_ble_eq_true rfl, Nat.le_of_ble_eq_true rfl⟩, (hts _ tw_743), (hts _ tp_45)⟩ (x_preV hK hD hNx hP (hal _ (okk_al q0)) (okk_t q0) rfl rfl) rfl rfl hl.1 rfl (lv_room (Nat.le_of_ble_eq_true rfl)) dIm_holdsSection_2 ⟨Nat.zero_le _, Nat.zero_le _⟩) (fun H locs hP hS => ?_)
  refine lv_istore_n (lv' := [(2, .int v1), (0, .ref (ad x0)), (1, .int x1)]) hx hb dIm_holdsSection_5 rfl hl (by decide) rfl (fun ls hl => ?_)
  refine lv_aload_n hx hb dIm_holdsSection_6 rfl (lv_at hl 1 rfl) ?_
  refine lv_iload_n hx hb dIm_holdsSection_7 rfl (lv_at hl 2 rfl) ?_
  obtain ⟨u2, v2, hc2, h⟩ := bd2_some h
  refine x_ci (u := u1) (out := (u2, v2)) hA hD hS (va_runV (As := [.int x1]) (rest := []) ⟨hx, hb, hml, hown, hts⟩ (ct_Im_sectionSize hal hN F u1 x0 x1 (u2, v2) hc2 q0 _) ⟨callB_of 1 hts gdIm_sectionSize rfl rfl rfl (hts _ tw_2) (hts _ tw_745) hdIm_sectionSize ⟨Nat.le_of_ble_eq_true rfl, Nat.le_of_ble_eq_true rfl⟩, (hts _ tw_747), (hts _ tp_46)⟩ (x_preV hK hD hNx hP (hal _ (okk_al q0)) (okk_t q0) rfl rfl) rfl rfl hl.1 rfl (lv_room (Nat.le_of_ble_eq_true rfl)) dIm_holdsSection_8 ⟨Nat.zero_le _, Nat.zero_le _⟩) (fun H locs hP hS => ?_)
  refine lv_istore_n (lv' := [(3, .int v2), (2, .int v1), (0, .ref (ad x0)), (1, .int x1)]) hx hb dIm_holdsSection_11 rfl hl (by decide) rfl (fun ls hl => ?_)
  refine lv_iload_n hx hb dIm_holdsSection_12 rfl (lv_at hl 1 rfl) ?_
  refine lv_if_lt (tgt := 38) hx hb dIm_holdsSection_13 rfl (fun hc => ?_) (fun hc => ?_)
  · replace h := it_t h hc
    refine lv_iconst (v := 0) hx hb dIm_holdsSection_38 (by decide) ?_
    exact x_zret hx hb hr hlocks rfl h hP hS dIm_holdsSection_39
  · replace h := it_f h hc
    refine lv_iload_n hx hb dIm_holdsSection_16 rfl (lv_at hl 0 rfl) ?_
    refine lv_if_lt (tgt := 38) hx hb dIm_holdsSection_17 rfl (fun hc => ?_) (fun hc => ?_)
    · replace h := it_t h hc
      refine lv_iconst (v := 0) hx hb dIm_holdsSection_38 (by decide) ?_
      exact x_zret hx hb hr hlocks rfl h hP hS dIm_holdsSection_39
    · replace h := it_f h hc
      refine lv_iload_n hx hb dIm_holdsSection_20 rfl (lv_at hl 1 rfl) ?_
      refine lv_i2l (v := v1.toInt64) hx hb dIm_holdsSection_21 rfl ?_
      refine lv_iload_n hx hb dIm_holdsSection_22 rfl (lv_at hl 0 rfl) ?_
      refine lv_i2l (v := v2.toInt64) hx hb dIm_holdsSection_23 rfl ?_
      refine lv_ladd hx hb dIm_holdsSection_24 ?_
      refine lv_aload_n hx hb dIm_holdsSection_25 rfl (lv_at hl 2 rfl) ?_
      refine x_get hx hb hts in_Im hown hK hP (hal _ (okk_al q0)) (okk_t q0) rfl rfl 1 (by decide) (hts _ tw_49) (fun _ h9 => h9) rfl dIm_holdsSection_26 ?_
      refine lv_i2l (v := (u2.1 x0 1).toInt64) hx hb dIm_holdsSection_29 rfl ?_
      refine W.lcmp hx hb dIm_holdsSection_30 ?_
      refine lv_if_gt (tgt := 38) hx hb dIm_holdsSection_31 rfl (fun hc => ?_) (fun hc => ?_)
      · replace h := it_t h hc
        refine lv_iconst (v := 0) hx hb dIm_holdsSection_38 (by decide) ?_
        exact x_zret hx hb hr hlocks rfl h hP hS dIm_holdsSection_39
      · replace h := it_f h hc
        refine lv_iconst (v := 1) hx hb dIm_holdsSection_34 (by decide) ?_
        refine lv_goto (tgt := 39) hx hb dIm_holdsSection_35 rfl ?_
        exact x_zret hx hb hr hlocks rfl h hP hS dIm_holdsSection_39
def fn_Im_holdsSection (F : Nat) (al : Nat → Bool) (u : Mr) (x0 : Nat) (x1 : Int32) : Option (Mr × Int32) := bk_Im_holdsSection_0 F al u x0 x1
set_option maxHeartbeats 4000000 in
set_option maxRecDepth 100000 in
theorem ct_Im_holdsSection {l : Launch} {D : va_G} {cA : Nat → ClassId} {ad : Nat → Nat} {L : List Nat} {rs : va_W} {al : Nat → Bool} (hal : ∀ k, al k = true → k ∈ L) (hN : L.Nodup) (F : Nat) (u : Mr) (x0 : Nat) (x1 : Int32) (out : Mr × Int32) (h : fn_Im_holdsSection F al u x0 x1 = some out) (q0 : okk al 6 x0 = true) : CtI l yIm_holdsSection wsIm_holdsSection rm_Im_holdsSection [.ref (ad x0), .int x1] D cA ad L rs u out := by
  intro sz
  refine Met.ofW (cc := cIm_holdsSection) (maxL := 4) (ret := (some .boolean)) (by decide) rfl ?_
  intro p e s m args below meth c s₁ B hml hv
  obtain ⟨rfl, hsz, hP, hK, hD0, hNx⟩ := hv
  subst hsz
  have hD := hD0.self (sz := s.heap.size)
  generalize hAe : va_A (ww ad cA L rs u) s.heap.size = A at hD ⊢
  have hA : ∀ q, s.heap.size ≤ q → A q := fun q h => by rw [← hAe]; exact Or.inr h
  have hl := lv_entry ([.ref (ad x0), .int x1]) (n := 4) (Nat.le_of_ble_eq_true rfl)
  rw [lg_entry_eq]
  generalize (lg_sl ([.ref (ad x0), .int x1]) ++ List.replicate (4 - (lg_sl ([.ref (ad x0), .int x1])).length) Slot.unset).toArray = ls at hl ⊢
  exact wk_Im_holdsSection_0 ⟨B.exec, B.bytes, hml, findClass_of_methodNamed B.named, hts_bw (atoms_spec (ws := wsIm_holdsSection) B.pre), B.returns, B.notSynchronized, hK, hA, fun v => ww_D hD, hN, hal, hNx⟩ F out u x0 x1 h q0 _ _ _ (lv_sub hl [0, 1] rfl) hP va_S.rf
abbrev rm_Im_checksum : Room := { frames := 1, cells := 0, slots := 0, locals := 21 }
def bk_Im_checksum_42 (F : Nat) (al : Nat → Bool) (k4 : Mr → Nat → Int32 → Int32 → Option (Mr × Int32)) (u : Mr) (x0 : Nat) (x1 : Int32) (x2 : Int32) : Option (Mr × Int32) := k4 u x0 x1 (x2 + (2 : Int32))
set_option maxHeartbeats 4000000 in
set_option maxRecDepth 100000 in
theorem wk_Im_checksum_42 (cx : Cx p l e s m args below meth c cIm_checksum 3 bw "ImageForge$Image" (some .int) D cA ad L rs al A) (F : Nat) (out : Mr × Int32) {k4 : Mr → Nat → Int32 → Int32 → Option (Mr × Int32)} (hk4 : ∀ (u : Mr) (x0 : Nat) (x1 : Int32) (x2 : Int32), k4 u x0 x1 x2 = some out → okk al 6 x0 = true → Wb p l e rm_Im_checksum s m args below meth c D cA ad L rs A (QI below args s D cA ad L rs A out) 3 4 [(0, .ref (ad x0)), (1, .int x1), (2, .int x2)] [] u) : ∀ (u : Mr) (x0 : Nat) (x1 : Int32) (x2 : Int32), bk_Im_checksum_42 F al k4 u x0 x1 x2 = some out → okk al 6 x0 = true → Wb p l e rm_Im_checksum s m args below meth c D cA ad L rs A (QI below args s D cA ad L rs A out) 3 42 [(0, .ref (ad x0)), (1, .int x1), (2, .int x2)] [] u := by
  obtain ⟨hx, hb, hml, hown, hts, hr, hlocks, hK, hA, hD, hN, hal, hNx⟩ := cx
  intro u x0 x1 x2 h q0 H locs ls hl hP hS
  unfold bk_Im_checksum_42 at h
  refine lv_iinc (k := 2) (v := x2 + (2 : Int32)) (lv' := [(2, .int (x2 + (2 : Int32))), (0, .ref (ad x0)), (1, .int x1)]) hx hb dIm_checksum_42 hl rfl (congrArg (fun z => _ + z) (show Int32.ofInt 2 = 2 by decide)) (by decide) rfl (fun ls hl => ?_)
  refine lv_goto (tgt := 4) hx hb dIm_checksum_45 rfl ?_
  exact hk4 u x0 x1 (x2 + (2 : Int32)) h q0 _ _ _ (lv_sub hl [1, 2, 0] rfl) hP hS
def bk_Im_checksum_24 (F : Nat) (al : Nat → Bool) (k4 : Mr → Nat → Int32 → Int32 → Option (Mr × Int32)) (u : Mr) (x0 : Nat) (x1 : Int32) (x2 : Int32) : Option (Mr × Int32) := bd2 (fn_Im_halfAt F al u x0 x2) fun u1 v1 => (bk_Im_checksum_42 F al k4 u1 x0 (((x1 + v1) &&& (65535 : Int32)) + ((x1 + v1) >>> ((16 : Int32) &&& 31))) x2)
set_option maxHeartbeats 4000000 in
set_option maxRecDepth 100000 in
theorem wk_Im_checksum_24 (cx : Cx p l e s m args below meth c cIm_checksum 3 bw "ImageForge$Image" (some .int) D cA ad L rs al A) (F : Nat) (out : Mr × Int32) {k4 : Mr → Nat → Int32 → Int32 → Option (Mr × Int32)} (hk4 : ∀ (u : Mr) (x0 : Nat) (x1 : Int32) (x2 : Int32), k4 u x0 x1 x2 = some out → okk al 6 x0 = true → Wb p l e rm_Im_checksum s m args below meth c D cA ad L rs A (QI below args s D cA ad L rs A out) 3 4 [(0, .ref (ad x0)), (1, .int x1), (2, .int x2)] [] u) : ∀ (u : Mr) (x0 : Nat) (x1 : Int32) (x2 : Int32), bk_Im_checksum_24 F al k4 u x0 x1 x2 = some out → okk al 6 x0 = true → Wb p l e rm_Im_checksum s m args below meth c D cA ad L rs A (QI below args s D cA ad L rs A out) 3 24 [(0, .ref (ad x0)), (1, .int x1), (2, .int x2)] [] u := by
  obtain ⟨hx, hb, hml, hown, hts, hr, hlocks, hK, hA, hD, hN, hal, hNx⟩ := cx
  intro u x0 x1 x2 h q0 H locs ls hl hP hS
  unfold bk_Im_checksum_24 at h
  refine lv_iload_n hx hb dIm_checksum_24 rfl (lv_at hl 1 rfl) ?_
  refine lv_aload_n hx hb dIm_checksum_25 rfl (lv_at hl 0 rfl) ?_
  refine lv_iload_n hx hb dIm_checksum_26 rfl (lv_at hl 2 rfl) ?_
  obtain ⟨u1, v1, hc1, h⟩ := bd2_some h
  refine x_ci (u := u) (out := (u1, v1)) hA hD hS (va_runV (As := [.int x2]) (rest := [.int x1]) ⟨hx, hb, hml, hown, hts⟩ (ct_Im_halfAt hal hN F u x0 x2 (u1, v1) hc1 q0 _) ⟨callB_of 1 hts gdIm_halfAt rfl rfl rfl (hts _ tw_2) (hts _ tw_659) hdIm_halfAt ⟨Nat.le_of_ble_eq_true rfl, Nat.le_of_ble_eq_true rfl⟩, (hts _ tw_661), (hts _ tp_36)⟩ (x_preV hK hD hNx hP (hal _ (okk_al q0)) (okk_t q0) rfl rfl) rfl rfl hl.1 rfl (lv_room (Nat.le_of_ble_eq_true rfl)) dIm_checksum_27 ⟨Nat.zero_le _, Nat.zero_le _⟩) (fun H locs hP hS => ?_)
  refine lv_iadd hx hb dIm_checksum_30 ?_
  refine lv_istore_n (lv' := [(1, .int (x1 + v1)), (0, .ref (ad x0)), (2, .int x2)]) hx hb dIm_checksum_31 rfl hl (by decide) rfl (fun ls hl => ?_)
  refine lv_iload_n hx hb dIm_checksum_32 rfl (lv_at hl 0 rfl) ?_
  refine lv_ldc (v := 65535) hx hb hown (hts _ tw_663) dIm_checksum_33 ?_
  refine lv_iand hx hb dIm_checksum_35 ?_
  refine lv_iload_n hx hb dIm_checksum_36 rfl (lv_at hl 0 rfl) ?_
  refine lv_bipush (v := 16) hx hb dIm_checksum_37 (by decide) ?_
  refine lv_ishr hx hb dIm_checksum_39 ?_
  refine lv_iadd hx hb dIm_checksum_40 ?_
  refine lv_istore_n (lv' := [(1, .int (((x1 + v1) &&& (65535 : Int32)) + ((x1 + v1) >>> ((16 : Int32) &&& 31)))), (0, .ref (ad x0)), (2, .int x2)]) hx hb dIm_checksum_41 rfl hl (by decide) rfl (fun ls hl => ?_)
  exact wk_Im_checksum_42 ⟨hx, hb, hml, hown, hts, hr, hlocks, hK, hA, hD, hN, hal, hNx⟩ F out hk4 u1 x0 (((x1 + v1) &&& (65535 : Int32)) + ((x1 + v1) >>> ((16 : Int32) &&& 31))) x2 h q0 _ _ _ (lv_sub hl [1, 0, 2] rfl) hP hS
def bk_Im_checksum_4 (F : Nat) (al : Nat → Bool) : Nat → Mr → Nat → Int32 → Int32 → Option (Mr × Int32)
  | 0, _, _, _, _ => none
  | n + 1, u, x0, x1, x2 => if (u.1 x0 1) ≤ x2 then (some (u, x1 + (u.1 x0 1))) else (if x2 < (20 : Int32) then (bk_Im_checksum_24 F al (bk_Im_checksum_4 F al n) u x0 x1 x2) else (if x2 < (24 : Int32) then (bk_Im_checksum_42 F al (bk_Im_checksum_4 F al n) u x0 x1 x2) else (bk_Im_checksum_24 F al (bk_Im_checksum_4 F al n) u x0 x1 x2)))
set_option maxHeartbeats 4000000 in
set_option maxRecDepth 100000 in
theorem wk_Im_checksum_4 (cx : Cx p l e s m args below meth c cIm_checksum 3 bw "ImageForge$Image" (some .int) D cA ad L rs al A) (F : Nat) (out : Mr × Int32) : ∀ n : Nat, ∀ (u : Mr) (x0 : Nat) (x1 : Int32) (x2 : Int32), bk_Im_checksum_4 F al n u x0 x1 x2 = some out → okk al 6 x0 = true → Wb p l e rm_Im_checksum s m args below meth c D cA ad L rs A (QI below args s D cA ad L rs A out) 3 4 [(0, .ref (ad x0)), (1, .int x1), (2, .int x2)] [] u := by
  obtain ⟨hx, hb, hml, hown, hts, hr, hlocks, hK, hA, hD, hN, hal, hNx⟩ := cx
  intro n
  induction n with
  | zero =>
    intro u x0 x1 x2 h
    cases h
  | succ n ih =>
    intro u x0 x1 x2 h q0 H locs ls hl hP hS
    rw [bk_Im_checksum_4] at h
    refine lv_iload_n hx hb dIm_checksum_4 rfl (lv_at hl 2 rfl) ?_
    refine lv_aload_n hx hb dIm_checksum_5 rfl (lv_at hl 0 rfl) ?_
    refine x_get hx hb hts in_Im hown hK hP (hal _ (okk_al q0)) (okk_t q0) rfl rfl 1 (by decide) (hts _ tw_49) (fun _ h9 => h9) rfl dIm_checksum_6 ?_
    refine lv_icmp_ge (tgt := 48) hx hb dIm_checksum_9 rfl (fun hc => ?_) (fun hc => ?_)
    · replace h := it_t h hc
      refine lv_iload_n hx hb dIm_checksum_48 rfl (lv_at hl 1 rfl) ?_
      refine lv_aload_n hx hb dIm_checksum_49 rfl (lv_at hl 0 rfl) ?_
      refine x_get hx hb hts in_Im hown hK hP (hal _ (okk_al q0)) (okk_t q0) rfl rfl 1 (by decide) (hts _ tw_49) (fun _ h9 => h9) rfl dIm_checksum_50 ?_
      refine lv_iadd hx hb dIm_checksum_53 ?_
      exact x_iret hx hb hr hlocks h hP hS dIm_checksum_54
    · replace h := it_f h hc
      refine lv_iload_n hx hb dIm_checksum_12 rfl (lv_at hl 2 rfl) ?_
      refine lv_bipush (v := 20) hx hb dIm_checksum_13 (by decide) ?_
      refine lv_icmp_lt (tgt := 24) hx hb dIm_checksum_15 rfl (fun hc => ?_) (fun hc => ?_)
      · replace h := it_t h hc
        exact wk_Im_checksum_24 ⟨hx, hb, hml, hown, hts, hr, hlocks, hK, hA, hD, hN, hal, hNx⟩ F out ih u x0 x1 x2 h q0 _ _ _ (lv_sub hl [0, 1, 2] rfl) hP hS
      · replace h := it_f h hc
        refine lv_iload_n hx hb dIm_checksum_18 rfl (lv_at hl 2 rfl) ?_
        refine lv_bipush (v := 24) hx hb dIm_checksum_19 (by decide) ?_
        refine lv_icmp_lt (tgt := 42) hx hb dIm_checksum_21 rfl (fun hc => ?_) (fun hc => ?_)
        · replace h := it_t h hc
          exact wk_Im_checksum_42 ⟨hx, hb, hml, hown, hts, hr, hlocks, hK, hA, hD, hN, hal, hNx⟩ F out ih u x0 x1 x2 h q0 _ _ _ (lv_sub hl [0, 1, 2] rfl) hP hS
        · replace h := it_f h hc
          exact wk_Im_checksum_24 ⟨hx, hb, hml, hown, hts, hr, hlocks, hK, hA, hD, hN, hal, hNx⟩ F out ih u x0 x1 x2 h q0 _ _ _ (lv_sub hl [0, 1, 2] rfl) hP hS
def bk_Im_checksum_0 (F : Nat) (al : Nat → Bool) (u : Mr) (x0 : Nat) : Option (Mr × Int32) := bk_Im_checksum_4 F al F u x0 (0 : Int32) (0 : Int32)
set_option maxHeartbeats 4000000 in
set_option maxRecDepth 100000 in
theorem wk_Im_checksum_0 (cx : Cx p l e s m args below meth c cIm_checksum 3 bw "ImageForge$Image" (some .int) D cA ad L rs al A) (F : Nat) (out : Mr × Int32) : ∀ (u : Mr) (x0 : Nat), bk_Im_checksum_0 F al u x0 = some out → okk al 6 x0 = true → Wb p l e rm_Im_checksum s m args below meth c D cA ad L rs A (QI below args s D cA ad L rs A out) 3 0 [(0, .ref (ad x0))] [] u := by
  obtain ⟨hx, hb, hml, hown, hts, hr, hlocks, hK, hA, hD, hN, hal, hNx⟩ := cx
  intro u x0 h q0 H locs ls hl hP hS
  unfold bk_Im_checksum_0 at h
  refine lv_iconst (v := 0) hx hb dIm_checksum_0 (by decide) ?_
  refine lv_istore_n (lv' := [(1, .int (0 : Int32)), (0, .ref (ad x0))]) hx hb dIm_checksum_1 rfl hl (by decide) rfl (fun ls hl => ?_)
  refine lv_iconst (v := 0) hx hb dIm_checksum_2 (by decide) ?_
  refine lv_istore_n (lv' := [(2, .int (0 : Int32)), (1, .int (0 : Int32)), (0, .ref (ad x0))]) hx hb dIm_checksum_3 rfl hl (by decide) rfl (fun ls hl => ?_)
  exact wk_Im_checksum_4 ⟨hx, hb, hml, hown, hts, hr, hlocks, hK, hA, hD, hN, hal, hNx⟩ F out F u x0 (0 : Int32) (0 : Int32) h q0 _ _ _ (lv_sub hl [2, 1, 0] rfl) hP hS
def fn_Im_checksum (F : Nat) (al : Nat → Bool) (u : Mr) (x0 : Nat) : Option (Mr × Int32) := bk_Im_checksum_0 F al u x0
set_option maxHeartbeats 4000000 in
set_option maxRecDepth 100000 in
theorem ct_Im_checksum {l : Launch} {D : va_G} {cA : Nat → ClassId} {ad : Nat → Nat} {L : List Nat} {rs : va_W} {al : Nat → Bool} (hal : ∀ k, al k = true → k ∈ L) (hN : L.Nodup) (F : Nat) (u : Mr) (x0 : Nat) (out : Mr × Int32) (h : fn_Im_checksum F al u x0 = some out) (q0 : okk al 6 x0 = true) : CtI l yIm_checksum wsIm_checksum rm_Im_checksum [.ref (ad x0)] D cA ad L rs u out := by
  intro sz
  refine Met.ofW (cc := cIm_checksum) (maxL := 3) (ret := (some .int)) (by decide) rfl ?_
  intro p e s m args below meth c s₁ B hml hv
  obtain ⟨rfl, hsz, hP, hK, hD0, hNx⟩ := hv
  subst hsz
  have hD := hD0.self (sz := s.heap.size)
  generalize hAe : va_A (ww ad cA L rs u) s.heap.size = A at hD ⊢
  have hA : ∀ q, s.heap.size ≤ q → A q := fun q h => by rw [← hAe]; exact Or.inr h
  have hl := lv_entry ([.ref (ad x0)]) (n := 3) (Nat.le_of_ble_eq_true rfl)
  rw [lg_entry_eq]
  generalize (lg_sl ([.ref (ad x0)]) ++ List.replicate (3 - (lg_sl ([.ref (ad x0)])).length) Slot.unset).toArray = ls at hl ⊢
  exact wk_Im_checksum_0 ⟨B.exec, B.bytes, hml, findClass_of_methodNamed B.named, hts_bw (atoms_spec (ws := wsIm_checksum) B.pre), B.returns, B.notSynchronized, hK, hA, fun v => ww_D hD, hN, hal, hNx⟩ F out u x0 h q0 _ _ _ (lv_sub hl [0] rfl) hP va_S.rf
end

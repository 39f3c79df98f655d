abbrev yFg_isBelow : MethodName := ⟨"ImageForge", "isBelow", "(II)Z"⟩
abbrev cFg_isBelow : ByteArray := prog_1_method_15_code
abbrev wsFg_isBelow : List Cond := .code yFg_isBelow cFg_isBelow 2 (some .boolean) :: bw
theorem gdFg_isBelow : GoodIn bw wsFg_isBelow := gd_of tw_253
theorem hdFg_isBelow : yFg_isBelow.cls ≠ "java/lang/invoke/MethodHandle" ∧ yFg_isBelow.cls ≠ "java/lang/invoke/VarHandle" ∧ (parseMethodDescriptor yFg_isBelow.desc).map (fun d => d.parameters.length) = some 2 := by decide +kernel
theorem dFg_isBelow_0 : decode cFg_isBelow 0 = .ok (.iload_n 0, 1) := by decide +kernel
theorem dFg_isBelow_1 : decode cFg_isBelow 1 = .ok (.ifCond .lt 12, 3) := by decide +kernel
theorem dFg_isBelow_4 : decode cFg_isBelow 4 = .ok (.iload_n 0, 1) := by decide +kernel
theorem dFg_isBelow_5 : decode cFg_isBelow 5 = .ok (.iload_n 1, 1) := by decide +kernel
theorem dFg_isBelow_6 : decode cFg_isBelow 6 = .ok (.if_icmp .ge 7, 3) := by decide +kernel
theorem dFg_isBelow_9 : decode cFg_isBelow 9 = .ok (.iconst 1, 1) := by decide +kernel
theorem dFg_isBelow_10 : decode cFg_isBelow 10 = .ok (.goto 4, 3) := by decide +kernel
theorem dFg_isBelow_13 : decode cFg_isBelow 13 = .ok (.iconst 0, 1) := by decide +kernel
theorem dFg_isBelow_14 : decode cFg_isBelow 14 = .ok (.ireturn, 1) := by decide +kernel
abbrev yFg_isSlot : MethodName := ⟨"ImageForge", "isSlot", "(II)Z"⟩
abbrev cFg_isSlot : ByteArray := prog_1_method_16_code
abbrev wsFg_isSlot : List Cond := .code yFg_isSlot cFg_isSlot 2 (some .boolean) :: bw
theorem gdFg_isSlot : GoodIn bw wsFg_isSlot := gd_of tw_495
theorem hdFg_isSlot : yFg_isSlot.cls ≠ "java/lang/invoke/MethodHandle" ∧ yFg_isSlot.cls ≠ "java/lang/invoke/VarHandle" ∧ (parseMethodDescriptor yFg_isSlot.desc).map (fun d => d.parameters.length) = some 2 := by decide +kernel
theorem dFg_isSlot_0 : decode cFg_isSlot 0 = .ok (.iload_n 0, 1) := by decide +kernel
theorem dFg_isSlot_1 : decode cFg_isSlot 1 = .ok (.iconst 4, 1) := by decide +kernel
theorem dFg_isSlot_2 : decode cFg_isSlot 2 = .ok (.invokestatic 49, 3) := by decide +kernel
theorem dFg_isSlot_5 : decode cFg_isSlot 5 = .ok (.ifCond .eq 16, 3) := by decide +kernel
theorem dFg_isSlot_8 : decode cFg_isSlot 8 = .ok (.iload_n 1, 1) := by decide +kernel
theorem dFg_isSlot_9 : decode cFg_isSlot 9 = .ok (.bipush 100, 2) := by decide +kernel
theorem dFg_isSlot_11 : decode cFg_isSlot 11 = .ok (.invokestatic 49, 3) := by decide +kernel
theorem dFg_isSlot_14 : decode cFg_isSlot 14 = .ok (.ifCond .eq 7, 3) := by decide +kernel
theorem dFg_isSlot_17 : decode cFg_isSlot 17 = .ok (.iconst 1, 1) := by decide +kernel
theorem dFg_isSlot_18 : decode cFg_isSlot 18 = .ok (.goto 4, 3) := by decide +kernel
theorem dFg_isSlot_21 : decode cFg_isSlot 21 = .ok (.iconst 0, 1) := by decide +kernel
theorem dFg_isSlot_22 : decode cFg_isSlot 22 = .ok (.ireturn, 1) := by decide +kernel
abbrev yFg_roundUp : MethodName := ⟨"ImageForge", "roundUp", "(II)I"⟩
abbrev cFg_roundUp : ByteArray := prog_1_method_17_code
abbrev wsFg_roundUp : List Cond := .code yFg_roundUp cFg_roundUp 2 (some .int) :: bw
theorem gdFg_roundUp : GoodIn bw wsFg_roundUp := gd_of tw_572
theorem hdFg_roundUp : yFg_roundUp.cls ≠ "java/lang/invoke/MethodHandle" ∧ yFg_roundUp.cls ≠ "java/lang/invoke/VarHandle" ∧ (parseMethodDescriptor yFg_roundUp.desc).map (fun d => d.parameters.length) = some 2 := by decide +kernel
theorem dFg_roundUp_0 : decode cFg_roundUp 0 = .ok (.iload_n 0, 1) := by decide +kernel
theorem dFg_roundUp_1 : decode cFg_roundUp 1 = .ok (.iload_n 1, 1) := by decide +kernel
theorem dFg_roundUp_2 : decode cFg_roundUp 2 = .ok (.iadd, 1) := by decide +kernel
theorem dFg_roundUp_3 : decode cFg_roundUp 3 = .ok (.iconst 1, 1) := by decide +kernel
theorem dFg_roundUp_4 : decode cFg_roundUp 4 = .ok (.isub, 1) := by decide +kernel
theorem dFg_roundUp_5 : decode cFg_roundUp 5 = .ok (.iload_n 1, 1) := by decide +kernel
theorem dFg_roundUp_6 : decode cFg_roundUp 6 = .ok (.idiv, 1) := by decide +kernel
theorem dFg_roundUp_7 : decode cFg_roundUp 7 = .ok (.iload_n 1, 1) := by decide +kernel
theorem dFg_roundUp_8 : decode cFg_roundUp 8 = .ok (.imul, 1) := by decide +kernel
theorem dFg_roundUp_9 : decode cFg_roundUp 9 = .ok (.ireturn, 1) := by decide +kernel
abbrev yNm_defineAt : MethodName := ⟨"ImageForge$Name", "defineAt", "(III)V"⟩
abbrev cNm_defineAt : ByteArray := prog_5_method_2_code
abbrev wsNm_defineAt : List Cond := .code yNm_defineAt cNm_defineAt 4 none :: bw
theorem gdNm_defineAt : GoodIn bw wsNm_defineAt := gd_of tw_354
theorem hdNm_defineAt : yNm_defineAt.cls ≠ "java/lang/invoke/MethodHandle" ∧ yNm_defineAt.cls ≠ "java/lang/invoke/VarHandle" ∧ (parseMethodDescriptor yNm_defineAt.desc).map (fun d => d.parameters.length) = some 3 := by decide +kernel
theorem dNm_defineAt_0 : decode cNm_defineAt 0 = .ok (.aload_n 0, 1) := by decide +kernel
theorem dNm_defineAt_1 : decode cNm_defineAt 1 = .ok (.dup, 1) := by decide +kernel
theorem dNm_defineAt_2 : decode cNm_defineAt 2 = .ok (.getfield 15, 3) := by decide +kernel
theorem dNm_defineAt_5 : decode cNm_defineAt 5 = .ok (.iconst 1, 1) := by decide +kernel
theorem dNm_defineAt_6 : decode cNm_defineAt 6 = .ok (.iadd, 1) := by decide +kernel
theorem dNm_defineAt_7 : decode cNm_defineAt 7 = .ok (.putfield 15, 3) := by decide +kernel
theorem dNm_defineAt_10 : decode cNm_defineAt 10 = .ok (.aload_n 0, 1) := by decide +kernel
theorem dNm_defineAt_11 : decode cNm_defineAt 11 = .ok (.iload_n 1, 1) := by decide +kernel
theorem dNm_defineAt_12 : decode cNm_defineAt 12 = .ok (.putfield 18, 3) := by decide +kernel
theorem dNm_defineAt_15 : decode cNm_defineAt 15 = .ok (.aload_n 0, 1) := by decide +kernel
theorem dNm_defineAt_16 : decode cNm_defineAt 16 = .ok (.iload_n 2, 1) := by decide +kernel
theorem dNm_defineAt_17 : decode cNm_defineAt 17 = .ok (.putfield 21, 3) := by decide +kernel
theorem dNm_defineAt_20 : decode cNm_defineAt 20 = .ok (.aload_n 0, 1) := by decide +kernel
theorem dNm_defineAt_21 : decode cNm_defineAt 21 = .ok (.iload_n 3, 1) := by decide +kernel
theorem dNm_defineAt_22 : decode cNm_defineAt 22 = .ok (.putfield 24, 3) := by decide +kernel
theorem dNm_defineAt_25 : decode cNm_defineAt 25 = .ok (.return_, 1) := by decide +kernel
abbrev yNm_isDefined : MethodName := ⟨"ImageForge$Name", "isDefined", "()Z"⟩
abbrev cNm_isDefined : ByteArray := prog_5_method_3_code
abbrev wsNm_isDefined : List Cond := .code yNm_isDefined cNm_isDefined 1 (some .boolean) :: bw
theorem gdNm_isDefined : GoodIn bw wsNm_isDefined := gd_of tw_520
theorem hdNm_isDefined : yNm_isDefined.cls ≠ "java/lang/invoke/MethodHandle" ∧ yNm_isDefined.cls ≠ "java/lang/invoke/VarHandle" ∧ (parseMethodDescriptor yNm_isDefined.desc).map (fun d => d.parameters.length) = some 0 := by decide +kernel
theorem dNm_isDefined_0 : decode cNm_isDefined 0 = .ok (.aload_n 0, 1) := by decide +kernel
theorem dNm_isDefined_1 : decode cNm_isDefined 1 = .ok (.getfield 15, 3) := by decide +kernel
theorem dNm_isDefined_4 : decode cNm_isDefined 4 = .ok (.ifCond .le 7, 3) := by decide +kernel
theorem dNm_isDefined_7 : decode cNm_isDefined 7 = .ok (.iconst 1, 1) := by decide +kernel
theorem dNm_isDefined_8 : decode cNm_isDefined 8 = .ok (.goto 4, 3) := by decide +kernel
theorem dNm_isDefined_11 : decode cNm_isDefined 11 = .ok (.iconst 0, 1) := by decide +kernel
theorem dNm_isDefined_12 : decode cNm_isDefined 12 = .ok (.ireturn, 1) := by decide +kernel
abbrev yNm_isImported : MethodName := ⟨"ImageForge$Name", "isImported", "()Z"⟩
abbrev cNm_isImported : ByteArray := prog_5_method_4_code
abbrev wsNm_isImported : List Cond := .code yNm_isImported cNm_isImported 1 (some .boolean) :: bw
theorem gdNm_isImported : GoodIn bw wsNm_isImported := gd_of tw_524
theorem hdNm_isImported : yNm_isImported.cls ≠ "java/lang/invoke/MethodHandle" ∧ yNm_isImported.cls ≠ "java/lang/invoke/VarHandle" ∧ (parseMethodDescriptor yNm_isImported.desc).map (fun d => d.parameters.length) = some 0 := by decide +kernel
theorem dNm_isImported_0 : decode cNm_isImported 0 = .ok (.aload_n 0, 1) := by decide +kernel
theorem dNm_isImported_1 : decode cNm_isImported 1 = .ok (.getfield 9, 3) := by decide +kernel
theorem dNm_isImported_4 : decode cNm_isImported 4 = .ok (.iconst (-1), 1) := by decide +kernel
theorem dNm_isImported_5 : decode cNm_isImported 5 = .ok (.if_icmp .eq 7, 3) := by decide +kernel
theorem dNm_isImported_8 : decode cNm_isImported 8 = .ok (.iconst 1, 1) := by decide +kernel
theorem dNm_isImported_9 : decode cNm_isImported 9 = .ok (.goto 4, 3) := by decide +kernel
theorem dNm_isImported_12 : decode cNm_isImported 12 = .ok (.iconst 0, 1) := by decide +kernel
theorem dNm_isImported_13 : decode cNm_isImported 13 = .ok (.ireturn, 1) := by decide +kernel
abbrev yPt_append : MethodName := ⟨"ImageForge$Part", "append", "(JI)V"⟩
abbrev cPt_append : ByteArray := prog_7_method_2_code
abbrev wsPt_append : List Cond := .code yPt_append cPt_append 5 none :: bw
theorem gdPt_append : GoodIn bw wsPt_append := gd_of tw_340
theorem hdPt_append : yPt_append.cls ≠ "java/lang/invoke/MethodHandle" ∧ yPt_append.cls ≠ "java/lang/invoke/VarHandle" ∧ (parseMethodDescriptor yPt_append.desc).map (fun d => d.parameters.length) = some 2 := by decide +kernel
theorem dPt_append_0 : decode cPt_append 0 = .ok (.iconst 0, 1) := by decide +kernel
theorem dPt_append_1 : decode cPt_append 1 = .ok (.istore 4, 2) := by decide +kernel
theorem dPt_append_3 : decode cPt_append 3 = .ok (.iload 4, 2) := by decide +kernel
theorem dPt_append_5 : decode cPt_append 5 = .ok (.iload_n 3, 1) := by decide +kernel
theorem dPt_append_6 : decode cPt_append 6 = .ok (.if_icmp .ge 30, 3) := by decide +kernel
theorem dPt_append_9 : decode cPt_append 9 = .ok (.aload_n 0, 1) := by decide +kernel
theorem dPt_append_10 : decode cPt_append 10 = .ok (.getfield 9, 3) := by decide +kernel
theorem dPt_append_13 : decode cPt_append 13 = .ok (.aload_n 0, 1) := by decide +kernel
theorem dPt_append_14 : decode cPt_append 14 = .ok (.getfield 15, 3) := by decide +kernel
theorem dPt_append_17 : decode cPt_append 17 = .ok (.iload 4, 2) := by decide +kernel
theorem dPt_append_19 : decode cPt_append 19 = .ok (.iadd, 1) := by decide +kernel
theorem dPt_append_20 : decode cPt_append 20 = .ok (.lload_n 1, 1) := by decide +kernel
theorem dPt_append_21 : decode cPt_append 21 = .ok (.bipush 8, 2) := by decide +kernel
theorem dPt_append_23 : decode cPt_append 23 = .ok (.iload 4, 2) := by decide +kernel
theorem dPt_append_25 : decode cPt_append 25 = .ok (.imul, 1) := by decide +kernel
theorem dPt_append_26 : decode cPt_append 26 = .ok (.lshr, 1) := by decide +kernel
theorem dPt_append_27 : decode cPt_append 27 = .ok (.l2i, 1) := by decide +kernel
theorem dPt_append_28 : decode cPt_append 28 = .ok (.i2b, 1) := by decide +kernel
theorem dPt_append_29 : decode cPt_append 29 = .ok (.bastore, 1) := by decide +kernel
theorem dPt_append_30 : decode cPt_append 30 = .ok (.iinc 4 1, 3) := by decide +kernel
theorem dPt_append_33 : decode cPt_append 33 = .ok (.goto (-30), 3) := by decide +kernel
theorem dPt_append_36 : decode cPt_append 36 = .ok (.aload_n 0, 1) := by decide +kernel
theorem dPt_append_37 : decode cPt_append 37 = .ok (.dup, 1) := by decide +kernel
theorem dPt_append_38 : decode cPt_append 38 = .ok (.getfield 15, 3) := by decide +kernel
theorem dPt_append_41 : decode cPt_append 41 = .ok (.iload_n 3, 1) := by decide +kernel
theorem dPt_append_42 : decode cPt_append 42 = .ok (.iadd, 1) := by decide +kernel
theorem dPt_append_43 : decode cPt_append 43 = .ok (.putfield 15, 3) := by decide +kernel
theorem dPt_append_46 : decode cPt_append 46 = .ok (.return_, 1) := by decide +kernel
abbrev yPt_holdsWord : MethodName := ⟨"ImageForge$Part", "holdsWord", "(I)Z"⟩
abbrev cPt_holdsWord : ByteArray := prog_7_method_3_code
abbrev wsPt_holdsWord : List Cond := .code yPt_holdsWord cPt_holdsWord 2 (some .boolean) :: bw
theorem gdPt_holdsWord : GoodIn bw wsPt_holdsWord := gd_of tw_366
theorem hdPt_holdsWord : yPt_holdsWord.cls ≠ "java/lang/invoke/MethodHandle" ∧ yPt_holdsWord.cls ≠ "java/lang/invoke/VarHandle" ∧ (parseMethodDescriptor yPt_holdsWord.desc).map (fun d => d.parameters.length) = some 1 := by decide +kernel
theorem dPt_holdsWord_0 : decode cPt_holdsWord 0 = .ok (.iload_n 1, 1) := by decide +kernel
theorem dPt_holdsWord_1 : decode cPt_holdsWord 1 = .ok (.ifCond .lt 17, 3) := by decide +kernel
theorem dPt_holdsWord_4 : decode cPt_holdsWord 4 = .ok (.iload_n 1, 1) := by decide +kernel
theorem dPt_holdsWord_5 : decode cPt_holdsWord 5 = .ok (.aload_n 0, 1) := by decide +kernel
theorem dPt_holdsWord_6 : decode cPt_holdsWord 6 = .ok (.getfield 15, 3) := by decide +kernel
theorem dPt_holdsWord_9 : decode cPt_holdsWord 9 = .ok (.iconst 4, 1) := by decide +kernel
theorem dPt_holdsWord_10 : decode cPt_holdsWord 10 = .ok (.isub, 1) := by decide +kernel
theorem dPt_holdsWord_11 : decode cPt_holdsWord 11 = .ok (.if_icmp .gt 7, 3) := by decide +kernel
theorem dPt_holdsWord_14 : decode cPt_holdsWord 14 = .ok (.iconst 1, 1) := by decide +kernel
theorem dPt_holdsWord_15 : decode cPt_holdsWord 15 = .ok (.goto 4, 3) := by decide +kernel
theorem dPt_holdsWord_18 : decode cPt_holdsWord 18 = .ok (.iconst 0, 1) := by decide +kernel
theorem dPt_holdsWord_19 : decode cPt_holdsWord 19 = .ok (.ireturn, 1) := by decide +kernel
abbrev yRf_part : MethodName := ⟨"ImageForge$Reference", "part", "()I"⟩
abbrev cRf_part : ByteArray := prog_8_method_5_code
abbrev wsRf_part : List Cond := .code yRf_part cRf_part 1 (some .int) :: bw
theorem gdRf_part : GoodIn bw wsRf_part := gd_of tw_393
theorem hdRf_part : yRf_part.cls ≠ "java/lang/invoke/MethodHandle" ∧ yRf_part.cls ≠ "java/lang/invoke/VarHandle" ∧ (parseMethodDescriptor yRf_part.desc).map (fun d => d.parameters.length) = some 0 := by decide +kernel
theorem dRf_part_0 : decode cRf_part 0 = .ok (.aload_n 0, 1) := by decide +kernel
theorem dRf_part_1 : decode cRf_part 1 = .ok (.getfield 7, 3) := by decide +kernel
theorem dRf_part_4 : decode cRf_part 4 = .ok (.ireturn, 1) := by decide +kernel
abbrev yRf_place : MethodName := ⟨"ImageForge$Reference", "place", "()I"⟩
abbrev cRf_place : ByteArray := prog_8_method_6_code
abbrev wsRf_place : List Cond := .code yRf_place cRf_place 1 (some .int) :: bw
theorem gdRf_place : GoodIn bw wsRf_place := gd_of tw_397
theorem hdRf_place : yRf_place.cls ≠ "java/lang/invoke/MethodHandle" ∧ yRf_place.cls ≠ "java/lang/invoke/VarHandle" ∧ (parseMethodDescriptor yRf_place.desc).map (fun d => d.parameters.length) = some 0 := by decide +kernel
theorem dRf_place_0 : decode cRf_place 0 = .ok (.aload_n 0, 1) := by decide +kernel
theorem dRf_place_1 : decode cRf_place 1 = .ok (.getfield 13, 3) := by decide +kernel
theorem dRf_place_4 : decode cRf_place 4 = .ok (.ireturn, 1) := by decide +kernel
abbrev yRf_kind : MethodName := ⟨"ImageForge$Reference", "kind", "()I"⟩
abbrev cRf_kind : ByteArray := prog_8_method_7_code
abbrev wsRf_kind : List Cond := .code yRf_kind cRf_kind 1 (some .int) :: bw
theorem gdRf_kind : GoodIn bw wsRf_kind := gd_of tw_632
theorem hdRf_kind : yRf_kind.cls ≠ "java/lang/invoke/MethodHandle" ∧ yRf_kind.cls ≠ "java/lang/invoke/VarHandle" ∧ (parseMethodDescriptor yRf_kind.desc).map (fun d => d.parameters.length) = some 0 := by decide +kernel
theorem dRf_kind_0 : decode cRf_kind 0 = .ok (.aload_n 0, 1) := by decide +kernel
theorem dRf_kind_1 : decode cRf_kind 1 = .ok (.getfield 16, 3) := by decide +kernel
theorem dRf_kind_4 : decode cRf_kind 4 = .ok (.ireturn, 1) := by decide +kernel
abbrev yRf_name : MethodName := ⟨"ImageForge$Reference", "name", "()I"⟩
abbrev cRf_name : ByteArray := prog_8_method_8_code
abbrev wsRf_name : List Cond := .code yRf_name cRf_name 1 (some .int) :: bw
theorem gdRf_name : GoodIn bw wsRf_name := gd_of tw_538
theorem hdRf_name : yRf_name.cls ≠ "java/lang/invoke/MethodHandle" ∧ yRf_name.cls ≠ "java/lang/invoke/VarHandle" ∧ (parseMethodDescriptor yRf_name.desc).map (fun d => d.parameters.length) = some 0 := by decide +kernel
theorem dRf_name_0 : decode cRf_name 0 = .ok (.aload_n 0, 1) := by decide +kernel
theorem dRf_name_1 : decode cRf_name 1 = .ok (.getfield 19, 3) := by decide +kernel
theorem dRf_name_4 : decode cRf_name 4 = .ok (.ireturn, 1) := by decide +kernel
abbrev yPc_checkIndex : MethodName := ⟨"jdk/internal/util/Preconditions", "checkIndex", "(IILjava/util/function/BiFunction;)I"⟩
abbrev cPc_checkIndex : ByteArray := prog_35_method_11_code
abbrev wsPc_checkIndex : List Cond := .code yPc_checkIndex cPc_checkIndex 3 (some .int) :: bw
theorem gdPc_checkIndex : GoodIn bw wsPc_checkIndex := gd_of tw_384
theorem hdPc_checkIndex : yPc_checkIndex.cls ≠ "java/lang/invoke/MethodHandle" ∧ yPc_checkIndex.cls ≠ "java/lang/invoke/VarHandle" ∧ (parseMethodDescriptor yPc_checkIndex.desc).map (fun d => d.parameters.length) = some 3 := by decide +kernel
theorem dPc_checkIndex_0 : decode cPc_checkIndex 0 = .ok (.iload_n 0, 1) := by decide +kernel
theorem dPc_checkIndex_1 : decode cPc_checkIndex 1 = .ok (.ifCond .lt 8, 3) := by decide +kernel
theorem dPc_checkIndex_4 : decode cPc_checkIndex 4 = .ok (.iload_n 0, 1) := by decide +kernel
theorem dPc_checkIndex_5 : decode cPc_checkIndex 5 = .ok (.iload_n 1, 1) := by decide +kernel
theorem dPc_checkIndex_6 : decode cPc_checkIndex 6 = .ok (.if_icmp .lt 10, 3) := by decide +kernel
theorem dPc_checkIndex_9 : decode cPc_checkIndex 9 = .ok (.aload_n 2, 1) := by decide +kernel
theorem dPc_checkIndex_10 : decode cPc_checkIndex 10 = .ok (.iload_n 0, 1) := by decide +kernel
theorem dPc_checkIndex_11 : decode cPc_checkIndex 11 = .ok (.iload_n 1, 1) := by decide +kernel
theorem dPc_checkIndex_12 : decode cPc_checkIndex 12 = .ok (.invokestatic 95, 3) := by decide +kernel
theorem dPc_checkIndex_15 : decode cPc_checkIndex 15 = .ok (.athrow, 1) := by decide +kernel
theorem dPc_checkIndex_16 : decode cPc_checkIndex 16 = .ok (.iload_n 0, 1) := by decide +kernel
theorem dPc_checkIndex_17 : decode cPc_checkIndex 17 = .ok (.ireturn, 1) := by decide +kernel
abbrev yOs_checkIndex : MethodName := ⟨"java/util/Objects", "checkIndex", "(II)I"⟩
abbrev cOs_checkIndex : ByteArray := prog_31_method_17_code
abbrev wsOs_checkIndex : List Cond := .code yOs_checkIndex cOs_checkIndex 2 (some .int) :: bw
theorem gdOs_checkIndex : GoodIn bw wsOs_checkIndex := gd_of tw_381
theorem hdOs_checkIndex : yOs_checkIndex.cls ≠ "java/lang/invoke/MethodHandle" ∧ yOs_checkIndex.cls ≠ "java/lang/invoke/VarHandle" ∧ (parseMethodDescriptor yOs_checkIndex.desc).map (fun d => d.parameters.length) = some 2 := by decide +kernel
theorem dOs_checkIndex_0 : decode cOs_checkIndex 0 = .ok (.iload_n 0, 1) := by decide +kernel
theorem dOs_checkIndex_1 : decode cOs_checkIndex 1 = .ok (.iload_n 1, 1) := by decide +kernel
theorem dOs_checkIndex_2 : decode cOs_checkIndex 2 = .ok (.aconst_null, 1) := by decide +kernel
theorem dOs_checkIndex_3 : decode cOs_checkIndex 3 = .ok (.invokestatic 105, 3) := by decide +kernel
theorem dOs_checkIndex_6 : decode cOs_checkIndex 6 = .ok (.ireturn, 1) := by decide +kernel
abbrev yAl_size : MethodName := ⟨"java/util/ArrayList", "size", "()I"⟩
abbrev cAl_size : ByteArray := prog_26_method_8_code
abbrev wsAl_size : List Cond := .code yAl_size cAl_size 1 (some .int) :: bw
theorem gdAl_size : GoodIn bw wsAl_size := gd_of tw_374
theorem hdAl_size : yAl_size.cls ≠ "java/lang/invoke/MethodHandle" ∧ yAl_size.cls ≠ "java/lang/invoke/VarHandle" ∧ (parseMethodDescriptor yAl_size.desc).map (fun d => d.parameters.length) = some 0 := by decide +kernel
theorem dAl_size_0 : decode cAl_size 0 = .ok (.aload_n 0, 1) := by decide +kernel
theorem dAl_size_1 : decode cAl_size 1 = .ok (.getfield 48, 3) := by decide +kernel
theorem dAl_size_4 : decode cAl_size 4 = .ok (.ireturn, 1) := by decide +kernel
abbrev yAl_elementData : MethodName := ⟨"java/util/ArrayList", "elementData", "(I)Ljava/lang/Object;"⟩
abbrev cAl_elementData : ByteArray := prog_26_method_18_code
abbrev wsAl_elementData : List Cond := .code yAl_elementData cAl_elementData 2 (some (.object "java/lang/Object")) :: bw
theorem gdAl_elementData : GoodIn bw wsAl_elementData := gd_of tw_388
theorem hdAl_elementData : yAl_elementData.cls ≠ "java/lang/invoke/MethodHandle" ∧ yAl_elementData.cls ≠ "java/lang/invoke/VarHandle" ∧ (parseMethodDescriptor yAl_elementData.desc).map (fun d => d.parameters.length) = some 1 := by decide +kernel
theorem dAl_elementData_0 : decode cAl_elementData 0 = .ok (.aload_n 0, 1) := by decide +kernel
theorem dAl_elementData_1 : decode cAl_elementData 1 = .ok (.getfield 9, 3) := by decide +kernel
theorem dAl_elementData_4 : decode cAl_elementData 4 = .ok (.iload_n 1, 1) := by decide +kernel
theorem dAl_elementData_5 : decode cAl_elementData 5 = .ok (.aaload, 1) := by decide +kernel
theorem dAl_elementData_6 : decode cAl_elementData 6 = .ok (.areturn, 1) := by decide +kernel
abbrev yAl_get : MethodName := ⟨"java/util/ArrayList", "get", "(I)Ljava/lang/Object;"⟩
abbrev cAl_get : ByteArray := prog_26_method_20_code
abbrev wsAl_get : List Cond := .code yAl_get cAl_get 2 (some (.object "java/lang/Object")) :: bw
theorem gdAl_get : GoodIn bw wsAl_get := gd_of tw_378
theorem hdAl_get : yAl_get.cls ≠ "java/lang/invoke/MethodHandle" ∧ yAl_get.cls ≠ "java/lang/invoke/VarHandle" ∧ (parseMethodDescriptor yAl_get.desc).map (fun d => d.parameters.length) = some 1 := by decide +kernel
theorem dAl_get_0 : decode cAl_get 0 = .ok (.iload_n 1, 1) := by decide +kernel
theorem dAl_get_1 : decode cAl_get 1 = .ok (.aload_n 0, 1) := by decide +kernel
theorem dAl_get_2 : decode cAl_get 2 = .ok (.getfield 48, 3) := by decide +kernel
theorem dAl_get_5 : decode cAl_get 5 = .ok (.invokestatic 118, 3) := by decide +kernel
theorem dAl_get_8 : decode cAl_get 8 = .ok (.pop, 1) := by decide +kernel
theorem dAl_get_9 : decode cAl_get 9 = .ok (.aload_n 0, 1) := by decide +kernel
theorem dAl_get_10 : decode cAl_get 10 = .ok (.iload_n 1, 1) := by decide +kernel
theorem dAl_get_11 : decode cAl_get 11 = .ok (.invokevirtual 123, 3) := by decide +kernel
theorem dAl_get_14 : decode cAl_get 14 = .ok (.areturn, 1) := by decide +kernel
abbrev yIn_bitCount : MethodName := ⟨"java/lang/Integer", "bitCount", "(I)I"⟩
abbrev cIn_bitCount : ByteArray := prog_16_method_49_code
abbrev wsIn_bitCount : List Cond := .code yIn_bitCount cIn_bitCount 1 (some .int) :: bw
theorem gdIn_bitCount : GoodIn bw wsIn_bitCount := gd_of tw_601
theorem hdIn_bitCount : yIn_bitCount.cls ≠ "java/lang/invoke/MethodHandle" ∧ yIn_bitCount.cls ≠ "java/lang/invoke/VarHandle" ∧ (parseMethodDescriptor yIn_bitCount.desc).map (fun d => d.parameters.length) = some 1 := by decide +kernel
theorem dIn_bitCount_0 : decode cIn_bitCount 0 = .ok (.iload_n 0, 1) := by decide +kernel
theorem dIn_bitCount_1 : decode cIn_bitCount 1 = .ok (.iload_n 0, 1) := by decide +kernel
theorem dIn_bitCount_2 : decode cIn_bitCount 2 = .ok (.iconst 1, 1) := by decide +kernel
theorem dIn_bitCount_3 : decode cIn_bitCount 3 = .ok (.iushr, 1) := by decide +kernel
theorem dIn_bitCount_4 : decode cIn_bitCount 4 = .ok (.ldc_w 265, 3) := by decide +kernel
theorem dIn_bitCount_7 : decode cIn_bitCount 7 = .ok (.iand, 1) := by decide +kernel
theorem dIn_bitCount_8 : decode cIn_bitCount 8 = .ok (.isub, 1) := by decide +kernel
theorem dIn_bitCount_9 : decode cIn_bitCount 9 = .ok (.istore_n 0, 1) := by decide +kernel
theorem dIn_bitCount_10 : decode cIn_bitCount 10 = .ok (.iload_n 0, 1) := by decide +kernel
theorem dIn_bitCount_11 : decode cIn_bitCount 11 = .ok (.ldc_w 266, 3) := by decide +kernel
theorem dIn_bitCount_14 : decode cIn_bitCount 14 = .ok (.iand, 1) := by decide +kernel
theorem dIn_bitCount_15 : decode cIn_bitCount 15 = .ok (.iload_n 0, 1) := by decide +kernel
theorem dIn_bitCount_16 : decode cIn_bitCount 16 = .ok (.iconst 2, 1) := by decide +kernel
theorem dIn_bitCount_17 : decode cIn_bitCount 17 = .ok (.iushr, 1) := by decide +kernel
theorem dIn_bitCount_18 : decode cIn_bitCount 18 = .ok (.ldc_w 266, 3) := by decide +kernel
theorem dIn_bitCount_21 : decode cIn_bitCount 21 = .ok (.iand, 1) := by decide +kernel
theorem dIn_bitCount_22 : decode cIn_bitCount 22 = .ok (.iadd, 1) := by decide +kernel
theorem dIn_bitCount_23 : decode cIn_bitCount 23 = .ok (.istore_n 0, 1) := by decide +kernel
theorem dIn_bitCount_24 : decode cIn_bitCount 24 = .ok (.iload_n 0, 1) := by decide +kernel
theorem dIn_bitCount_25 : decode cIn_bitCount 25 = .ok (.iload_n 0, 1) := by decide +kernel
theorem dIn_bitCount_26 : decode cIn_bitCount 26 = .ok (.iconst 4, 1) := by decide +kernel
theorem dIn_bitCount_27 : decode cIn_bitCount 27 = .ok (.iushr, 1) := by decide +kernel
theorem dIn_bitCount_28 : decode cIn_bitCount 28 = .ok (.iadd, 1) := by decide +kernel
theorem dIn_bitCount_29 : decode cIn_bitCount 29 = .ok (.ldc_w 267, 3) := by decide +kernel
theorem dIn_bitCount_32 : decode cIn_bitCount 32 = .ok (.iand, 1) := by decide +kernel
theorem dIn_bitCount_33 : decode cIn_bitCount 33 = .ok (.istore_n 0, 1) := by decide +kernel
theorem dIn_bitCount_34 : decode cIn_bitCount 34 = .ok (.iload_n 0, 1) := by decide +kernel
theorem dIn_bitCount_35 : decode cIn_bitCount 35 = .ok (.iload_n 0, 1) := by decide +kernel
theorem dIn_bitCount_36 : decode cIn_bitCount 36 = .ok (.bipush 8, 2) := by decide +kernel
theorem dIn_bitCount_38 : decode cIn_bitCount 38 = .ok (.iushr, 1) := by decide +kernel
theorem dIn_bitCount_39 : decode cIn_bitCount 39 = .ok (.iadd, 1) := by decide +kernel
theorem dIn_bitCount_40 : decode cIn_bitCount 40 = .ok (.istore_n 0, 1) := by decide +kernel
theorem dIn_bitCount_41 : decode cIn_bitCount 41 = .ok (.iload_n 0, 1) := by decide +kernel
theorem dIn_bitCount_42 : decode cIn_bitCount 42 = .ok (.iload_n 0, 1) := by decide +kernel
theorem dIn_bitCount_43 : decode cIn_bitCount 43 = .ok (.bipush 16, 2) := by decide +kernel
theorem dIn_bitCount_45 : decode cIn_bitCount 45 = .ok (.iushr, 1) := by decide +kernel
theorem dIn_bitCount_46 : decode cIn_bitCount 46 = .ok (.iadd, 1) := by decide +kernel
theorem dIn_bitCount_47 : decode cIn_bitCount 47 = .ok (.istore_n 0, 1) := by decide +kernel
theorem dIn_bitCount_48 : decode cIn_bitCount 48 = .ok (.iload_n 0, 1) := by decide +kernel
theorem dIn_bitCount_49 : decode cIn_bitCount 49 = .ok (.bipush 63, 2) := by decide +kernel
theorem dIn_bitCount_51 : decode cIn_bitCount 51 = .ok (.iand, 1) := by decide +kernel
theorem dIn_bitCount_52 : decode cIn_bitCount 52 = .ok (.ireturn, 1) := by decide +kernel
abbrev yOb_overlaps : MethodName := ⟨"ImageForge$ObjectFile", "overlaps", "(II)Z"⟩
abbrev cOb_overlaps : ByteArray := prog_6_method_2_code
abbrev wsOb_overlaps : List Cond := .code yOb_overlaps cOb_overlaps 5 (some .boolean) :: bw
theorem gdOb_overlaps : GoodIn bw wsOb_overlaps := gd_of tw_370
theorem hdOb_overlaps : yOb_overlaps.cls ≠ "java/lang/invoke/MethodHandle" ∧ yOb_overlaps.cls ≠ "java/lang/invoke/VarHandle" ∧ (parseMethodDescriptor yOb_overlaps.desc).map (fun d => d.parameters.length) = some 2 := by decide +kernel
theorem dOb_overlaps_0 : decode cOb_overlaps 0 = .ok (.iconst 0, 1) := by decide +kernel
theorem dOb_overlaps_1 : decode cOb_overlaps 1 = .ok (.istore_n 3, 1) := by decide +kernel
theorem dOb_overlaps_2 : decode cOb_overlaps 2 = .ok (.iload_n 3, 1) := by decide +kernel
theorem dOb_overlaps_3 : decode cOb_overlaps 3 = .ok (.aload_n 0, 1) := by decide +kernel
theorem dOb_overlaps_4 : decode cOb_overlaps 4 = .ok (.getfield 21, 3) := by decide +kernel
theorem dOb_overlaps_7 : decode cOb_overlaps 7 = .ok (.invokevirtual 25, 3) := by decide +kernel
theorem dOb_overlaps_10 : decode cOb_overlaps 10 = .ok (.if_icmp .ge 47, 3) := by decide +kernel
theorem dOb_overlaps_13 : decode cOb_overlaps 13 = .ok (.aload_n 0, 1) := by decide +kernel
theorem dOb_overlaps_14 : decode cOb_overlaps 14 = .ok (.getfield 21, 3) := by decide +kernel
theorem dOb_overlaps_17 : decode cOb_overlaps 17 = .ok (.iload_n 3, 1) := by decide +kernel
theorem dOb_overlaps_18 : decode cOb_overlaps 18 = .ok (.invokevirtual 29, 3) := by decide +kernel
theorem dOb_overlaps_21 : decode cOb_overlaps 21 = .ok (.checkcast 33, 3) := by decide +kernel
theorem dOb_overlaps_24 : decode cOb_overlaps 24 = .ok (.astore 4, 2) := by decide +kernel
theorem dOb_overlaps_26 : decode cOb_overlaps 26 = .ok (.aload 4, 2) := by decide +kernel
theorem dOb_overlaps_28 : decode cOb_overlaps 28 = .ok (.invokevirtual 35, 3) := by decide +kernel
theorem dOb_overlaps_31 : decode cOb_overlaps 31 = .ok (.iload_n 1, 1) := by decide +kernel
theorem dOb_overlaps_32 : decode cOb_overlaps 32 = .ok (.if_icmp .ne 19, 3) := by decide +kernel
theorem dOb_overlaps_35 : decode cOb_overlaps 35 = .ok (.aload 4, 2) := by decide +kernel
theorem dOb_overlaps_37 : decode cOb_overlaps 37 = .ok (.invokevirtual 38, 3) := by decide +kernel
theorem dOb_overlaps_40 : decode cOb_overlaps 40 = .ok (.iload_n 2, 1) := by decide +kernel
theorem dOb_overlaps_41 : decode cOb_overlaps 41 = .ok (.isub, 1) := by decide +kernel
theorem dOb_overlaps_42 : decode cOb_overlaps 42 = .ok (.invokestatic 41, 3) := by decide +kernel
theorem dOb_overlaps_45 : decode cOb_overlaps 45 = .ok (.iconst 4, 1) := by decide +kernel
theorem dOb_overlaps_46 : decode cOb_overlaps 46 = .ok (.if_icmp .ge 5, 3) := by decide +kernel
theorem dOb_overlaps_49 : decode cOb_overlaps 49 = .ok (.iconst 1, 1) := by decide +kernel
theorem dOb_overlaps_50 : decode cOb_overlaps 50 = .ok (.ireturn, 1) := by decide +kernel
theorem dOb_overlaps_51 : decode cOb_overlaps 51 = .ok (.iinc 3 1, 3) := by decide +kernel
theorem dOb_overlaps_54 : decode cOb_overlaps 54 = .ok (.goto (-52), 3) := by decide +kernel
theorem dOb_overlaps_57 : decode cOb_overlaps 57 = .ok (.iconst 0, 1) := by decide +kernel
theorem dOb_overlaps_58 : decode cOb_overlaps 58 = .ok (.ireturn, 1) := by decide +kernel
section
variable {p : Program} {l : Launch} {e : Env} {s : State} {m : MethodId} {args : Array Value} {below : List Frame} {meth : Method} {c : Code} {D : va_G} {cA : Nat → ClassId} {ad : Nat → Nat} {L : List Nat} {rs : va_W} {al : Nat → Bool} {A : Nat → Prop}
abbrev rm_Fg_isBelow : Room := { frames := 0, cells := 0, slots := 0, locals := 0 }
def bk_Fg_isBelow_0 (F : Nat) (al : Nat → Bool) (u : Mr) (x0 : Int32) (x1 : Int32) : Option (Mr × Int32) := if x0 < 0 then (some (u, (0 : Int32))) else (if x1 ≤ x0 then (some (u, (0 : Int32))) else (some (u, (1 : Int32))))
set_option maxHeartbeats 4000000 in
set_option maxRecDepth 100000 in
theorem wk_Fg_isBelow_0 (cx : Cx p l e s m args below meth c cFg_isBelow 2 bw "ImageForge" (some .boolean) D cA ad L rs al A) (F : Nat) (out : Mr × Int32) : ∀ (u : Mr) (x0 : Int32) (x1 : Int32), bk_Fg_isBelow_0 F al u x0 x1 = some out → Wb p l e rm_Fg_isBelow s m args below meth c D cA ad L rs A (QI below args s D cA ad L rs A out) 2 0 [(0, .int x0), (1, .int x1)] [] u := by
  obtain ⟨hx, hb, hml, hown, hts, hr, hlocks, hK, hA, hD, hN, hal, hNx⟩ := cx
  intro u x0 x1 h H locs ls hl hP hS
  unfold bk_Fg_isBelow_0 at h
  refine lv_iload_n hx hb dFg_isBelow_0 rfl (lv_at hl 0 rfl) ?_
  refine lv_if_lt (tgt := 13) hx hb dFg_isBelow_1 rfl (fun hc => ?_) (fun hc => ?_)
  · replace h := it_t h hc
    refine lv_iconst (v := 0) hx hb dFg_isBelow_13 (by decide) ?_
    exact x_zret hx hb hr hlocks rfl h hP hS dFg_isBelow_14
  · replace h := it_f h hc
    refine lv_iload_n hx hb dFg_isBelow_4 rfl (lv_at hl 0 rfl) ?_
    refine lv_iload_n hx hb dFg_isBelow_5 rfl (lv_at hl 1 rfl) ?_
    refine lv_icmp_ge (tgt := 13) hx hb dFg_isBelow_6 rfl (fun hc => ?_) (fun hc => ?_)
    · replace h := it_t h hc
      refine lv_iconst (v := 0) hx hb dFg_isBelow_13 (by decide) ?_
      exact x_zret hx hb hr hlocks rfl h hP hS dFg_isBelow_14
    · replace h := it_f h hc
      refine lv_iconst (v := 1) hx hb dFg_isBelow_9 (by decide) ?_
      refine lv_goto (tgt := 14) hx hb dFg_isBelow_10 rfl ?_
      exact x_zret hx hb hr hlocks rfl h hP hS dFg_isBelow_14
def fn_Fg_isBelow (F : Nat) (al : Nat → Bool) (u : Mr) (x0 : Int32) (x1 : Int32) : Option (Mr × Int32) := bk_Fg_isBelow_0 F al u x0 x1
set_option maxHeartbeats 4000000 in
set_option maxRecDepth 100000 in
theorem ct_Fg_isBelow {l : Launch} {D : va_G} {cA : Nat → ClassId} {ad : Nat → Nat} {L : List Nat} {rs : va_W} {al : Nat → Bool} (hal : ∀ k, al k = true → k ∈ L) (hN : L.Nodup) (F : Nat) (u : Mr) (x0 : Int32) (x1 : Int32) (out : Mr × Int32) (h : fn_Fg_isBelow F al u x0 x1 = some out)  : CtI l yFg_isBelow wsFg_isBelow rm_Fg_isBelow [.int x0, .int x1] D cA ad L rs u out := by
  intro sz
  refine Met.ofW (cc := cFg_isBelow) (maxL := 2) (ret := (some .boolean)) (by decide) rfl ?_
  intro p e s m args below meth c s₁ B hml hv
  obtain ⟨rfl, hsz, hP, hK, hD0, hNx⟩ := hv
  subst hsz
  have hD := hD0.self (sz := s.heap.size)
  generalize hAe : va_A (ww ad cA L rs u) s.heap.size = A at hD ⊢
  have hA : ∀ q, s.heap.size ≤ q → A q := fun q h => by rw [← hAe]; exact Or.inr h
  have hl := lv_entry ([.int x0, .int x1]) (n := 2) (Nat.le_of_ble_eq_true rfl)
  rw [lg_entry_eq]
  generalize (lg_sl ([.int x0, .int x1]) ++ List.replicate (2 - (lg_sl ([.int x0, .int x1])).length) Slot.unset).toArray = ls at hl ⊢
  exact wk_Fg_isBelow_0 ⟨B.exec, B.bytes, hml, findClass_of_methodNamed B.named, hts_bw (atoms_spec (ws := wsFg_isBelow) B.pre), B.returns, B.notSynchronized, hK, hA, fun v => ww_D hD, hN, hal, hNx⟩ F out u x0 x1 h  _ _ _ (lv_sub hl [0, 1] rfl) hP va_S.rf
abbrev rm_Fg_isSlot : Room := { frames := 1, cells := 0, slots := 0, locals := 21 }
def bk_Fg_isSlot_0 (F : Nat) (al : Nat → Bool) (u : Mr) (x0 : Int32) (x1 : Int32) : Option (Mr × Int32) := bd2 (fn_Fg_isBelow F al u x0 (4 : Int32)) fun u1 v1 => (if v1 = 0 then (some (u1, (0 : Int32))) else (bd2 (fn_Fg_isBelow F al u1 x1 (100 : Int32)) fun u2 v2 => (if v2 = 0 then (some (u2, (0 : Int32))) else (some (u2, (1 : Int32))))))
set_option maxHeartbeats 4000000 in
set_option maxRecDepth 100000 in
theorem wk_Fg_isSlot_0 (cx : Cx p l e s m args below meth c cFg_isSlot 2 bw "ImageForge" (some .boolean) D cA ad L rs al A) (F : Nat) (out : Mr × Int32) : ∀ (u : Mr) (x0 : Int32) (x1 : Int32), bk_Fg_isSlot_0 F al u x0 x1 = some out → Wb p l e rm_Fg_isSlot s m args below meth c D cA ad L rs A (QI below args s D cA ad L rs A out) 2 0 [(0, .int x0), (1, .int x1)] [] u := by
  obtain ⟨hx, hb, hml, hown, hts, hr, hlocks, hK, hA, hD, hN, hal, hNx⟩ := cx
  intro u x0 x1 h H locs ls hl hP hS
  unfold bk_Fg_isSlot_0 at h
  refine lv_iload_n hx hb dFg_isSlot_0 rfl (lv_at hl 0 rfl) ?_
  refine lv_iconst (v := 4) hx hb dFg_isSlot_1 (by decide) ?_
  obtain ⟨u1, v1, hc1, h⟩ := bd2_some h
  refine x_ci (u := u) (out := (u1, v1)) hA hD hS (va_runS (As := [.int x0, .int (4 : Int32)]) (rest := []) ⟨hx, hb, hml, hown, hts⟩ (ct_Fg_isBelow hal hN F u x0 (4 : Int32) (u1, v1) hc1  _) ⟨callB_of 2 hts gdFg_isBelow rfl rfl rfl (hts _ tw_1) (hts _ tw_251) hdFg_isBelow ⟨Nat.le_of_ble_eq_true rfl, Nat.le_of_ble_eq_true rfl⟩, (hts _ tw_252)⟩ (x_preS hK hD hNx hP) rfl rfl hl.1 rfl (lv_room (Nat.le_of_ble_eq_true rfl)) dFg_isSlot_2 ⟨Nat.zero_le _, Nat.zero_le _⟩) (fun H locs hP hS => ?_)
  refine lv_if_eq (tgt := 21) hx hb dFg_isSlot_5 rfl (fun hc => ?_) (fun hc => ?_)
  · replace h := it_t h hc
    refine lv_iconst (v := 0) hx hb dFg_isSlot_21 (by decide) ?_
    exact x_zret hx hb hr hlocks rfl h hP hS dFg_isSlot_22
  · replace h := it_f h hc
    refine lv_iload_n hx hb dFg_isSlot_8 rfl (lv_at hl 1 rfl) ?_
    refine lv_bipush (v := 100) hx hb dFg_isSlot_9 (by decide) ?_
    obtain ⟨u2, v2, hc2, h⟩ := bd2_some h
    refine x_ci (u := u1) (out := (u2, v2)) hA hD hS (va_runS (As := [.int x1, .int (100 : Int32)]) (rest := []) ⟨hx, hb, hml, hown, hts⟩ (ct_Fg_isBelow hal hN F u1 x1 (100 : Int32) (u2, v2) hc2  _) ⟨callB_of 2 hts gdFg_isBelow rfl rfl rfl (hts _ tw_1) (hts _ tw_251) hdFg_isBelow ⟨Nat.le_of_ble_eq_true rfl, Nat.le_of_ble_eq_true rfl⟩, (hts _ tw_252)⟩ (x_preS hK hD hNx hP) rfl rfl hl.1 rfl (lv_room (Nat.le_of_ble_eq_true rfl)) dFg_isSlot_11 ⟨Nat.zero_le _, Nat.zero_le _⟩) (fun H locs hP hS => ?_)
    refine lv_if_eq (tgt := 21) hx hb dFg_isSlot_14 rfl (fun hc => ?_) (fun hc => ?_)
    · replace h := it_t h hc
      refine lv_iconst (v := 0) hx hb dFg_isSlot_21 (by decide) ?_
      exact x_zret hx hb hr hlocks rfl h hP hS dFg_isSlot_22
    · replace h := it_f h hc
      refine lv_iconst (v := 1) hx hb dFg_isSlot_17 (by decide) ?_
      refine lv_goto (tgt := 22) hx hb dFg_isSlot_18 rfl ?_
      exact x_zret hx hb hr hlocks rfl h hP hS dFg_isSlot_22
def fn_Fg_isSlot (F : Nat) (al : Nat → Bool) (u : Mr) (x0 : Int32) (x1 : Int32) : Option (Mr × Int32) := bk_Fg_isSlot_0 F al u x0 x1
set_option maxHeartbeats 4000000 in
set_option maxRecDepth 100000 in
theorem ct_Fg_isSlot {l : Launch} {D : va_G} {cA : Nat → ClassId} {ad : Nat → Nat} {L : List Nat} {rs : va_W} {al : Nat → Bool} (hal : ∀ k, al k = true → k ∈ L) (hN : L.Nodup) (F : Nat) (u : Mr) (x0 : Int32) (x1 : Int32) (out : Mr × Int32) (h : fn_Fg_isSlot F al u x0 x1 = some out)  : CtI l yFg_isSlot wsFg_isSlot rm_Fg_isSlot [.int x0, .int x1] D cA ad L rs u out := by
  intro sz
  refine Met.ofW (cc := cFg_isSlot) (maxL := 2) (ret := (some .boolean)) (by decide) rfl ?_
  intro p e s m args below meth c s₁ B hml hv
  obtain ⟨rfl, hsz, hP, hK, hD0, hNx⟩ := hv
  subst hsz
  have hD := hD0.self (sz := s.heap.size)
  generalize hAe : va_A (ww ad cA L rs u) s.heap.size = A at hD ⊢
  have hA : ∀ q, s.heap.size ≤ q → A q := fun q h => by rw [← hAe]; exact Or.inr h
  have hl := lv_entry ([.int x0, .int x1]) (n := 2) (Nat.le_of_ble_eq_true rfl)
  rw [lg_entry_eq]
  generalize (lg_sl ([.int x0, .int x1]) ++ List.replicate (2 - (lg_sl ([.int x0, .int x1])).length) Slot.unset).toArray = ls at hl ⊢
  exact wk_Fg_isSlot_0 ⟨B.exec, B.bytes, hml, findClass_of_methodNamed B.named, hts_bw (atoms_spec (ws := wsFg_isSlot) B.pre), B.returns, B.notSynchronized, hK, hA, fun v => ww_D hD, hN, hal, hNx⟩ F out u x0 x1 h  _ _ _ (lv_sub hl [0, 1] rfl) hP va_S.rf
abbrev rm_Fg_roundUp : Room := { frames := 0, cells := 0, slots := 0, locals := 0 }
def bk_Fg_roundUp_0 (F : Nat) (al : Nat → Bool) (u : Mr) (x0 : Int32) (x1 : Int32) : Option (Mr × Int32) := ck (decide (¬ x1 = 0)) (some (u, (((x0 + x1) - (1 : Int32)) / x1) * x1))
set_option maxHeartbeats 4000000 in
set_option maxRecDepth 100000 in
theorem wk_Fg_roundUp_0 (cx : Cx p l e s m args below meth c cFg_roundUp 2 bw "ImageForge" (some .int) D cA ad L rs al A) (F : Nat) (out : Mr × Int32) : ∀ (u : Mr) (x0 : Int32) (x1 : Int32), bk_Fg_roundUp_0 F al u x0 x1 = some out → Wb p l e rm_Fg_roundUp s m args below meth c D cA ad L rs A (QI below args s D cA ad L rs A out) 2 0 [(0, .int x0), (1, .int x1)] [] u := by
  obtain ⟨hx, hb, hml, hown, hts, hr, hlocks, hK, hA, hD, hN, hal, hNx⟩ := cx
  intro u x0 x1 h H locs ls hl hP hS
  unfold bk_Fg_roundUp_0 at h
  refine lv_iload_n hx hb dFg_roundUp_0 rfl (lv_at hl 0 rfl) ?_
  refine lv_iload_n hx hb dFg_roundUp_1 rfl (lv_at hl 1 rfl) ?_
  refine lv_iadd hx hb dFg_roundUp_2 ?_
  refine lv_iconst (v := 1) hx hb dFg_roundUp_3 (by decide) ?_
  refine lv_isub hx hb dFg_roundUp_4 ?_
  refine lv_iload_n hx hb dFg_roundUp_5 rfl (lv_at hl 1 rfl) ?_
  obtain ⟨hz1, h⟩ := ck_some h
  refine lv_idiv hx hb dFg_roundUp_6 (of_decide_eq_true hz1) ?_
  refine lv_iload_n hx hb dFg_roundUp_7 rfl (lv_at hl 1 rfl) ?_
  refine lv_imul hx hb dFg_roundUp_8 ?_
  exact x_iret hx hb hr hlocks h hP hS dFg_roundUp_9
def fn_Fg_roundUp (F : Nat) (al : Nat → Bool) (u : Mr) (x0 : Int32) (x1 : Int32) : Option (Mr × Int32) := bk_Fg_roundUp_0 F al u x0 x1
set_option maxHeartbeats 4000000 in
set_option maxRecDepth 100000 in
theorem ct_Fg_roundUp {l : Launch} {D : va_G} {cA : Nat → ClassId} {ad : Nat → Nat} {L : List Nat} {rs : va_W} {al : Nat → Bool} (hal : ∀ k, al k = true → k ∈ L) (hN : L.Nodup) (F : Nat) (u : Mr) (x0 : Int32) (x1 : Int32) (out : Mr × Int32) (h : fn_Fg_roundUp F al u x0 x1 = some out)  : CtI l yFg_roundUp wsFg_roundUp rm_Fg_roundUp [.int x0, .int x1] D cA ad L rs u out := by
  intro sz
  refine Met.ofW (cc := cFg_roundUp) (maxL := 2) (ret := (some .int)) (by decide) rfl ?_
  intro p e s m args below meth c s₁ B hml hv
  obtain ⟨rfl, hsz, hP, hK, hD0, hNx⟩ := hv
  subst hsz
  have hD := hD0.self (sz := s.heap.size)
  generalize hAe : va_A (ww ad cA L rs u) s.heap.size = A at hD ⊢
  have hA : ∀ q, s.heap.size ≤ q → A q := fun q h => by rw [← hAe]; exact Or.inr h
  have hl := lv_entry ([.int x0, .int x1]) (n := 2) (Nat.le_of_ble_eq_true rfl)
  rw [lg_entry_eq]
  generalize (lg_sl ([.int x0, .int x1]) ++ List.replicate (2 - (lg_sl ([.int x0, .int x1])).length) Slot.unset).toArray = ls at hl ⊢
  exact wk_Fg_roundUp_0 ⟨B.exec, B.bytes, hml, findClass_of_methodNamed B.named, hts_bw (atoms_spec (ws := wsFg_roundUp) B.pre), B.returns, B.notSynchronized, hK, hA, fun v => ww_D hD, hN, hal, hNx⟩ F out u x0 x1 h  _ _ _ (lv_sub hl [0, 1] rfl) hP va_S.rf
abbrev rm_Nm_defineAt : Room := { frames := 0, cells := 0, slots := 0, locals := 0 }
def bk_Nm_defineAt_0 (F : Nat) (al : Nat → Bool) (u : Mr) (x0 : Nat) (x1 : Int32) (x2 : Int32) (x3 : Int32) : Option (Mr × Int32) := some (stI (stI (stI (stI u x0 0 ((u.1 x0 0) + (1 : Int32))) x0 1 x1) x0 2 x2) x0 3 x3, 0)
set_option maxHeartbeats 4000000 in
set_option maxRecDepth 100000 in
theorem wk_Nm_defineAt_0 (cx : Cx p l e s m args below meth c cNm_defineAt 4 bw "ImageForge$Name" none D cA ad L rs al A) (F : Nat) (out : Mr × Int32) : ∀ (u : Mr) (x0 : Nat) (x1 : Int32) (x2 : Int32) (x3 : Int32), bk_Nm_defineAt_0 F al u x0 x1 x2 x3 = some out → okk al 20 x0 = true → Wb p l e rm_Nm_defineAt s m args below meth c D cA ad L rs A (QV below args s D cA ad L rs A out) 4 0 [(0, .ref (ad x0)), (1, .int x1), (2, .int x2), (3, .int x3)] [] u := by
  obtain ⟨hx, hb, hml, hown, hts, hr, hlocks, hK, hA, hD, hN, hal, hNx⟩ := cx
  intro u x0 x1 x2 x3 h q0 H locs ls hl hP hS
  unfold bk_Nm_defineAt_0 at h
  refine lv_aload_n hx hb dNm_defineAt_0 rfl (lv_at hl 0 rfl) ?_
  refine lv_dup hx hb dNm_defineAt_1 rfl ?_
  refine x_get hx hb hts in_Nm hown hK hP (hal _ (okk_al q0)) (okk_t q0) rfl rfl 0 (by decide) (hts _ tw_169) (fun _ h9 => h9) rfl dNm_defineAt_2 ?_
  refine lv_iconst (v := 1) hx hb dNm_defineAt_5 (by decide) ?_
  refine lv_iadd hx hb dNm_defineAt_6 ?_
  refine x_put hx hb hts in_Nm t_Nm t_Nm_ok nm_Nm hown hK hD hN hP hS (hal _ (okk_al q0)) (okk_t q0) rfl rfl 0 (by decide) (hts _ tw_169) (fun _ h9 => h9) rfl (ty := .int) (by decide +kernel) rfl rfl (Nat.le_of_ble_eq_true rfl) (stI u x0 0 ((u.1 x0 0) + (1 : Int32))) stI_o (by rw [stI_up]; exact eg_20_0) dNm_defineAt_7 (fun H locs hP hS => ?_)
  refine lv_aload_n hx hb dNm_defineAt_10 rfl (lv_at hl 0 rfl) ?_
  refine lv_iload_n hx hb dNm_defineAt_11 rfl (lv_at hl 1 rfl) ?_
  refine x_put hx hb hts in_Nm t_Nm t_Nm_ok nm_Nm hown hK hD hN hP hS (hal _ (okk_al q0)) (okk_t q0) rfl rfl 1 (by decide) (hts _ tw_171) (fun _ h9 => h9) rfl (ty := .int) (by decide +kernel) rfl rfl (Nat.le_of_ble_eq_true rfl) (stI (stI u x0 0 ((u.1 x0 0) + (1 : Int32))) x0 1 x1) stI_o (by rw [stI_up]; exact eg_20_1) dNm_defineAt_12 (fun H locs hP hS => ?_)
  refine lv_aload_n hx hb dNm_defineAt_15 rfl (lv_at hl 0 rfl) ?_
  refine lv_iload_n hx hb dNm_defineAt_16 rfl (lv_at hl 2 rfl) ?_
  refine x_put hx hb hts in_Nm t_Nm t_Nm_ok nm_Nm hown hK hD hN hP hS (hal _ (okk_al q0)) (okk_t q0) rfl rfl 2 (by decide) (hts _ tw_173) (fun _ h9 => h9) rfl (ty := .int) (by decide +kernel) rfl rfl (Nat.le_of_ble_eq_true rfl) (stI (stI (stI u x0 0 ((u.1 x0 0) + (1 : Int32))) x0 1 x1) x0 2 x2) stI_o (by rw [stI_up]; exact eg_20_2) dNm_defineAt_17 (fun H locs hP hS => ?_)
  refine lv_aload_n hx hb dNm_defineAt_20 rfl (lv_at hl 0 rfl) ?_
  refine lv_iload_n hx hb dNm_defineAt_21 rfl (lv_at hl 3 rfl) ?_
  refine x_put hx hb hts in_Nm t_Nm t_Nm_ok nm_Nm hown hK hD hN hP hS (hal _ (okk_al q0)) (okk_t q0) rfl rfl 3 (by decide) (hts _ tw_175) (fun _ h9 => h9) rfl (ty := .int) (by decide +kernel) rfl rfl (Nat.le_of_ble_eq_true rfl) (stI (stI (stI (stI u x0 0 ((u.1 x0 0) + (1 : Int32))) x0 1 x1) x0 2 x2) x0 3 x3) stI_o (by rw [stI_up]; exact eg_20_3) dNm_defineAt_22 (fun H locs hP hS => ?_)
  exact x_vret hx hb hr hlocks h hP hS dNm_defineAt_25
def fn_Nm_defineAt (F : Nat) (al : Nat → Bool) (u : Mr) (x0 : Nat) (x1 : Int32) (x2 : Int32) (x3 : Int32) : Option (Mr × Int32) := bk_Nm_defineAt_0 F al u x0 x1 x2 x3
set_option maxHeartbeats 4000000 in
set_option maxRecDepth 100000 in
theorem ct_Nm_defineAt {l : Launch} {D : va_G} {cA : Nat → ClassId} {ad : Nat → Nat} {L : List Nat} {rs : va_W} {al : Nat → Bool} (hal : ∀ k, al k = true → k ∈ L) (hN : L.Nodup) (F : Nat) (u : Mr) (x0 : Nat) (x1 : Int32) (x2 : Int32) (x3 : Int32) (out : Mr × Int32) (h : fn_Nm_defineAt F al u x0 x1 x2 x3 = some out) (q0 : okk al 20 x0 = true) : CtV l yNm_defineAt wsNm_defineAt rm_Nm_defineAt [.ref (ad x0), .int x1, .int x2, .int x3] D cA ad L rs u out := by
  intro sz
  refine Met.ofW (cc := cNm_defineAt) (maxL := 4) (ret := none) (by decide) rfl ?_
  intro p e s m args below meth c s₁ B hml hv
  obtain ⟨rfl, hsz, hP, hK, hD0, hNx⟩ := hv
  subst hsz
  have hD := hD0.self (sz := s.heap.size)
  generalize hAe : va_A (ww ad cA L rs u) s.heap.size = A at hD ⊢
  have hA : ∀ q, s.heap.size ≤ q → A q := fun q h => by rw [← hAe]; exact Or.inr h
  have hl := lv_entry ([.ref (ad x0), .int x1, .int x2, .int x3]) (n := 4) (Nat.le_of_ble_eq_true rfl)
  rw [lg_entry_eq]
  generalize (lg_sl ([.ref (ad x0), .int x1, .int x2, .int x3]) ++ List.replicate (4 - (lg_sl ([.ref (ad x0), .int x1, .int x2, .int x3])).length) Slot.unset).toArray = ls at hl ⊢
  exact wk_Nm_defineAt_0 ⟨B.exec, B.bytes, hml, findClass_of_methodNamed B.named, hts_bw (atoms_spec (ws := wsNm_defineAt) B.pre), B.returns, B.notSynchronized, hK, hA, fun v => ww_D hD, hN, hal, hNx⟩ F out u x0 x1 x2 x3 h q0 _ _ _ (lv_sub hl [0, 1, 2, 3] rfl) hP va_S.rf
abbrev rm_Nm_isDefined : Room := { frames := 0, cells := 0, slots := 0, locals := 0 }
def bk_Nm_isDefined_0 (F : Nat) (al : Nat → Bool) (u : Mr) (x0 : Nat) : Option (Mr × Int32) := if (u.1 x0 0) ≤ 0 then (some (u, (0 : Int32))) else (some (u, (1 : Int32)))
set_option maxHeartbeats 4000000 in
set_option maxRecDepth 100000 in
theorem wk_Nm_isDefined_0 (cx : Cx p l e s m args below meth c cNm_isDefined 1 bw "ImageForge$Name" (some .boolean) D cA ad L rs al A) (F : Nat) (out : Mr × Int32) : ∀ (u : Mr) (x0 : Nat), bk_Nm_isDefined_0 F al u x0 = some out → okk al 20 x0 = true → Wb p l e rm_Nm_isDefined s m args below meth c D cA ad L rs A (QI below args s D cA ad L rs A out) 1 0 [(0, .ref (ad x0))] [] u := by
  obtain ⟨hx, hb, hml, hown, hts, hr, hlocks, hK, hA, hD, hN, hal, hNx⟩ := cx
  intro u x0 h q0 H locs ls hl hP hS
  unfold bk_Nm_isDefined_0 at h
  refine lv_aload_n hx hb dNm_isDefined_0 rfl (lv_at hl 0 rfl) ?_
  refine x_get hx hb hts in_Nm hown hK hP (hal _ (okk_al q0)) (okk_t q0) rfl rfl 0 (by decide) (hts _ tw_169) (fun _ h9 => h9) rfl dNm_isDefined_1 ?_
  refine lv_if_le (tgt := 11) hx hb dNm_isDefined_4 rfl (fun hc => ?_) (fun hc => ?_)
  · replace h := it_t h hc
    refine lv_iconst (v := 0) hx hb dNm_isDefined_11 (by decide) ?_
    exact x_zret hx hb hr hlocks rfl h hP hS dNm_isDefined_12
  · replace h := it_f h hc
    refine lv_iconst (v := 1) hx hb dNm_isDefined_7 (by decide) ?_
    refine lv_goto (tgt := 12) hx hb dNm_isDefined_8 rfl ?_
    exact x_zret hx hb hr hlocks rfl h hP hS dNm_isDefined_12
def fn_Nm_isDefined (F : Nat) (al : Nat → Bool) (u : Mr) (x0 : Nat) : Option (Mr × Int32) := bk_Nm_isDefined_0 F al u x0
set_option maxHeartbeats 4000000 in
set_option maxRecDepth 100000 in
theorem ct_Nm_isDefined {l : Launch} {D : va_G} {cA : Nat → ClassId} {ad : Nat → Nat} {L : List Nat} {rs : va_W} {al : Nat → Bool} (hal : ∀ k, al k = true → k ∈ L) (hN : L.Nodup) (F : Nat) (u : Mr) (x0 : Nat) (out : Mr × Int32) (h : fn_Nm_isDefined F al u x0 = some out) (q0 : okk al 20 x0 = true) : CtI l yNm_isDefined wsNm_isDefined rm_Nm_isDefined [.ref (ad x0)] D cA ad L rs u out := by
  intro sz
  refine Met.ofW (cc := cNm_isDefined) (maxL := 1) (ret := (some .boolean)) (by decide) rfl ?_
  intro p e s m args below meth c s₁ B hml hv
  obtain ⟨rfl, hsz, hP, hK, hD0, hNx⟩ := hv
  subst hsz
  have hD := hD0.self (sz := s.heap.size)
  generalize hAe : va_A (ww ad cA L rs u) s.heap.size = A at hD ⊢
  have hA : ∀ q, s.heap.size ≤ q → A q := fun q h => by rw [← hAe]; exact Or.inr h
  have hl := lv_entry ([.ref (ad x0)]) (n := 1) (Nat.le_of_ble_eq_true rfl)
  rw [lg_entry_eq]
  generalize (lg_sl ([.ref (ad x0)]) ++ List.replicate (1 - (lg_sl ([.ref (ad x0)])).length) Slot.unset).toArray = ls at hl ⊢
  exact wk_Nm_isDefined_0 ⟨B.exec, B.bytes, hml, findClass_of_methodNamed B.named, hts_bw (atoms_spec (ws := wsNm_isDefined) B.pre), B.returns, B.notSynchronized, hK, hA, fun v => ww_D hD, hN, hal, hNx⟩ F out u x0 h q0 _ _ _ (lv_sub hl [0] rfl) hP va_S.rf
abbrev rm_Nm_isImported : Room := { frames := 0, cells := 0, slots := 0, locals := 0 }
def bk_Nm_isImported_0 (F : Nat) (al : Nat → Bool) (u : Mr) (x0 : Nat) : Option (Mr × Int32) := if (u.1 x0 4) = (-1 : Int32) then (some (u, (0 : Int32))) else (some (u, (1 : Int32)))
set_option maxHeartbeats 4000000 in
set_option maxRecDepth 100000 in
theorem wk_Nm_isImported_0 (cx : Cx p l e s m args below meth c cNm_isImported 1 bw "ImageForge$Name" (some .boolean) D cA ad L rs al A) (F : Nat) (out : Mr × Int32) : ∀ (u : Mr) (x0 : Nat), bk_Nm_isImported_0 F al u x0 = some out → okk al 20 x0 = true → Wb p l e rm_Nm_isImported s m args below meth c D cA ad L rs A (QI below args s D cA ad L rs A out) 1 0 [(0, .ref (ad x0))] [] u := by
  obtain ⟨hx, hb, hml, hown, hts, hr, hlocks, hK, hA, hD, hN, hal, hNx⟩ := cx
  intro u x0 h q0 H locs ls hl hP hS
  unfold bk_Nm_isImported_0 at h
  refine lv_aload_n hx hb dNm_isImported_0 rfl (lv_at hl 0 rfl) ?_
  refine x_get hx hb hts in_Nm hown hK hP (hal _ (okk_al q0)) (okk_t q0) rfl rfl 4 (by decide) (hts _ tw_177) (fun _ h9 => h9) rfl dNm_isImported_1 ?_
  refine lv_iconst (v := (-1)) hx hb dNm_isImported_4 (by decide) ?_
  refine lv_icmp_eq (tgt := 12) hx hb dNm_isImported_5 rfl (fun hc => ?_) (fun hc => ?_)
  · replace h := it_t h hc
    refine lv_iconst (v := 0) hx hb dNm_isImported_12 (by decide) ?_
    exact x_zret hx hb hr hlocks rfl h hP hS dNm_isImported_13
  · replace h := it_f h hc
    refine lv_iconst (v := 1) hx hb dNm_isImported_8 (by decide) ?_
    refine lv_goto (tgt := 13) hx hb dNm_isImported_9 rfl ?_
    exact x_zret hx hb hr hlocks rfl h hP hS dNm_isImported_13
def fn_Nm_isImported (F : Nat) (al : Nat → Bool) (u : Mr) (x0 : Nat) : Option (Mr × Int32) := bk_Nm_isImported_0 F al u x0
set_option maxHeartbeats 4000000 in
set_option maxRecDepth 100000 in
theorem ct_Nm_isImported {l : Launch} {D : va_G} {cA : Nat → ClassId} {ad : Nat → Nat} {L : List Nat} {rs : va_W} {al : Nat → Bool} (hal : ∀ k, al k = true → k ∈ L) (hN : L.Nodup) (F : Nat) (u : Mr) (x0 : Nat) (out : Mr × Int32) (h : fn_Nm_isImported F al u x0 = some out) (q0 : okk al 20 x0 = true) : CtI l yNm_isImported wsNm_isImported rm_Nm_isImported [.ref (ad x0)] D cA ad L rs u out := by
  intro sz
  refine Met.ofW (cc := cNm_isImported) (maxL := 1) (ret := (some .boolean)) (by decide) rfl ?_
  intro p e s m args below meth c s₁ B hml hv
  obtain ⟨rfl, hsz, hP, hK, hD0, hNx⟩ := hv
  subst hsz
  have hD := hD0.self (sz := s.heap.size)
  generalize hAe : va_A (ww ad cA L rs u) s.heap.size = A at hD ⊢
  have hA : ∀ q, s.heap.size ≤ q → A q := fun q h => by rw [← hAe]; exact Or.inr h
  have hl := lv_entry ([.ref (ad x0)]) (n := 1) (Nat.le_of_ble_eq_true rfl)
  rw [lg_entry_eq]
  generalize (lg_sl ([.ref (ad x0)]) ++ List.replicate (1 - (lg_sl ([.ref (ad x0)])).length) Slot.unset).toArray = ls at hl ⊢
  exact wk_Nm_isImported_0 ⟨B.exec, B.bytes, hml, findClass_of_methodNamed B.named, hts_bw (atoms_spec (ws := wsNm_isImported) B.pre), B.returns, B.notSynchronized, hK, hA, fun v => ww_D hD, hN, hal, hNx⟩ F out u x0 h q0 _ _ _ (lv_sub hl [0] rfl) hP va_S.rf
abbrev rm_Pt_append : Room := { frames := 0, cells := 0, slots := 0, locals := 0 }
def bk_Pt_append_3 (F : Nat) (al : Nat → Bool) : Nat → Mr → Nat → Int64 → Int32 → Int32 → Option (Mr × Int32)
  | 0, _, _, _, _, _ => none
  | n + 1, u, x0, x1, x3, x4 => if x3 ≤ x4 then (some (stI u x0 1 ((u.1 x0 1) + x3), 0)) else (bd1 (rdR al u x0 0 17) fun y1 => (ck (inb ((u.1 x0 1) + x4) 40) (bk_Pt_append_3 F al n (stI u y1 ((u.1 x0 1) + x4) (((x1 >>> (((8 : Int32) * x4).toInt64 &&& 63)).toInt32).toInt8.toInt32)) x0 x1 x3 (x4 + (1 : Int32)))))
set_option maxHeartbeats 4000000 in
set_option maxRecDepth 100000 in
theorem wk_Pt_append_3 (cx : Cx p l e s m args below meth c cPt_append 5 bw "ImageForge$Part" none D cA ad L rs al A) (F : Nat) (out : Mr × Int32) : ∀ n : Nat, ∀ (u : Mr) (x0 : Nat) (x1 : Int64) (x3 : Int32) (x4 : Int32), bk_Pt_append_3 F al n u x0 x1 x3 x4 = some out → okk al 16 x0 = true → Wb p l e rm_Pt_append s m args below meth c D cA ad L rs A (QV below args s D cA ad L rs A out) 5 3 [(0, .ref (ad x0)), (1, .long x1), (3, .int x3), (4, .int x4)] [] u := by
  obtain ⟨hx, hb, hml, hown, hts, hr, hlocks, hK, hA, hD, hN, hal, hNx⟩ := cx
  intro n
  induction n with
  | zero =>
    intro u x0 x1 x3 x4 h
    cases h
  | succ n ih =>
    intro u x0 x1 x3 x4 h q0 H locs ls hl hP hS
    rw [bk_Pt_append_3] at h
    refine lv_iload hx hb dPt_append_3 (lv_at hl 3 rfl) ?_
    refine lv_iload_n hx hb dPt_append_5 rfl (lv_at hl 2 rfl) ?_
    refine lv_icmp_ge (tgt := 36) hx hb dPt_append_6 rfl (fun hc => ?_) (fun hc => ?_)
    · replace h := it_t h hc
      refine lv_aload_n hx hb dPt_append_36 rfl (lv_at hl 0 rfl) ?_
      refine lv_dup hx hb dPt_append_37 rfl ?_
      refine x_get hx hb hts in_Pt hown hK hP (hal _ (okk_al q0)) (okk_t q0) rfl rfl 1 (by decide) (hts _ tw_116) (fun _ h9 => h9) rfl dPt_append_38 ?_
      refine lv_iload_n hx hb dPt_append_41 rfl (lv_at hl 2 rfl) ?_
      refine lv_iadd hx hb dPt_append_42 ?_
      refine x_put hx hb hts in_Pt t_Pt t_Pt_ok nm_Pt hown hK hD hN hP hS (hal _ (okk_al q0)) (okk_t q0) rfl rfl 1 (by decide) (hts _ tw_116) (fun _ h9 => h9) rfl (ty := .int) (by decide +kernel) rfl rfl (Nat.le_of_ble_eq_true rfl) (stI u x0 1 ((u.1 x0 1) + x3)) stI_o (by rw [stI_up]; exact eg_16_1) dPt_append_43 (fun H locs hP hS => ?_)
      exact x_vret hx hb hr hlocks h hP hS dPt_append_46
    · replace h := it_f h hc
      refine lv_aload_n hx hb dPt_append_9 rfl (lv_at hl 0 rfl) ?_
      obtain ⟨y1, hy2, h⟩ := bd1_some h
      obtain ⟨hy2a, hy2⟩ := rdR_some hy2
      refine x_get hx hb hts in_Pt hown hK hP (hal _ (okk_al q0)) (okk_t q0) rfl rfl 0 (by decide) (hts _ tw_114) (fun _ h9 => h9) (congrArg some (x_rf hy2a)) dPt_append_10 ?_
      refine lv_aload_n hx hb dPt_append_13 rfl (lv_at hl 0 rfl) ?_
      refine x_get hx hb hts in_Pt hown hK hP (hal _ (okk_al q0)) (okk_t q0) rfl rfl 1 (by decide) (hts _ tw_116) (fun _ h9 => h9) rfl dPt_append_14 ?_
      refine lv_iload hx hb dPt_append_17 (lv_at hl 3 rfl) ?_
      refine lv_iadd hx hb dPt_append_19 ?_
      refine lv_lload_n hx hb dPt_append_20 rfl (lv_at hl 1 rfl) ?_
      refine lv_bipush (v := 8) hx hb dPt_append_21 (by decide) ?_
      refine lv_iload hx hb dPt_append_23 (lv_at hl 3 rfl) ?_
      refine lv_imul hx hb dPt_append_25 ?_
      refine lv_lshr (v := x1 >>> (((8 : Int32) * x4).toInt64 &&& 63)) hx hb dPt_append_26 rfl ?_
      refine lv_l2i (v := (x1 >>> (((8 : Int32) * x4).toInt64 &&& 63)).toInt32) hx hb dPt_append_27 rfl ?_
      refine lv_i2b (v := ((x1 >>> (((8 : Int32) * x4).toInt64 &&& 63)).toInt32).toInt8.toInt32) hx hb dPt_append_28 rfl ?_
      obtain ⟨hi3, h⟩ := ck_some h
      refine x_bastB hx hb hK hD hN hP hS (hal _ (okk_al hy2)) (okk_t hy2) 1 (fun _ _ _ => rfl) rfl (by decide) (inb_in hi3) dPt_append_29 (fun H locs hP hS => ?_)
      refine lv_iinc (k := 3) (v := x4 + (1 : Int32)) (lv' := [(4, .int (x4 + (1 : Int32))), (0, .ref (ad x0)), (1, .long x1), (3, .int x3)]) hx hb dPt_append_30 hl rfl (congrArg (fun z => _ + z) (show Int32.ofInt 1 = 1 by decide)) (by decide) rfl (fun ls hl => ?_)
      refine lv_goto (tgt := 3) hx hb dPt_append_33 rfl ?_
      exact ih (stI u y1 ((u.1 x0 1) + x4) (((x1 >>> (((8 : Int32) * x4).toInt64 &&& 63)).toInt32).toInt8.toInt32)) x0 x1 x3 (x4 + (1 : Int32)) h q0 _ _ _ (lv_sub hl [1, 2, 3, 0] rfl) hP hS
def bk_Pt_append_0 (F : Nat) (al : Nat → Bool) (u : Mr) (x0 : Nat) (x1 : Int64) (x3 : Int32) : Option (Mr × Int32) := bk_Pt_append_3 F al F u x0 x1 x3 (0 : Int32)
set_option maxHeartbeats 4000000 in
set_option maxRecDepth 100000 in
theorem wk_Pt_append_0 (cx : Cx p l e s m args below meth c cPt_append 5 bw "ImageForge$Part" none D cA ad L rs al A) (F : Nat) (out : Mr × Int32) : ∀ (u : Mr) (x0 : Nat) (x1 : Int64) (x3 : Int32), bk_Pt_append_0 F al u x0 x1 x3 = some out → okk al 16 x0 = true → Wb p l e rm_Pt_append s m args below meth c D cA ad L rs A (QV below args s D cA ad L rs A out) 5 0 [(0, .ref (ad x0)), (1, .long x1), (3, .int x3)] [] u := by
  obtain ⟨hx, hb, hml, hown, hts, hr, hlocks, hK, hA, hD, hN, hal, hNx⟩ := cx
  intro u x0 x1 x3 h q0 H locs ls hl hP hS
  unfold bk_Pt_append_0 at h
  refine lv_iconst (v := 0) hx hb dPt_append_0 (by decide) ?_
  refine lv_istore (lv' := [(4, .int (0 : Int32)), (0, .ref (ad x0)), (1, .long x1), (3, .int x3)]) hx hb dPt_append_1 hl (by decide) rfl (fun ls hl => ?_)
  exact wk_Pt_append_3 ⟨hx, hb, hml, hown, hts, hr, hlocks, hK, hA, hD, hN, hal, hNx⟩ F out F u x0 x1 x3 (0 : Int32) h q0 _ _ _ (lv_sub hl [1, 2, 3, 0] rfl) hP hS
def fn_Pt_append (F : Nat) (al : Nat → Bool) (u : Mr) (x0 : Nat) (x1 : Int64) (x3 : Int32) : Option (Mr × Int32) := bk_Pt_append_0 F al u x0 x1 x3
set_option maxHeartbeats 4000000 in
set_option maxRecDepth 100000 in
theorem ct_Pt_append {l : Launch} {D : va_G} {cA : Nat → ClassId} {ad : Nat → Nat} {L : List Nat} {rs : va_W} {al : Nat → Bool} (hal : ∀ k, al k = true → k ∈ L) (hN : L.Nodup) (F : Nat) (u : Mr) (x0 : Nat) (x1 : Int64) (x3 : Int32) (out : Mr × Int32) (h : fn_Pt_append F al u x0 x1 x3 = some out) (q0 : okk al 16 x0 = true) : CtV l yPt_append wsPt_append rm_Pt_append [.ref (ad x0), .long x1, .int x3] D cA ad L rs u out := by
  intro sz
  refine Met.ofW (cc := cPt_append) (maxL := 5) (ret := none) (by decide) rfl ?_
  intro p e s m args below meth c s₁ B hml hv
  obtain ⟨rfl, hsz, hP, hK, hD0, hNx⟩ := hv
  subst hsz
  have hD := hD0.self (sz := s.heap.size)
  generalize hAe : va_A (ww ad cA L rs u) s.heap.size = A at hD ⊢
  have hA : ∀ q, s.heap.size ≤ q → A q := fun q h => by rw [← hAe]; exact Or.inr h
  have hl := lv_entry ([.ref (ad x0), .long x1, .int x3]) (n := 5) (Nat.le_of_ble_eq_true rfl)
  rw [lg_entry_eq]
  generalize (lg_sl ([.ref (ad x0), .long x1, .int x3]) ++ List.replicate (5 - (lg_sl ([.ref (ad x0), .long x1, .int x3])).length) Slot.unset).toArray = ls at hl ⊢
  exact wk_Pt_append_0 ⟨B.exec, B.bytes, hml, findClass_of_methodNamed B.named, hts_bw (atoms_spec (ws := wsPt_append) B.pre), B.returns, B.notSynchronized, hK, hA, fun v => ww_D hD, hN, hal, hNx⟩ F out u x0 x1 x3 h q0 _ _ _ (lv_sub hl [0, 1, 2] rfl) hP va_S.rf
abbrev rm_Pt_holdsWord : Room := { frames := 0, cells := 0, slots := 0, locals := 0 }
def bk_Pt_holdsWord_0 (F : Nat) (al : Nat → Bool) (u : Mr) (x0 : Nat) (x1 : Int32) : Option (Mr × Int32) := if x1 < 0 then (some (u, (0 : Int32))) else (if ((u.1 x0 1) - (4 : Int32)) < x1 then (some (u, (0 : Int32))) else (some (u, (1 : Int32))))
set_option maxHeartbeats 4000000 in
set_option maxRecDepth 100000 in
theorem wk_Pt_holdsWord_0 (cx : Cx p l e s m args below meth c cPt_holdsWord 2 bw "ImageForge$Part" (some .boolean) D cA ad L rs al A) (F : Nat) (out : Mr × Int32) : ∀ (u : Mr) (x0 : Nat) (x1 : Int32), bk_Pt_holdsWord_0 F al u x0 x1 = some out → okk al 16 x0 = true → Wb p l e rm_Pt_holdsWord s m args below meth c D cA ad L rs A (QI below args s D cA ad L rs A out) 2 0 [(0, .ref (ad x0)), (1, .int x1)] [] u := by
  obtain ⟨hx, hb, hml, hown, hts, hr, hlocks, hK, hA, hD, hN, hal, hNx⟩ := cx
  intro u x0 x1 h q0 H locs ls hl hP hS
  unfold bk_Pt_holdsWord_0 at h
  refine lv_iload_n hx hb dPt_holdsWord_0 rfl (lv_at hl 1 rfl) ?_
  refine lv_if_lt (tgt := 18) hx hb dPt_holdsWord_1 rfl (fun hc => ?_) (fun hc => ?_)
  · replace h := it_t h hc
    refine lv_iconst (v := 0) hx hb dPt_holdsWord_18 (by decide) ?_
    exact x_zret hx hb hr hlocks rfl h hP hS dPt_holdsWord_19
  · replace h := it_f h hc
    refine lv_iload_n hx hb dPt_holdsWord_4 rfl (lv_at hl 1 rfl) ?_
    refine lv_aload_n hx hb dPt_holdsWord_5 rfl (lv_at hl 0 rfl) ?_
    refine x_get hx hb hts in_Pt hown hK hP (hal _ (okk_al q0)) (okk_t q0) rfl rfl 1 (by decide) (hts _ tw_116) (fun _ h9 => h9) rfl dPt_holdsWord_6 ?_
    refine lv_iconst (v := 4) hx hb dPt_holdsWord_9 (by decide) ?_
    refine lv_isub hx hb dPt_holdsWord_10 ?_
    refine lv_icmp_gt (tgt := 18) hx hb dPt_holdsWord_11 rfl (fun hc => ?_) (fun hc => ?_)
    · replace h := it_t h hc
      refine lv_iconst (v := 0) hx hb dPt_holdsWord_18 (by decide) ?_
      exact x_zret hx hb hr hlocks rfl h hP hS dPt_holdsWord_19
    · replace h := it_f h hc
      refine lv_iconst (v := 1) hx hb dPt_holdsWord_14 (by decide) ?_
      refine lv_goto (tgt := 19) hx hb dPt_holdsWord_15 rfl ?_
      exact x_zret hx hb hr hlocks rfl h hP hS dPt_holdsWord_19
def fn_Pt_holdsWord (F : Nat) (al : Nat → Bool) (u : Mr) (x0 : Nat) (x1 : Int32) : Option (Mr × Int32) := bk_Pt_holdsWord_0 F al u x0 x1
set_option maxHeartbeats 4000000 in
set_option maxRecDepth 100000 in
theorem ct_Pt_holdsWord {l : Launch} {D : va_G} {cA : Nat → ClassId} {ad : Nat → Nat} {L : List Nat} {rs : va_W} {al : Nat → Bool} (hal : ∀ k, al k = true → k ∈ L) (hN : L.Nodup) (F : Nat) (u : Mr) (x0 : Nat) (x1 : Int32) (out : Mr × Int32) (h : fn_Pt_holdsWord F al u x0 x1 = some out) (q0 : okk al 16 x0 = true) : CtI l yPt_holdsWord wsPt_holdsWord rm_Pt_holdsWord [.ref (ad x0), .int x1] D cA ad L rs u out := by
  intro sz
  refine Met.ofW (cc := cPt_holdsWord) (maxL := 2) (ret := (some .boolean)) (by decide) rfl ?_
  intro p e s m args below meth c s₁ B hml hv
  obtain ⟨rfl, hsz, hP, hK, hD0, hNx⟩ := hv
  subst hsz
  have hD := hD0.self (sz := s.heap.size)
  generalize hAe : va_A (ww ad cA L rs u) s.heap.size = A at hD ⊢
  have hA : ∀ q, s.heap.size ≤ q → A q := fun q h => by rw [← hAe]; exact Or.inr h
  have hl := lv_entry ([.ref (ad x0), .int x1]) (n := 2) (Nat.le_of_ble_eq_true rfl)
  rw [lg_entry_eq]
  generalize (lg_sl ([.ref (ad x0), .int x1]) ++ List.replicate (2 - (lg_sl ([.ref (ad x0), .int x1])).length) Slot.unset).toArray = ls at hl ⊢
  exact wk_Pt_holdsWord_0 ⟨B.exec, B.bytes, hml, findClass_of_methodNamed B.named, hts_bw (atoms_spec (ws := wsPt_holdsWord) B.pre), B.returns, B.notSynchronized, hK, hA, fun v => ww_D hD, hN, hal, hNx⟩ F out u x0 x1 h q0 _ _ _ (lv_sub hl [0, 1] rfl) hP va_S.rf
abbrev rm_Rf_part : Room := { frames := 0, cells := 0, slots := 0, locals := 0 }
def bk_Rf_part_0 (F : Nat) (al : Nat → Bool) (u : Mr) (x0 : Nat) : Option (Mr × Int32) := some (u, u.1 x0 0)
set_option maxHeartbeats 4000000 in
set_option maxRecDepth 100000 in
theorem wk_Rf_part_0 (cx : Cx p l e s m args below meth c cRf_part 1 bw "ImageForge$Reference" (some .int) D cA ad L rs al A) (F : Nat) (out : Mr × Int32) : ∀ (u : Mr) (x0 : Nat), bk_Rf_part_0 F al u x0 = some out → okk al 21 x0 = true → Wb p l e rm_Rf_part s m args below meth c D cA ad L rs A (QI below args s D cA ad L rs A out) 1 0 [(0, .ref (ad x0))] [] u := by
  obtain ⟨hx, hb, hml, hown, hts, hr, hlocks, hK, hA, hD, hN, hal, hNx⟩ := cx
  intro u x0 h q0 H locs ls hl hP hS
  unfold bk_Rf_part_0 at h
  refine lv_aload_n hx hb dRf_part_0 rfl (lv_at hl 0 rfl) ?_
  refine x_get hx hb hts in_Rf hown hK hP (hal _ (okk_al q0)) (okk_t q0) rfl rfl 0 (by decide) (hts _ tw_413) (fun _ h9 => h9) rfl dRf_part_1 ?_
  exact x_iret hx hb hr hlocks h hP hS dRf_part_4
def fn_Rf_part (F : Nat) (al : Nat → Bool) (u : Mr) (x0 : Nat) : Option (Mr × Int32) := bk_Rf_part_0 F al u x0
set_option maxHeartbeats 4000000 in
set_option maxRecDepth 100000 in
theorem ct_Rf_part {l : Launch} {D : va_G} {cA : Nat → ClassId} {ad : Nat → Nat} {L : List Nat} {rs : va_W} {al : Nat → Bool} (hal : ∀ k, al k = true → k ∈ L) (hN : L.Nodup) (F : Nat) (u : Mr) (x0 : Nat) (out : Mr × Int32) (h : fn_Rf_part F al u x0 = some out) (q0 : okk al 21 x0 = true) : CtI l yRf_part wsRf_part rm_Rf_part [.ref (ad x0)] D cA ad L rs u out := by
  intro sz
  refine Met.ofW (cc := cRf_part) (maxL := 1) (ret := (some .int)) (by decide) rfl ?_
  intro p e s m args below meth c s₁ B hml hv
  obtain ⟨rfl, hsz, hP, hK, hD0, hNx⟩ := hv
  subst hsz
  have hD := hD0.self (sz := s.heap.size)
  generalize hAe : va_A (ww ad cA L rs u) s.heap.size = A at hD ⊢
  have hA : ∀ q, s.heap.size ≤ q → A q := fun q h => by rw [← hAe]; exact Or.inr h
  have hl := lv_entry ([.ref (ad x0)]) (n := 1) (Nat.le_of_ble_eq_true rfl)
  rw [lg_entry_eq]
  generalize (lg_sl ([.ref (ad x0)]) ++ List.replicate (1 - (lg_sl ([.ref (ad x0)])).length) Slot.unset).toArray = ls at hl ⊢
  exact wk_Rf_part_0 ⟨B.exec, B.bytes, hml, findClass_of_methodNamed B.named, hts_bw (atoms_spec (ws := wsRf_part) B.pre), B.returns, B.notSynchronized, hK, hA, fun v => ww_D hD, hN, hal, hNx⟩ F out u x0 h q0 _ _ _ (lv_sub hl [0] rfl) hP va_S.rf
abbrev rm_Rf_place : Room := { frames := 0, cells := 0, slots := 0, locals := 0 }
def bk_Rf_place_0 (F : Nat) (al : Nat → Bool) (u : Mr) (x0 : Nat) : Option (Mr × Int32) := some (u, u.1 x0 1)
set_option maxHeartbeats 4000000 in
set_option maxRecDepth 100000 in
theorem wk_Rf_place_0 (cx : Cx p l e s m args below meth c cRf_place 1 bw "ImageForge$Reference" (some .int) D cA ad L rs al A) (F : Nat) (out : Mr × Int32) : ∀ (u : Mr) (x0 : Nat), bk_Rf_place_0 F al u x0 = some out → okk al 21 x0 = true → Wb p l e rm_Rf_place s m args below meth c D cA ad L rs A (QI below args s D cA ad L rs A out) 1 0 [(0, .ref (ad x0))] [] u := by
  obtain ⟨hx, hb, hml, hown, hts, hr, hlocks, hK, hA, hD, hN, hal, hNx⟩ := cx
  intro u x0 h q0 H locs ls hl hP hS
  unfold bk_Rf_place_0 at h
  refine lv_aload_n hx hb dRf_place_0 rfl (lv_at hl 0 rfl) ?_
  refine x_get hx hb hts in_Rf hown hK hP (hal _ (okk_al q0)) (okk_t q0) rfl rfl 1 (by decide) (hts _ tw_414) (fun _ h9 => h9) rfl dRf_place_1 ?_
  exact x_iret hx hb hr hlocks h hP hS dRf_place_4
def fn_Rf_place (F : Nat) (al : Nat → Bool) (u : Mr) (x0 : Nat) : Option (Mr × Int32) := bk_Rf_place_0 F al u x0
set_option maxHeartbeats 4000000 in
set_option maxRecDepth 100000 in
theorem ct_Rf_place {l : Launch} {D : va_G} {cA : Nat → ClassId} {ad : Nat → Nat} {L : List Nat} {rs : va_W} {al : Nat → Bool} (hal : ∀ k, al k = true → k ∈ L) (hN : L.Nodup) (F : Nat) (u : Mr) (x0 : Nat) (out : Mr × Int32) (h : fn_Rf_place F al u x0 = some out) (q0 : okk al 21 x0 = true) : CtI l yRf_place wsRf_place rm_Rf_place [.ref (ad x0)] D cA ad L rs u out := by
  intro sz
  refine Met.ofW (cc := cRf_place) (maxL := 1) (ret := (some .int)) (by decide) rfl ?_
  intro p e s m args below meth c s₁ B hml hv
  obtain ⟨rfl, hsz, hP, hK, hD0, hNx⟩ := hv
  subst hsz
  have hD := hD0.self (sz := s.heap.size)
  generalize hAe : va_A (ww ad cA L rs u) s.heap.size = A at hD ⊢
  have hA : ∀ q, s.heap.size ≤ q → A q := fun q h => by rw [← hAe]; exact Or.inr h
  have hl := lv_entry ([.ref (ad x0)]) (n := 1) (Nat.le_of_ble_eq_true rfl)
  rw [lg_entry_eq]
  generalize (lg_sl ([.ref (ad x0)]) ++ List.replicate (1 - (lg_sl ([.ref (ad x0)])).length) Slot.unset).toArray = ls at hl ⊢
  exact wk_Rf_place_0 ⟨B.exec, B.bytes, hml, findClass_of_methodNamed B.named, hts_bw (atoms_spec (ws := wsRf_place) B.pre), B.returns, B.notSynchronized, hK, hA, fun v => ww_D hD, hN, hal, hNx⟩ F out u x0 h q0 _ _ _ (lv_sub hl [0] rfl) hP va_S.rf
abbrev rm_Rf_kind : Room := { frames := 0, cells := 0, slots := 0, locals := 0 }
def bk_Rf_kind_0 (F : Nat) (al : Nat → Bool) (u : Mr) (x0 : Nat) : Option (Mr × Int32) := some (u, u.1 x0 2)
set_option maxHeartbeats 4000000 in
set_option maxRecDepth 100000 in
theorem wk_Rf_kind_0 (cx : Cx p l e s m args below meth c cRf_kind 1 bw "ImageForge$Reference" (some .int) D cA ad L rs al A) (F : Nat) (out : Mr × Int32) : ∀ (u : Mr) (x0 : Nat), bk_Rf_kind_0 F al u x0 = some out → okk al 21 x0 = true → Wb p l e rm_Rf_kind s m args below meth c D cA ad L rs A (QI below args s D cA ad L rs A out) 1 0 [(0, .ref (ad x0))] [] u := by
  obtain ⟨hx, hb, hml, hown, hts, hr, hlocks, hK, hA, hD, hN, hal, hNx⟩ := cx
  intro u x0 h q0 H locs ls hl hP hS
  unfold bk_Rf_kind_0 at h
  refine lv_aload_n hx hb dRf_kind_0 rfl (lv_at hl 0 rfl) ?_
  refine x_get hx hb hts in_Rf hown hK hP (hal _ (okk_al q0)) (okk_t q0) rfl rfl 2 (by decide) (hts _ tw_415) (fun _ h9 => h9) rfl dRf_kind_1 ?_
  exact x_iret hx hb hr hlocks h hP hS dRf_kind_4
def fn_Rf_kind (F : Nat) (al : Nat → Bool) (u : Mr) (x0 : Nat) : Option (Mr × Int32) := bk_Rf_kind_0 F al u x0
set_option maxHeartbeats 4000000 in
set_option maxRecDepth 100000 in
theorem ct_Rf_kind {l : Launch} {D : va_G} {cA : Nat → ClassId} {ad : Nat → Nat} {L : List Nat} {rs : va_W} {al : Nat → Bool} (hal : ∀ k, al k = true → k ∈ L) (hN : L.Nodup) (F : Nat) (u : Mr) (x0 : Nat) (out : Mr × Int32) (h : fn_Rf_kind F al u x0 = some out) (q0 : okk al 21 x0 = true) : CtI l yRf_kind wsRf_kind rm_Rf_kind [.ref (ad x0)] D cA ad L rs u out := by
  intro sz
  refine Met.ofW (cc := cRf_kind) (maxL := 1) (ret := (some .int)) (by decide) rfl ?_
  intro p e s m args below meth c s₁ B hml hv
  obtain ⟨rfl, hsz, hP, hK, hD0, hNx⟩ := hv
  subst hsz
  have hD := hD0.self (sz := s.heap.size)
  generalize hAe : va_A (ww ad cA L rs u) s.heap.size = A at hD ⊢
  have hA : ∀ q, s.heap.size ≤ q → A q := fun q h => by rw [← hAe]; exact Or.inr h
  have hl := lv_entry ([.ref (ad x0)]) (n := 1) (Nat.le_of_ble_eq_true rfl)
  rw [lg_entry_eq]
  generalize (lg_sl ([.ref (ad x0)]) ++ List.replicate (1 - (lg_sl ([.ref (ad x0)])).length) Slot.unset).toArray = ls at hl ⊢
  exact wk_Rf_kind_0 ⟨B.exec, B.bytes, hml, findClass_of_methodNamed B.named, hts_bw (atoms_spec (ws := wsRf_kind) B.pre), B.returns, B.notSynchronized, hK, hA, fun v => ww_D hD, hN, hal, hNx⟩ F out u x0 h q0 _ _ _ (lv_sub hl [0] rfl) hP va_S.rf
abbrev rm_Rf_name : Room := { frames := 0, cells := 0, slots := 0, locals := 0 }
def bk_Rf_name_0 (F : Nat) (al : Nat → Bool) (u : Mr) (x0 : Nat) : Option (Mr × Int32) := some (u, u.1 x0 3)
set_option maxHeartbeats 4000000 in
set_option maxRecDepth 100000 in
theorem wk_Rf_name_0 (cx : Cx p l e s m args below meth c cRf_name 1 bw "ImageForge$Reference" (some .int) D cA ad L rs al A) (F : Nat) (out : Mr × Int32) : ∀ (u : Mr) (x0 : Nat), bk_Rf_name_0 F al u x0 = some out → okk al 21 x0 = true → Wb p l e rm_Rf_name s m args below meth c D cA ad L rs A (QI below args s D cA ad L rs A out) 1 0 [(0, .ref (ad x0))] [] u := by
  obtain ⟨hx, hb, hml, hown, hts, hr, hlocks, hK, hA, hD, hN, hal, hNx⟩ := cx
  intro u x0 h q0 H locs ls hl hP hS
  unfold bk_Rf_name_0 at h
  refine lv_aload_n hx hb dRf_name_0 rfl (lv_at hl 0 rfl) ?_
  refine x_get hx hb hts in_Rf hown hK hP (hal _ (okk_al q0)) (okk_t q0) rfl rfl 3 (by decide) (hts _ tw_416) (fun _ h9 => h9) rfl dRf_name_1 ?_
  exact x_iret hx hb hr hlocks h hP hS dRf_name_4
def fn_Rf_name (F : Nat) (al : Nat → Bool) (u : Mr) (x0 : Nat) : Option (Mr × Int32) := bk_Rf_name_0 F al u x0
set_option maxHeartbeats 4000000 in
set_option maxRecDepth 100000 in
theorem ct_Rf_name {l : Launch} {D : va_G} {cA : Nat → ClassId} {ad : Nat → Nat} {L : List Nat} {rs : va_W} {al : Nat → Bool} (hal : ∀ k, al k = true → k ∈ L) (hN : L.Nodup) (F : Nat) (u : Mr) (x0 : Nat) (out : Mr × Int32) (h : fn_Rf_name F al u x0 = some out) (q0 : okk al 21 x0 = true) : CtI l yRf_name wsRf_name rm_Rf_name [.ref (ad x0)] D cA ad L rs u out := by
  intro sz
  refine Met.ofW (cc := cRf_name) (maxL := 1) (ret := (some .int)) (by decide) rfl ?_
  intro p e s m args below meth c s₁ B hml hv
  obtain ⟨rfl, hsz, hP, hK, hD0, hNx⟩ := hv
  subst hsz
  have hD := hD0.self (sz := s.heap.size)
  generalize hAe : va_A (ww ad cA L rs u) s.heap.size = A at hD ⊢
  have hA : ∀ q, s.heap.size ≤ q → A q := fun q h => by rw [← hAe]; exact Or.inr h
  have hl := lv_entry ([.ref (ad x0)]) (n := 1) (Nat.le_of_ble_eq_true rfl)
  rw [lg_entry_eq]
  generalize (lg_sl ([.ref (ad x0)]) ++ List.replicate (1 - (lg_sl ([.ref (ad x0)])).length) Slot.unset).toArray = ls at hl ⊢
  exact wk_Rf_name_0 ⟨B.exec, B.bytes, hml, findClass_of_methodNamed B.named, hts_bw (atoms_spec (ws := wsRf_name) B.pre), B.returns, B.notSynchronized, hK, hA, fun v => ww_D hD, hN, hal, hNx⟩ F out u x0 h q0 _ _ _ (lv_sub hl [0] rfl) hP va_S.rf
abbrev rm_Pc_checkIndex : Room := { frames := 0, cells := 0, slots := 0, locals := 0 }
def bk_Pc_checkIndex_9 (F : Nat) (al : Nat → Bool) (u : Mr) (x0 : Int32) (x1 : Int32) : Option (Mr × Int32) := none
set_option maxHeartbeats 4000000 in
set_option maxRecDepth 100000 in
theorem wk_Pc_checkIndex_9 (cx : Cx p l e s m args below meth c cPc_checkIndex 3 bw "jdk/internal/util/Preconditions" (some .int) D cA ad L rs al A) (F : Nat) (out : Mr × Int32) : ∀ (u : Mr) (x0 : Int32) (x1 : Int32), bk_Pc_checkIndex_9 F al u x0 x1 = some out → Wb p l e rm_Pc_checkIndex s m args below meth c D cA ad L rs A (QI below args s D cA ad L rs A out) 3 9 [(0, .int x0), (1, .int x1)] [] u := by
  obtain ⟨hx, hb, hml, hown, hts, hr, hlocks, hK, hA, hD, hN, hal, hNx⟩ := cx
  intro u x0 x1 h H locs ls hl hP hS
  unfold bk_Pc_checkIndex_9 at h
  cases h
def bk_Pc_checkIndex_0 (F : Nat) (al : Nat → Bool) (u : Mr) (x0 : Int32) (x1 : Int32) : Option (Mr × Int32) := if x0 < 0 then (bk_Pc_checkIndex_9 F al u x0 x1) else (if x0 < x1 then (some (u, x0)) else (bk_Pc_checkIndex_9 F al u x0 x1))
set_option maxHeartbeats 4000000 in
set_option maxRecDepth 100000 in
theorem wk_Pc_checkIndex_0 (cx : Cx p l e s m args below meth c cPc_checkIndex 3 bw "jdk/internal/util/Preconditions" (some .int) D cA ad L rs al A) (F : Nat) (out : Mr × Int32) : ∀ (u : Mr) (x0 : Int32) (x1 : Int32), bk_Pc_checkIndex_0 F al u x0 x1 = some out → Wb p l e rm_Pc_checkIndex s m args below meth c D cA ad L rs A (QI below args s D cA ad L rs A out) 3 0 [(0, .int x0), (1, .int x1)] [] u := by
  obtain ⟨hx, hb, hml, hown, hts, hr, hlocks, hK, hA, hD, hN, hal, hNx⟩ := cx
  intro u x0 x1 h H locs ls hl hP hS
  unfold bk_Pc_checkIndex_0 at h
  refine lv_iload_n hx hb dPc_checkIndex_0 rfl (lv_at hl 0 rfl) ?_
  refine lv_if_lt (tgt := 9) hx hb dPc_checkIndex_1 rfl (fun hc => ?_) (fun hc => ?_)
  · replace h := it_t h hc
    exact wk_Pc_checkIndex_9 ⟨hx, hb, hml, hown, hts, hr, hlocks, hK, hA, hD, hN, hal, hNx⟩ F out u x0 x1 h _ _ _ (lv_sub hl [0, 1] rfl) hP hS
  · replace h := it_f h hc
    refine lv_iload_n hx hb dPc_checkIndex_4 rfl (lv_at hl 0 rfl) ?_
    refine lv_iload_n hx hb dPc_checkIndex_5 rfl (lv_at hl 1 rfl) ?_
    refine lv_icmp_lt (tgt := 16) hx hb dPc_checkIndex_6 rfl (fun hc => ?_) (fun hc => ?_)
    · replace h := it_t h hc
      refine lv_iload_n hx hb dPc_checkIndex_16 rfl (lv_at hl 0 rfl) ?_
      exact x_iret hx hb hr hlocks h hP hS dPc_checkIndex_17
    · replace h := it_f h hc
      exact wk_Pc_checkIndex_9 ⟨hx, hb, hml, hown, hts, hr, hlocks, hK, hA, hD, hN, hal, hNx⟩ F out u x0 x1 h _ _ _ (lv_sub hl [0, 1] rfl) hP hS
def fn_Pc_checkIndex (F : Nat) (al : Nat → Bool) (u : Mr) (x0 : Int32) (x1 : Int32) : Option (Mr × Int32) := bk_Pc_checkIndex_0 F al u x0 x1
set_option maxHeartbeats 4000000 in
set_option maxRecDepth 100000 in
theorem ct_Pc_checkIndex {l : Launch} {D : va_G} {cA : Nat → ClassId} {ad : Nat → Nat} {L : List Nat} {rs : va_W} {al : Nat → Bool} (hal : ∀ k, al k = true → k ∈ L) (hN : L.Nodup) (F : Nat) (u : Mr) (x0 : Int32) (x1 : Int32) (out : Mr × Int32) (h : fn_Pc_checkIndex F al u x0 x1 = some out)  : CtI l yPc_checkIndex wsPc_checkIndex rm_Pc_checkIndex [.int x0, .int x1, .null] D cA ad L rs u out := by
  intro sz
  refine Met.ofW (cc := cPc_checkIndex) (maxL := 3) (ret := (some .int)) (by decide) rfl ?_
  intro p e s m args below meth c s₁ B hml hv
  obtain ⟨rfl, hsz, hP, hK, hD0, hNx⟩ := hv
  subst hsz
  have hD := hD0.self (sz := s.heap.size)
  generalize hAe : va_A (ww ad cA L rs u) s.heap.size = A at hD ⊢
  have hA : ∀ q, s.heap.size ≤ q → A q := fun q h => by rw [← hAe]; exact Or.inr h
  have hl := lv_entry ([.int x0, .int x1, .null]) (n := 3) (Nat.le_of_ble_eq_true rfl)
  rw [lg_entry_eq]
  generalize (lg_sl ([.int x0, .int x1, .null]) ++ List.replicate (3 - (lg_sl ([.int x0, .int x1, .null])).length) Slot.unset).toArray = ls at hl ⊢
  exact wk_Pc_checkIndex_0 ⟨B.exec, B.bytes, hml, findClass_of_methodNamed B.named, hts_bw (atoms_spec (ws := wsPc_checkIndex) B.pre), B.returns, B.notSynchronized, hK, hA, fun v => ww_D hD, hN, hal, hNx⟩ F out u x0 x1 h  _ _ _ (lv_sub hl [0, 1] rfl) hP va_S.rf
abbrev rm_Os_checkIndex : Room := { frames := 1, cells := 0, slots := 0, locals := 22 }
def bk_Os_checkIndex_0 (F : Nat) (al : Nat → Bool) (u : Mr) (x0 : Int32) (x1 : Int32) : Option (Mr × Int32) := bd2 (fn_Pc_checkIndex F al u x0 x1) fun u1 v1 => (some (u1, v1))
set_option maxHeartbeats 4000000 in
set_option maxRecDepth 100000 in
theorem wk_Os_checkIndex_0 (cx : Cx p l e s m args below meth c cOs_checkIndex 2 bw "java/util/Objects" (some .int) D cA ad L rs al A) (F : Nat) (out : Mr × Int32) : ∀ (u : Mr) (x0 : Int32) (x1 : Int32), bk_Os_checkIndex_0 F al u x0 x1 = some out → Wb p l e rm_Os_checkIndex s m args below meth c D cA ad L rs A (QI below args s D cA ad L rs A out) 2 0 [(0, .int x0), (1, .int x1)] [] u := by
  obtain ⟨hx, hb, hml, hown, hts, hr, hlocks, hK, hA, hD, hN, hal, hNx⟩ := cx
  intro u x0 x1 h H locs ls hl hP hS
  unfold bk_Os_checkIndex_0 at h
  refine lv_iload_n hx hb dOs_checkIndex_0 rfl (lv_at hl 0 rfl) ?_
  refine lv_iload_n hx hb dOs_checkIndex_1 rfl (lv_at hl 1 rfl) ?_
  refine lv_null hx hb dOs_checkIndex_2 ?_
  obtain ⟨u1, v1, hc1, h⟩ := bd2_some h
  refine x_ci (u := u) (out := (u1, v1)) hA hD hS (va_runS (As := [.int x0, .int x1, .null]) (rest := []) ⟨hx, hb, hml, hown, hts⟩ (ct_Pc_checkIndex hal hN F u x0 x1 (u1, v1) hc1  _) ⟨callB_of 3 hts gdPc_checkIndex rfl rfl rfl (hts _ tw_18) (hts _ tw_382) hdPc_checkIndex ⟨Nat.le_of_ble_eq_true rfl, Nat.le_of_ble_eq_true rfl⟩, (hts _ tw_383)⟩ (x_preS hK hD hNx hP) rfl rfl hl.1 rfl (lv_room (Nat.le_of_ble_eq_true rfl)) dOs_checkIndex_3 ⟨Nat.zero_le _, Nat.zero_le _⟩) (fun H locs hP hS => ?_)
  exact x_iret hx hb hr hlocks h hP hS dOs_checkIndex_6
def fn_Os_checkIndex (F : Nat) (al : Nat → Bool) (u : Mr) (x0 : Int32) (x1 : Int32) : Option (Mr × Int32) := bk_Os_checkIndex_0 F al u x0 x1
set_option maxHeartbeats 4000000 in
set_option maxRecDepth 100000 in
theorem ct_Os_checkIndex {l : Launch} {D : va_G} {cA : Nat → ClassId} {ad : Nat → Nat} {L : List Nat} {rs : va_W} {al : Nat → Bool} (hal : ∀ k, al k = true → k ∈ L) (hN : L.Nodup) (F : Nat) (u : Mr) (x0 : Int32) (x1 : Int32) (out : Mr × Int32) (h : fn_Os_checkIndex F al u x0 x1 = some out)  : CtI l yOs_checkIndex wsOs_checkIndex rm_Os_checkIndex [.int x0, .int x1] D cA ad L rs u out := by
  intro sz
  refine Met.ofW (cc := cOs_checkIndex) (maxL := 2) (ret := (some .int)) (by decide) rfl ?_
  intro p e s m args below meth c s₁ B hml hv
  obtain ⟨rfl, hsz, hP, hK, hD0, hNx⟩ := hv
  subst hsz
  have hD := hD0.self (sz := s.heap.size)
  generalize hAe : va_A (ww ad cA L rs u) s.heap.size = A at hD ⊢
  have hA : ∀ q, s.heap.size ≤ q → A q := fun q h => by rw [← hAe]; exact Or.inr h
  have hl := lv_entry ([.int x0, .int x1]) (n := 2) (Nat.le_of_ble_eq_true rfl)
  rw [lg_entry_eq]
  generalize (lg_sl ([.int x0, .int x1]) ++ List.replicate (2 - (lg_sl ([.int x0, .int x1])).length) Slot.unset).toArray = ls at hl ⊢
  exact wk_Os_checkIndex_0 ⟨B.exec, B.bytes, hml, findClass_of_methodNamed B.named, hts_bw (atoms_spec (ws := wsOs_checkIndex) B.pre), B.returns, B.notSynchronized, hK, hA, fun v => ww_D hD, hN, hal, hNx⟩ F out u x0 x1 h  _ _ _ (lv_sub hl [0, 1] rfl) hP va_S.rf
abbrev rm_Al_size : Room := { frames := 0, cells := 0, slots := 0, locals := 0 }
def bk_Al_size_0 (F : Nat) (al : Nat → Bool) (u : Mr) (x0 : Nat) : Option (Mr × Int32) := some (u, u.1 x0 2)
set_option maxHeartbeats 4000000 in
set_option maxRecDepth 100000 in
theorem wk_Al_size_0 (cx : Cx p l e s m args below meth c cAl_size 1 bw "java/util/ArrayList" (some .int) D cA ad L rs al A) (F : Nat) (out : Mr × Int32) : ∀ (u : Mr) (x0 : Nat), bk_Al_size_0 F al u x0 = some out → okk al 18 x0 = true → Wb p l e rm_Al_size s m args below meth c D cA ad L rs A (QI below args s D cA ad L rs A out) 1 0 [(0, .ref (ad x0))] [] u := by
  obtain ⟨hx, hb, hml, hown, hts, hr, hlocks, hK, hA, hD, hN, hal, hNx⟩ := cx
  intro u x0 h q0 H locs ls hl hP hS
  unfold bk_Al_size_0 at h
  refine lv_aload_n hx hb dAl_size_0 rfl (lv_at hl 0 rfl) ?_
  refine x_get hx hb hts in_Al hown hK hP (hal _ (okk_al q0)) (okk_t q0) rfl rfl 2 (by decide) (hts _ tw_139) (fun _ h9 => h9) rfl dAl_size_1 ?_
  exact x_iret hx hb hr hlocks h hP hS dAl_size_4
def fn_Al_size (F : Nat) (al : Nat → Bool) (u : Mr) (x0 : Nat) : Option (Mr × Int32) := bk_Al_size_0 F al u x0
set_option maxHeartbeats 4000000 in
set_option maxRecDepth 100000 in
theorem ct_Al_size {l : Launch} {D : va_G} {cA : Nat → ClassId} {ad : Nat → Nat} {L : List Nat} {rs : va_W} {al : Nat → Bool} (hal : ∀ k, al k = true → k ∈ L) (hN : L.Nodup) (F : Nat) (u : Mr) (x0 : Nat) (out : Mr × Int32) (h : fn_Al_size F al u x0 = some out) (q0 : okk al 18 x0 = true) : CtI l yAl_size wsAl_size rm_Al_size [.ref (ad x0)] D cA ad L rs u out := by
  intro sz
  refine Met.ofW (cc := cAl_size) (maxL := 1) (ret := (some .int)) (by decide) rfl ?_
  intro p e s m args below meth c s₁ B hml hv
  obtain ⟨rfl, hsz, hP, hK, hD0, hNx⟩ := hv
  subst hsz
  have hD := hD0.self (sz := s.heap.size)
  generalize hAe : va_A (ww ad cA L rs u) s.heap.size = A at hD ⊢
  have hA : ∀ q, s.heap.size ≤ q → A q := fun q h => by rw [← hAe]; exact Or.inr h
  have hl := lv_entry ([.ref (ad x0)]) (n := 1) (Nat.le_of_ble_eq_true rfl)
  rw [lg_entry_eq]
  generalize (lg_sl ([.ref (ad x0)]) ++ List.replicate (1 - (lg_sl ([.ref (ad x0)])).length) Slot.unset).toArray = ls at hl ⊢
  exact wk_Al_size_0 ⟨B.exec, B.bytes, hml, findClass_of_methodNamed B.named, hts_bw (atoms_spec (ws := wsAl_size) B.pre), B.returns, B.notSynchronized, hK, hA, fun v => ww_D hD, hN, hal, hNx⟩ F out u x0 h q0 _ _ _ (lv_sub hl [0] rfl) hP va_S.rf
abbrev rm_Al_elementData : Room := { frames := 0, cells := 0, slots := 0, locals := 0 }
def bk_Al_elementData_0 (F : Nat) (al : Nat → Bool) (u : Mr) (x0 : Nat) (x1 : Int32) : Option (Mr × Nat) := bd1 (rdR al u x0 1 19) fun y1 => (ck (inb x1 10) (bd1 (rdR al u y1 x1 21) fun y4 => (some (u, y4))))
set_option maxHeartbeats 4000000 in
set_option maxRecDepth 100000 in
theorem wk_Al_elementData_0 (cx : Cx p l e s m args below meth c cAl_elementData 2 bw "java/util/ArrayList" (some (.object "java/lang/Object")) D cA ad L rs al A) (F : Nat) (out : Mr × Nat) : ∀ (u : Mr) (x0 : Nat) (x1 : Int32), bk_Al_elementData_0 F al u x0 x1 = some out → okk al 18 x0 = true → Wb p l e rm_Al_elementData s m args below meth c D cA ad L rs A (QR below args s D cA ad L rs A out) 2 0 [(0, .ref (ad x0)), (1, .int x1)] [] u := by
  obtain ⟨hx, hb, hml, hown, hts, hr, hlocks, hK, hA, hD, hN, hal, hNx⟩ := cx
  intro u x0 x1 h q0 H locs ls hl hP hS
  unfold bk_Al_elementData_0 at h
  refine lv_aload_n hx hb dAl_elementData_0 rfl (lv_at hl 0 rfl) ?_
  obtain ⟨y1, hy2, h⟩ := bd1_some h
  obtain ⟨hy2a, hy2⟩ := rdR_some hy2
  refine x_get hx hb hts in_Al hown hK hP (hal _ (okk_al q0)) (okk_t q0) rfl rfl 1 (by decide) (hts _ tw_138) (fun _ h9 => h9) (congrArg some (x_rf hy2a)) dAl_elementData_1 ?_
  refine lv_iload_n hx hb dAl_elementData_4 rfl (lv_at hl 1 rfl) ?_
  obtain ⟨hi3, h⟩ := ck_some h
  obtain ⟨y4, hy5, h⟩ := bd1_some h
  obtain ⟨hy5a, hy5⟩ := rdR_some hy5
  refine x_aald hx hb hK hP (hal _ (okk_al hy2)) (okk_t hy2) 7 (fun _ _ _ => rfl) rfl rfl (inb_in hi3) hy5a dAl_elementData_5 ?_
  exact x_aret hx hb hr (by first | exact Or.inl ⟨_, rfl⟩ | exact Or.inr ⟨_, rfl⟩) hlocks h hP hS dAl_elementData_6
def fn_Al_elementData (F : Nat) (al : Nat → Bool) (u : Mr) (x0 : Nat) (x1 : Int32) : Option (Mr × Nat) := bk_Al_elementData_0 F al u x0 x1
set_option maxHeartbeats 4000000 in
set_option maxRecDepth 100000 in
theorem ct_Al_elementData {l : Launch} {D : va_G} {cA : Nat → ClassId} {ad : Nat → Nat} {L : List Nat} {rs : va_W} {al : Nat → Bool} (hal : ∀ k, al k = true → k ∈ L) (hN : L.Nodup) (F : Nat) (u : Mr) (x0 : Nat) (x1 : Int32) (out : Mr × Nat) (h : fn_Al_elementData F al u x0 x1 = some out) (q0 : okk al 18 x0 = true) : CtR l yAl_elementData wsAl_elementData rm_Al_elementData [.ref (ad x0), .int x1] D cA ad L rs u out := by
  intro sz
  refine Met.ofW (cc := cAl_elementData) (maxL := 2) (ret := (some (.object "java/lang/Object"))) (by decide) rfl ?_
  intro p e s m args below meth c s₁ B hml hv
  obtain ⟨rfl, hsz, hP, hK, hD0, hNx⟩ := hv
  subst hsz
  have hD := hD0.self (sz := s.heap.size)
  generalize hAe : va_A (ww ad cA L rs u) s.heap.size = A at hD ⊢
  have hA : ∀ q, s.heap.size ≤ q → A q := fun q h => by rw [← hAe]; exact Or.inr h
  have hl := lv_entry ([.ref (ad x0), .int x1]) (n := 2) (Nat.le_of_ble_eq_true rfl)
  rw [lg_entry_eq]
  generalize (lg_sl ([.ref (ad x0), .int x1]) ++ List.replicate (2 - (lg_sl ([.ref (ad x0), .int x1])).length) Slot.unset).toArray = ls at hl ⊢
  exact wk_Al_elementData_0 ⟨B.exec, B.bytes, hml, findClass_of_methodNamed B.named, hts_bw (atoms_spec (ws := wsAl_elementData) B.pre), B.returns, B.notSynchronized, hK, hA, fun v => ww_D hD, hN, hal, hNx⟩ F out u x0 x1 h q0 _ _ _ (lv_sub hl [0, 1] rfl) hP va_S.rf
abbrev rm_Al_get : Room := { frames := 2, cells := 0, slots := 0, locals := 43 }
def bk_Al_get_0 (F : Nat) (al : Nat → Bool) (u : Mr) (x0 : Nat) (x1 : Int32) : Option (Mr × Nat) := bd2 (fn_Os_checkIndex F al u x1 (u.1 x0 2)) fun u1 v1 => (bd2 (fn_Al_elementData F al u1 x0 x1) fun u2 v2 => (ck (okk al 21 v2) (some (u2, v2))))
set_option maxHeartbeats 4000000 in
set_option maxRecDepth 100000 in
theorem wk_Al_get_0 (cx : Cx p l e s m args below meth c cAl_get 2 bw "java/util/ArrayList" (some (.object "java/lang/Object")) D cA ad L rs al A) (F : Nat) (out : Mr × Nat) : ∀ (u : Mr) (x0 : Nat) (x1 : Int32), bk_Al_get_0 F al u x0 x1 = some out → okk al 18 x0 = true → Wb p l e rm_Al_get s m args below meth c D cA ad L rs A (QR below args s D cA ad L rs A out) 2 0 [(0, .ref (ad x0)), (1, .int x1)] [] u := by
  obtain ⟨hx, hb, hml, hown, hts, hr, hlocks, hK, hA, hD, hN, hal, hNx⟩ := cx
  intro u x0 x1 h q0 H locs ls hl hP hS
  unfold bk_Al_get_0 at h
  refine lv_iload_n hx hb dAl_get_0 rfl (lv_at hl 1 rfl) ?_
  refine lv_aload_n hx hb dAl_get_1 rfl (lv_at hl 0 rfl) ?_
  refine x_get hx hb hts in_Al hown hK hP (hal _ (okk_al q0)) (okk_t q0) rfl rfl 2 (by decide) (hts _ tw_139) (fun _ h9 => h9) rfl dAl_get_2 ?_
  obtain ⟨u1, v1, hc1, h⟩ := bd2_some h
  refine x_ci (u := u) (out := (u1, v1)) hA hD hS (va_runS (As := [.int x1, .int (u.1 x0 2)]) (rest := []) ⟨hx, hb, hml, hown, hts⟩ (ct_Os_checkIndex hal hN F u x1 (u.1 x0 2) (u1, v1) hc1  _) ⟨callB_of 2 hts gdOs_checkIndex rfl rfl rfl (hts _ tw_17) (hts _ tw_379) hdOs_checkIndex ⟨Nat.le_of_ble_eq_true rfl, Nat.le_of_ble_eq_true rfl⟩, (hts _ tw_380)⟩ (x_preS hK hD hNx hP) rfl rfl hl.1 rfl (lv_room (Nat.le_of_ble_eq_true rfl)) dAl_get_5 ⟨Nat.zero_le _, Nat.zero_le _⟩) (fun H locs hP hS => ?_)
  refine lv_pop hx hb dAl_get_8 rfl ?_
  refine lv_aload_n hx hb dAl_get_9 rfl (lv_at hl 0 rfl) ?_
  refine lv_iload_n hx hb dAl_get_10 rfl (lv_at hl 1 rfl) ?_
  obtain ⟨u2, v2, hc2, h⟩ := bd2_some h
  refine x_cr (u := u1) (out := (u2, v2)) hA hD hS (va_runV (As := [.int x1]) (rest := []) ⟨hx, hb, hml, hown, hts⟩ (ct_Al_elementData hal hN F u1 x0 x1 (u2, v2) hc2 q0 _) ⟨callB_of 1 hts gdAl_elementData rfl rfl rfl (hts _ tw_9) (hts _ tw_385) hdAl_elementData ⟨Nat.le_of_ble_eq_true rfl, Nat.le_of_ble_eq_true rfl⟩, (hts _ tw_386), (hts _ tw_387)⟩ (x_preV hK hD hNx hP (hal _ (okk_al q0)) (okk_t q0) rfl rfl) rfl rfl hl.1 rfl (lv_room (Nat.le_of_ble_eq_true rfl)) dAl_get_11 ⟨Nat.zero_le _, Nat.zero_le _⟩) (fun H locs hP hS => ?_)
  obtain ⟨hq3, h⟩ := ck_some h
  exact x_aret hx hb hr (by first | exact Or.inl ⟨_, rfl⟩ | exact Or.inr ⟨_, rfl⟩) hlocks h hP hS dAl_get_14
def fn_Al_get (F : Nat) (al : Nat → Bool) (u : Mr) (x0 : Nat) (x1 : Int32) : Option (Mr × Nat) := bk_Al_get_0 F al u x0 x1
set_option maxHeartbeats 4000000 in
set_option maxRecDepth 100000 in
theorem ct_Al_get {l : Launch} {D : va_G} {cA : Nat → ClassId} {ad : Nat → Nat} {L : List Nat} {rs : va_W} {al : Nat → Bool} (hal : ∀ k, al k = true → k ∈ L) (hN : L.Nodup) (F : Nat) (u : Mr) (x0 : Nat) (x1 : Int32) (out : Mr × Nat) (h : fn_Al_get F al u x0 x1 = some out) (q0 : okk al 18 x0 = true) : CtR l yAl_get wsAl_get rm_Al_get [.ref (ad x0), .int x1] D cA ad L rs u out := by
  intro sz
  refine Met.ofW (cc := cAl_get) (maxL := 2) (ret := (some (.object "java/lang/Object"))) (by decide) rfl ?_
  intro p e s m args below meth c s₁ B hml hv
  obtain ⟨rfl, hsz, hP, hK, hD0, hNx⟩ := hv
  subst hsz
  have hD := hD0.self (sz := s.heap.size)
  generalize hAe : va_A (ww ad cA L rs u) s.heap.size = A at hD ⊢
  have hA : ∀ q, s.heap.size ≤ q → A q := fun q h => by rw [← hAe]; exact Or.inr h
  have hl := lv_entry ([.ref (ad x0), .int x1]) (n := 2) (Nat.le_of_ble_eq_true rfl)
  rw [lg_entry_eq]
  generalize (lg_sl ([.ref (ad x0), .int x1]) ++ List.replicate (2 - (lg_sl ([.ref (ad x0), .int x1])).length) Slot.unset).toArray = ls at hl ⊢
  exact wk_Al_get_0 ⟨B.exec, B.bytes, hml, findClass_of_methodNamed B.named, hts_bw (atoms_spec (ws := wsAl_get) B.pre), B.returns, B.notSynchronized, hK, hA, fun v => ww_D hD, hN, hal, hNx⟩ F out u x0 x1 h q0 _ _ _ (lv_sub hl [0, 1] rfl) hP va_S.rf
abbrev rm_In_bitCount : Room := { frames := 0, cells := 0, slots := 0, locals := 0 }
def bk_In_bitCount_0 (F : Nat) (al : Nat → Bool) (u : Mr) (x0 : Int32) : Option (Mr × Int32) := some (u, (((((((x0 - (((x0.toUInt32 >>> ((1 : Int32).toUInt32 &&& Int32.toUInt32 31)).toInt32) &&& (1431655765 : Int32))) &&& (858993459 : Int32)) + ((((x0 - (((x0.toUInt32 >>> ((1 : Int32).toUInt32 &&& Int32.toUInt32 31)).toInt32) &&& (1431655765 : Int32))).toUInt32 >>> ((2 : Int32).toUInt32 &&& Int32.toUInt32 31)).toInt32) &&& (858993459 : Int32))) + (((((x0 - (((x0.toUInt32 >>> ((1 : Int32).toUInt32 &&& Int32.toUInt32 31)).toInt32) &&& (1431655765 : Int32))) &&& (858993459 : Int32)) + ((((x0 - (((x0.toUInt32 >>> ((1 : Int32).toUInt32 &&& Int32.toUInt32 31)).toInt32) &&& (1431655765 : Int32))).toUInt32 >>> ((2 : Int32).toUInt32 &&& Int32.toUInt32 31)).toInt32) &&& (858993459 : Int32))).toUInt32 >>> ((4 : Int32).toUInt32 &&& Int32.toUInt32 31)).toInt32)) &&& (252645135 : Int32)) + (((((((x0 - (((x0.toUInt32 >>> ((1 : Int32).toUInt32 &&& Int32.toUInt32 31)).toInt32) &&& (1431655765 : Int32))) &&& (858993459 : Int32)) + ((((x0 - (((x0.toUInt32 >>> ((1 : Int32).toUInt32 &&& Int32.toUInt32 31)).toInt32) &&& (1431655765 : Int32))).toUInt32 >>> ((2 : Int32).toUInt32 &&& Int32.toUInt32 31)).toInt32) &&& (858993459 : Int32))) + (((((x0 - (((x0.toUInt32 >>> ((1 : Int32).toUInt32 &&& Int32.toUInt32 31)).toInt32) &&& (1431655765 : Int32))) &&& (858993459 : Int32)) + ((((x0 - (((x0.toUInt32 >>> ((1 : Int32).toUInt32 &&& Int32.toUInt32 31)).toInt32) &&& (1431655765 : Int32))).toUInt32 >>> ((2 : Int32).toUInt32 &&& Int32.toUInt32 31)).toInt32) &&& (858993459 : Int32))).toUInt32 >>> ((4 : Int32).toUInt32 &&& Int32.toUInt32 31)).toInt32)) &&& (252645135 : Int32)).toUInt32 >>> ((8 : Int32).toUInt32 &&& Int32.toUInt32 31)).toInt32)) + ((((((((x0 - (((x0.toUInt32 >>> ((1 : Int32).toUInt32 &&& Int32.toUInt32 31)).toInt32) &&& (1431655765 : Int32))) &&& (858993459 : Int32)) + ((((x0 - (((x0.toUInt32 >>> ((1 : Int32).toUInt32 &&& Int32.toUInt32 31)).toInt32) &&& (1431655765 : Int32))).toUInt32 >>> ((2 : Int32).toUInt32 &&& Int32.toUInt32 31)).toInt32) &&& (858993459 : Int32))) + (((((x0 - (((x0.toUInt32 >>> ((1 : Int32).toUInt32 &&& Int32.toUInt32 31)).toInt32) &&& (1431655765 : Int32))) &&& (858993459 : Int32)) + ((((x0 - (((x0.toUInt32 >>> ((1 : Int32).toUInt32 &&& Int32.toUInt32 31)).toInt32) &&& (1431655765 : Int32))).toUInt32 >>> ((2 : Int32).toUInt32 &&& Int32.toUInt32 31)).toInt32) &&& (858993459 : Int32))).toUInt32 >>> ((4 : Int32).toUInt32 &&& Int32.toUInt32 31)).toInt32)) &&& (252645135 : Int32)) + (((((((x0 - (((x0.toUInt32 >>> ((1 : Int32).toUInt32 &&& Int32.toUInt32 31)).toInt32) &&& (1431655765 : Int32))) &&& (858993459 : Int32)) + ((((x0 - (((x0.toUInt32 >>> ((1 : Int32).toUInt32 &&& Int32.toUInt32 31)).toInt32) &&& (1431655765 : Int32))).toUInt32 >>> ((2 : Int32).toUInt32 &&& Int32.toUInt32 31)).toInt32) &&& (858993459 : Int32))) + (((((x0 - (((x0.toUInt32 >>> ((1 : Int32).toUInt32 &&& Int32.toUInt32 31)).toInt32) &&& (1431655765 : Int32))) &&& (858993459 : Int32)) + ((((x0 - (((x0.toUInt32 >>> ((1 : Int32).toUInt32 &&& Int32.toUInt32 31)).toInt32) &&& (1431655765 : Int32))).toUInt32 >>> ((2 : Int32).toUInt32 &&& Int32.toUInt32 31)).toInt32) &&& (858993459 : Int32))).toUInt32 >>> ((4 : Int32).toUInt32 &&& Int32.toUInt32 31)).toInt32)) &&& (252645135 : Int32)).toUInt32 >>> ((8 : Int32).toUInt32 &&& Int32.toUInt32 31)).toInt32)).toUInt32 >>> ((16 : Int32).toUInt32 &&& Int32.toUInt32 31)).toInt32)) &&& (63 : Int32))
set_option maxHeartbeats 4000000 in
set_option maxRecDepth 100000 in
theorem wk_In_bitCount_0 (cx : Cx p l e s m args below meth c cIn_bitCount 1 bw "java/lang/Integer" (some .int) D cA ad L rs al A) (F : Nat) (out : Mr × Int32) : ∀ (u : Mr) (x0 : Int32), bk_In_bitCount_0 F al u x0 = some out → Wb p l e rm_In_bitCount s m args below meth c D cA ad L rs A (QI below args s D cA ad L rs A out) 1 0 [(0, .int x0)] [] u := by
  obtain ⟨hx, hb, hml, hown, hts, hr, hlocks, hK, hA, hD, hN, hal, hNx⟩ := cx
  intro u x0 h H locs ls hl hP hS
  unfold bk_In_bitCount_0 at h
  refine lv_iload_n hx hb dIn_bitCount_0 rfl (lv_at hl 0 rfl) ?_
  refine lv_iload_n hx hb dIn_bitCount_1 rfl (lv_at hl 0 rfl) ?_
  refine lv_iconst (v := 1) hx hb dIn_bitCount_2 (by decide) ?_
  refine lv_iushr (v := (x0.toUInt32 >>> ((1 : Int32).toUInt32 &&& Int32.toUInt32 31)).toInt32) hx hb dIn_bitCount_3 rfl ?_
  refine lv_ldcw (v := 1431655765) hx hb hown (hts _ tw_602) dIn_bitCount_4 ?_
  refine lv_iand hx hb dIn_bitCount_7 ?_
  refine lv_isub hx hb dIn_bitCount_8 ?_
  refine lv_istore_n (lv' := [(0, .int (x0 - (((x0.toUInt32 >>> ((1 : Int32).toUInt32 &&& Int32.toUInt32 31)).toInt32) &&& (1431655765 : Int32))))]) hx hb dIn_bitCount_9 rfl hl (by decide) rfl (fun ls hl => ?_)
  refine lv_iload_n hx hb dIn_bitCount_10 rfl (lv_at hl 0 rfl) ?_
  refine lv_ldcw (v := 858993459) hx hb hown (hts _ tw_603) dIn_bitCount_11 ?_
  refine lv_iand hx hb dIn_bitCount_14 ?_
  refine lv_iload_n hx hb dIn_bitCount_15 rfl (lv_at hl 0 rfl) ?_
  refine lv_iconst (v := 2) hx hb dIn_bitCount_16 (by decide) ?_
  refine lv_iushr (v := ((x0 - (((x0.toUInt32 >>> ((1 : Int32).toUInt32 &&& Int32.toUInt32 31)).toInt32) &&& (1431655765 : Int32))).toUInt32 >>> ((2 : Int32).toUInt32 &&& Int32.toUInt32 31)).toInt32) hx hb dIn_bitCount_17 rfl ?_
  refine lv_ldcw (v := 858993459) hx hb hown (hts _ tw_603) dIn_bitCount_18 ?_
  refine lv_iand hx hb dIn_bitCount_21 ?_
  refine lv_iadd hx hb dIn_bitCount_22 ?_
  refine lv_istore_n (lv' := [(0, .int (((x0 - (((x0.toUInt32 >>> ((1 : Int32).toUInt32 &&& Int32.toUInt32 31)).toInt32) &&& (1431655765 : Int32))) &&& (858993459 : Int32)) + ((((x0 - (((x0.toUInt32 >>> ((1 : Int32).toUInt32 &&& Int32.toUInt32 31)).toInt32) &&& (1431655765 : Int32))).toUInt32 >>> ((2 : Int32).toUInt32 &&& Int32.toUInt32 31)).toInt32) &&& (858993459 : Int32))))]) hx hb dIn_bitCount_23 rfl hl (by decide) rfl (fun ls hl => ?_)
  refine lv_iload_n hx hb dIn_bitCount_24 rfl (lv_at hl 0 rfl) ?_
  refine lv_iload_n hx hb dIn_bitCount_25 rfl (lv_at hl 0 rfl) ?_
  refine lv_iconst (v := 4) hx hb dIn_bitCount_26 (by decide) ?_
  refine lv_iushr (v := ((((x0 - (((x0.toUInt32 >>> ((1 : Int32).toUInt32 &&& Int32.toUInt32 31)).toInt32) &&& (1431655765 : Int32))) &&& (858993459 : Int32)) + ((((x0 - (((x0.toUInt32 >>> ((1 : Int32).toUInt32 &&& Int32.toUInt32 31)).toInt32) &&& (1431655765 : Int32))).toUInt32 >>> ((2 : Int32).toUInt32 &&& Int32.toUInt32 31)).toInt32) &&& (858993459 : Int32))).toUInt32 >>> ((4 : Int32).toUInt32 &&& Int32.toUInt32 31)).toInt32) hx hb dIn_bitCount_27 rfl ?_
  refine lv_iadd hx hb dIn_bitCount_28 ?_
  refine lv_ldcw (v := 252645135) hx hb hown (hts _ tw_604) dIn_bitCount_29 ?_
  refine lv_iand hx hb dIn_bitCount_32 ?_
  refine lv_istore_n (lv' := [(0, .int (((((x0 - (((x0.toUInt32 >>> ((1 : Int32).toUInt32 &&& Int32.toUInt32 31)).toInt32) &&& (1431655765 : Int32))) &&& (858993459 : Int32)) + ((((x0 - (((x0.toUInt32 >>> ((1 : Int32).toUInt32 &&& Int32.toUInt32 31)).toInt32) &&& (1431655765 : Int32))).toUInt32 >>> ((2 : Int32).toUInt32 &&& Int32.toUInt32 31)).toInt32) &&& (858993459 : Int32))) + (((((x0 - (((x0.toUInt32 >>> ((1 : Int32).toUInt32 &&& Int32.toUInt32 31)).toInt32) &&& (1431655765 : Int32))) &&& (858993459 : Int32)) + ((((x0 - (((x0.toUInt32 >>> ((1 : Int32).toUInt32 &&& Int32.toUInt32 31)).toInt32) &&& (1431655765 : Int32))).toUInt32 >>> ((2 : Int32).toUInt32 &&& Int32.toUInt32 31)).toInt32) &&& (858993459 : Int32))).toUInt32 >>> ((4 : Int32).toUInt32 &&& Int32.toUInt32 31)).toInt32)) &&& (252645135 : Int32)))]) hx hb dIn_bitCount_33 rfl hl (by decide) rfl (fun ls hl => ?_)
  refine lv_iload_n hx hb dIn_bitCount_34 rfl (lv_at hl 0 rfl) ?_
  refine lv_iload_n hx hb dIn_bitCount_35 rfl (lv_at hl 0 rfl) ?_
  refine lv_bipush (v := 8) hx hb dIn_bitCount_36 (by decide) ?_
  refine lv_iushr (v := ((((((x0 - (((x0.toUInt32 >>> ((1 : Int32).toUInt32 &&& Int32.toUInt32 31)).toInt32) &&& (1431655765 : Int32))) &&& (858993459 : Int32)) + ((((x0 - (((x0.toUInt32 >>> ((1 : Int32).toUInt32 &&& Int32.toUInt32 31)).toInt32) &&& (1431655765 : Int32))).toUInt32 >>> ((2 : Int32).toUInt32 &&& Int32.toUInt32 31)).toInt32) &&& (858993459 : Int32))) + (((((x0 - (((x0.toUInt32 >>> ((1 : Int32).toUInt32 &&& Int32.toUInt32 31)).toInt32) &&& (1431655765 : Int32))) &&& (858993459 : Int32)) + ((((x0 - (((x0.toUInt32 >>> ((1 : Int32).toUInt32 &&& Int32.toUInt32 31)).toInt32) &&& (1431655765 : Int32))).toUInt32 >>> ((2 : Int32).toUInt32 &&& Int32.toUInt32 31)).toInt32) &&& (858993459 : Int32))).toUInt32 >>> ((4 : Int32).toUInt32 &&& Int32.toUInt32 31)).toInt32)) &&& (252645135 : Int32)).toUInt32 >>> ((8 : Int32).toUInt32 &&& Int32.toUInt32 31)).toInt32) hx hb dIn_bitCount_38 rfl ?_
  refine lv_iadd hx hb dIn_bitCount_39 ?_
  refine lv_istore_n (lv' := [(0, .int ((((((x0 - (((x0.toUInt32 >>> ((1 : Int32).toUInt32 &&& Int32.toUInt32 31)).toInt32) &&& (1431655765 : Int32))) &&& (858993459 : Int32)) + ((((x0 - (((x0.toUInt32 >>> ((1 : Int32).toUInt32 &&& Int32.toUInt32 31)).toInt32) &&& (1431655765 : Int32))).toUInt32 >>> ((2 : Int32).toUInt32 &&& Int32.toUInt32 31)).toInt32) &&& (858993459 : Int32))) + (((((x0 - (((x0.toUInt32 >>> ((1 : Int32).toUInt32 &&& Int32.toUInt32 31)).toInt32) &&& (1431655765 : Int32))) &&& (858993459 : Int32)) + ((((x0 - (((x0.toUInt32 >>> ((1 : Int32).toUInt32 &&& Int32.toUInt32 31)).toInt32) &&& (1431655765 : Int32))).toUInt32 >>> ((2 : Int32).toUInt32 &&& Int32.toUInt32 31)).toInt32) &&& (858993459 : Int32))).toUInt32 >>> ((4 : Int32).toUInt32 &&& Int32.toUInt32 31)).toInt32)) &&& (252645135 : Int32)) + (((((((x0 - (((x0.toUInt32 >>> ((1 : Int32).toUInt32 &&& Int32.toUInt32 31)).toInt32) &&& (1431655765 : Int32))) &&& (858993459 : Int32)) + ((((x0 - (((x0.toUInt32 >>> ((1 : Int32).toUInt32 &&& Int32.toUInt32 31)).toInt32) &&& (1431655765 : Int32))).toUInt32 >>> ((2 : Int32).toUInt32 &&& Int32.toUInt32 31)).toInt32) &&& (858993459 : Int32))) + (((((x0 - (((x0.toUInt32 >>> ((1 : Int32).toUInt32 &&& Int32.toUInt32 31)).toInt32) &&& (1431655765 : Int32))) &&& (858993459 : Int32)) + ((((x0 - (((x0.toUInt32 >>> ((1 : Int32).toUInt32 &&& Int32.toUInt32 31)).toInt32) &&& (1431655765 : Int32))).toUInt32 >>> ((2 : Int32).toUInt32 &&& Int32.toUInt32 31)).toInt32) &&& (858993459 : Int32))).toUInt32 >>> ((4 : Int32).toUInt32 &&& Int32.toUInt32 31)).toInt32)) &&& (252645135 : Int32)).toUInt32 >>> ((8 : Int32).toUInt32 &&& Int32.toUInt32 31)).toInt32)))]) hx hb dIn_bitCount_40 rfl hl (by decide) rfl (fun ls hl => ?_)
  refine lv_iload_n hx hb dIn_bitCount_41 rfl (lv_at hl 0 rfl) ?_
  refine lv_iload_n hx hb dIn_bitCount_42 rfl (lv_at hl 0 rfl) ?_
  refine lv_bipush (v := 16) hx hb dIn_bitCount_43 (by decide) ?_
  refine lv_iushr (v := (((((((x0 - (((x0.toUInt32 >>> ((1 : Int32).toUInt32 &&& Int32.toUInt32 31)).toInt32) &&& (1431655765 : Int32))) &&& (858993459 : Int32)) + ((((x0 - (((x0.toUInt32 >>> ((1 : Int32).toUInt32 &&& Int32.toUInt32 31)).toInt32) &&& (1431655765 : Int32))).toUInt32 >>> ((2 : Int32).toUInt32 &&& Int32.toUInt32 31)).toInt32) &&& (858993459 : Int32))) + (((((x0 - (((x0.toUInt32 >>> ((1 : Int32).toUInt32 &&& Int32.toUInt32 31)).toInt32) &&& (1431655765 : Int32))) &&& (858993459 : Int32)) + ((((x0 - (((x0.toUInt32 >>> ((1 : Int32).toUInt32 &&& Int32.toUInt32 31)).toInt32) &&& (1431655765 : Int32))).toUInt32 >>> ((2 : Int32).toUInt32 &&& Int32.toUInt32 31)).toInt32) &&& (858993459 : Int32))).toUInt32 >>> ((4 : Int32).toUInt32 &&& Int32.toUInt32 31)).toInt32)) &&& (252645135 : Int32)) + (((((((x0 - (((x0.toUInt32 >>> ((1 : Int32).toUInt32 &&& Int32.toUInt32 31)).toInt32) &&& (1431655765 : Int32))) &&& (858993459 : Int32)) + ((((x0 - (((x0.toUInt32 >>> ((1 : Int32).toUInt32 &&& Int32.toUInt32 31)).toInt32) &&& (1431655765 : Int32))).toUInt32 >>> ((2 : Int32).toUInt32 &&& Int32.toUInt32 31)).toInt32) &&& (858993459 : Int32))) + (((((x0 - (((x0.toUInt32 >>> ((1 : Int32).toUInt32 &&& Int32.toUInt32 31)).toInt32) &&& (1431655765 : Int32))) &&& (858993459 : Int32)) + ((((x0 - (((x0.toUInt32 >>> ((1 : Int32).toUInt32 &&& Int32.toUInt32 31)).toInt32) &&& (1431655765 : Int32))).toUInt32 >>> ((2 : Int32).toUInt32 &&& Int32.toUInt32 31)).toInt32) &&& (858993459 : Int32))).toUInt32 >>> ((4 : Int32).toUInt32 &&& Int32.toUInt32 31)).toInt32)) &&& (252645135 : Int32)).toUInt32 >>> ((8 : Int32).toUInt32 &&& Int32.toUInt32 31)).toInt32)).toUInt32 >>> ((16 : Int32).toUInt32 &&& Int32.toUInt32 31)).toInt32) hx hb dIn_bitCount_45 rfl ?_
  refine lv_iadd hx hb dIn_bitCount_46 ?_
  refine lv_istore_n (lv' := [(0, .int (((((((x0 - (((x0.toUInt32 >>> ((1 : Int32).toUInt32 &&& Int32.toUInt32 31)).toInt32) &&& (1431655765 : Int32))) &&& (858993459 : Int32)) + ((((x0 - (((x0.toUInt32 >>> ((1 : Int32).toUInt32 &&& Int32.toUInt32 31)).toInt32) &&& (1431655765 : Int32))).toUInt32 >>> ((2 : Int32).toUInt32 &&& Int32.toUInt32 31)).toInt32) &&& (858993459 : Int32))) + (((((x0 - (((x0.toUInt32 >>> ((1 : Int32).toUInt32 &&& Int32.toUInt32 31)).toInt32) &&& (1431655765 : Int32))) &&& (858993459 : Int32)) + ((((x0 - (((x0.toUInt32 >>> ((1 : Int32).toUInt32 &&& Int32.toUInt32 31)).toInt32) &&& (1431655765 : Int32))).toUInt32 >>> ((2 : Int32).toUInt32 &&& Int32.toUInt32 31)).toInt32) &&& (858993459 : Int32))).toUInt32 >>> ((4 : Int32).toUInt32 &&& Int32.toUInt32 31)).toInt32)) &&& (252645135 : Int32)) + (((((((x0 - (((x0.toUInt32 >>> ((1 : Int32).toUInt32 &&& Int32.toUInt32 31)).toInt32) &&& (1431655765 : Int32))) &&& (858993459 : Int32)) + ((((x0 - (((x0.toUInt32 >>> ((1 : Int32).toUInt32 &&& Int32.toUInt32 31)).toInt32) &&& (1431655765 : Int32))).toUInt32 >>> ((2 : Int32).toUInt32 &&& Int32.toUInt32 31)).toInt32) &&& (858993459 : Int32))) + (((((x0 - (((x0.toUInt32 >>> ((1 : Int32).toUInt32 &&& Int32.toUInt32 31)).toInt32) &&& (1431655765 : Int32))) &&& (858993459 : Int32)) + ((((x0 - (((x0.toUInt32 >>> ((1 : Int32).toUInt32 &&& Int32.toUInt32 31)).toInt32) &&& (1431655765 : Int32))).toUInt32 >>> ((2 : Int32).toUInt32 &&& Int32.toUInt32 31)).toInt32) &&& (858993459 : Int32))).toUInt32 >>> ((4 : Int32).toUInt32 &&& Int32.toUInt32 31)).toInt32)) &&& (252645135 : Int32)).toUInt32 >>> ((8 : Int32).toUInt32 &&& Int32.toUInt32 31)).toInt32)) + ((((((((x0 - (((x0.toUInt32 >>> ((1 : Int32).toUInt32 &&& Int32.toUInt32 31)).toInt32) &&& (1431655765 : Int32))) &&& (858993459 : Int32)) + ((((x0 - (((x0.toUInt32 >>> ((1 : Int32).toUInt32 &&& Int32.toUInt32 31)).toInt32) &&& (1431655765 : Int32))).toUInt32 >>> ((2 : Int32).toUInt32 &&& Int32.toUInt32 31)).toInt32) &&& (858993459 : Int32))) + (((((x0 - (((x0.toUInt32 >>> ((1 : Int32).toUInt32 &&& Int32.toUInt32 31)).toInt32) &&& (1431655765 : Int32))) &&& (858993459 : Int32)) + ((((x0 - (((x0.toUInt32 >>> ((1 : Int32).toUInt32 &&& Int32.toUInt32 31)).toInt32) &&& (1431655765 : Int32))).toUInt32 >>> ((2 : Int32).toUInt32 &&& Int32.toUInt32 31)).toInt32) &&& (858993459 : Int32))).toUInt32 >>> ((4 : Int32).toUInt32 &&& Int32.toUInt32 31)).toInt32)) &&& (252645135 : Int32)) + (((((((x0 - (((x0.toUInt32 >>> ((1 : Int32).toUInt32 &&& Int32.toUInt32 31)).toInt32) &&& (1431655765 : Int32))) &&& (858993459 : Int32)) + ((((x0 - (((x0.toUInt32 >>> ((1 : Int32).toUInt32 &&& Int32.toUInt32 31)).toInt32) &&& (1431655765 : Int32))).toUInt32 >>> ((2 : Int32).toUInt32 &&& Int32.toUInt32 31)).toInt32) &&& (858993459 : Int32))) + (((((x0 - (((x0.toUInt32 >>> ((1 : Int32).toUInt32 &&& Int32.toUInt32 31)).toInt32) &&& (1431655765 : Int32))) &&& (858993459 : Int32)) + ((((x0 - (((x0.toUInt32 >>> ((1 : Int32).toUInt32 &&& Int32.toUInt32 31)).toInt32) &&& (1431655765 : Int32))).toUInt32 >>> ((2 : Int32).toUInt32 &&& Int32.toUInt32 31)).toInt32) &&& (858993459 : Int32))).toUInt32 >>> ((4 : Int32).toUInt32 &&& Int32.toUInt32 31)).toInt32)) &&& (252645135 : Int32)).toUInt32 >>> ((8 : Int32).toUInt32 &&& Int32.toUInt32 31)).toInt32)).toUInt32 >>> ((16 : Int32).toUInt32 &&& Int32.toUInt32 31)).toInt32)))]) hx hb dIn_bitCount_47 rfl hl (by decide) rfl (fun ls hl => ?_)
  refine lv_iload_n hx hb dIn_bitCount_48 rfl (lv_at hl 0 rfl) ?_
  refine lv_bipush (v := 63) hx hb dIn_bitCount_49 (by decide) ?_
  refine lv_iand hx hb dIn_bitCount_51 ?_
  exact x_iret hx hb hr hlocks h hP hS dIn_bitCount_52
def fn_In_bitCount (F : Nat) (al : Nat → Bool) (u : Mr) (x0 : Int32) : Option (Mr × Int32) := bk_In_bitCount_0 F al u x0
set_option maxHeartbeats 4000000 in
set_option maxRecDepth 100000 in
theorem ct_In_bitCount {l : Launch} {D : va_G} {cA : Nat → ClassId} {ad : Nat → Nat} {L : List Nat} {rs : va_W} {al : Nat → Bool} (hal : ∀ k, al k = true → k ∈ L) (hN : L.Nodup) (F : Nat) (u : Mr) (x0 : Int32) (out : Mr × Int32) (h : fn_In_bitCount F al u x0 = some out)  : CtI l yIn_bitCount wsIn_bitCount rm_In_bitCount [.int x0] D cA ad L rs u out := by
  intro sz
  refine Met.ofW (cc := cIn_bitCount) (maxL := 1) (ret := (some .int)) (by decide) rfl ?_
  intro p e s m args below meth c s₁ B hml hv
  obtain ⟨rfl, hsz, hP, hK, hD0, hNx⟩ := hv
  subst hsz
  have hD := hD0.self (sz := s.heap.size)
  generalize hAe : va_A (ww ad cA L rs u) s.heap.size = A at hD ⊢
  have hA : ∀ q, s.heap.size ≤ q → A q := fun q h => by rw [← hAe]; exact Or.inr h
  have hl := lv_entry ([.int x0]) (n := 1) (Nat.le_of_ble_eq_true rfl)
  rw [lg_entry_eq]
  generalize (lg_sl ([.int x0]) ++ List.replicate (1 - (lg_sl ([.int x0])).length) Slot.unset).toArray = ls at hl ⊢
  exact wk_In_bitCount_0 ⟨B.exec, B.bytes, hml, findClass_of_methodNamed B.named, hts_bw (atoms_spec (ws := wsIn_bitCount) B.pre), B.returns, B.notSynchronized, hK, hA, fun v => ww_D hD, hN, hal, hNx⟩ F out u x0 h  _ _ _ (lv_sub hl [0] rfl) hP va_S.rf
abbrev rm_Ob_overlaps : Room := { frames := 3, cells := 0, slots := 0, locals := 64 }
def bk_Ob_overlaps_51 (F : Nat) (al : Nat → Bool) (k2 : Mr → Nat → Int32 → Int32 → Int32 → Option (Mr × Int32)) (u : Mr) (x0 : Nat) (x1 : Int32) (x2 : Int32) (x3 : Int32) : Option (Mr × Int32) := k2 u x0 x1 x2 (x3 + (1 : Int32))
set_option maxHeartbeats 4000000 in
set_option maxRecDepth 100000 in
theorem wk_Ob_overlaps_51 (cx : Cx p l e s m args below meth c cOb_overlaps 5 bw "ImageForge$ObjectFile" (some .boolean) D cA ad L rs al A) (F : Nat) (out : Mr × Int32) {k2 : Mr → Nat → Int32 → Int32 → Int32 → Option (Mr × Int32)} (hk2 : ∀ (u : Mr) (x0 : Nat) (x1 : Int32) (x2 : Int32) (x3 : Int32), k2 u x0 x1 x2 x3 = some out → okk al 14 x0 = true → Wb p l e rm_Ob_overlaps s m args below meth c D cA ad L rs A (QI below args s D cA ad L rs A out) 5 2 [(0, .ref (ad x0)), (1, .int x1), (2, .int x2), (3, .int x3)] [] u) : ∀ (u : Mr) (x0 : Nat) (x1 : Int32) (x2 : Int32) (x3 : Int32), bk_Ob_overlaps_51 F al k2 u x0 x1 x2 x3 = some out → okk al 14 x0 = true → Wb p l e rm_Ob_overlaps s m args below meth c D cA ad L rs A (QI below args s D cA ad L rs A out) 5 51 [(0, .ref (ad x0)), (1, .int x1), (2, .int x2), (3, .int x3)] [] u := by
  obtain ⟨hx, hb, hml, hown, hts, hr, hlocks, hK, hA, hD, hN, hal, hNx⟩ := cx
  intro u x0 x1 x2 x3 h q0 H locs ls hl hP hS
  unfold bk_Ob_overlaps_51 at h
  refine lv_iinc (k := 3) (v := x3 + (1 : Int32)) (lv' := [(3, .int (x3 + (1 : Int32))), (0, .ref (ad x0)), (1, .int x1), (2, .int x2)]) hx hb dOb_overlaps_51 hl rfl (congrArg (fun z => _ + z) (show Int32.ofInt 1 = 1 by decide)) (by decide) rfl (fun ls hl => ?_)
  refine lv_goto (tgt := 2) hx hb dOb_overlaps_54 rfl ?_
  exact hk2 u x0 x1 x2 (x3 + (1 : Int32)) h q0 _ _ _ (lv_sub hl [1, 2, 3, 0] rfl) hP hS
def bk_Ob_overlaps_2 (F : Nat) (al : Nat → Bool) : Nat → Mr → Nat → Int32 → Int32 → Int32 → Option (Mr × Int32)
  | 0, _, _, _, _, _ => none
  | n + 1, u, x0, x1, x2, x3 => bd1 (rdR al u x0 1 18) fun y1 => (bd2 (fn_Al_size F al u y1) fun u3 v3 => (if v3 ≤ x3 then (some (u3, (0 : Int32))) else (bd1 (rdR al u3 x0 1 18) fun y4 => (bd2 (fn_Al_get F al u3 y4 x3) fun u6 v6 => (ck (okk al 21 v6) (bd2 (fn_Rf_part F al u6 v6) fun u8 v8 => (if v8 = x1 then (bd2 (fn_Rf_place F al u8 v6) fun u9 v9 => (if (4 : Int32) ≤ (if 0 ≤ v9 - x2 then v9 - x2 else 0 - (v9 - x2)) then (bk_Ob_overlaps_51 F al (bk_Ob_overlaps_2 F al n) u9 x0 x1 x2 x3) else (some (u9, (1 : Int32))))) else (bk_Ob_overlaps_51 F al (bk_Ob_overlaps_2 F al n) u8 x0 x1 x2 x3))))))))
set_option maxHeartbeats 4000000 in
set_option maxRecDepth 100000 in
theorem wk_Ob_overlaps_2 (cx : Cx p l e s m args below meth c cOb_overlaps 5 bw "ImageForge$ObjectFile" (some .boolean) D cA ad L rs al A) (F : Nat) (out : Mr × Int32) : ∀ n : Nat, ∀ (u : Mr) (x0 : Nat) (x1 : Int32) (x2 : Int32) (x3 : Int32), bk_Ob_overlaps_2 F al n u x0 x1 x2 x3 = some out → okk al 14 x0 = true → Wb p l e rm_Ob_overlaps s m args below meth c D cA ad L rs A (QI below args s D cA ad L rs A out) 5 2 [(0, .ref (ad x0)), (1, .int x1), (2, .int x2), (3, .int x3)] [] u := by
  obtain ⟨hx, hb, hml, hown, hts, hr, hlocks, hK, hA, hD, hN, hal, hNx⟩ := cx
  intro n
  induction n with
  | zero =>
    intro u x0 x1 x2 x3 h
    cases h
  | succ n ih =>
    intro u x0 x1 x2 x3 h q0 H locs ls hl hP hS
    rw [bk_Ob_overlaps_2] at h
    refine lv_iload_n hx hb dOb_overlaps_2 rfl (lv_at hl 3 rfl) ?_
    refine lv_aload_n hx hb dOb_overlaps_3 rfl (lv_at hl 0 rfl) ?_
    obtain ⟨y1, hy2, h⟩ := bd1_some h
    obtain ⟨hy2a, hy2⟩ := rdR_some hy2
    refine x_get hx hb hts in_Ob hown hK hP (hal _ (okk_al q0)) (okk_t q0) rfl rfl 1 (by decide) (hts _ tw_153) (fun _ h9 => h9) (congrArg some (x_rf hy2a)) dOb_overlaps_4 ?_
    obtain ⟨u3, v3, hc3, h⟩ := bd2_some h
    refine x_ci (u := u) (out := (u3, v3)) hA hD hS (va_runV (As := []) (rest := [.int x3]) ⟨hx, hb, hml, hown, hts⟩ (ct_Al_size hal hN F u y1 (u3, v3) hc3 hy2 _) ⟨callB_of 0 hts gdAl_size rfl rfl rfl (hts _ tw_9) (hts _ tw_371) hdAl_size ⟨Nat.le_of_ble_eq_true rfl, Nat.le_of_ble_eq_true rfl⟩, (hts _ tw_372), (hts _ tw_373)⟩ (x_preV hK hD hNx hP (hal _ (okk_al hy2)) (okk_t hy2) rfl rfl) rfl rfl hl.1 rfl (lv_room (Nat.le_of_ble_eq_true rfl)) dOb_overlaps_7 ⟨Nat.zero_le _, Nat.zero_le _⟩) (fun H locs hP hS => ?_)
    refine lv_icmp_ge (tgt := 57) hx hb dOb_overlaps_10 rfl (fun hc => ?_) (fun hc => ?_)
    · replace h := it_t h hc
      refine lv_iconst (v := 0) hx hb dOb_overlaps_57 (by decide) ?_
      exact x_zret hx hb hr hlocks rfl h hP hS dOb_overlaps_58
    · replace h := it_f h hc
      refine lv_aload_n hx hb dOb_overlaps_13 rfl (lv_at hl 0 rfl) ?_
      obtain ⟨y4, hy5, h⟩ := bd1_some h
      obtain ⟨hy5a, hy5⟩ := rdR_some hy5
      refine x_get hx hb hts in_Ob hown hK hP (hal _ (okk_al q0)) (okk_t q0) rfl rfl 1 (by decide) (hts _ tw_153) (fun _ h9 => h9) (congrArg some (x_rf hy5a)) dOb_overlaps_14 ?_
      refine lv_iload_n hx hb dOb_overlaps_17 rfl (lv_at hl 3 rfl) ?_
      obtain ⟨u6, v6, hc6, h⟩ := bd2_some h
      refine x_cr (u := u3) (out := (u6, v6)) hA hD hS (va_runV (As := [.int x3]) (rest := []) ⟨hx, hb, hml, hown, hts⟩ (ct_Al_get hal hN F u3 y4 x3 (u6, v6) hc6 hy5 _) ⟨callB_of 1 hts gdAl_get rfl rfl rfl (hts _ tw_9) (hts _ tw_375) hdAl_get ⟨Nat.le_of_ble_eq_true rfl, Nat.le_of_ble_eq_true rfl⟩, (hts _ tw_376), (hts _ tw_377)⟩ (x_preV hK hD hNx hP (hal _ (okk_al hy5)) (okk_t hy5) rfl rfl) rfl rfl hl.1 rfl (lv_room (Nat.le_of_ble_eq_true rfl)) dOb_overlaps_18 ⟨Nat.zero_le _, Nat.zero_le _⟩) (fun H locs hP hS => ?_)
      obtain ⟨hq7, h⟩ := ck_some h
      refine x_cast hx hb hown (hts _ tw_389) hK hP (hal _ (okk_al hq7)) (okk_t hq7) rfl rfl dOb_overlaps_21 ?_
      refine lv_astore (lv' := [(4, .ref (ad v6)), (0, .ref (ad x0)), (1, .int x1), (2, .int x2), (3, .int x3)]) hx hb dOb_overlaps_24 hl (by decide) rfl (fun ls hl => ?_)
      refine lv_aload hx hb dOb_overlaps_26 (lv_at hl 0 rfl) ?_
      obtain ⟨u8, v8, hc8, h⟩ := bd2_some h
      refine x_ci (u := u6) (out := (u8, v8)) hA hD hS (va_runV (As := []) (rest := []) ⟨hx, hb, hml, hown, hts⟩ (ct_Rf_part hal hN F u6 v6 (u8, v8) hc8 hq7 _) ⟨callB_of 0 hts gdRf_part rfl rfl rfl (hts _ tw_21) (hts _ tw_390) hdRf_part ⟨Nat.le_of_ble_eq_true rfl, Nat.le_of_ble_eq_true rfl⟩, (hts _ tw_391), (hts _ tw_392)⟩ (x_preV hK hD hNx hP (hal _ (okk_al hq7)) (okk_t hq7) rfl rfl) rfl rfl hl.1 rfl (lv_room (Nat.le_of_ble_eq_true rfl)) dOb_overlaps_28 ⟨Nat.zero_le _, Nat.zero_le _⟩) (fun H locs hP hS => ?_)
      refine lv_iload_n hx hb dOb_overlaps_31 rfl (lv_at hl 2 rfl) ?_
      refine lv_icmp_ne (tgt := 51) hx hb dOb_overlaps_32 rfl (fun hc => ?_) (fun hc => ?_)
      · replace h := it_f h hc
        exact wk_Ob_overlaps_51 ⟨hx, hb, hml, hown, hts, hr, hlocks, hK, hA, hD, hN, hal, hNx⟩ F out ih u8 x0 x1 x2 x3 h q0 _ _ _ (lv_sub hl [1, 2, 3, 4] rfl) hP hS
      · replace h := it_t h hc
        refine lv_aload hx hb dOb_overlaps_35 (lv_at hl 0 rfl) ?_
        obtain ⟨u9, v9, hc9, h⟩ := bd2_some h
        refine x_ci (u := u8) (out := (u9, v9)) hA hD hS (va_runV (As := []) (rest := []) ⟨hx, hb, hml, hown, hts⟩ (ct_Rf_place hal hN F u8 v6 (u9, v9) hc9 hq7 _) ⟨callB_of 0 hts gdRf_place rfl rfl rfl (hts _ tw_21) (hts _ tw_394) hdRf_place ⟨Nat.le_of_ble_eq_true rfl, Nat.le_of_ble_eq_true rfl⟩, (hts _ tw_395), (hts _ tw_396)⟩ (x_preV hK hD hNx hP (hal _ (okk_al hq7)) (okk_t hq7) rfl rfl) rfl rfl hl.1 rfl (lv_room (Nat.le_of_ble_eq_true rfl)) dOb_overlaps_37 ⟨Nat.zero_le _, Nat.zero_le _⟩) (fun H locs hP hS => ?_)
        refine lv_iload_n hx hb dOb_overlaps_40 rfl (lv_at hl 3 rfl) ?_
        refine lv_isub hx hb dOb_overlaps_41 ?_
        refine va_mabs hx hb (by rw [hml]; exact hl.1.symm) hown (hts _ tw_398) (hts _ tw_399) (hts _ tw_19) (hts _ tw_400) (by decide) (by decide) (Nat.zero_le _) (Nat.zero_le _) dOb_overlaps_42 ?_
        refine lv_iconst (v := 4) hx hb dOb_overlaps_45 (by decide) ?_
        refine lv_icmp_ge (tgt := 51) hx hb dOb_overlaps_46 rfl (fun hc => ?_) (fun hc => ?_)
        · replace h := it_t h hc
          exact wk_Ob_overlaps_51 ⟨hx, hb, hml, hown, hts, hr, hlocks, hK, hA, hD, hN, hal, hNx⟩ F out ih u9 x0 x1 x2 x3 h q0 _ _ _ (lv_sub hl [1, 2, 3, 4] rfl) hP hS
        · replace h := it_f h hc
          refine lv_iconst (v := 1) hx hb dOb_overlaps_49 (by decide) ?_
          exact x_zret hx hb hr hlocks rfl h hP hS dOb_overlaps_50
def bk_Ob_overlaps_0 (F : Nat) (al : Nat → Bool) (u : Mr) (x0 : Nat) (x1 : Int32) (x2 : Int32) : Option (Mr × Int32) := bk_Ob_overlaps_2 F al F u x0 x1 x2 (0 : Int32)
set_option maxHeartbeats 4000000 in
set_option maxRecDepth 100000 in
theorem wk_Ob_overlaps_0 (cx : Cx p l e s m args below meth c cOb_overlaps 5 bw "ImageForge$ObjectFile" (some .boolean) D cA ad L rs al A) (F : Nat) (out : Mr × Int32) : ∀ (u : Mr) (x0 : Nat) (x1 : Int32) (x2 : Int32), bk_Ob_overlaps_0 F al u x0 x1 x2 = some out → okk al 14 x0 = true → Wb p l e rm_Ob_overlaps s m args below meth c D cA ad L rs A (QI below args s D cA ad L rs A out) 5 0 [(0, .ref (ad x0)), (1, .int x1), (2, .int x2)] [] u := by
  obtain ⟨hx, hb, hml, hown, hts, hr, hlocks, hK, hA, hD, hN, hal, hNx⟩ := cx
  intro u x0 x1 x2 h q0 H locs ls hl hP hS
  unfold bk_Ob_overlaps_0 at h
  refine lv_iconst (v := 0) hx hb dOb_overlaps_0 (by decide) ?_
  refine lv_istore_n (lv' := [(3, .int (0 : Int32)), (0, .ref (ad x0)), (1, .int x1), (2, .int x2)]) hx hb dOb_overlaps_1 rfl hl (by decide) rfl (fun ls hl => ?_)
  exact wk_Ob_overlaps_2 ⟨hx, hb, hml, hown, hts, hr, hlocks, hK, hA, hD, hN, hal, hNx⟩ F out F u x0 x1 x2 (0 : Int32) h q0 _ _ _ (lv_sub hl [1, 2, 3, 0] rfl) hP hS
def fn_Ob_overlaps (F : Nat) (al : Nat → Bool) (u : Mr) (x0 : Nat) (x1 : Int32) (x2 : Int32) : Option (Mr × Int32) := bk_Ob_overlaps_0 F al u x0 x1 x2
set_option maxHeartbeats 4000000 in
set_option maxRecDepth 100000 in
theorem ct_Ob_overlaps {l : Launch} {D : va_G} {cA : Nat → ClassId} {ad : Nat → Nat} {L : List Nat} {rs : va_W} {al : Nat → Bool} (hal : ∀ k, al k = true → k ∈ L) (hN : L.Nodup) (F : Nat) (u : Mr) (x0 : Nat) (x1 : Int32) (x2 : Int32) (out : Mr × Int32) (h : fn_Ob_overlaps F al u x0 x1 x2 = some out) (q0 : okk al 14 x0 = true) : CtI l yOb_overlaps wsOb_overlaps rm_Ob_overlaps [.ref (ad x0), .int x1, .int x2] D cA ad L rs u out := by
  intro sz
  refine Met.ofW (cc := cOb_overlaps) (maxL := 5) (ret := (some .boolean)) (by decide) rfl ?_
  intro p e s m args below meth c s₁ B hml hv
  obtain ⟨rfl, hsz, hP, hK, hD0, hNx⟩ := hv
  subst hsz
  have hD := hD0.self (sz := s.heap.size)
  generalize hAe : va_A (ww ad cA L rs u) s.heap.size = A at hD ⊢
  have hA : ∀ q, s.heap.size ≤ q → A q := fun q h => by rw [← hAe]; exact Or.inr h
  have hl := lv_entry ([.ref (ad x0), .int x1, .int x2]) (n := 5) (Nat.le_of_ble_eq_true rfl)
  rw [lg_entry_eq]
  generalize (lg_sl ([.ref (ad x0), .int x1, .int x2]) ++ List.replicate (5 - (lg_sl ([.ref (ad x0), .int x1, .int x2])).length) Slot.unset).toArray = ls at hl ⊢
  exact wk_Ob_overlaps_0 ⟨B.exec, B.bytes, hml, findClass_of_methodNamed B.named, hts_bw (atoms_spec (ws := wsOb_overlaps) B.pre), B.returns, B.notSynchronized, hK, hA, fun v => ww_D hD, hN, hal, hNx⟩ F out u x0 x1 x2 h q0 _ _ _ (lv_sub hl [0, 1, 2] rfl) hP va_S.rf
end

abbrev yFg_someNameClashes : MethodName := ⟨"ImageForge", "someNameClashes", "()Z"⟩
abbrev cFg_someNameClashes : ByteArray := prog_1_method_18_code
abbrev wsFg_someNameClashes : List Cond := .code yFg_someNameClashes cFg_someNameClashes 5 (some .boolean) :: bw
theorem gdFg_someNameClashes : GoodIn bw wsFg_someNameClashes := gd_of tw_516
theorem hdFg_someNameClashes : yFg_someNameClashes.cls ≠ "java/lang/invoke/MethodHandle" ∧ yFg_someNameClashes.cls ≠ "java/lang/invoke/VarHandle" ∧ (parseMethodDescriptor yFg_someNameClashes.desc).map (fun d => d.parameters.length) = some 0 := by decide +kernel
theorem dFg_someNameClashes_0 : decode cFg_someNameClashes 0 = .ok (.aload_n 0, 1) := by decide +kernel
theorem dFg_someNameClashes_1 : decode cFg_someNameClashes 1 = .ok (.getfield 17, 3) := by decide +kernel
theorem dFg_someNameClashes_4 : decode cFg_someNameClashes 4 = .ok (.astore_n 1, 1) := by decide +kernel
theorem dFg_someNameClashes_5 : decode cFg_someNameClashes 5 = .ok (.aload_n 1, 1) := by decide +kernel
theorem dFg_someNameClashes_6 : decode cFg_someNameClashes 6 = .ok (.arraylength, 1) := by decide +kernel
theorem dFg_someNameClashes_7 : decode cFg_someNameClashes 7 = .ok (.istore_n 2, 1) := by decide +kernel
theorem dFg_someNameClashes_8 : decode cFg_someNameClashes 8 = .ok (.iconst 0, 1) := by decide +kernel
theorem dFg_someNameClashes_9 : decode cFg_someNameClashes 9 = .ok (.istore_n 3, 1) := by decide +kernel
theorem dFg_someNameClashes_10 : decode cFg_someNameClashes 10 = .ok (.iload_n 3, 1) := by decide +kernel
theorem dFg_someNameClashes_11 : decode cFg_someNameClashes 11 = .ok (.iload_n 2, 1) := by decide +kernel
theorem dFg_someNameClashes_12 : decode cFg_someNameClashes 12 = .ok (.if_icmp .ge 41, 3) := by decide +kernel
theorem dFg_someNameClashes_15 : decode cFg_someNameClashes 15 = .ok (.aload_n 1, 1) := by decide +kernel
theorem dFg_someNameClashes_16 : decode cFg_someNameClashes 16 = .ok (.iload_n 3, 1) := by decide +kernel
theorem dFg_someNameClashes_17 : decode cFg_someNameClashes 17 = .ok (.aaload, 1) := by decide +kernel
theorem dFg_someNameClashes_18 : decode cFg_someNameClashes 18 = .ok (.astore 4, 2) := by decide +kernel
theorem dFg_someNameClashes_20 : decode cFg_someNameClashes 20 = .ok (.aload 4, 2) := by decide +kernel
theorem dFg_someNameClashes_22 : decode cFg_someNameClashes 22 = .ok (.getfield 196, 3) := by decide +kernel
theorem dFg_someNameClashes_25 : decode cFg_someNameClashes 25 = .ok (.iconst 1, 1) := by decide +kernel
theorem dFg_someNameClashes_26 : decode cFg_someNameClashes 26 = .ok (.if_icmp .gt 19, 3) := by decide +kernel
theorem dFg_someNameClashes_29 : decode cFg_someNameClashes 29 = .ok (.aload 4, 2) := by decide +kernel
theorem dFg_someNameClashes_31 : decode cFg_someNameClashes 31 = .ok (.invokevirtual 197, 3) := by decide +kernel
theorem dFg_someNameClashes_34 : decode cFg_someNameClashes 34 = .ok (.ifCond .eq 13, 3) := by decide +kernel
theorem dFg_someNameClashes_37 : decode cFg_someNameClashes 37 = .ok (.aload 4, 2) := by decide +kernel
theorem dFg_someNameClashes_39 : decode cFg_someNameClashes 39 = .ok (.invokevirtual 200, 3) := by decide +kernel
theorem dFg_someNameClashes_42 : decode cFg_someNameClashes 42 = .ok (.ifCond .eq 5, 3) := by decide +kernel
theorem dFg_someNameClashes_45 : decode cFg_someNameClashes 45 = .ok (.iconst 1, 1) := by decide +kernel
theorem dFg_someNameClashes_46 : decode cFg_someNameClashes 46 = .ok (.ireturn, 1) := by decide +kernel
theorem dFg_someNameClashes_47 : decode cFg_someNameClashes 47 = .ok (.iinc 3 1, 3) := by decide +kernel
theorem dFg_someNameClashes_50 : decode cFg_someNameClashes 50 = .ok (.goto (-40), 3) := by decide +kernel
theorem dFg_someNameClashes_53 : decode cFg_someNameClashes 53 = .ok (.iconst 0, 1) := by decide +kernel
theorem dFg_someNameClashes_54 : decode cFg_someNameClashes 54 = .ok (.ireturn, 1) := by decide +kernel
abbrev yFg_someExportLacks : MethodName := ⟨"ImageForge", "someExportLacks", "()Z"⟩
abbrev cFg_someExportLacks : ByteArray := prog_1_method_19_code
abbrev wsFg_someExportLacks : List Cond := .code yFg_someExportLacks cFg_someExportLacks 5 (some .boolean) :: bw
theorem gdFg_someExportLacks : GoodIn bw wsFg_someExportLacks := gd_of tw_529
theorem hdFg_someExportLacks : yFg_someExportLacks.cls ≠ "java/lang/invoke/MethodHandle" ∧ yFg_someExportLacks.cls ≠ "java/lang/invoke/VarHandle" ∧ (parseMethodDescriptor yFg_someExportLacks.desc).map (fun d => d.parameters.length) = some 0 := by decide +kernel
theorem dFg_someExportLacks_0 : decode cFg_someExportLacks 0 = .ok (.aload_n 0, 1) := by decide +kernel
theorem dFg_someExportLacks_1 : decode cFg_someExportLacks 1 = .ok (.getfield 17, 3) := by decide +kernel
theorem dFg_someExportLacks_4 : decode cFg_someExportLacks 4 = .ok (.astore_n 1, 1) := by decide +kernel
theorem dFg_someExportLacks_5 : decode cFg_someExportLacks 5 = .ok (.aload_n 1, 1) := by decide +kernel
theorem dFg_someExportLacks_6 : decode cFg_someExportLacks 6 = .ok (.arraylength, 1) := by decide +kernel
theorem dFg_someExportLacks_7 : decode cFg_someExportLacks 7 = .ok (.istore_n 2, 1) := by decide +kernel
theorem dFg_someExportLacks_8 : decode cFg_someExportLacks 8 = .ok (.iconst 0, 1) := by decide +kernel
theorem dFg_someExportLacks_9 : decode cFg_someExportLacks 9 = .ok (.istore_n 3, 1) := by decide +kernel
theorem dFg_someExportLacks_10 : decode cFg_someExportLacks 10 = .ok (.iload_n 3, 1) := by decide +kernel
theorem dFg_someExportLacks_11 : decode cFg_someExportLacks 11 = .ok (.iload_n 2, 1) := by decide +kernel
theorem dFg_someExportLacks_12 : decode cFg_someExportLacks 12 = .ok (.if_icmp .ge 32, 3) := by decide +kernel
theorem dFg_someExportLacks_15 : decode cFg_someExportLacks 15 = .ok (.aload_n 1, 1) := by decide +kernel
theorem dFg_someExportLacks_16 : decode cFg_someExportLacks 16 = .ok (.iload_n 3, 1) := by decide +kernel
theorem dFg_someExportLacks_17 : decode cFg_someExportLacks 17 = .ok (.aaload, 1) := by decide +kernel
theorem dFg_someExportLacks_18 : decode cFg_someExportLacks 18 = .ok (.astore 4, 2) := by decide +kernel
theorem dFg_someExportLacks_20 : decode cFg_someExportLacks 20 = .ok (.aload 4, 2) := by decide +kernel
theorem dFg_someExportLacks_22 : decode cFg_someExportLacks 22 = .ok (.getfield 136, 3) := by decide +kernel
theorem dFg_someExportLacks_25 : decode cFg_someExportLacks 25 = .ok (.ifCond .eq 13, 3) := by decide +kernel
theorem dFg_someExportLacks_28 : decode cFg_someExportLacks 28 = .ok (.aload 4, 2) := by decide +kernel
theorem dFg_someExportLacks_30 : decode cFg_someExportLacks 30 = .ok (.invokevirtual 197, 3) := by decide +kernel
theorem dFg_someExportLacks_33 : decode cFg_someExportLacks 33 = .ok (.ifCond .ne 5, 3) := by decide +kernel
theorem dFg_someExportLacks_36 : decode cFg_someExportLacks 36 = .ok (.iconst 1, 1) := by decide +kernel
theorem dFg_someExportLacks_37 : decode cFg_someExportLacks 37 = .ok (.ireturn, 1) := by decide +kernel
theorem dFg_someExportLacks_38 : decode cFg_someExportLacks 38 = .ok (.iinc 3 1, 3) := by decide +kernel
theorem dFg_someExportLacks_41 : decode cFg_someExportLacks 41 = .ok (.goto (-31), 3) := by decide +kernel
theorem dFg_someExportLacks_44 : decode cFg_someExportLacks 44 = .ok (.iconst 0, 1) := by decide +kernel
theorem dFg_someExportLacks_45 : decode cFg_someExportLacks 45 = .ok (.ireturn, 1) := by decide +kernel
abbrev yFg_someReferenceLacks : MethodName := ⟨"ImageForge", "someReferenceLacks", "()Z"⟩
abbrev cFg_someReferenceLacks : ByteArray := prog_1_method_20_code
abbrev wsFg_someReferenceLacks : List Cond := .code yFg_someReferenceLacks cFg_someReferenceLacks 7 (some .boolean) :: bw
theorem gdFg_someReferenceLacks : GoodIn bw wsFg_someReferenceLacks := gd_of tw_533
theorem hdFg_someReferenceLacks : yFg_someReferenceLacks.cls ≠ "java/lang/invoke/MethodHandle" ∧ yFg_someReferenceLacks.cls ≠ "java/lang/invoke/VarHandle" ∧ (parseMethodDescriptor yFg_someReferenceLacks.desc).map (fun d => d.parameters.length) = some 0 := by decide +kernel
theorem dFg_someReferenceLacks_0 : decode cFg_someReferenceLacks 0 = .ok (.aload_n 0, 1) := by decide +kernel
theorem dFg_someReferenceLacks_1 : decode cFg_someReferenceLacks 1 = .ok (.getfield 11, 3) := by decide +kernel
theorem dFg_someReferenceLacks_4 : decode cFg_someReferenceLacks 4 = .ok (.astore_n 1, 1) := by decide +kernel
theorem dFg_someReferenceLacks_5 : decode cFg_someReferenceLacks 5 = .ok (.aload_n 1, 1) := by decide +kernel
theorem dFg_someReferenceLacks_6 : decode cFg_someReferenceLacks 6 = .ok (.arraylength, 1) := by decide +kernel
theorem dFg_someReferenceLacks_7 : decode cFg_someReferenceLacks 7 = .ok (.istore_n 2, 1) := by decide +kernel
theorem dFg_someReferenceLacks_8 : decode cFg_someReferenceLacks 8 = .ok (.iconst 0, 1) := by decide +kernel
theorem dFg_someReferenceLacks_9 : decode cFg_someReferenceLacks 9 = .ok (.istore_n 3, 1) := by decide +kernel
theorem dFg_someReferenceLacks_10 : decode cFg_someReferenceLacks 10 = .ok (.iload_n 3, 1) := by decide +kernel
theorem dFg_someReferenceLacks_11 : decode cFg_someReferenceLacks 11 = .ok (.iload_n 2, 1) := by decide +kernel
theorem dFg_someReferenceLacks_12 : decode cFg_someReferenceLacks 12 = .ok (.if_icmp .ge 77, 3) := by decide +kernel
theorem dFg_someReferenceLacks_15 : decode cFg_someReferenceLacks 15 = .ok (.aload_n 1, 1) := by decide +kernel
theorem dFg_someReferenceLacks_16 : decode cFg_someReferenceLacks 16 = .ok (.iload_n 3, 1) := by decide +kernel
theorem dFg_someReferenceLacks_17 : decode cFg_someReferenceLacks 17 = .ok (.aaload, 1) := by decide +kernel
theorem dFg_someReferenceLacks_18 : decode cFg_someReferenceLacks 18 = .ok (.astore 4, 2) := by decide +kernel
theorem dFg_someReferenceLacks_20 : decode cFg_someReferenceLacks 20 = .ok (.iconst 0, 1) := by decide +kernel
theorem dFg_someReferenceLacks_21 : decode cFg_someReferenceLacks 21 = .ok (.istore 5, 2) := by decide +kernel
theorem dFg_someReferenceLacks_23 : decode cFg_someReferenceLacks 23 = .ok (.iload 5, 2) := by decide +kernel
theorem dFg_someReferenceLacks_25 : decode cFg_someReferenceLacks 25 = .ok (.aload 4, 2) := by decide +kernel
theorem dFg_someReferenceLacks_27 : decode cFg_someReferenceLacks 27 = .ok (.getfield 103, 3) := by decide +kernel
theorem dFg_someReferenceLacks_30 : decode cFg_someReferenceLacks 30 = .ok (.invokevirtual 107, 3) := by decide +kernel
theorem dFg_someReferenceLacks_33 : decode cFg_someReferenceLacks 33 = .ok (.if_icmp .ge 50, 3) := by decide +kernel
theorem dFg_someReferenceLacks_36 : decode cFg_someReferenceLacks 36 = .ok (.aload_n 0, 1) := by decide +kernel
theorem dFg_someReferenceLacks_37 : decode cFg_someReferenceLacks 37 = .ok (.getfield 17, 3) := by decide +kernel
theorem dFg_someReferenceLacks_40 : decode cFg_someReferenceLacks 40 = .ok (.aload 4, 2) := by decide +kernel
theorem dFg_someReferenceLacks_42 : decode cFg_someReferenceLacks 42 = .ok (.getfield 103, 3) := by decide +kernel
theorem dFg_someReferenceLacks_45 : decode cFg_someReferenceLacks 45 = .ok (.iload 5, 2) := by decide +kernel
theorem dFg_someReferenceLacks_47 : decode cFg_someReferenceLacks 47 = .ok (.invokevirtual 203, 3) := by decide +kernel
theorem dFg_someReferenceLacks_50 : decode cFg_someReferenceLacks 50 = .ok (.checkcast 114, 3) := by decide +kernel
theorem dFg_someReferenceLacks_53 : decode cFg_someReferenceLacks 53 = .ok (.invokevirtual 207, 3) := by decide +kernel
theorem dFg_someReferenceLacks_56 : decode cFg_someReferenceLacks 56 = .ok (.aaload, 1) := by decide +kernel
theorem dFg_someReferenceLacks_57 : decode cFg_someReferenceLacks 57 = .ok (.astore 6, 2) := by decide +kernel
theorem dFg_someReferenceLacks_59 : decode cFg_someReferenceLacks 59 = .ok (.aload 6, 2) := by decide +kernel
theorem dFg_someReferenceLacks_61 : decode cFg_someReferenceLacks 61 = .ok (.invokevirtual 197, 3) := by decide +kernel
theorem dFg_someReferenceLacks_64 : decode cFg_someReferenceLacks 64 = .ok (.ifCond .ne 13, 3) := by decide +kernel
theorem dFg_someReferenceLacks_67 : decode cFg_someReferenceLacks 67 = .ok (.aload 6, 2) := by decide +kernel
theorem dFg_someReferenceLacks_69 : decode cFg_someReferenceLacks 69 = .ok (.invokevirtual 200, 3) := by decide +kernel
theorem dFg_someReferenceLacks_72 : decode cFg_someReferenceLacks 72 = .ok (.ifCond .ne 5, 3) := by decide +kernel
theorem dFg_someReferenceLacks_75 : decode cFg_someReferenceLacks 75 = .ok (.iconst 1, 1) := by decide +kernel
theorem dFg_someReferenceLacks_76 : decode cFg_someReferenceLacks 76 = .ok (.ireturn, 1) := by decide +kernel
theorem dFg_someReferenceLacks_77 : decode cFg_someReferenceLacks 77 = .ok (.iinc 5 1, 3) := by decide +kernel
theorem dFg_someReferenceLacks_80 : decode cFg_someReferenceLacks 80 = .ok (.goto (-57), 3) := by decide +kernel
theorem dFg_someReferenceLacks_83 : decode cFg_someReferenceLacks 83 = .ok (.iinc 3 1, 3) := by decide +kernel
theorem dFg_someReferenceLacks_86 : decode cFg_someReferenceLacks 86 = .ok (.goto (-76), 3) := by decide +kernel
theorem dFg_someReferenceLacks_89 : decode cFg_someReferenceLacks 89 = .ok (.iconst 0, 1) := by decide +kernel
theorem dFg_someReferenceLacks_90 : decode cFg_someReferenceLacks 90 = .ok (.ireturn, 1) := by decide +kernel
abbrev yFg_at : MethodName := ⟨"ImageForge", "at", "(I)I"⟩
abbrev cFg_at : ByteArray := prog_1_method_13_code
abbrev wsFg_at : List Cond := .code yFg_at cFg_at 2 (some .int) :: bw
theorem gdFg_at : GoodIn bw wsFg_at := gd_of tw_221
theorem hdFg_at : yFg_at.cls ≠ "java/lang/invoke/MethodHandle" ∧ yFg_at.cls ≠ "java/lang/invoke/VarHandle" ∧ (parseMethodDescriptor yFg_at.desc).map (fun d => d.parameters.length) = some 1 := by decide +kernel
theorem dFg_at_0 : decode cFg_at 0 = .ok (.aload_n 0, 1) := by decide +kernel
theorem dFg_at_1 : decode cFg_at 1 = .ok (.getfield 43, 3) := by decide +kernel
theorem dFg_at_4 : decode cFg_at 4 = .ok (.iload_n 1, 1) := by decide +kernel
theorem dFg_at_5 : decode cFg_at 5 = .ok (.invokevirtual 192, 3) := by decide +kernel
theorem dFg_at_8 : decode cFg_at 8 = .ok (.ireturn, 1) := by decide +kernel
abbrev yFg_find : MethodName := ⟨"ImageForge", "find", "(I)I"⟩
abbrev cFg_find : ByteArray := prog_1_method_14_code
abbrev wsFg_find : List Cond := .code yFg_find cFg_find 2 (some .int) :: bw
theorem gdFg_find : GoodIn bw wsFg_find := gd_of tw_233
theorem hdFg_find : yFg_find.cls ≠ "java/lang/invoke/MethodHandle" ∧ yFg_find.cls ≠ "java/lang/invoke/VarHandle" ∧ (parseMethodDescriptor yFg_find.desc).map (fun d => d.parameters.length) = some 1 := by decide +kernel
theorem dFg_find_0 : decode cFg_find 0 = .ok (.aload_n 0, 1) := by decide +kernel
theorem dFg_find_1 : decode cFg_find 1 = .ok (.getfield 43, 3) := by decide +kernel
theorem dFg_find_4 : decode cFg_find 4 = .ok (.iload_n 1, 1) := by decide +kernel
theorem dFg_find_5 : decode cFg_find 5 = .ok (.invokevirtual 193, 3) := by decide +kernel
theorem dFg_find_8 : decode cFg_find 8 = .ok (.ireturn, 1) := by decide +kernel
section
variable {p : Program} {l : Launch} {e : Env} {s : State} {m : MethodId} {args : Array Value} {below : List Frame} {meth : Method} {c : Code} {D : va_G} {cA : Nat → ClassId} {ad : Nat → Nat} {L : List Nat} {rs : va_W} {al : Nat → Bool} {A : Nat → Prop}
abbrev rm_Fg_someNameClashes : Room := { frames := 1, cells := 0, slots := 0, locals := 20 }
def bk_Fg_someNameClashes_47 (F : Nat) (al : Nat → Bool) (k10 : Mr → Nat → Int32 → Int32 → Option (Mr × Int32)) (u : Mr) (x1 : Nat) (x2 : Int32) (x3 : Int32) : Option (Mr × Int32) := k10 u x1 x2 (x3 + (1 : Int32))
set_option maxHeartbeats 4000000 in
set_option maxRecDepth 100000 in
theorem wk_Fg_someNameClashes_47 (cx : Cx p l e s m args below meth c cFg_someNameClashes 5 bw "ImageForge" (some .boolean) D cA ad L rs al A) (F : Nat) (out : Mr × Int32) {k10 : Mr → Nat → Int32 → Int32 → Option (Mr × Int32)} (hk10 : ∀ (u : Mr) (x1 : Nat) (x2 : Int32) (x3 : Int32), k10 u x1 x2 x3 = some out → okk al 3 x1 = true → Wb p l e rm_Fg_someNameClashes s m args below meth c D cA ad L rs A (QI below args s D cA ad L rs A out) 5 10 [(1, .ref (ad x1)), (2, .int x2), (3, .int x3)] [] u) : ∀ (u : Mr) (x1 : Nat) (x2 : Int32) (x3 : Int32), bk_Fg_someNameClashes_47 F al k10 u x1 x2 x3 = some out → okk al 3 x1 = true → Wb p l e rm_Fg_someNameClashes s m args below meth c D cA ad L rs A (QI below args s D cA ad L rs A out) 5 47 [(1, .ref (ad x1)), (2, .int x2), (3, .int x3)] [] u := by
  obtain ⟨hx, hb, hml, hown, hts, hr, hlocks, hK, hA, hD, hN, hal, hNx⟩ := cx
  intro u x1 x2 x3 h q1 H locs ls hl hP hS
  unfold bk_Fg_someNameClashes_47 at h
  refine lv_iinc (k := 2) (v := x3 + (1 : Int32)) (lv' := [(3, .int (x3 + (1 : Int32))), (1, .ref (ad x1)), (2, .int x2)]) hx hb dFg_someNameClashes_47 hl rfl (congrArg (fun z => _ + z) (show Int32.ofInt 1 = 1 by decide)) (by decide) rfl (fun ls hl => ?_)
  refine lv_goto (tgt := 10) hx hb dFg_someNameClashes_50 rfl ?_
  exact hk10 u x1 x2 (x3 + (1 : Int32)) h q1 _ _ _ (lv_sub hl [1, 2, 0] rfl) hP hS
def bk_Fg_someNameClashes_10 (F : Nat) (al : Nat → Bool) : Nat → Mr → Nat → Int32 → Int32 → Option (Mr × Int32)
  | 0, _, _, _, _ => none
  | n + 1, u, x1, x2, x3 => if x2 ≤ x3 then (some (u, (0 : Int32))) else (ck (inb x3 16) (bd1 (rdR al u x1 x3 20) fun y2 => (if (1 : Int32) < (u.1 y2 0) then (some (u, (1 : Int32))) else (bd2 (fn_Nm_isDefined F al u y2) fun u4 v4 => (if v4 = 0 then (bk_Fg_someNameClashes_47 F al (bk_Fg_someNameClashes_10 F al n) u4 x1 x2 x3) else (bd2 (fn_Nm_isImported F al u4 y2) fun u5 v5 => (if v5 = 0 then (bk_Fg_someNameClashes_47 F al (bk_Fg_someNameClashes_10 F al n) u5 x1 x2 x3) else (some (u5, (1 : Int32))))))))))
set_option maxHeartbeats 4000000 in
set_option maxRecDepth 100000 in
theorem wk_Fg_someNameClashes_10 (cx : Cx p l e s m args below meth c cFg_someNameClashes 5 bw "ImageForge" (some .boolean) D cA ad L rs al A) (F : Nat) (out : Mr × Int32) : ∀ n : Nat, ∀ (u : Mr) (x1 : Nat) (x2 : Int32) (x3 : Int32), bk_Fg_someNameClashes_10 F al n u x1 x2 x3 = some out → okk al 3 x1 = true → Wb p l e rm_Fg_someNameClashes s m args below meth c D cA ad L rs A (QI below args s D cA ad L rs A out) 5 10 [(1, .ref (ad x1)), (2, .int x2), (3, .int x3)] [] u := by
  obtain ⟨hx, hb, hml, hown, hts, hr, hlocks, hK, hA, hD, hN, hal, hNx⟩ := cx
  intro n
  induction n with
  | zero =>
    intro u x1 x2 x3 h
    cases h
  | succ n ih =>
    intro u x1 x2 x3 h q1 H locs ls hl hP hS
    rw [bk_Fg_someNameClashes_10] at h
    refine lv_iload_n hx hb dFg_someNameClashes_10 rfl (lv_at hl 2 rfl) ?_
    refine lv_iload_n hx hb dFg_someNameClashes_11 rfl (lv_at hl 1 rfl) ?_
    refine lv_icmp_ge (tgt := 53) hx hb dFg_someNameClashes_12 rfl (fun hc => ?_) (fun hc => ?_)
    · replace h := it_t h hc
      refine lv_iconst (v := 0) hx hb dFg_someNameClashes_53 (by decide) ?_
      exact x_zret hx hb hr hlocks rfl h hP hS dFg_someNameClashes_54
    · replace h := it_f h hc
      refine lv_aload_n hx hb dFg_someNameClashes_15 rfl (lv_at hl 0 rfl) ?_
      refine lv_iload_n hx hb dFg_someNameClashes_16 rfl (lv_at hl 2 rfl) ?_
      obtain ⟨hi1, h⟩ := ck_some h
      obtain ⟨y2, hy3, h⟩ := bd1_some h
      obtain ⟨hy3a, hy3⟩ := rdR_some hy3
      refine x_aald hx hb hK hP (hal _ (okk_al q1)) (okk_t q1) 5 (fun _ _ _ => rfl) rfl rfl (inb_in hi1) hy3a dFg_someNameClashes_17 ?_
      refine lv_astore (lv' := [(4, .ref (ad y2)), (1, .ref (ad x1)), (2, .int x2), (3, .int x3)]) hx hb dFg_someNameClashes_18 hl (by decide) rfl (fun ls hl => ?_)
      refine lv_aload hx hb dFg_someNameClashes_20 (lv_at hl 0 rfl) ?_
      refine x_getN hx hb hts in_Nm hown hK hP (hal _ (okk_al hy3)) (okk_t hy3) rfl rfl 0 (by decide) (nf_12 hNx) (fun _ h9 => h9) rfl dFg_someNameClashes_22 ?_
      refine lv_iconst (v := 1) hx hb dFg_someNameClashes_25 (by decide) ?_
      refine lv_icmp_gt (tgt := 45) hx hb dFg_someNameClashes_26 rfl (fun hc => ?_) (fun hc => ?_)
      · replace h := it_t h hc
        refine lv_iconst (v := 1) hx hb dFg_someNameClashes_45 (by decide) ?_
        exact x_zret hx hb hr hlocks rfl h hP hS dFg_someNameClashes_46
      · replace h := it_f h hc
        refine lv_aload hx hb dFg_someNameClashes_29 (lv_at hl 0 rfl) ?_
        obtain ⟨u4, v4, hc4, h⟩ := bd2_some h
        refine x_ci (u := u) (out := (u4, v4)) hA hD hS (va_runVN (As := []) (rest := []) ⟨hx, hb, hml, hown, hts⟩ (ct_Nm_isDefined hal hN F u y2 (u4, v4) hc4 hy3 _) ⟨va_cnB 0 hts gdNm_isDefined rfl rfl rfl (nn_16 hNx) (hts _ tw_10) hdNm_isDefined ⟨Nat.le_of_ble_eq_true rfl, Nat.le_of_ble_eq_true rfl⟩, (hts _ tw_519), (hts _ tp_13)⟩ (x_preV hK hD hNx hP (hal _ (okk_al hy3)) (okk_t hy3) rfl rfl) rfl rfl hl.1 rfl (lv_room (Nat.le_of_ble_eq_true rfl)) dFg_someNameClashes_31 ⟨Nat.zero_le _, Nat.zero_le _⟩) (fun H locs hP hS => ?_)
        refine lv_if_eq (tgt := 47) hx hb dFg_someNameClashes_34 rfl (fun hc => ?_) (fun hc => ?_)
        · replace h := it_t h hc
          exact wk_Fg_someNameClashes_47 ⟨hx, hb, hml, hown, hts, hr, hlocks, hK, hA, hD, hN, hal, hNx⟩ F out ih u4 x1 x2 x3 h q1 _ _ _ (lv_sub hl [1, 2, 3] rfl) hP hS
        · replace h := it_f h hc
          refine lv_aload hx hb dFg_someNameClashes_37 (lv_at hl 0 rfl) ?_
          obtain ⟨u5, v5, hc5, h⟩ := bd2_some h
          refine x_ci (u := u4) (out := (u5, v5)) hA hD hS (va_runVN (As := []) (rest := []) ⟨hx, hb, hml, hown, hts⟩ (ct_Nm_isImported hal hN F u4 y2 (u5, v5) hc5 hy3 _) ⟨va_cnB 0 hts gdNm_isImported rfl rfl rfl (nn_17 hNx) (hts _ tw_10) hdNm_isImported ⟨Nat.le_of_ble_eq_true rfl, Nat.le_of_ble_eq_true rfl⟩, (hts _ tw_523), (hts _ tp_14)⟩ (x_preV hK hD hNx hP (hal _ (okk_al hy3)) (okk_t hy3) rfl rfl) rfl rfl hl.1 rfl (lv_room (Nat.le_of_ble_eq_true rfl)) dFg_someNameClashes_39 ⟨Nat.zero_le _, Nat.zero_le _⟩) (fun H locs hP hS => ?_)
          refine lv_if_eq (tgt := 47) hx hb dFg_someNameClashes_42 rfl (fun hc => ?_) (fun hc => ?_)
          · replace h := it_t h hc
            exact wk_Fg_someNameClashes_47 ⟨hx, hb, hml, hown, hts, hr, hlocks, hK, hA, hD, hN, hal, hNx⟩ F out ih u5 x1 x2 x3 h q1 _ _ _ (lv_sub hl [1, 2, 3] rfl) hP hS
          · replace h := it_f h hc
            refine lv_iconst (v := 1) hx hb dFg_someNameClashes_45 (by decide) ?_
            exact x_zret hx hb hr hlocks rfl h hP hS dFg_someNameClashes_46
def bk_Fg_someNameClashes_0 (F : Nat) (al : Nat → Bool) (u : Mr) (x0 : Nat) : Option (Mr × Int32) := bd1 (rdR al u x0 1 3) fun y1 => (bk_Fg_someNameClashes_10 F al F u y1 (16 : Int32) (0 : Int32))
set_option maxHeartbeats 4000000 in
set_option maxRecDepth 100000 in
theorem wk_Fg_someNameClashes_0 (cx : Cx p l e s m args below meth c cFg_someNameClashes 5 bw "ImageForge" (some .boolean) D cA ad L rs al A) (F : Nat) (out : Mr × Int32) : ∀ (u : Mr) (x0 : Nat), bk_Fg_someNameClashes_0 F al u x0 = some out → okk al 1 x0 = true → Wb p l e rm_Fg_someNameClashes s m args below meth c D cA ad L rs A (QI below args s D cA ad L rs A out) 5 0 [(0, .ref (ad x0))] [] u := by
  obtain ⟨hx, hb, hml, hown, hts, hr, hlocks, hK, hA, hD, hN, hal, hNx⟩ := cx
  intro u x0 h q0 H locs ls hl hP hS
  unfold bk_Fg_someNameClashes_0 at h
  refine lv_aload_n hx hb dFg_someNameClashes_0 rfl (lv_at hl 0 rfl) ?_
  obtain ⟨y1, hy2, h⟩ := bd1_some h
  obtain ⟨hy2a, hy2⟩ := rdR_some hy2
  refine x_get hx hb hts in_Fg hown hK hP (hal _ (okk_al q0)) (okk_t q0) rfl rfl 1 (by decide) (hts _ tw_200) (fun _ h9 => h9) (congrArg some (x_rf hy2a)) dFg_someNameClashes_1 ?_
  refine lv_astore_n (lv' := [(1, .ref (ad y1)), (0, .ref (ad x0))]) hx hb dFg_someNameClashes_4 rfl hl (by decide) rfl (fun ls hl => ?_)
  refine lv_aload_n hx hb dFg_someNameClashes_5 rfl (lv_at hl 0 rfl) ?_
  refine x_alen hx hb hK hP (hal _ (okk_al hy2)) (okk_t hy2) 5 rfl rfl rfl (v := 16) rfl dFg_someNameClashes_6 ?_
  refine lv_istore_n (lv' := [(2, .int (16 : Int32)), (1, .ref (ad y1)), (0, .ref (ad x0))]) hx hb dFg_someNameClashes_7 rfl hl (by decide) rfl (fun ls hl => ?_)
  refine lv_iconst (v := 0) hx hb dFg_someNameClashes_8 (by decide) ?_
  refine lv_istore_n (lv' := [(3, .int (0 : Int32)), (2, .int (16 : Int32)), (1, .ref (ad y1)), (0, .ref (ad x0))]) hx hb dFg_someNameClashes_9 rfl hl (by decide) rfl (fun ls hl => ?_)
  exact wk_Fg_someNameClashes_10 ⟨hx, hb, hml, hown, hts, hr, hlocks, hK, hA, hD, hN, hal, hNx⟩ F out F u y1 (16 : Int32) (0 : Int32) h hy2 _ _ _ (lv_sub hl [2, 1, 0] rfl) hP hS
def fn_Fg_someNameClashes (F : Nat) (al : Nat → Bool) (u : Mr) (x0 : Nat) : Option (Mr × Int32) := bk_Fg_someNameClashes_0 F al u x0
set_option maxHeartbeats 4000000 in
set_option maxRecDepth 100000 in
theorem ct_Fg_someNameClashes {l : Launch} {D : va_G} {cA : Nat → ClassId} {ad : Nat → Nat} {L : List Nat} {rs : va_W} {al : Nat → Bool} (hal : ∀ k, al k = true → k ∈ L) (hN : L.Nodup) (F : Nat) (u : Mr) (x0 : Nat) (out : Mr × Int32) (h : fn_Fg_someNameClashes F al u x0 = some out) (q0 : okk al 1 x0 = true) : CtI l yFg_someNameClashes wsFg_someNameClashes rm_Fg_someNameClashes [.ref (ad x0)] D cA ad L rs u out := by
  intro sz
  refine Met.ofW (cc := cFg_someNameClashes) (maxL := 5) (ret := (some .boolean)) (by decide) rfl ?_
  intro p e s m args below meth c s₁ B hml hv
  obtain ⟨rfl, hsz, hP, hK, hD0, hNx⟩ := hv
  subst hsz
  have hD := hD0.self (sz := s.heap.size)
  generalize hAe : va_A (ww ad cA L rs u) s.heap.size = A at hD ⊢
  have hA : ∀ q, s.heap.size ≤ q → A q := fun q h => by rw [← hAe]; exact Or.inr h
  have hl := lv_entry ([.ref (ad x0)]) (n := 5) (Nat.le_of_ble_eq_true rfl)
  rw [lg_entry_eq]
  generalize (lg_sl ([.ref (ad x0)]) ++ List.replicate (5 - (lg_sl ([.ref (ad x0)])).length) Slot.unset).toArray = ls at hl ⊢
  exact wk_Fg_someNameClashes_0 ⟨B.exec, B.bytes, hml, findClass_of_methodNamed B.named, hts_bw (atoms_spec (ws := wsFg_someNameClashes) B.pre), B.returns, B.notSynchronized, hK, hA, fun v => ww_D hD, hN, hal, hNx⟩ F out u x0 h q0 _ _ _ (lv_sub hl [0] rfl) hP va_S.rf
abbrev rm_Fg_someExportLacks : Room := { frames := 1, cells := 0, slots := 0, locals := 20 }
def bk_Fg_someExportLacks_38 (F : Nat) (al : Nat → Bool) (k10 : Mr → Nat → Int32 → Int32 → Option (Mr × Int32)) (u : Mr) (x1 : Nat) (x2 : Int32) (x3 : Int32) : Option (Mr × Int32) := k10 u x1 x2 (x3 + (1 : Int32))
set_option maxHeartbeats 4000000 in
set_option maxRecDepth 100000 in
theorem wk_Fg_someExportLacks_38 (cx : Cx p l e s m args below meth c cFg_someExportLacks 5 bw "ImageForge" (some .boolean) D cA ad L rs al A) (F : Nat) (out : Mr × Int32) {k10 : Mr → Nat → Int32 → Int32 → Option (Mr × Int32)} (hk10 : ∀ (u : Mr) (x1 : Nat) (x2 : Int32) (x3 : Int32), k10 u x1 x2 x3 = some out → okk al 3 x1 = true → Wb p l e rm_Fg_someExportLacks s m args below meth c D cA ad L rs A (QI below args s D cA ad L rs A out) 5 10 [(1, .ref (ad x1)), (2, .int x2), (3, .int x3)] [] u) : ∀ (u : Mr) (x1 : Nat) (x2 : Int32) (x3 : Int32), bk_Fg_someExportLacks_38 F al k10 u x1 x2 x3 = some out → okk al 3 x1 = true → Wb p l e rm_Fg_someExportLacks s m args below meth c D cA ad L rs A (QI below args s D cA ad L rs A out) 5 38 [(1, .ref (ad x1)), (2, .int x2), (3, .int x3)] [] u := by
  obtain ⟨hx, hb, hml, hown, hts, hr, hlocks, hK, hA, hD, hN, hal, hNx⟩ := cx
  intro u x1 x2 x3 h q1 H locs ls hl hP hS
  unfold bk_Fg_someExportLacks_38 at h
  refine lv_iinc (k := 2) (v := x3 + (1 : Int32)) (lv' := [(3, .int (x3 + (1 : Int32))), (1, .ref (ad x1)), (2, .int x2)]) hx hb dFg_someExportLacks_38 hl rfl (congrArg (fun z => _ + z) (show Int32.ofInt 1 = 1 by decide)) (by decide) rfl (fun ls hl => ?_)
  refine lv_goto (tgt := 10) hx hb dFg_someExportLacks_41 rfl ?_
  exact hk10 u x1 x2 (x3 + (1 : Int32)) h q1 _ _ _ (lv_sub hl [1, 2, 0] rfl) hP hS
def bk_Fg_someExportLacks_10 (F : Nat) (al : Nat → Bool) : Nat → Mr → Nat → Int32 → Int32 → Option (Mr × Int32)
  | 0, _, _, _, _ => none
  | n + 1, u, x1, x2, x3 => if x2 ≤ x3 then (some (u, (0 : Int32))) else (ck (inb x3 16) (bd1 (rdR al u x1 x3 20) fun y2 => (if (u.1 y2 6) = 0 then (bk_Fg_someExportLacks_38 F al (bk_Fg_someExportLacks_10 F al n) u x1 x2 x3) else (bd2 (fn_Nm_isDefined F al u y2) fun u4 v4 => (if v4 = 0 then (some (u4, (1 : Int32))) else (bk_Fg_someExportLacks_38 F al (bk_Fg_someExportLacks_10 F al n) u4 x1 x2 x3))))))
set_option maxHeartbeats 4000000 in
set_option maxRecDepth 100000 in
theorem wk_Fg_someExportLacks_10 (cx : Cx p l e s m args below meth c cFg_someExportLacks 5 bw "ImageForge" (some .boolean) D cA ad L rs al A) (F : Nat) (out : Mr × Int32) : ∀ n : Nat, ∀ (u : Mr) (x1 : Nat) (x2 : Int32) (x3 : Int32), bk_Fg_someExportLacks_10 F al n u x1 x2 x3 = some out → okk al 3 x1 = true → Wb p l e rm_Fg_someExportLacks s m args below meth c D cA ad L rs A (QI below args s D cA ad L rs A out) 5 10 [(1, .ref (ad x1)), (2, .int x2), (3, .int x3)] [] u := by
  obtain ⟨hx, hb, hml, hown, hts, hr, hlocks, hK, hA, hD, hN, hal, hNx⟩ := cx
  intro n
  induction n with
  | zero =>
    intro u x1 x2 x3 h
    cases h
  | succ n ih =>
    intro u x1 x2 x3 h q1 H locs ls hl hP hS
    rw [bk_Fg_someExportLacks_10] at h
    refine lv_iload_n hx hb dFg_someExportLacks_10 rfl (lv_at hl 2 rfl) ?_
    refine lv_iload_n hx hb dFg_someExportLacks_11 rfl (lv_at hl 1 rfl) ?_
    refine lv_icmp_ge (tgt := 44) hx hb dFg_someExportLacks_12 rfl (fun hc => ?_) (fun hc => ?_)
    · replace h := it_t h hc
      refine lv_iconst (v := 0) hx hb dFg_someExportLacks_44 (by decide) ?_
      exact x_zret hx hb hr hlocks rfl h hP hS dFg_someExportLacks_45
    · replace h := it_f h hc
      refine lv_aload_n hx hb dFg_someExportLacks_15 rfl (lv_at hl 0 rfl) ?_
      refine lv_iload_n hx hb dFg_someExportLacks_16 rfl (lv_at hl 2 rfl) ?_
      obtain ⟨hi1, h⟩ := ck_some h
      obtain ⟨y2, hy3, h⟩ := bd1_some h
      obtain ⟨hy3a, hy3⟩ := rdR_some hy3
      refine x_aald hx hb hK hP (hal _ (okk_al q1)) (okk_t q1) 5 (fun _ _ _ => rfl) rfl rfl (inb_in hi1) hy3a dFg_someExportLacks_17 ?_
      refine lv_astore (lv' := [(4, .ref (ad y2)), (1, .ref (ad x1)), (2, .int x2), (3, .int x3)]) hx hb dFg_someExportLacks_18 hl (by decide) rfl (fun ls hl => ?_)
      refine lv_aload hx hb dFg_someExportLacks_20 (lv_at hl 0 rfl) ?_
      refine x_getN hx hb hts in_Nm hown hK hP (hal _ (okk_al hy3)) (okk_t hy3) rfl rfl 6 (by decide) (nf_20 hNx) (fun _ h9 => h9) rfl dFg_someExportLacks_22 ?_
      refine lv_if_eq (tgt := 38) hx hb dFg_someExportLacks_25 rfl (fun hc => ?_) (fun hc => ?_)
      · replace h := it_t h hc
        exact wk_Fg_someExportLacks_38 ⟨hx, hb, hml, hown, hts, hr, hlocks, hK, hA, hD, hN, hal, hNx⟩ F out ih u x1 x2 x3 h q1 _ _ _ (lv_sub hl [1, 2, 3] rfl) hP hS
      · replace h := it_f h hc
        refine lv_aload hx hb dFg_someExportLacks_28 (lv_at hl 0 rfl) ?_
        obtain ⟨u4, v4, hc4, h⟩ := bd2_some h
        refine x_ci (u := u) (out := (u4, v4)) hA hD hS (va_runVN (As := []) (rest := []) ⟨hx, hb, hml, hown, hts⟩ (ct_Nm_isDefined hal hN F u y2 (u4, v4) hc4 hy3 _) ⟨va_cnB 0 hts gdNm_isDefined rfl rfl rfl (nn_16 hNx) (hts _ tw_10) hdNm_isDefined ⟨Nat.le_of_ble_eq_true rfl, Nat.le_of_ble_eq_true rfl⟩, (hts _ tw_519), (hts _ tp_13)⟩ (x_preV hK hD hNx hP (hal _ (okk_al hy3)) (okk_t hy3) rfl rfl) rfl rfl hl.1 rfl (lv_room (Nat.le_of_ble_eq_true rfl)) dFg_someExportLacks_30 ⟨Nat.zero_le _, Nat.zero_le _⟩) (fun H locs hP hS => ?_)
        refine lv_if_ne (tgt := 38) hx hb dFg_someExportLacks_33 rfl (fun hc => ?_) (fun hc => ?_)
        · replace h := it_f h hc
          exact wk_Fg_someExportLacks_38 ⟨hx, hb, hml, hown, hts, hr, hlocks, hK, hA, hD, hN, hal, hNx⟩ F out ih u4 x1 x2 x3 h q1 _ _ _ (lv_sub hl [1, 2, 3] rfl) hP hS
        · replace h := it_t h hc
          refine lv_iconst (v := 1) hx hb dFg_someExportLacks_36 (by decide) ?_
          exact x_zret hx hb hr hlocks rfl h hP hS dFg_someExportLacks_37
def bk_Fg_someExportLacks_0 (F : Nat) (al : Nat → Bool) (u : Mr) (x0 : Nat) : Option (Mr × Int32) := bd1 (rdR al u x0 1 3) fun y1 => (bk_Fg_someExportLacks_10 F al F u y1 (16 : Int32) (0 : Int32))
set_option maxHeartbeats 4000000 in
set_option maxRecDepth 100000 in
theorem wk_Fg_someExportLacks_0 (cx : Cx p l e s m args below meth c cFg_someExportLacks 5 bw "ImageForge" (some .boolean) D cA ad L rs al A) (F : Nat) (out : Mr × Int32) : ∀ (u : Mr) (x0 : Nat), bk_Fg_someExportLacks_0 F al u x0 = some out → okk al 1 x0 = true → Wb p l e rm_Fg_someExportLacks s m args below meth c D cA ad L rs A (QI below args s D cA ad L rs A out) 5 0 [(0, .ref (ad x0))] [] u := by
  obtain ⟨hx, hb, hml, hown, hts, hr, hlocks, hK, hA, hD, hN, hal, hNx⟩ := cx
  intro u x0 h q0 H locs ls hl hP hS
  unfold bk_Fg_someExportLacks_0 at h
  refine lv_aload_n hx hb dFg_someExportLacks_0 rfl (lv_at hl 0 rfl) ?_
  obtain ⟨y1, hy2, h⟩ := bd1_some h
  obtain ⟨hy2a, hy2⟩ := rdR_some hy2
  refine x_get hx hb hts in_Fg hown hK hP (hal _ (okk_al q0)) (okk_t q0) rfl rfl 1 (by decide) (hts _ tw_200) (fun _ h9 => h9) (congrArg some (x_rf hy2a)) dFg_someExportLacks_1 ?_
  refine lv_astore_n (lv' := [(1, .ref (ad y1)), (0, .ref (ad x0))]) hx hb dFg_someExportLacks_4 rfl hl (by decide) rfl (fun ls hl => ?_)
  refine lv_aload_n hx hb dFg_someExportLacks_5 rfl (lv_at hl 0 rfl) ?_
  refine x_alen hx hb hK hP (hal _ (okk_al hy2)) (okk_t hy2) 5 rfl rfl rfl (v := 16) rfl dFg_someExportLacks_6 ?_
  refine lv_istore_n (lv' := [(2, .int (16 : Int32)), (1, .ref (ad y1)), (0, .ref (ad x0))]) hx hb dFg_someExportLacks_7 rfl hl (by decide) rfl (fun ls hl => ?_)
  refine lv_iconst (v := 0) hx hb dFg_someExportLacks_8 (by decide) ?_
  refine lv_istore_n (lv' := [(3, .int (0 : Int32)), (2, .int (16 : Int32)), (1, .ref (ad y1)), (0, .ref (ad x0))]) hx hb dFg_someExportLacks_9 rfl hl (by decide) rfl (fun ls hl => ?_)
  exact wk_Fg_someExportLacks_10 ⟨hx, hb, hml, hown, hts, hr, hlocks, hK, hA, hD, hN, hal, hNx⟩ F out F u y1 (16 : Int32) (0 : Int32) h hy2 _ _ _ (lv_sub hl [2, 1, 0] rfl) hP hS
def fn_Fg_someExportLacks (F : Nat) (al : Nat → Bool) (u : Mr) (x0 : Nat) : Option (Mr × Int32) := bk_Fg_someExportLacks_0 F al u x0
set_option maxHeartbeats 4000000 in
set_option maxRecDepth 100000 in
theorem ct_Fg_someExportLacks {l : Launch} {D : va_G} {cA : Nat → ClassId} {ad : Nat → Nat} {L : List Nat} {rs : va_W} {al : Nat → Bool} (hal : ∀ k, al k = true → k ∈ L) (hN : L.Nodup) (F : Nat) (u : Mr) (x0 : Nat) (out : Mr × Int32) (h : fn_Fg_someExportLacks F al u x0 = some out) (q0 : okk al 1 x0 = true) : CtI l yFg_someExportLacks wsFg_someExportLacks rm_Fg_someExportLacks [.ref (ad x0)] D cA ad L rs u out := by
  intro sz
  refine Met.ofW (cc := cFg_someExportLacks) (maxL := 5) (ret := (some .boolean)) (by decide) rfl ?_
  intro p e s m args below meth c s₁ B hml hv
  obtain ⟨rfl, hsz, hP, hK, hD0, hNx⟩ := hv
  subst hsz
  have hD := hD0.self (sz := s.heap.size)
  generalize hAe : va_A (ww ad cA L rs u) s.heap.size = A at hD ⊢
  have hA : ∀ q, s.heap.size ≤ q → A q := fun q h => by rw [← hAe]; exact Or.inr h
  have hl := lv_entry ([.ref (ad x0)]) (n := 5) (Nat.le_of_ble_eq_true rfl)
  rw [lg_entry_eq]
  generalize (lg_sl ([.ref (ad x0)]) ++ List.replicate (5 - (lg_sl ([.ref (ad x0)])).length) Slot.unset).toArray = ls at hl ⊢
  exact wk_Fg_someExportLacks_0 ⟨B.exec, B.bytes, hml, findClass_of_methodNamed B.named, hts_bw (atoms_spec (ws := wsFg_someExportLacks) B.pre), B.returns, B.notSynchronized, hK, hA, fun v => ww_D hD, hN, hal, hNx⟩ F out u x0 h q0 _ _ _ (lv_sub hl [0] rfl) hP va_S.rf
abbrev rm_Fg_someReferenceLacks : Room := { frames := 3, cells := 0, slots := 0, locals := 64 }
def bk_Fg_someReferenceLacks_77 (F : Nat) (al : Nat → Bool) (k10 : Mr → Nat → Nat → Int32 → Int32 → Option (Mr × Int32)) (k23 : Mr → Nat → Nat → Int32 → Int32 → Nat → Int32 → Option (Mr × Int32)) (u : Mr) (x0 : Nat) (x1 : Nat) (x2 : Int32) (x3 : Int32) (x4 : Nat) (x5 : Int32) : Option (Mr × Int32) := k23 u x0 x1 x2 x3 x4 (x5 + (1 : Int32))
set_option maxHeartbeats 4000000 in
set_option maxRecDepth 100000 in
theorem wk_Fg_someReferenceLacks_77 (cx : Cx p l e s m args below meth c cFg_someReferenceLacks 7 bw "ImageForge" (some .boolean) D cA ad L rs al A) (F : Nat) (out : Mr × Int32) {k10 : Mr → Nat → Nat → Int32 → Int32 → Option (Mr × Int32)} {k23 : Mr → Nat → Nat → Int32 → Int32 → Nat → Int32 → Option (Mr × Int32)} (hk10 : ∀ (u : Mr) (x0 : Nat) (x1 : Nat) (x2 : Int32) (x3 : Int32), k10 u x0 x1 x2 x3 = some out → okk al 1 x0 = true → okk al 2 x1 = true → Wb p l e rm_Fg_someReferenceLacks s m args below meth c D cA ad L rs A (QI below args s D cA ad L rs A out) 7 10 [(0, .ref (ad x0)), (1, .ref (ad x1)), (2, .int x2), (3, .int x3)] [] u) (hk23 : ∀ (u : Mr) (x0 : Nat) (x1 : Nat) (x2 : Int32) (x3 : Int32) (x4 : Nat) (x5 : Int32), k23 u x0 x1 x2 x3 x4 x5 = some out → okk al 1 x0 = true → okk al 2 x1 = true → okk al 14 x4 = true → Wb p l e rm_Fg_someReferenceLacks s m args below meth c D cA ad L rs A (QI below args s D cA ad L rs A out) 7 23 [(0, .ref (ad x0)), (1, .ref (ad x1)), (2, .int x2), (3, .int x3), (4, .ref (ad x4)), (5, .int x5)] [] u) : ∀ (u : Mr) (x0 : Nat) (x1 : Nat) (x2 : Int32) (x3 : Int32) (x4 : Nat) (x5 : Int32), bk_Fg_someReferenceLacks_77 F al k10 k23 u x0 x1 x2 x3 x4 x5 = some out → okk al 1 x0 = true → okk al 2 x1 = true → okk al 14 x4 = true → Wb p l e rm_Fg_someReferenceLacks s m args below meth c D cA ad L rs A (QI below args s D cA ad L rs A out) 7 77 [(0, .ref (ad x0)), (1, .ref (ad x1)), (2, .int x2), (3, .int x3), (4, .ref (ad x4)), (5, .int x5)] [] u := by
  obtain ⟨hx, hb, hml, hown, hts, hr, hlocks, hK, hA, hD, hN, hal, hNx⟩ := cx
  intro u x0 x1 x2 x3 x4 x5 h q0 q1 q4 H locs ls hl hP hS
  unfold bk_Fg_someReferenceLacks_77 at h
  refine lv_iinc (k := 5) (v := x5 + (1 : Int32)) (lv' := [(5, .int (x5 + (1 : Int32))), (0, .ref (ad x0)), (1, .ref (ad x1)), (2, .int x2), (3, .int x3), (4, .ref (ad x4))]) hx hb dFg_someReferenceLacks_77 hl rfl (congrArg (fun z => _ + z) (show Int32.ofInt 1 = 1 by decide)) (by decide) rfl (fun ls hl => ?_)
  refine lv_goto (tgt := 23) hx hb dFg_someReferenceLacks_80 rfl ?_
  exact hk23 u x0 x1 x2 x3 x4 (x5 + (1 : Int32)) h q0 q1 q4 _ _ _ (lv_sub hl [1, 2, 3, 4, 5, 0] rfl) hP hS
def bk_Fg_someReferenceLacks_23 (F : Nat) (al : Nat → Bool) (k10 : Mr → Nat → Nat → Int32 → Int32 → Option (Mr × Int32)) : Nat → Mr → Nat → Nat → Int32 → Int32 → Nat → Int32 → Option (Mr × Int32)
  | 0, _, _, _, _, _, _, _ => none
  | n + 1, u, x0, x1, x2, x3, x4, x5 => bd1 (rdR al u x4 1 18) fun y1 => (bd2 (fn_Al_size F al u y1) fun u3 v3 => (if v3 ≤ x5 then (k10 u3 x0 x1 x2 (x3 + (1 : Int32))) else (bd1 (rdR al u3 x0 1 3) fun y4 => (bd1 (rdR al u3 x4 1 18) fun y6 => (bd2 (fn_Al_get F al u3 y6 x5) fun u8 v8 => (ck (okk al 21 v8) (bd2 (fn_Rf_name F al u8 v8) fun u10 v10 => (ck (inb v10 16) (bd1 (rdR al u10 y4 v10 20) fun y12 => (bd2 (fn_Nm_isDefined F al u10 y12) fun u14 v14 => (if v14 = 0 then (bd2 (fn_Nm_isImported F al u14 y12) fun u15 v15 => (if v15 = 0 then (some (u15, (1 : Int32))) else (bk_Fg_someReferenceLacks_77 F al k10 (bk_Fg_someReferenceLacks_23 F al k10 n) u15 x0 x1 x2 x3 x4 x5))) else (bk_Fg_someReferenceLacks_77 F al k10 (bk_Fg_someReferenceLacks_23 F al k10 n) u14 x0 x1 x2 x3 x4 x5))))))))))))
set_option maxHeartbeats 4000000 in
set_option maxRecDepth 100000 in
theorem wk_Fg_someReferenceLacks_23 (cx : Cx p l e s m args below meth c cFg_someReferenceLacks 7 bw "ImageForge" (some .boolean) D cA ad L rs al A) (F : Nat) (out : Mr × Int32) {k10 : Mr → Nat → Nat → Int32 → Int32 → Option (Mr × Int32)} (hk10 : ∀ (u : Mr) (x0 : Nat) (x1 : Nat) (x2 : Int32) (x3 : Int32), k10 u x0 x1 x2 x3 = some out → okk al 1 x0 = true → okk al 2 x1 = true → Wb p l e rm_Fg_someReferenceLacks s m args below meth c D cA ad L rs A (QI below args s D cA ad L rs A out) 7 10 [(0, .ref (ad x0)), (1, .ref (ad x1)), (2, .int x2), (3, .int x3)] [] u) : ∀ n : Nat, ∀ (u : Mr) (x0 : Nat) (x1 : Nat) (x2 : Int32) (x3 : Int32) (x4 : Nat) (x5 : Int32), bk_Fg_someReferenceLacks_23 F al k10 n u x0 x1 x2 x3 x4 x5 = some out → okk al 1 x0 = true → okk al 2 x1 = true → okk al 14 x4 = true → Wb p l e rm_Fg_someReferenceLacks s m args below meth c D cA ad L rs A (QI below args s D cA ad L rs A out) 7 23 [(0, .ref (ad x0)), (1, .ref (ad x1)), (2, .int x2), (3, .int x3), (4, .ref (ad x4)), (5, .int x5)] [] u := by
  obtain ⟨hx, hb, hml, hown, hts, hr, hlocks, hK, hA, hD, hN, hal, hNx⟩ := cx
  intro n
  induction n with
  | zero =>
    intro u x0 x1 x2 x3 x4 x5 h
    cases h
  | succ n ih =>
    intro u x0 x1 x2 x3 x4 x5 h q0 q1 q4 H locs ls hl hP hS
    rw [bk_Fg_someReferenceLacks_23] at h
    refine lv_iload hx hb dFg_someReferenceLacks_23 (lv_at hl 5 rfl) ?_
    refine lv_aload hx hb dFg_someReferenceLacks_25 (lv_at hl 4 rfl) ?_
    obtain ⟨y1, hy2, h⟩ := bd1_some h
    obtain ⟨hy2a, hy2⟩ := rdR_some hy2
    refine x_getN hx hb hts in_Ob hown hK hP (hal _ (okk_al q4)) (okk_t q4) rfl rfl 1 (by decide) (nf_9 hNx) (fun _ h9 => h9) (congrArg some (x_rf hy2a)) dFg_someReferenceLacks_27 ?_
    obtain ⟨u3, v3, hc3, h⟩ := bd2_some h
    refine x_ci (u := u) (out := (u3, v3)) hA hD hS (va_runV (As := []) (rest := [.int x5]) ⟨hx, hb, hml, hown, hts⟩ (ct_Al_size hal hN F u y1 (u3, v3) hc3 hy2 _) ⟨callB_of 0 hts gdAl_size rfl rfl rfl (hts _ tw_9) (hts _ tw_402) hdAl_size ⟨Nat.le_of_ble_eq_true rfl, Nat.le_of_ble_eq_true rfl⟩, (hts _ tw_372), (hts _ tw_373)⟩ (x_preV hK hD hNx hP (hal _ (okk_al hy2)) (okk_t hy2) rfl rfl) rfl rfl hl.1 rfl (lv_room (Nat.le_of_ble_eq_true rfl)) dFg_someReferenceLacks_30 ⟨Nat.zero_le _, Nat.zero_le _⟩) (fun H locs hP hS => ?_)
    refine lv_icmp_ge (tgt := 83) hx hb dFg_someReferenceLacks_33 rfl (fun hc => ?_) (fun hc => ?_)
    · replace h := it_t h hc
      refine lv_iinc (k := 3) (v := x3 + (1 : Int32)) (lv' := [(3, .int (x3 + (1 : Int32))), (0, .ref (ad x0)), (1, .ref (ad x1)), (2, .int x2), (4, .ref (ad x4)), (5, .int x5)]) hx hb dFg_someReferenceLacks_83 hl rfl (congrArg (fun z => _ + z) (show Int32.ofInt 1 = 1 by decide)) (by decide) rfl (fun ls hl => ?_)
      refine lv_goto (tgt := 10) hx hb dFg_someReferenceLacks_86 rfl ?_
      exact hk10 u3 x0 x1 x2 (x3 + (1 : Int32)) h q0 q1 _ _ _ (lv_sub hl [1, 2, 3, 0] rfl) hP hS
    · replace h := it_f h hc
      refine lv_aload_n hx hb dFg_someReferenceLacks_36 rfl (lv_at hl 0 rfl) ?_
      obtain ⟨y4, hy5, h⟩ := bd1_some h
      obtain ⟨hy5a, hy5⟩ := rdR_some hy5
      refine x_get hx hb hts in_Fg hown hK hP (hal _ (okk_al q0)) (okk_t q0) rfl rfl 1 (by decide) (hts _ tw_200) (fun _ h9 => h9) (congrArg some (x_rf hy5a)) dFg_someReferenceLacks_37 ?_
      refine lv_aload hx hb dFg_someReferenceLacks_40 (lv_at hl 4 rfl) ?_
      obtain ⟨y6, hy7, h⟩ := bd1_some h
      obtain ⟨hy7a, hy7⟩ := rdR_some hy7
      refine x_getN hx hb hts in_Ob hown hK hP (hal _ (okk_al q4)) (okk_t q4) rfl rfl 1 (by decide) (nf_9 hNx) (fun _ h9 => h9) (congrArg some (x_rf hy7a)) dFg_someReferenceLacks_42 ?_
      refine lv_iload hx hb dFg_someReferenceLacks_45 (lv_at hl 5 rfl) ?_
      obtain ⟨u8, v8, hc8, h⟩ := bd2_some h
      refine x_cr (u := u3) (out := (u8, v8)) hA hD hS (va_runV (As := [.int x5]) (rest := [.ref (ad y4)]) ⟨hx, hb, hml, hown, hts⟩ (ct_Al_get hal hN F u3 y6 x5 (u8, v8) hc8 hy7 _) ⟨callB_of 1 hts gdAl_get rfl rfl rfl (hts _ tw_9) (hts _ tw_534) hdAl_get ⟨Nat.le_of_ble_eq_true rfl, Nat.le_of_ble_eq_true rfl⟩, (hts _ tw_376), (hts _ tw_377)⟩ (x_preV hK hD hNx hP (hal _ (okk_al hy7)) (okk_t hy7) rfl rfl) rfl rfl hl.1 rfl (lv_room (Nat.le_of_ble_eq_true rfl)) dFg_someReferenceLacks_47 ⟨Nat.zero_le _, Nat.zero_le _⟩) (fun H locs hP hS => ?_)
      obtain ⟨hq9, h⟩ := ck_some h
      refine x_cast hx hb hown (hts _ tw_404) hK hP (hal _ (okk_al hq9)) (okk_t hq9) rfl rfl dFg_someReferenceLacks_50 ?_
      obtain ⟨u10, v10, hc10, h⟩ := bd2_some h
      refine x_ci (u := u8) (out := (u10, v10)) hA hD hS (va_runV (As := []) (rest := [.ref (ad y4)]) ⟨hx, hb, hml, hown, hts⟩ (ct_Rf_name hal hN F u8 v8 (u10, v10) hc10 hq9 _) ⟨callB_of 0 hts gdRf_name rfl rfl rfl (hts _ tw_21) (hts _ tw_535) hdRf_name ⟨Nat.le_of_ble_eq_true rfl, Nat.le_of_ble_eq_true rfl⟩, (hts _ tw_536), (hts _ tw_537)⟩ (x_preV hK hD hNx hP (hal _ (okk_al hq9)) (okk_t hq9) rfl rfl) rfl rfl hl.1 rfl (lv_room (Nat.le_of_ble_eq_true rfl)) dFg_someReferenceLacks_53 ⟨Nat.zero_le _, Nat.zero_le _⟩) (fun H locs hP hS => ?_)
      obtain ⟨hi11, h⟩ := ck_some h
      obtain ⟨y12, hy13, h⟩ := bd1_some h
      obtain ⟨hy13a, hy13⟩ := rdR_some hy13
      refine x_aald hx hb hK hP (hal _ (okk_al hy5)) (okk_t hy5) 5 (fun _ _ _ => rfl) rfl rfl (inb_in hi11) hy13a dFg_someReferenceLacks_56 ?_
      refine lv_astore (lv' := [(6, .ref (ad y12)), (0, .ref (ad x0)), (1, .ref (ad x1)), (2, .int x2), (3, .int x3), (4, .ref (ad x4)), (5, .int x5)]) hx hb dFg_someReferenceLacks_57 hl (by decide) rfl (fun ls hl => ?_)
      refine lv_aload hx hb dFg_someReferenceLacks_59 (lv_at hl 0 rfl) ?_
      obtain ⟨u14, v14, hc14, h⟩ := bd2_some h
      refine x_ci (u := u10) (out := (u14, v14)) hA hD hS (va_runVN (As := []) (rest := []) ⟨hx, hb, hml, hown, hts⟩ (ct_Nm_isDefined hal hN F u10 y12 (u14, v14) hc14 hy13 _) ⟨va_cnB 0 hts gdNm_isDefined rfl rfl rfl (nn_16 hNx) (hts _ tw_10) hdNm_isDefined ⟨Nat.le_of_ble_eq_true rfl, Nat.le_of_ble_eq_true rfl⟩, (hts _ tw_519), (hts _ tp_13)⟩ (x_preV hK hD hNx hP (hal _ (okk_al hy13)) (okk_t hy13) rfl rfl) rfl rfl hl.1 rfl (lv_room (Nat.le_of_ble_eq_true rfl)) dFg_someReferenceLacks_61 ⟨Nat.zero_le _, Nat.zero_le _⟩) (fun H locs hP hS => ?_)
      refine lv_if_ne (tgt := 77) hx hb dFg_someReferenceLacks_64 rfl (fun hc => ?_) (fun hc => ?_)
      · replace h := it_f h hc
        exact wk_Fg_someReferenceLacks_77 ⟨hx, hb, hml, hown, hts, hr, hlocks, hK, hA, hD, hN, hal, hNx⟩ F out hk10 ih u14 x0 x1 x2 x3 x4 x5 h q0 q1 q4 _ _ _ (lv_sub hl [1, 2, 3, 4, 5, 6] rfl) hP hS
      · replace h := it_t h hc
        refine lv_aload hx hb dFg_someReferenceLacks_67 (lv_at hl 0 rfl) ?_
        obtain ⟨u15, v15, hc15, h⟩ := bd2_some h
        refine x_ci (u := u14) (out := (u15, v15)) hA hD hS (va_runVN (As := []) (rest := []) ⟨hx, hb, hml, hown, hts⟩ (ct_Nm_isImported hal hN F u14 y12 (u15, v15) hc15 hy13 _) ⟨va_cnB 0 hts gdNm_isImported rfl rfl rfl (nn_17 hNx) (hts _ tw_10) hdNm_isImported ⟨Nat.le_of_ble_eq_true rfl, Nat.le_of_ble_eq_true rfl⟩, (hts _ tw_523), (hts _ tp_14)⟩ (x_preV hK hD hNx hP (hal _ (okk_al hy13)) (okk_t hy13) rfl rfl) rfl rfl hl.1 rfl (lv_room (Nat.le_of_ble_eq_true rfl)) dFg_someReferenceLacks_69 ⟨Nat.zero_le _, Nat.zero_le _⟩) (fun H locs hP hS => ?_)
        refine lv_if_ne (tgt := 77) hx hb dFg_someReferenceLacks_72 rfl (fun hc => ?_) (fun hc => ?_)
        · replace h := it_f h hc
          exact wk_Fg_someReferenceLacks_77 ⟨hx, hb, hml, hown, hts, hr, hlocks, hK, hA, hD, hN, hal, hNx⟩ F out hk10 ih u15 x0 x1 x2 x3 x4 x5 h q0 q1 q4 _ _ _ (lv_sub hl [1, 2, 3, 4, 5, 6] rfl) hP hS
        · replace h := it_t h hc
          refine lv_iconst (v := 1) hx hb dFg_someReferenceLacks_75 (by decide) ?_
          exact x_zret hx hb hr hlocks rfl h hP hS dFg_someReferenceLacks_76
def bk_Fg_someReferenceLacks_10 (F : Nat) (al : Nat → Bool) : Nat → Mr → Nat → Nat → Int32 → Int32 → Option (Mr × Int32)
  | 0, _, _, _, _, _ => none
  | n + 1, u, x0, x1, x2, x3 => if x2 ≤ x3 then (some (u, (0 : Int32))) else (ck (inb x3 4) (bd1 (rdR al u x1 x3 14) fun y2 => (bk_Fg_someReferenceLacks_23 F al (bk_Fg_someReferenceLacks_10 F al n) F u x0 x1 x2 x3 y2 (0 : Int32))))
set_option maxHeartbeats 4000000 in
set_option maxRecDepth 100000 in
theorem wk_Fg_someReferenceLacks_10 (cx : Cx p l e s m args below meth c cFg_someReferenceLacks 7 bw "ImageForge" (some .boolean) D cA ad L rs al A) (F : Nat) (out : Mr × Int32) : ∀ n : Nat, ∀ (u : Mr) (x0 : Nat) (x1 : Nat) (x2 : Int32) (x3 : Int32), bk_Fg_someReferenceLacks_10 F al n u x0 x1 x2 x3 = some out → okk al 1 x0 = true → okk al 2 x1 = true → Wb p l e rm_Fg_someReferenceLacks s m args below meth c D cA ad L rs A (QI below args s D cA ad L rs A out) 7 10 [(0, .ref (ad x0)), (1, .ref (ad x1)), (2, .int x2), (3, .int x3)] [] u := by
  obtain ⟨hx, hb, hml, hown, hts, hr, hlocks, hK, hA, hD, hN, hal, hNx⟩ := cx
  intro n
  induction n with
  | zero =>
    intro u x0 x1 x2 x3 h
    cases h
  | succ n ih =>
    intro u x0 x1 x2 x3 h q0 q1 H locs ls hl hP hS
    rw [bk_Fg_someReferenceLacks_10] at h
    refine lv_iload_n hx hb dFg_someReferenceLacks_10 rfl (lv_at hl 3 rfl) ?_
    refine lv_iload_n hx hb dFg_someReferenceLacks_11 rfl (lv_at hl 2 rfl) ?_
    refine lv_icmp_ge (tgt := 89) hx hb dFg_someReferenceLacks_12 rfl (fun hc => ?_) (fun hc => ?_)
    · replace h := it_t h hc
      refine lv_iconst (v := 0) hx hb dFg_someReferenceLacks_89 (by decide) ?_
      exact x_zret hx hb hr hlocks rfl h hP hS dFg_someReferenceLacks_90
    · replace h := it_f h hc
      refine lv_aload_n hx hb dFg_someReferenceLacks_15 rfl (lv_at hl 1 rfl) ?_
      refine lv_iload_n hx hb dFg_someReferenceLacks_16 rfl (lv_at hl 3 rfl) ?_
      obtain ⟨hi1, h⟩ := ck_some h
      obtain ⟨y2, hy3, h⟩ := bd1_some h
      obtain ⟨hy3a, hy3⟩ := rdR_some hy3
      refine x_aald hx hb hK hP (hal _ (okk_al q1)) (okk_t q1) 4 (fun _ _ _ => rfl) rfl rfl (inb_in hi1) hy3a dFg_someReferenceLacks_17 ?_
      refine lv_astore (lv' := [(4, .ref (ad y2)), (0, .ref (ad x0)), (1, .ref (ad x1)), (2, .int x2), (3, .int x3)]) hx hb dFg_someReferenceLacks_18 hl (by decide) rfl (fun ls hl => ?_)
      refine lv_iconst (v := 0) hx hb dFg_someReferenceLacks_20 (by decide) ?_
      refine lv_istore (lv' := [(5, .int (0 : Int32)), (4, .ref (ad y2)), (0, .ref (ad x0)), (1, .ref (ad x1)), (2, .int x2), (3, .int x3)]) hx hb dFg_someReferenceLacks_21 hl (by decide) rfl (fun ls hl => ?_)
      exact wk_Fg_someReferenceLacks_23 ⟨hx, hb, hml, hown, hts, hr, hlocks, hK, hA, hD, hN, hal, hNx⟩ F out ih F u x0 x1 x2 x3 y2 (0 : Int32) h q0 q1 hy3 _ _ _ (lv_sub hl [2, 3, 4, 5, 1, 0] rfl) hP hS
def bk_Fg_someReferenceLacks_0 (F : Nat) (al : Nat → Bool) (u : Mr) (x0 : Nat) : Option (Mr × Int32) := bd1 (rdR al u x0 0 2) fun y1 => (bk_Fg_someReferenceLacks_10 F al F u x0 y1 (4 : Int32) (0 : Int32))
set_option maxHeartbeats 4000000 in
set_option maxRecDepth 100000 in
theorem wk_Fg_someReferenceLacks_0 (cx : Cx p l e s m args below meth c cFg_someReferenceLacks 7 bw "ImageForge" (some .boolean) D cA ad L rs al A) (F : Nat) (out : Mr × Int32) : ∀ (u : Mr) (x0 : Nat), bk_Fg_someReferenceLacks_0 F al u x0 = some out → okk al 1 x0 = true → Wb p l e rm_Fg_someReferenceLacks s m args below meth c D cA ad L rs A (QI below args s D cA ad L rs A out) 7 0 [(0, .ref (ad x0))] [] u := by
  obtain ⟨hx, hb, hml, hown, hts, hr, hlocks, hK, hA, hD, hN, hal, hNx⟩ := cx
  intro u x0 h q0 H locs ls hl hP hS
  unfold bk_Fg_someReferenceLacks_0 at h
  refine lv_aload_n hx hb dFg_someReferenceLacks_0 rfl (lv_at hl 0 rfl) ?_
  obtain ⟨y1, hy2, h⟩ := bd1_some h
  obtain ⟨hy2a, hy2⟩ := rdR_some hy2
  refine x_get hx hb hts in_Fg hown hK hP (hal _ (okk_al q0)) (okk_t q0) rfl rfl 0 (by decide) (hts _ tw_199) (fun _ h9 => h9) (congrArg some (x_rf hy2a)) dFg_someReferenceLacks_1 ?_
  refine lv_astore_n (lv' := [(1, .ref (ad y1)), (0, .ref (ad x0))]) hx hb dFg_someReferenceLacks_4 rfl hl (by decide) rfl (fun ls hl => ?_)
  refine lv_aload_n hx hb dFg_someReferenceLacks_5 rfl (lv_at hl 0 rfl) ?_
  refine x_alen hx hb hK hP (hal _ (okk_al hy2)) (okk_t hy2) 4 rfl rfl rfl (v := 4) rfl dFg_someReferenceLacks_6 ?_
  refine lv_istore_n (lv' := [(2, .int (4 : Int32)), (1, .ref (ad y1)), (0, .ref (ad x0))]) hx hb dFg_someReferenceLacks_7 rfl hl (by decide) rfl (fun ls hl => ?_)
  refine lv_iconst (v := 0) hx hb dFg_someReferenceLacks_8 (by decide) ?_
  refine lv_istore_n (lv' := [(3, .int (0 : Int32)), (2, .int (4 : Int32)), (1, .ref (ad y1)), (0, .ref (ad x0))]) hx hb dFg_someReferenceLacks_9 rfl hl (by decide) rfl (fun ls hl => ?_)
  exact wk_Fg_someReferenceLacks_10 ⟨hx, hb, hml, hown, hts, hr, hlocks, hK, hA, hD, hN, hal, hNx⟩ F out F u x0 y1 (4 : Int32) (0 : Int32) h q0 hy2 _ _ _ (lv_sub hl [3, 2, 1, 0] rfl) hP hS
def fn_Fg_someReferenceLacks (F : Nat) (al : Nat → Bool) (u : Mr) (x0 : Nat) : Option (Mr × Int32) := bk_Fg_someReferenceLacks_0 F al u x0
set_option maxHeartbeats 4000000 in
set_option maxRecDepth 100000 in
theorem ct_Fg_someReferenceLacks {l : Launch} {D : va_G} {cA : Nat → ClassId} {ad : Nat → Nat} {L : List Nat} {rs : va_W} {al : Nat → Bool} (hal : ∀ k, al k = true → k ∈ L) (hN : L.Nodup) (F : Nat) (u : Mr) (x0 : Nat) (out : Mr × Int32) (h : fn_Fg_someReferenceLacks F al u x0 = some out) (q0 : okk al 1 x0 = true) : CtI l yFg_someReferenceLacks wsFg_someReferenceLacks rm_Fg_someReferenceLacks [.ref (ad x0)] D cA ad L rs u out := by
  intro sz
  refine Met.ofW (cc := cFg_someReferenceLacks) (maxL := 7) (ret := (some .boolean)) (by decide) rfl ?_
  intro p e s m args below meth c s₁ B hml hv
  obtain ⟨rfl, hsz, hP, hK, hD0, hNx⟩ := hv
  subst hsz
  have hD := hD0.self (sz := s.heap.size)
  generalize hAe : va_A (ww ad cA L rs u) s.heap.size = A at hD ⊢
  have hA : ∀ q, s.heap.size ≤ q → A q := fun q h => by rw [← hAe]; exact Or.inr h
  have hl := lv_entry ([.ref (ad x0)]) (n := 7) (Nat.le_of_ble_eq_true rfl)
  rw [lg_entry_eq]
  generalize (lg_sl ([.ref (ad x0)]) ++ List.replicate (7 - (lg_sl ([.ref (ad x0)])).length) Slot.unset).toArray = ls at hl ⊢
  exact wk_Fg_someReferenceLacks_0 ⟨B.exec, B.bytes, hml, findClass_of_methodNamed B.named, hts_bw (atoms_spec (ws := wsFg_someReferenceLacks) B.pre), B.returns, B.notSynchronized, hK, hA, fun v => ww_D hD, hN, hal, hNx⟩ F out u x0 h q0 _ _ _ (lv_sub hl [0] rfl) hP va_S.rf
abbrev rm_Fg_at : Room := { frames := 2, cells := 0, slots := 0, locals := 42 }
def bk_Fg_at_0 (F : Nat) (al : Nat → Bool) (u : Mr) (x0 : Nat) (x1 : Int32) : Option (Mr × Int32) := bd1 (rdR al u x0 5 13) fun y1 => (bd2 (fn_Ld_byteAt F al u y1 x1) fun u3 v3 => (some (u3, v3)))
set_option maxHeartbeats 4000000 in
set_option maxRecDepth 100000 in
theorem wk_Fg_at_0 (cx : Cx p l e s m args below meth c cFg_at 2 bw "ImageForge" (some .int) D cA ad L rs al A) (F : Nat) (out : Mr × Int32) : ∀ (u : Mr) (x0 : Nat) (x1 : Int32), bk_Fg_at_0 F al u x0 x1 = some out → okk al 1 x0 = true → Wb p l e rm_Fg_at s m args below meth c D cA ad L rs A (QI below args s D cA ad L rs A out) 2 0 [(0, .ref (ad x0)), (1, .int x1)] [] u := by
  obtain ⟨hx, hb, hml, hown, hts, hr, hlocks, hK, hA, hD, hN, hal, hNx⟩ := cx
  intro u x0 x1 h q0 H locs ls hl hP hS
  unfold bk_Fg_at_0 at h
  refine lv_aload_n hx hb dFg_at_0 rfl (lv_at hl 0 rfl) ?_
  obtain ⟨y1, hy2, h⟩ := bd1_some h
  obtain ⟨hy2a, hy2⟩ := rdR_some hy2
  refine x_get hx hb hts in_Fg hown hK hP (hal _ (okk_al q0)) (okk_t q0) rfl rfl 5 (by decide) (hts _ tw_204) (fun _ h9 => h9) (congrArg some (x_rf hy2a)) dFg_at_1 ?_
  refine lv_iload_n hx hb dFg_at_4 rfl (lv_at hl 1 rfl) ?_
  obtain ⟨u3, v3, hc3, h⟩ := bd2_some h
  refine x_ci (u := u) (out := (u3, v3)) hA hD hS (va_runVN (As := [.int x1]) (rest := []) ⟨hx, hb, hml, hown, hts⟩ (ct_Ld_byteAt hal hN F u y1 x1 (u3, v3) hc3 hy2 _) ⟨va_cnB 1 hts gdLd_byteAt rfl rfl rfl (nn_7 hNx) (hts _ tw_4) hdLd_byteAt ⟨Nat.le_of_ble_eq_true rfl, Nat.le_of_ble_eq_true rfl⟩, (hts _ tw_224), (hts _ tp_0)⟩ (x_preV hK hD hNx hP (hal _ (okk_al hy2)) (okk_t hy2) rfl rfl) rfl rfl hl.1 rfl (lv_room (Nat.le_of_ble_eq_true rfl)) dFg_at_5 ⟨Nat.zero_le _, Nat.zero_le _⟩) (fun H locs hP hS => ?_)
  exact x_iret hx hb hr hlocks h hP hS dFg_at_8
def fn_Fg_at (F : Nat) (al : Nat → Bool) (u : Mr) (x0 : Nat) (x1 : Int32) : Option (Mr × Int32) := bk_Fg_at_0 F al u x0 x1
set_option maxHeartbeats 4000000 in
set_option maxRecDepth 100000 in
theorem ct_Fg_at {l : Launch} {D : va_G} {cA : Nat → ClassId} {ad : Nat → Nat} {L : List Nat} {rs : va_W} {al : Nat → Bool} (hal : ∀ k, al k = true → k ∈ L) (hN : L.Nodup) (F : Nat) (u : Mr) (x0 : Nat) (x1 : Int32) (out : Mr × Int32) (h : fn_Fg_at F al u x0 x1 = some out) (q0 : okk al 1 x0 = true) : CtI l yFg_at wsFg_at rm_Fg_at [.ref (ad x0), .int x1] D cA ad L rs u out := by
  intro sz
  refine Met.ofW (cc := cFg_at) (maxL := 2) (ret := (some .int)) (by decide) rfl ?_
  intro p e s m args below meth c s₁ B hml hv
  obtain ⟨rfl, hsz, hP, hK, hD0, hNx⟩ := hv
  subst hsz
  have hD := hD0.self (sz := s.heap.size)
  generalize hAe : va_A (ww ad cA L rs u) s.heap.size = A at hD ⊢
  have hA : ∀ q, s.heap.size ≤ q → A q := fun q h => by rw [← hAe]; exact Or.inr h
  have hl := lv_entry ([.ref (ad x0), .int x1]) (n := 2) (Nat.le_of_ble_eq_true rfl)
  rw [lg_entry_eq]
  generalize (lg_sl ([.ref (ad x0), .int x1]) ++ List.replicate (2 - (lg_sl ([.ref (ad x0), .int x1])).length) Slot.unset).toArray = ls at hl ⊢
  exact wk_Fg_at_0 ⟨B.exec, B.bytes, hml, findClass_of_methodNamed B.named, hts_bw (atoms_spec (ws := wsFg_at) B.pre), B.returns, B.notSynchronized, hK, hA, fun v => ww_D hD, hN, hal, hNx⟩ F out u x0 x1 h q0 _ _ _ (lv_sub hl [0, 1] rfl) hP va_S.rf
abbrev rm_Fg_find : Room := { frames := 2, cells := 0, slots := 0, locals := 46 }
def bk_Fg_find_0 (F : Nat) (al : Nat → Bool) (u : Mr) (x0 : Nat) (x1 : Int32) : Option (Mr × Int32) := bd1 (rdR al u x0 5 13) fun y1 => (bd2 (fn_Ld_addressOf F al u y1 x1) fun u3 v3 => (some (u3, v3)))
set_option maxHeartbeats 4000000 in
set_option maxRecDepth 100000 in
theorem wk_Fg_find_0 (cx : Cx p l e s m args below meth c cFg_find 2 bw "ImageForge" (some .int) D cA ad L rs al A) (F : Nat) (out : Mr × Int32) : ∀ (u : Mr) (x0 : Nat) (x1 : Int32), bk_Fg_find_0 F al u x0 x1 = some out → okk al 1 x0 = true → Wb p l e rm_Fg_find s m args below meth c D cA ad L rs A (QI below args s D cA ad L rs A out) 2 0 [(0, .ref (ad x0)), (1, .int x1)] [] u := by
  obtain ⟨hx, hb, hml, hown, hts, hr, hlocks, hK, hA, hD, hN, hal, hNx⟩ := cx
  intro u x0 x1 h q0 H locs ls hl hP hS
  unfold bk_Fg_find_0 at h
  refine lv_aload_n hx hb dFg_find_0 rfl (lv_at hl 0 rfl) ?_
  obtain ⟨y1, hy2, h⟩ := bd1_some h
  obtain ⟨hy2a, hy2⟩ := rdR_some hy2
  refine x_get hx hb hts in_Fg hown hK hP (hal _ (okk_al q0)) (okk_t q0) rfl rfl 5 (by decide) (hts _ tw_204) (fun _ h9 => h9) (congrArg some (x_rf hy2a)) dFg_find_1 ?_
  refine lv_iload_n hx hb dFg_find_4 rfl (lv_at hl 1 rfl) ?_
  obtain ⟨u3, v3, hc3, h⟩ := bd2_some h
  refine x_ci (u := u) (out := (u3, v3)) hA hD hS (va_runVN (As := [.int x1]) (rest := []) ⟨hx, hb, hml, hown, hts⟩ (ct_Ld_addressOf hal hN F u y1 x1 (u3, v3) hc3 hy2 _) ⟨va_cnB 1 hts gdLd_addressOf rfl rfl rfl (nn_9 hNx) (hts _ tw_4) hdLd_addressOf ⟨Nat.le_of_ble_eq_true rfl, Nat.le_of_ble_eq_true rfl⟩, (hts _ tw_236), (hts _ tp_2)⟩ (x_preV hK hD hNx hP (hal _ (okk_al hy2)) (okk_t hy2) rfl rfl) rfl rfl hl.1 rfl (lv_room (Nat.le_of_ble_eq_true rfl)) dFg_find_5 ⟨Nat.zero_le _, Nat.zero_le _⟩) (fun H locs hP hS => ?_)
  exact x_iret hx hb hr hlocks h hP hS dFg_find_8
def fn_Fg_find (F : Nat) (al : Nat → Bool) (u : Mr) (x0 : Nat) (x1 : Int32) : Option (Mr × Int32) := bk_Fg_find_0 F al u x0 x1
set_option maxHeartbeats 4000000 in
set_option maxRecDepth 100000 in
theorem ct_Fg_find {l : Launch} {D : va_G} {cA : Nat → ClassId} {ad : Nat → Nat} {L : List Nat} {rs : va_W} {al : Nat → Bool} (hal : ∀ k, al k = true → k ∈ L) (hN : L.Nodup) (F : Nat) (u : Mr) (x0 : Nat) (x1 : Int32) (out : Mr × Int32) (h : fn_Fg_find F al u x0 x1 = some out) (q0 : okk al 1 x0 = true) : CtI l yFg_find wsFg_find rm_Fg_find [.ref (ad x0), .int x1] D cA ad L rs u out := by
  intro sz
  refine Met.ofW (cc := cFg_find) (maxL := 2) (ret := (some .int)) (by decide) rfl ?_
  intro p e s m args below meth c s₁ B hml hv
  obtain ⟨rfl, hsz, hP, hK, hD0, hNx⟩ := hv
  subst hsz
  have hD := hD0.self (sz := s.heap.size)
  generalize hAe : va_A (ww ad cA L rs u) s.heap.size = A at hD ⊢
  have hA : ∀ q, s.heap.size ≤ q → A q := fun q h => by rw [← hAe]; exact Or.inr h
  have hl := lv_entry ([.ref (ad x0), .int x1]) (n := 2) (Nat.le_of_ble_eq_true rfl)
  rw [lg_entry_eq]
  generalize (lg_sl ([.ref (ad x0), .int x1]) ++ List.replicate (2 - (lg_sl ([.ref (ad x0), .int x1])).length) Slot.unset).toArray = ls at hl ⊢
  exact wk_Fg_find_0 ⟨B.exec, B.bytes, hml, findClass_of_methodNamed B.named, hts_bw (atoms_spec (ws := wsFg_find) B.pre), B.returns, B.notSynchronized, hK, hA, fun v => ww_D hD, hN, hal, hNx⟩ F out u x0 x1 h q0 _ _ _ (lv_sub hl [0, 1] rfl) hP va_S.rf
end

abbrev yLd_relocateBlock : MethodName := ⟨"ImageForge$Loader", "relocateBlock", "(LImageForge$Image;III)Z"⟩
abbrev cLd_relocateBlock : ByteArray := prog_4_method_7_code
abbrev wsLd_relocateBlock : List Cond := .code yLd_relocateBlock cLd_relocateBlock 11 (some .boolean) :: bw
theorem gdLd_relocateBlock : GoodIn bw wsLd_relocateBlock := gd_of tw_758
theorem hdLd_relocateBlock : yLd_relocateBlock.cls ≠ "java/lang/invoke/MethodHandle" ∧ yLd_relocateBlock.cls ≠ "java/lang/invoke/VarHandle" ∧ (parseMethodDescriptor yLd_relocateBlock.desc).map (fun d => d.parameters.length) = some 4 := by decide +kernel
theorem dLd_relocateBlock_0 : decode cLd_relocateBlock 0 = .ok (.aload_n 1, 1) := by decide +kernel
theorem dLd_relocateBlock_1 : decode cLd_relocateBlock 1 = .ok (.iload_n 2, 1) := by decide +kernel
theorem dLd_relocateBlock_2 : decode cLd_relocateBlock 2 = .ok (.invokevirtual 50, 3) := by decide +kernel
theorem dLd_relocateBlock_5 : decode cLd_relocateBlock 5 = .ok (.istore 5, 2) := by decide +kernel
theorem dLd_relocateBlock_7 : decode cLd_relocateBlock 7 = .ok (.iload 5, 2) := by decide +kernel
theorem dLd_relocateBlock_9 : decode cLd_relocateBlock 9 = .ok (.ifCond .lt 11, 3) := by decide +kernel
theorem dLd_relocateBlock_12 : decode cLd_relocateBlock 12 = .ok (.iload 5, 2) := by decide +kernel
theorem dLd_relocateBlock_14 : decode cLd_relocateBlock 14 = .ok (.bipush 64, 2) := by decide +kernel
theorem dLd_relocateBlock_16 : decode cLd_relocateBlock 16 = .ok (.irem, 1) := by decide +kernel
theorem dLd_relocateBlock_17 : decode cLd_relocateBlock 17 = .ok (.ifCond .eq 5, 3) := by decide +kernel
theorem dLd_relocateBlock_20 : decode cLd_relocateBlock 20 = .ok (.iconst 0, 1) := by decide +kernel
theorem dLd_relocateBlock_21 : decode cLd_relocateBlock 21 = .ok (.ireturn, 1) := by decide +kernel
theorem dLd_relocateBlock_22 : decode cLd_relocateBlock 22 = .ok (.iload_n 2, 1) := by decide +kernel
theorem dLd_relocateBlock_23 : decode cLd_relocateBlock 23 = .ok (.bipush 8, 2) := by decide +kernel
theorem dLd_relocateBlock_25 : decode cLd_relocateBlock 25 = .ok (.iadd, 1) := by decide +kernel
theorem dLd_relocateBlock_26 : decode cLd_relocateBlock 26 = .ok (.istore 6, 2) := by decide +kernel
theorem dLd_relocateBlock_28 : decode cLd_relocateBlock 28 = .ok (.iload 6, 2) := by decide +kernel
theorem dLd_relocateBlock_30 : decode cLd_relocateBlock 30 = .ok (.iload_n 3, 1) := by decide +kernel
theorem dLd_relocateBlock_31 : decode cLd_relocateBlock 31 = .ok (.if_icmp .ge 76, 3) := by decide +kernel
theorem dLd_relocateBlock_34 : decode cLd_relocateBlock 34 = .ok (.aload_n 1, 1) := by decide +kernel
theorem dLd_relocateBlock_35 : decode cLd_relocateBlock 35 = .ok (.iload 6, 2) := by decide +kernel
theorem dLd_relocateBlock_37 : decode cLd_relocateBlock 37 = .ok (.invokevirtual 79, 3) := by decide +kernel
theorem dLd_relocateBlock_40 : decode cLd_relocateBlock 40 = .ok (.istore 7, 2) := by decide +kernel
theorem dLd_relocateBlock_42 : decode cLd_relocateBlock 42 = .ok (.iload 7, 2) := by decide +kernel
theorem dLd_relocateBlock_44 : decode cLd_relocateBlock 44 = .ok (.bipush 12, 2) := by decide +kernel
theorem dLd_relocateBlock_46 : decode cLd_relocateBlock 46 = .ok (.ishr, 1) := by decide +kernel
theorem dLd_relocateBlock_47 : decode cLd_relocateBlock 47 = .ok (.istore 8, 2) := by decide +kernel
theorem dLd_relocateBlock_49 : decode cLd_relocateBlock 49 = .ok (.iload 8, 2) := by decide +kernel
theorem dLd_relocateBlock_51 : decode cLd_relocateBlock 51 = .ok (.iconst 3, 1) := by decide +kernel
theorem dLd_relocateBlock_52 : decode cLd_relocateBlock 52 = .ok (.if_icmp .ne 42, 3) := by decide +kernel
theorem dLd_relocateBlock_55 : decode cLd_relocateBlock 55 = .ok (.iload 5, 2) := by decide +kernel
theorem dLd_relocateBlock_57 : decode cLd_relocateBlock 57 = .ok (.i2l, 1) := by decide +kernel
theorem dLd_relocateBlock_58 : decode cLd_relocateBlock 58 = .ok (.iload 7, 2) := by decide +kernel
theorem dLd_relocateBlock_60 : decode cLd_relocateBlock 60 = .ok (.sipush 4095, 3) := by decide +kernel
theorem dLd_relocateBlock_63 : decode cLd_relocateBlock 63 = .ok (.iand, 1) := by decide +kernel
theorem dLd_relocateBlock_64 : decode cLd_relocateBlock 64 = .ok (.i2l, 1) := by decide +kernel
theorem dLd_relocateBlock_65 : decode cLd_relocateBlock 65 = .ok (.ladd, 1) := by decide +kernel
theorem dLd_relocateBlock_66 : decode cLd_relocateBlock 66 = .ok (.lstore 9, 2) := by decide +kernel
theorem dLd_relocateBlock_68 : decode cLd_relocateBlock 68 = .ok (.aload_n 1, 1) := by decide +kernel
theorem dLd_relocateBlock_69 : decode cLd_relocateBlock 69 = .ok (.lload 9, 2) := by decide +kernel
theorem dLd_relocateBlock_71 : decode cLd_relocateBlock 71 = .ok (.invokevirtual 82, 3) := by decide +kernel
theorem dLd_relocateBlock_74 : decode cLd_relocateBlock 74 = .ok (.ifCond .ne 5, 3) := by decide +kernel
theorem dLd_relocateBlock_77 : decode cLd_relocateBlock 77 = .ok (.iconst 0, 1) := by decide +kernel
theorem dLd_relocateBlock_78 : decode cLd_relocateBlock 78 = .ok (.ireturn, 1) := by decide +kernel
theorem dLd_relocateBlock_79 : decode cLd_relocateBlock 79 = .ok (.aload_n 0, 1) := by decide +kernel
theorem dLd_relocateBlock_80 : decode cLd_relocateBlock 80 = .ok (.getfield 18, 3) := by decide +kernel
theorem dLd_relocateBlock_83 : decode cLd_relocateBlock 83 = .ok (.lload 9, 2) := by decide +kernel
theorem dLd_relocateBlock_85 : decode cLd_relocateBlock 85 = .ok (.l2i, 1) := by decide +kernel
theorem dLd_relocateBlock_86 : decode cLd_relocateBlock 86 = .ok (.iload 4, 2) := by decide +kernel
theorem dLd_relocateBlock_88 : decode cLd_relocateBlock 88 = .ok (.invokevirtual 86, 3) := by decide +kernel
theorem dLd_relocateBlock_91 : decode cLd_relocateBlock 91 = .ok (.goto 10, 3) := by decide +kernel
theorem dLd_relocateBlock_94 : decode cLd_relocateBlock 94 = .ok (.iload 8, 2) := by decide +kernel
theorem dLd_relocateBlock_96 : decode cLd_relocateBlock 96 = .ok (.ifCond .eq 5, 3) := by decide +kernel
theorem dLd_relocateBlock_99 : decode cLd_relocateBlock 99 = .ok (.iconst 0, 1) := by decide +kernel
theorem dLd_relocateBlock_100 : decode cLd_relocateBlock 100 = .ok (.ireturn, 1) := by decide +kernel
theorem dLd_relocateBlock_101 : decode cLd_relocateBlock 101 = .ok (.iinc 6 2, 3) := by decide +kernel
theorem dLd_relocateBlock_104 : decode cLd_relocateBlock 104 = .ok (.goto (-76), 3) := by decide +kernel
theorem dLd_relocateBlock_107 : decode cLd_relocateBlock 107 = .ok (.iconst 1, 1) := by decide +kernel
theorem dLd_relocateBlock_108 : decode cLd_relocateBlock 108 = .ok (.ireturn, 1) := by decide +kernel
section
variable {p : Program} {l : Launch} {e : Env} {s : State} {m : MethodId} {args : Array Value} {below : List Frame} {meth : Method} {c : Code} {D : va_G} {cA : Nat → ClassId} {ad : Nat → Nat} {L : List Nat} {rs : va_W} {al : Nat → Bool} {A : Nat → Prop}
abbrev rm_Ld_relocateBlock : Room := { frames := 2, cells := 0, slots := 0, locals := 45 }
def bk_Ld_relocateBlock_101 (F : Nat) (al : Nat → Bool) (k28 : Mr → Nat → Nat → Int32 → Int32 → Int32 → Int32 → Option (Mr × Int32)) (u : Mr) (x0 : Nat) (x1 : Nat) (x3 : Int32) (x4 : Int32) (x5 : Int32) (x6 : Int32) : Option (Mr × Int32) := k28 u x0 x1 x3 x4 x5 (x6 + (2 : Int32))
set_option maxHeartbeats 4000000 in
set_option maxRecDepth 100000 in
theorem wk_Ld_relocateBlock_101 (cx : Cx p l e s m args below meth c cLd_relocateBlock 11 bw "ImageForge$Loader" (some .boolean) D cA ad L rs al A) (F : Nat) (out : Mr × Int32) {k28 : Mr → Nat → Nat → Int32 → Int32 → Int32 → Int32 → Option (Mr × Int32)} (hk28 : ∀ (u : Mr) (x0 : Nat) (x1 : Nat) (x3 : Int32) (x4 : Int32) (x5 : Int32) (x6 : Int32), k28 u x0 x1 x3 x4 x5 x6 = some out → okk al 13 x0 = true → okk al 6 x1 = true → Wb p l e rm_Ld_relocateBlock s m args below meth c D cA ad L rs A (QI below args s D cA ad L rs A out) 11 28 [(0, .ref (ad x0)), (1, .ref (ad x1)), (3, .int x3), (4, .int x4), (5, .int x5), (6, .int x6)] [] u) : ∀ (u : Mr) (x0 : Nat) (x1 : Nat) (x3 : Int32) (x4 : Int32) (x5 : Int32) (x6 : Int32), bk_Ld_relocateBlock_101 F al k28 u x0 x1 x3 x4 x5 x6 = some out → okk al 13 x0 = true → okk al 6 x1 = true → Wb p l e rm_Ld_relocateBlock s m args below meth c D cA ad L rs A (QI below args s D cA ad L rs A out) 11 101 [(0, .ref (ad x0)), (1, .ref (ad x1)), (3, .int x3), (4, .int x4), (5, .int x5), (6, .int x6)] [] u := by
  obtain ⟨hx, hb, hml, hown, hts, hr, hlocks, hK, hA, hD, hN, hal, hNx⟩ := cx
  intro u x0 x1 x3 x4 x5 x6 h q0 q1 H locs ls hl hP hS
  unfold bk_Ld_relocateBlock_101 at h
  refine lv_iinc (k := 5) (v := x6 + (2 : Int32)) (lv' := [(6, .int (x6 + (2 : Int32))), (0, .ref (ad x0)), (1, .ref (ad x1)), (3, .int x3), (4, .int x4), (5, .int x5)]) hx hb dLd_relocateBlock_101 hl rfl (congrArg (fun z => _ + z) (show Int32.ofInt 2 = 2 by decide)) (by decide) rfl (fun ls hl => ?_)
  refine lv_goto (tgt := 28) hx hb dLd_relocateBlock_104 rfl ?_
  exact hk28 u x0 x1 x3 x4 x5 (x6 + (2 : Int32)) h q0 q1 _ _ _ (lv_sub hl [1, 2, 3, 4, 5, 0] rfl) hP hS
def bk_Ld_relocateBlock_28 (F : Nat) (al : Nat → Bool) : Nat → Mr → Nat → Nat → Int32 → Int32 → Int32 → Int32 → Option (Mr × Int32)
  | 0, _, _, _, _, _, _, _ => none
  | n + 1, u, x0, x1, x3, x4, x5, x6 => if x3 ≤ x6 then (some (u, (1 : Int32))) else (bd2 (fn_Im_halfAt F al u x1 x6) fun u1 v1 => (if (v1 >>> ((12 : Int32) &&& 31)) = (3 : Int32) then (bd2 (fn_Im_holdsWord F al u1 x1 (x5.toInt64 + ((v1 &&& (4095 : Int32)).toInt64))) fun u2 v2 => (if v2 = 0 then (some (u2, (0 : Int32))) else (bd1 (rdR al u2 x0 1 6) fun y3 => (bd2 (fn_Im_addToWord F al u2 y3 ((x5.toInt64 + ((v1 &&& (4095 : Int32)).toInt64)).toInt32) x4) fun u5 v5 => (bk_Ld_relocateBlock_101 F al (bk_Ld_relocateBlock_28 F al n) u5 x0 x1 x3 x4 x5 x6))))) else (if (v1 >>> ((12 : Int32) &&& 31)) = 0 then (bk_Ld_relocateBlock_101 F al (bk_Ld_relocateBlock_28 F al n) u1 x0 x1 x3 x4 x5 x6) else (some (u1, (0 : Int32))))))
set_option maxHeartbeats 4000000 in
set_option maxRecDepth 100000 in
theorem wk_Ld_relocateBlock_28 (cx : Cx p l e s m args below meth c cLd_relocateBlock 11 bw "ImageForge$Loader" (some .boolean) D cA ad L rs al A) (F : Nat) (out : Mr × Int32) : ∀ n : Nat, ∀ (u : Mr) (x0 : Nat) (x1 : Nat) (x3 : Int32) (x4 : Int32) (x5 : Int32) (x6 : Int32), bk_Ld_relocateBlock_28 F al n u x0 x1 x3 x4 x5 x6 = some out → okk al 13 x0 = true → okk al 6 x1 = true → Wb p l e rm_Ld_relocateBlock s m args below meth c D cA ad L rs A (QI below args s D cA ad L rs A out) 11 28 [(0, .ref (ad x0)), (1, .ref (ad x1)), (3, .int x3), (4, .int x4), (5, .int x5), (6, .int x6)] [] u := by
  obtain ⟨hx, hb, hml, hown, hts, hr, hlocks, hK, hA, hD, hN, hal, hNx⟩ := cx
  intro n
  induction n with
  | zero =>
    intro u x0 x1 x3 x4 x5 x6 h
    cases h
  | succ n ih =>
    intro u x0 x1 x3 x4 x5 x6 h q0 q1 H locs ls hl hP hS
    rw [bk_Ld_relocateBlock_28] at h
    refine lv_iload hx hb dLd_relocateBlock_28 (lv_at hl 5 rfl) ?_
    refine lv_iload_n hx hb dLd_relocateBlock_30 rfl (lv_at hl 2 rfl) ?_
    refine lv_icmp_ge (tgt := 107) hx hb dLd_relocateBlock_31 rfl (fun hc => ?_) (fun hc => ?_)
    · replace h := it_t h hc
      refine lv_iconst (v := 1) hx hb dLd_relocateBlock_107 (by decide) ?_
      exact x_zret hx hb hr hlocks rfl h hP hS dLd_relocateBlock_108
    · replace h := it_f h hc
      refine lv_aload_n hx hb dLd_relocateBlock_34 rfl (lv_at hl 1 rfl) ?_
      refine lv_iload hx hb dLd_relocateBlock_35 (lv_at hl 5 rfl) ?_
      obtain ⟨u1, v1, hc1, h⟩ := bd2_some h
      refine x_ci (u := u) (out := (u1, v1)) hA hD hS (va_runVN (As := [.int x6]) (rest := []) ⟨hx, hb, hml, hown, hts⟩ (ct_Im_halfAt hal hN F u x1 x6 (u1, v1) hc1 q1 _) ⟨va_cnB 1 hts gdIm_halfAt rfl rfl rfl (nn_39 hNx) (hts _ tw_2) hdIm_halfAt ⟨Nat.le_of_ble_eq_true rfl, Nat.le_of_ble_eq_true rfl⟩, (hts _ tw_661), (hts _ tp_36)⟩ (x_preV hK hD hNx hP (hal _ (okk_al q1)) (okk_t q1) rfl rfl) rfl rfl hl.1 rfl (lv_room (Nat.le_of_ble_eq_true rfl)) dLd_relocateBlock_37 ⟨Nat.zero_le _, Nat.zero_le _⟩) (fun H locs hP hS => ?_)
      refine lv_istore (lv' := [(7, .int v1), (0, .ref (ad x0)), (1, .ref (ad x1)), (3, .int x3), (4, .int x4), (5, .int x5), (6, .int x6)]) hx hb dLd_relocateBlock_40 hl (by decide) rfl (fun ls hl => ?_)
      refine lv_iload hx hb dLd_relocateBlock_42 (lv_at hl 0 rfl) ?_
      refine lv_bipush (v := 12) hx hb dLd_relocateBlock_44 (by decide) ?_
      refine lv_ishr hx hb dLd_relocateBlock_46 ?_
      refine lv_istore (lv' := [(8, .int (v1 >>> ((12 : Int32) &&& 31))), (7, .int v1), (0, .ref (ad x0)), (1, .ref (ad x1)), (3, .int x3), (4, .int x4), (5, .int x5), (6, .int x6)]) hx hb dLd_relocateBlock_47 hl (by decide) rfl (fun ls hl => ?_)
      refine lv_iload hx hb dLd_relocateBlock_49 (lv_at hl 0 rfl) ?_
      refine lv_iconst (v := 3) hx hb dLd_relocateBlock_51 (by decide) ?_
      refine lv_icmp_ne (tgt := 94) hx hb dLd_relocateBlock_52 rfl (fun hc => ?_) (fun hc => ?_)
      · replace h := it_f h hc
        refine lv_iload hx hb dLd_relocateBlock_94 (lv_at hl 0 rfl) ?_
        refine lv_if_eq (tgt := 101) hx hb dLd_relocateBlock_96 rfl (fun hc => ?_) (fun hc => ?_)
        · replace h := it_t h hc
          exact wk_Ld_relocateBlock_101 ⟨hx, hb, hml, hown, hts, hr, hlocks, hK, hA, hD, hN, hal, hNx⟩ F out ih u1 x0 x1 x3 x4 x5 x6 h q0 q1 _ _ _ (lv_sub hl [2, 3, 4, 5, 6, 7] rfl) hP hS
        · replace h := it_f h hc
          refine lv_iconst (v := 0) hx hb dLd_relocateBlock_99 (by decide) ?_
          exact x_zret hx hb hr hlocks rfl h hP hS dLd_relocateBlock_100
      · replace h := it_t h hc
        refine lv_iload hx hb dLd_relocateBlock_55 (lv_at hl 6 rfl) ?_
        refine lv_i2l (v := x5.toInt64) hx hb dLd_relocateBlock_57 rfl ?_
        refine lv_iload hx hb dLd_relocateBlock_58 (lv_at hl 1 rfl) ?_
        refine lv_sipush (v := 4095) hx hb dLd_relocateBlock_60 (by decide) ?_
        refine lv_iand hx hb dLd_relocateBlock_63 ?_
        refine lv_i2l (v := (v1 &&& (4095 : Int32)).toInt64) hx hb dLd_relocateBlock_64 rfl ?_
        refine lv_ladd hx hb dLd_relocateBlock_65 ?_
        refine lv_lstore (lv' := [(9, .long (x5.toInt64 + ((v1 &&& (4095 : Int32)).toInt64))), (8, .int (v1 >>> ((12 : Int32) &&& 31))), (7, .int v1), (0, .ref (ad x0)), (1, .ref (ad x1)), (3, .int x3), (4, .int x4), (5, .int x5), (6, .int x6)]) hx hb dLd_relocateBlock_66 hl (by decide) rfl (fun ls hl => ?_)
        refine lv_aload_n hx hb dLd_relocateBlock_68 rfl (lv_at hl 4 rfl) ?_
        refine lv_lload hx hb dLd_relocateBlock_69 (lv_at hl 0 rfl) ?_
        obtain ⟨u2, v2, hc2, h⟩ := bd2_some h
        refine x_ci (u := u1) (out := (u2, v2)) hA hD hS (va_runVN (As := [.long (x5.toInt64 + ((v1 &&& (4095 : Int32)).toInt64))]) (rest := []) ⟨hx, hb, hml, hown, hts⟩ (ct_Im_holdsWord hal hN F u1 x1 (x5.toInt64 + ((v1 &&& (4095 : Int32)).toInt64)) (u2, v2) hc2 q1 _) ⟨va_cnB 1 hts gdIm_holdsWord rfl rfl rfl (nn_40 hNx) (hts _ tw_2) hdIm_holdsWord ⟨Nat.le_of_ble_eq_true rfl, Nat.le_of_ble_eq_true rfl⟩, (hts _ tw_762), (hts _ tp_49)⟩ (x_preV hK hD hNx hP (hal _ (okk_al q1)) (okk_t q1) rfl rfl) rfl rfl hl.1 rfl (lv_room (Nat.le_of_ble_eq_true rfl)) dLd_relocateBlock_71 ⟨Nat.zero_le _, Nat.zero_le _⟩) (fun H locs hP hS => ?_)
        refine lv_if_ne (tgt := 79) hx hb dLd_relocateBlock_74 rfl (fun hc => ?_) (fun hc => ?_)
        · replace h := it_f h hc
          refine lv_aload_n hx hb dLd_relocateBlock_79 rfl (lv_at hl 3 rfl) ?_
          obtain ⟨y3, hy4, h⟩ := bd1_some h
          obtain ⟨hy4a, hy4⟩ := rdR_some hy4
          refine x_get hx hb hts in_Ld hown hK hP (hal _ (okk_al q0)) (okk_t q0) rfl rfl 1 (by decide) (hts _ tw_87) (fun _ h9 => h9) (congrArg some (x_rf hy4a)) dLd_relocateBlock_80 ?_
          refine lv_lload hx hb dLd_relocateBlock_83 (lv_at hl 0 rfl) ?_
          refine lv_l2i (v := (x5.toInt64 + ((v1 &&& (4095 : Int32)).toInt64)).toInt32) hx hb dLd_relocateBlock_85 rfl ?_
          refine lv_iload hx hb dLd_relocateBlock_86 (lv_at hl 6 rfl) ?_
          obtain ⟨u5, v5, hc5, h⟩ := bd2_some h
          refine x_cv (u := u2) (out := (u5, v5)) hA hD hS (va_runVN (As := [.int ((x5.toInt64 + ((v1 &&& (4095 : Int32)).toInt64)).toInt32), .int x4]) (rest := []) ⟨hx, hb, hml, hown, hts⟩ (ct_Im_addToWord hal hN F u2 y3 ((x5.toInt64 + ((v1 &&& (4095 : Int32)).toInt64)).toInt32) x4 (u5, v5) hc5 hy4 _) ⟨va_cnB 2 hts gdIm_addToWord rfl rfl rfl (nn_41 hNx) (hts _ tw_2) hdIm_addToWord ⟨Nat.le_of_ble_eq_true rfl, Nat.le_of_ble_eq_true rfl⟩, (hts _ tw_635), (hts _ tp_30)⟩ (x_preV hK hD hNx hP (hal _ (okk_al hy4)) (okk_t hy4) rfl rfl) rfl rfl hl.1 rfl (lv_room (Nat.le_of_ble_eq_true rfl)) dLd_relocateBlock_88 ⟨Nat.zero_le _, Nat.zero_le _⟩) (fun H locs hP hS => ?_)
          refine lv_goto (tgt := 101) hx hb dLd_relocateBlock_91 rfl ?_
          exact wk_Ld_relocateBlock_101 ⟨hx, hb, hml, hown, hts, hr, hlocks, hK, hA, hD, hN, hal, hNx⟩ F out ih u5 x0 x1 x3 x4 x5 x6 h q0 q1 _ _ _ (lv_sub hl [3, 4, 5, 6, 7, 8] rfl) hP hS
        · replace h := it_t h hc
          refine lv_iconst (v := 0) hx hb dLd_relocateBlock_77 (by decide) ?_
          exact x_zret hx hb hr hlocks rfl h hP hS dLd_relocateBlock_78
def bk_Ld_relocateBlock_0 (F : Nat) (al : Nat → Bool) (u : Mr) (x0 : Nat) (x1 : Nat) (x2 : Int32) (x3 : Int32) (x4 : Int32) : Option (Mr × Int32) := bd2 (fn_Im_wordAt F al u x1 x2) fun u1 v1 => (if v1 < 0 then (some (u1, (0 : Int32))) else (if (v1 - v1 / (64 : Int32) * (64 : Int32)) = 0 then (bk_Ld_relocateBlock_28 F al F u1 x0 x1 x3 x4 v1 (x2 + (8 : Int32))) else (some (u1, (0 : Int32)))))
set_option maxHeartbeats 4000000 in
set_option maxRecDepth 100000 in
theorem wk_Ld_relocateBlock_0 (cx : Cx p l e s m args below meth c cLd_relocateBlock 11 bw "ImageForge$Loader" (some .boolean) D cA ad L rs al A) (F : Nat) (out : Mr × Int32) : ∀ (u : Mr) (x0 : Nat) (x1 : Nat) (x2 : Int32) (x3 : Int32) (x4 : Int32), bk_Ld_relocateBlock_0 F al u x0 x1 x2 x3 x4 = some out → okk al 13 x0 = true → okk al 6 x1 = true → Wb p l e rm_Ld_relocateBlock s m args below meth c D cA ad L rs A (QI below args s D cA ad L rs A out) 11 0 [(0, .ref (ad x0)), (1, .ref (ad x1)), (2, .int x2), (3, .int x3), (4, .int x4)] [] u := by
  obtain ⟨hx, hb, hml, hown, hts, hr, hlocks, hK, hA, hD, hN, hal, hNx⟩ := cx
  intro u x0 x1 x2 x3 x4 h q0 q1 H locs ls hl hP hS
  unfold bk_Ld_relocateBlock_0 at h
  refine lv_aload_n hx hb dLd_relocateBlock_0 rfl (lv_at hl 1 rfl) ?_
  refine lv_iload_n hx hb dLd_relocateBlock_1 rfl (lv_at hl 2 rfl) ?_
  obtain ⟨u1, v1, hc1, h⟩ := bd2_some h
  refine x_ci (u := u) (out := (u1, v1)) hA hD hS (va_runVN (As := [.int x2]) (rest := []) ⟨hx, hb, hml, hown, hts⟩ (ct_Im_wordAt hal hN F u x1 x2 (u1, v1) hc1 q1 _) ⟨va_cnB 1 hts gdIm_wordAt rfl rfl rfl (nn_10 hNx) (hts _ tw_2) hdIm_wordAt ⟨Nat.le_of_ble_eq_true rfl, Nat.le_of_ble_eq_true rfl⟩, (hts _ tw_240), (hts _ tp_3)⟩ (x_preV hK hD hNx hP (hal _ (okk_al q1)) (okk_t q1) rfl rfl) rfl rfl hl.1 rfl (lv_room (Nat.le_of_ble_eq_true rfl)) dLd_relocateBlock_2 ⟨Nat.zero_le _, Nat.zero_le _⟩) (fun H locs hP hS => ?_)
  refine lv_istore (lv' := [(5, .int v1), (0, .ref (ad x0)), (1, .ref (ad x1)), (2, .int x2), (3, .int x3), (4, .int x4)]) hx hb dLd_relocateBlock_5 hl (by decide) rfl (fun ls hl => ?_)
  refine lv_iload hx hb dLd_relocateBlock_7 (lv_at hl 0 rfl) ?_
  refine lv_if_lt (tgt := 20) hx hb dLd_relocateBlock_9 rfl (fun hc => ?_) (fun hc => ?_)
  · replace h := it_t h hc
    refine lv_iconst (v := 0) hx hb dLd_relocateBlock_20 (by decide) ?_
    exact x_zret hx hb hr hlocks rfl h hP hS dLd_relocateBlock_21
  · replace h := it_f h hc
    refine lv_iload hx hb dLd_relocateBlock_12 (lv_at hl 0 rfl) ?_
    refine lv_bipush (v := 64) hx hb dLd_relocateBlock_14 (by decide) ?_
    refine lv_irem hx hb dLd_relocateBlock_16 (by decide) ?_
    refine lv_if_eq (tgt := 22) hx hb dLd_relocateBlock_17 rfl (fun hc => ?_) (fun hc => ?_)
    · replace h := it_t h hc
      refine lv_iload_n hx hb dLd_relocateBlock_22 rfl (lv_at hl 3 rfl) ?_
      refine lv_bipush (v := 8) hx hb dLd_relocateBlock_23 (by decide) ?_
      refine lv_iadd hx hb dLd_relocateBlock_25 ?_
      refine lv_istore (lv' := [(6, .int (x2 + (8 : Int32))), (5, .int v1), (0, .ref (ad x0)), (1, .ref (ad x1)), (2, .int x2), (3, .int x3), (4, .int x4)]) hx hb dLd_relocateBlock_26 hl (by decide) rfl (fun ls hl => ?_)
      exact wk_Ld_relocateBlock_28 ⟨hx, hb, hml, hown, hts, hr, hlocks, hK, hA, hD, hN, hal, hNx⟩ F out F u1 x0 x1 x3 x4 v1 (x2 + (8 : Int32)) h q0 q1 _ _ _ (lv_sub hl [2, 3, 5, 6, 1, 0] rfl) hP hS
    · replace h := it_f h hc
      refine lv_iconst (v := 0) hx hb dLd_relocateBlock_20 (by decide) ?_
      exact x_zret hx hb hr hlocks rfl h hP hS dLd_relocateBlock_21
def fn_Ld_relocateBlock (F : Nat) (al : Nat → Bool) (u : Mr) (x0 : Nat) (x1 : Nat) (x2 : Int32) (x3 : Int32) (x4 : Int32) : Option (Mr × Int32) := bk_Ld_relocateBlock_0 F al u x0 x1 x2 x3 x4
set_option maxHeartbeats 4000000 in
set_option maxRecDepth 100000 in
theorem ct_Ld_relocateBlock {l : Launch} {D : va_G} {cA : Nat → ClassId} {ad : Nat → Nat} {L : List Nat} {rs : va_W} {al : Nat → Bool} (hal : ∀ k, al k = true → k ∈ L) (hN : L.Nodup) (F : Nat) (u : Mr) (x0 : Nat) (x1 : Nat) (x2 : Int32) (x3 : Int32) (x4 : Int32) (out : Mr × Int32) (h : fn_Ld_relocateBlock F al u x0 x1 x2 x3 x4 = some out) (q0 : okk al 13 x0 = true) (q1 : okk al 6 x1 = true) : CtI l yLd_relocateBlock wsLd_relocateBlock rm_Ld_relocateBlock [.ref (ad x0), .ref (ad x1), .int x2, .int x3, .int x4] D cA ad L rs u out := by
  intro sz
  refine Met.ofW (cc := cLd_relocateBlock) (maxL := 11) (ret := (some .boolean)) (by decide) rfl ?_
  intro p e s m args below meth c s₁ B hml hv
  obtain ⟨rfl, hsz, hP, hK, hD0, hNx⟩ := hv
  subst hsz
  have hD := hD0.self (sz := s.heap.size)
  generalize hAe : va_A (ww ad cA L rs u) s.heap.size = A at hD ⊢
  have hA : ∀ q, s.heap.size ≤ q → A q := fun q h => by rw [← hAe]; exact Or.inr h
  have hl := lv_entry ([.ref (ad x0), .ref (ad x1), .int x2, .int x3, .int x4]) (n := 11) (Nat.le_of_ble_eq_true rfl)
  rw [lg_entry_eq]
  generalize (lg_sl ([.ref (ad x0), .ref (ad x1), .int x2, .int x3, .int x4]) ++ List.replicate (11 - (lg_sl ([.ref (ad x0), .ref (ad x1), .int x2, .int x3, .int x4])).length) Slot.unset).toArray = ls at hl ⊢
  exact wk_Ld_relocateBlock_0 ⟨B.exec, B.bytes, hml, findClass_of_methodNamed B.named, hts_bw (atoms_spec (ws := wsLd_relocateBlock) B.pre), B.returns, B.notSynchronized, hK, hA, fun v => ww_D hD, hN, hal, hNx⟩ F out u x0 x1 x2 x3 x4 h q0 q1 _ _ _ (lv_sub hl [0, 1, 2, 3, 4] rfl) hP va_S.rf
end

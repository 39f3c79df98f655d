abbrev yLd_bindSlots : MethodName := ⟨"ImageForge$Loader", "bindSlots", "(LImageForge$Image;I[I)I"⟩
abbrev cLd_bindSlots : ByteArray := prog_4_method_9_code
abbrev wsLd_bindSlots : List Cond := .code yLd_bindSlots cLd_bindSlots 8 (some .int) :: bw
theorem gdLd_bindSlots : GoodIn bw wsLd_bindSlots := gd_of tw_772
theorem hdLd_bindSlots : yLd_bindSlots.cls ≠ "java/lang/invoke/MethodHandle" ∧ yLd_bindSlots.cls ≠ "java/lang/invoke/VarHandle" ∧ (parseMethodDescriptor yLd_bindSlots.desc).map (fun d => d.parameters.length) = some 3 := by decide +kernel
theorem dLd_bindSlots_0 : decode cLd_bindSlots 0 = .ok (.aload_n 1, 1) := by decide +kernel
theorem dLd_bindSlots_1 : decode cLd_bindSlots 1 = .ok (.getfield 68, 3) := by decide +kernel
theorem dLd_bindSlots_4 : decode cLd_bindSlots 4 = .ok (.iconst 4, 1) := by decide +kernel
theorem dLd_bindSlots_5 : decode cLd_bindSlots 5 = .ok (.isub, 1) := by decide +kernel
theorem dLd_bindSlots_6 : decode cLd_bindSlots 6 = .ok (.istore 4, 2) := by decide +kernel
theorem dLd_bindSlots_8 : decode cLd_bindSlots 8 = .ok (.iload_n 2, 1) := by decide +kernel
theorem dLd_bindSlots_9 : decode cLd_bindSlots 9 = .ok (.istore 5, 2) := by decide +kernel
theorem dLd_bindSlots_11 : decode cLd_bindSlots 11 = .ok (.iload 5, 2) := by decide +kernel
theorem dLd_bindSlots_13 : decode cLd_bindSlots 13 = .ok (.ifCond .lt 72, 3) := by decide +kernel
theorem dLd_bindSlots_16 : decode cLd_bindSlots 16 = .ok (.iload 5, 2) := by decide +kernel
theorem dLd_bindSlots_18 : decode cLd_bindSlots 18 = .ok (.iload 4, 2) := by decide +kernel
theorem dLd_bindSlots_20 : decode cLd_bindSlots 20 = .ok (.if_icmp .gt 65, 3) := by decide +kernel
theorem dLd_bindSlots_23 : decode cLd_bindSlots 23 = .ok (.aload_n 1, 1) := by decide +kernel
theorem dLd_bindSlots_24 : decode cLd_bindSlots 24 = .ok (.iload 5, 2) := by decide +kernel
theorem dLd_bindSlots_26 : decode cLd_bindSlots 26 = .ok (.invokevirtual 50, 3) := by decide +kernel
theorem dLd_bindSlots_29 : decode cLd_bindSlots 29 = .ok (.istore 6, 2) := by decide +kernel
theorem dLd_bindSlots_31 : decode cLd_bindSlots 31 = .ok (.iload 6, 2) := by decide +kernel
theorem dLd_bindSlots_33 : decode cLd_bindSlots 33 = .ok (.ifCond .ne 5, 3) := by decide +kernel
theorem dLd_bindSlots_36 : decode cLd_bindSlots 36 = .ok (.iconst 0, 1) := by decide +kernel
theorem dLd_bindSlots_37 : decode cLd_bindSlots 37 = .ok (.ireturn, 1) := by decide +kernel
theorem dLd_bindSlots_38 : decode cLd_bindSlots 38 = .ok (.iload 6, 2) := by decide +kernel
theorem dLd_bindSlots_40 : decode cLd_bindSlots 40 = .ok (.ldc 94, 2) := by decide +kernel
theorem dLd_bindSlots_42 : decode cLd_bindSlots 42 = .ok (.ixor, 1) := by decide +kernel
theorem dLd_bindSlots_43 : decode cLd_bindSlots 43 = .ok (.istore 7, 2) := by decide +kernel
theorem dLd_bindSlots_45 : decode cLd_bindSlots 45 = .ok (.iload 7, 2) := by decide +kernel
theorem dLd_bindSlots_47 : decode cLd_bindSlots 47 = .ok (.bipush 100, 2) := by decide +kernel
theorem dLd_bindSlots_49 : decode cLd_bindSlots 49 = .ok (.invokestatic 95, 3) := by decide +kernel
theorem dLd_bindSlots_52 : decode cLd_bindSlots 52 = .ok (.ifCond .ne 5, 3) := by decide +kernel
theorem dLd_bindSlots_55 : decode cLd_bindSlots 55 = .ok (.iconst 3, 1) := by decide +kernel
theorem dLd_bindSlots_56 : decode cLd_bindSlots 56 = .ok (.ireturn, 1) := by decide +kernel
theorem dLd_bindSlots_57 : decode cLd_bindSlots 57 = .ok (.aload_n 3, 1) := by decide +kernel
theorem dLd_bindSlots_58 : decode cLd_bindSlots 58 = .ok (.iload 7, 2) := by decide +kernel
theorem dLd_bindSlots_60 : decode cLd_bindSlots 60 = .ok (.iaload, 1) := by decide +kernel
theorem dLd_bindSlots_61 : decode cLd_bindSlots 61 = .ok (.ifCond .ne 5, 3) := by decide +kernel
theorem dLd_bindSlots_64 : decode cLd_bindSlots 64 = .ok (.iconst 4, 1) := by decide +kernel
theorem dLd_bindSlots_65 : decode cLd_bindSlots 65 = .ok (.ireturn, 1) := by decide +kernel
theorem dLd_bindSlots_66 : decode cLd_bindSlots 66 = .ok (.aload_n 0, 1) := by decide +kernel
theorem dLd_bindSlots_67 : decode cLd_bindSlots 67 = .ok (.getfield 18, 3) := by decide +kernel
theorem dLd_bindSlots_70 : decode cLd_bindSlots 70 = .ok (.iload 5, 2) := by decide +kernel
theorem dLd_bindSlots_72 : decode cLd_bindSlots 72 = .ok (.aload_n 3, 1) := by decide +kernel
theorem dLd_bindSlots_73 : decode cLd_bindSlots 73 = .ok (.iload 7, 2) := by decide +kernel
theorem dLd_bindSlots_75 : decode cLd_bindSlots 75 = .ok (.iaload, 1) := by decide +kernel
theorem dLd_bindSlots_76 : decode cLd_bindSlots 76 = .ok (.invokevirtual 99, 3) := by decide +kernel
theorem dLd_bindSlots_79 : decode cLd_bindSlots 79 = .ok (.iinc 5 4, 3) := by decide +kernel
theorem dLd_bindSlots_82 : decode cLd_bindSlots 82 = .ok (.goto (-71), 3) := by decide +kernel
theorem dLd_bindSlots_85 : decode cLd_bindSlots 85 = .ok (.iconst 3, 1) := by decide +kernel
theorem dLd_bindSlots_86 : decode cLd_bindSlots 86 = .ok (.ireturn, 1) := by decide +kernel
section
variable {p : Program} {l : Launch} {e : Env} {s : State} {m : MethodId} {args : Array Value} {below : List Frame} {meth : Method} {c : Code} {D : va_G} {cA : Nat → ClassId} {ad : Nat → Nat} {L : List Nat} {rs : va_W} {al : Nat → Bool} {A : Nat → Prop}
abbrev rm_Ld_bindSlots : Room := { frames := 1, cells := 0, slots := 0, locals := 23 }
def bk_Ld_bindSlots_11 (F : Nat) (al : Nat → Bool) : Nat → Mr → Nat → Nat → Nat → Int32 → Int32 → Option (Mr × Int32)
  | 0, _, _, _, _, _, _ => none
  | n + 1, u, x0, x1, x3, x4, x5 => if x5 < 0 then (some (u, (3 : Int32))) else (if x4 < x5 then (some (u, (3 : Int32))) else (bd2 (fn_Im_wordAt F al u x1 x5) fun u1 v1 => (if v1 = 0 then (some (u1, (0 : Int32))) else (bd2 (fn_Fg_isBelow F al u1 (v1 ^^^ (-2147483648 : Int32)) (100 : Int32)) fun u2 v2 => (if v2 = 0 then (some (u2, (3 : Int32))) else (ck (inb (v1 ^^^ (-2147483648 : Int32)) 100) (if (u2.1 x3 (v1 ^^^ (-2147483648 : Int32))) = 0 then (some (u2, (4 : Int32))) else (bd1 (rdR al u2 x0 1 6) fun y4 => (ck (inb (v1 ^^^ (-2147483648 : Int32)) 100) (bd2 (fn_Im_setWord F al u2 y4 x5 (u2.1 x3 (v1 ^^^ (-2147483648 : Int32)))) fun u7 v7 => (bk_Ld_bindSlots_11 F al n u7 x0 x1 x3 x4 (x5 + (4 : Int32)))))))))))))
set_option maxHeartbeats 4000000 in
set_option maxRecDepth 100000 in
theorem wk_Ld_bindSlots_11 (cx : Cx p l e s m args below meth c cLd_bindSlots 8 bw "ImageForge$Loader" (some .int) D cA ad L rs al A) (F : Nat) (out : Mr × Int32) : ∀ n : Nat, ∀ (u : Mr) (x0 : Nat) (x1 : Nat) (x3 : Nat) (x4 : Int32) (x5 : Int32), bk_Ld_bindSlots_11 F al n u x0 x1 x3 x4 x5 = some out → okk al 13 x0 = true → okk al 6 x1 = true → okk al 5 x3 = true → Wb p l e rm_Ld_bindSlots s m args below meth c D cA ad L rs A (QI below args s D cA ad L rs A out) 8 11 [(0, .ref (ad x0)), (1, .ref (ad x1)), (3, .ref (ad x3)), (4, .int x4), (5, .int x5)] [] u := by
  obtain ⟨hx, hb, hml, hown, hts, hr, hlocks, hK, hA, hD, hN, hal, hNx⟩ := cx
  intro n
  induction n with
  | zero =>
    intro u x0 x1 x3 x4 x5 h
    cases h
  | succ n ih =>
    intro u x0 x1 x3 x4 x5 h q0 q1 q3 H locs ls hl hP hS
    rw [bk_Ld_bindSlots_11] at h
    refine lv_iload hx hb dLd_bindSlots_11 (lv_at hl 4 rfl) ?_
    refine lv_if_lt (tgt := 85) hx hb dLd_bindSlots_13 rfl (fun hc => ?_) (fun hc => ?_)
    · replace h := it_t h hc
      refine lv_iconst (v := 3) hx hb dLd_bindSlots_85 (by decide) ?_
      exact x_iret hx hb hr hlocks h hP hS dLd_bindSlots_86
    · replace h := it_f h hc
      refine lv_iload hx hb dLd_bindSlots_16 (lv_at hl 4 rfl) ?_
      refine lv_iload hx hb dLd_bindSlots_18 (lv_at hl 3 rfl) ?_
      refine lv_icmp_gt (tgt := 85) hx hb dLd_bindSlots_20 rfl (fun hc => ?_) (fun hc => ?_)
      · replace h := it_t h hc
        refine lv_iconst (v := 3) hx hb dLd_bindSlots_85 (by decide) ?_
        exact x_iret hx hb hr hlocks h hP hS dLd_bindSlots_86
      · replace h := it_f h hc
        refine lv_aload_n hx hb dLd_bindSlots_23 rfl (lv_at hl 1 rfl) ?_
        refine lv_iload hx hb dLd_bindSlots_24 (lv_at hl 4 rfl) ?_
        obtain ⟨u1, v1, hc1, h⟩ := bd2_some h
        refine x_ci (u := u) (out := (u1, v1)) hA hD hS (va_runVN (As := [.int x5]) (rest := []) ⟨hx, hb, hml, hown, hts⟩ (ct_Im_wordAt hal hN F u x1 x5 (u1, v1) hc1 q1 _) ⟨va_cnB 1 hts gdIm_wordAt rfl rfl rfl (nn_10 hNx) (hts _ tw_2) hdIm_wordAt ⟨Nat.le_of_ble_eq_true rfl, Nat.le_of_ble_eq_true rfl⟩, (hts _ tw_240), (hts _ tp_3)⟩ (x_preV hK hD hNx hP (hal _ (okk_al q1)) (okk_t q1) rfl rfl) rfl rfl hl.1 rfl (lv_room (Nat.le_of_ble_eq_true rfl)) dLd_bindSlots_26 ⟨Nat.zero_le _, Nat.zero_le _⟩) (fun H locs hP hS => ?_)
        refine lv_istore (lv' := [(6, .int v1), (0, .ref (ad x0)), (1, .ref (ad x1)), (3, .ref (ad x3)), (4, .int x4), (5, .int x5)]) hx hb dLd_bindSlots_29 hl (by decide) rfl (fun ls hl => ?_)
        refine lv_iload hx hb dLd_bindSlots_31 (lv_at hl 0 rfl) ?_
        refine lv_if_ne (tgt := 38) hx hb dLd_bindSlots_33 rfl (fun hc => ?_) (fun hc => ?_)
        · replace h := it_f h hc
          refine lv_iload hx hb dLd_bindSlots_38 (lv_at hl 0 rfl) ?_
          refine lv_ldc (v := (-2147483648)) hx hb hown (hts _ tw_773) dLd_bindSlots_40 ?_
          refine lv_ixor hx hb dLd_bindSlots_42 ?_
          refine lv_istore (lv' := [(7, .int (v1 ^^^ (-2147483648 : Int32))), (6, .int v1), (0, .ref (ad x0)), (1, .ref (ad x1)), (3, .ref (ad x3)), (4, .int x4), (5, .int x5)]) hx hb dLd_bindSlots_43 hl (by decide) rfl (fun ls hl => ?_)
          refine lv_iload hx hb dLd_bindSlots_45 (lv_at hl 0 rfl) ?_
          refine lv_bipush (v := 100) hx hb dLd_bindSlots_47 (by decide) ?_
          obtain ⟨u2, v2, hc2, h⟩ := bd2_some h
          refine x_ci (u := u1) (out := (u2, v2)) hA hD hS (va_runSN (As := [.int (v1 ^^^ (-2147483648 : Int32)), .int (100 : Int32)]) (rest := []) ⟨hx, hb, hml, hown, hts⟩ (ct_Fg_isBelow hal hN F u1 (v1 ^^^ (-2147483648 : Int32)) (100 : Int32) (u2, v2) hc2  _) ⟨va_cnB 2 hts gdFg_isBelow rfl rfl rfl (nn_42 hNx) (hts _ tw_1) hdFg_isBelow ⟨Nat.le_of_ble_eq_true rfl, Nat.le_of_ble_eq_true rfl⟩, (hts _ tw_252), trivial⟩ (x_preS hK hD hNx hP) rfl rfl hl.1 rfl (lv_room (Nat.le_of_ble_eq_true rfl)) dLd_bindSlots_49 ⟨Nat.zero_le _, Nat.zero_le _⟩) (fun H locs hP hS => ?_)
          refine lv_if_ne (tgt := 57) hx hb dLd_bindSlots_52 rfl (fun hc => ?_) (fun hc => ?_)
          · replace h := it_f h hc
            refine lv_aload_n hx hb dLd_bindSlots_57 rfl (lv_at hl 4 rfl) ?_
            refine lv_iload hx hb dLd_bindSlots_58 (lv_at hl 0 rfl) ?_
            obtain ⟨hi3, h⟩ := ck_some h
            refine x_iald hx hb hK hP (hal _ (okk_al q3)) (okk_t q3) 0 (fun _ _ _ => rfl) rfl (inb_in hi3) dLd_bindSlots_60 ?_
            refine lv_if_ne (tgt := 66) hx hb dLd_bindSlots_61 rfl (fun hc => ?_) (fun hc => ?_)
            · replace h := it_f h hc
              refine lv_aload_n hx hb dLd_bindSlots_66 rfl (lv_at hl 2 rfl) ?_
              obtain ⟨y4, hy5, h⟩ := bd1_some h
              obtain ⟨hy5a, hy5⟩ := rdR_some hy5
              refine x_get hx hb hts in_Ld hown hK hP (hal _ (okk_al q0)) (okk_t q0) rfl rfl 1 (by decide) (hts _ tw_87) (fun _ h9 => h9) (congrArg some (x_rf hy5a)) dLd_bindSlots_67 ?_
              refine lv_iload hx hb dLd_bindSlots_70 (lv_at hl 6 rfl) ?_
              refine lv_aload_n hx hb dLd_bindSlots_72 rfl (lv_at hl 4 rfl) ?_
              refine lv_iload hx hb dLd_bindSlots_73 (lv_at hl 0 rfl) ?_
              obtain ⟨hi6, h⟩ := ck_some h
              refine x_iald hx hb hK hP (hal _ (okk_al q3)) (okk_t q3) 0 (fun _ _ _ => rfl) rfl (inb_in hi6) dLd_bindSlots_75 ?_
              obtain ⟨u7, v7, hc7, h⟩ := bd2_some h
              refine x_cv (u := u2) (out := (u7, v7)) hA hD hS (va_runVN (As := [.int x5, .int (u2.1 x3 (v1 ^^^ (-2147483648 : Int32)))]) (rest := []) ⟨hx, hb, hml, hown, hts⟩ (ct_Im_setWord hal hN F u2 y4 x5 (u2.1 x3 (v1 ^^^ (-2147483648 : Int32))) (u7, v7) hc7 hy5 _) ⟨va_cnB 2 hts gdIm_setWord rfl rfl rfl (nn_43 hNx) (hts _ tw_2) hdIm_setWord ⟨Nat.le_of_ble_eq_true rfl, Nat.le_of_ble_eq_true rfl⟩, (hts _ tw_584), (hts _ tp_22)⟩ (x_preV hK hD hNx hP (hal _ (okk_al hy5)) (okk_t hy5) rfl rfl) rfl rfl hl.1 rfl (lv_room (Nat.le_of_ble_eq_true rfl)) dLd_bindSlots_76 ⟨Nat.zero_le _, Nat.zero_le _⟩) (fun H locs hP hS => ?_)
              refine lv_iinc (k := 6) (v := x5 + (4 : Int32)) (lv' := [(5, .int (x5 + (4 : Int32))), (7, .int (v1 ^^^ (-2147483648 : Int32))), (6, .int v1), (0, .ref (ad x0)), (1, .ref (ad x1)), (3, .ref (ad x3)), (4, .int x4)]) hx hb dLd_bindSlots_79 hl rfl (congrArg (fun z => _ + z) (show Int32.ofInt 4 = 4 by decide)) (by decide) rfl (fun ls hl => ?_)
              refine lv_goto (tgt := 11) hx hb dLd_bindSlots_82 rfl ?_
              exact ih u7 x0 x1 x3 x4 (x5 + (4 : Int32)) h q0 q1 q3 _ _ _ (lv_sub hl [3, 4, 5, 6, 0] rfl) hP hS
            · replace h := it_t h hc
              refine lv_iconst (v := 4) hx hb dLd_bindSlots_64 (by decide) ?_
              exact x_iret hx hb hr hlocks h hP hS dLd_bindSlots_65
          · replace h := it_t h hc
            refine lv_iconst (v := 3) hx hb dLd_bindSlots_55 (by decide) ?_
            exact x_iret hx hb hr hlocks h hP hS dLd_bindSlots_56
        · replace h := it_t h hc
          refine lv_iconst (v := 0) hx hb dLd_bindSlots_36 (by decide) ?_
          exact x_iret hx hb hr hlocks h hP hS dLd_bindSlots_37
def bk_Ld_bindSlots_0 (F : Nat) (al : Nat → Bool) (u : Mr) (x0 : Nat) (x1 : Nat) (x2 : Int32) (x3 : Nat) : Option (Mr × Int32) := bk_Ld_bindSlots_11 F al F u x0 x1 x3 ((u.1 x1 1) - (4 : Int32)) x2
set_option maxHeartbeats 4000000 in
set_option maxRecDepth 100000 in
theorem wk_Ld_bindSlots_0 (cx : Cx p l e s m args below meth c cLd_bindSlots 8 bw "ImageForge$Loader" (some .int) D cA ad L rs al A) (F : Nat) (out : Mr × Int32) : ∀ (u : Mr) (x0 : Nat) (x1 : Nat) (x2 : Int32) (x3 : Nat), bk_Ld_bindSlots_0 F al u x0 x1 x2 x3 = some out → okk al 13 x0 = true → okk al 6 x1 = true → okk al 5 x3 = true → Wb p l e rm_Ld_bindSlots s m args below meth c D cA ad L rs A (QI below args s D cA ad L rs A out) 8 0 [(0, .ref (ad x0)), (1, .ref (ad x1)), (2, .int x2), (3, .ref (ad x3))] [] u := by
  obtain ⟨hx, hb, hml, hown, hts, hr, hlocks, hK, hA, hD, hN, hal, hNx⟩ := cx
  intro u x0 x1 x2 x3 h q0 q1 q3 H locs ls hl hP hS
  unfold bk_Ld_bindSlots_0 at h
  refine lv_aload_n hx hb dLd_bindSlots_0 rfl (lv_at hl 1 rfl) ?_
  refine x_getN hx hb hts in_Im hown hK hP (hal _ (okk_al q1)) (okk_t q1) rfl rfl 1 (by decide) (nf_2 hNx) (fun _ h9 => h9) rfl dLd_bindSlots_1 ?_
  refine lv_iconst (v := 4) hx hb dLd_bindSlots_4 (by decide) ?_
  refine lv_isub hx hb dLd_bindSlots_5 ?_
  refine lv_istore (lv' := [(4, .int ((u.1 x1 1) - (4 : Int32))), (0, .ref (ad x0)), (1, .ref (ad x1)), (2, .int x2), (3, .ref (ad x3))]) hx hb dLd_bindSlots_6 hl (by decide) rfl (fun ls hl => ?_)
  refine lv_iload_n hx hb dLd_bindSlots_8 rfl (lv_at hl 3 rfl) ?_
  refine lv_istore (lv' := [(5, .int x2), (4, .int ((u.1 x1 1) - (4 : Int32))), (0, .ref (ad x0)), (1, .ref (ad x1)), (2, .int x2), (3, .ref (ad x3))]) hx hb dLd_bindSlots_9 hl (by decide) rfl (fun ls hl => ?_)
  exact wk_Ld_bindSlots_11 ⟨hx, hb, hml, hown, hts, hr, hlocks, hK, hA, hD, hN, hal, hNx⟩ F out F u x0 x1 x3 ((u.1 x1 1) - (4 : Int32)) x2 h q0 q1 q3 _ _ _ (lv_sub hl [2, 3, 5, 1, 0] rfl) hP hS
def fn_Ld_bindSlots (F : Nat) (al : Nat → Bool) (u : Mr) (x0 : Nat) (x1 : Nat) (x2 : Int32) (x3 : Nat) : Option (Mr × Int32) := bk_Ld_bindSlots_0 F al u x0 x1 x2 x3
set_option maxHeartbeats 4000000 in
set_option maxRecDepth 100000 in
theorem ct_Ld_bindSlots {l : Launch} {D : va_G} {cA : Nat → ClassId} {ad : Nat → Nat} {L : List Nat} {rs : va_W} {al : Nat → Bool} (hal : ∀ k, al k = true → k ∈ L) (hN : L.Nodup) (F : Nat) (u : Mr) (x0 : Nat) (x1 : Nat) (x2 : Int32) (x3 : Nat) (out : Mr × Int32) (h : fn_Ld_bindSlots F al u x0 x1 x2 x3 = some out) (q0 : okk al 13 x0 = true) (q1 : okk al 6 x1 = true) (q3 : okk al 5 x3 = true) : CtI l yLd_bindSlots wsLd_bindSlots rm_Ld_bindSlots [.ref (ad x0), .ref (ad x1), .int x2, .ref (ad x3)] D cA ad L rs u out := by
  intro sz
  refine Met.ofW (cc := cLd_bindSlots) (maxL := 8) (ret := (some .int)) (by decide) rfl ?_
  intro p e s m args below meth c s₁ B hml hv
  obtain ⟨rfl, hsz, hP, hK, hD0, hNx⟩ := hv
  subst hsz
  have hD := hD0.self (sz := s.heap.size)
  generalize hAe : va_A (ww ad cA L rs u) s.heap.size = A at hD ⊢
  have hA : ∀ q, s.heap.size ≤ q → A q := fun q h => by rw [← hAe]; exact Or.inr h
  have hl := lv_entry ([.ref (ad x0), .ref (ad x1), .int x2, .ref (ad x3)]) (n := 8) (Nat.le_of_ble_eq_true rfl)
  rw [lg_entry_eq]
  generalize (lg_sl ([.ref (ad x0), .ref (ad x1), .int x2, .ref (ad x3)]) ++ List.replicate (8 - (lg_sl ([.ref (ad x0), .ref (ad x1), .int x2, .ref (ad x3)])).length) Slot.unset).toArray = ls at hl ⊢
  exact wk_Ld_bindSlots_0 ⟨B.exec, B.bytes, hml, findClass_of_methodNamed B.named, hts_bw (atoms_spec (ws := wsLd_bindSlots) B.pre), B.returns, B.notSynchronized, hK, hA, fun v => ww_D hD, hN, hal, hNx⟩ F out u x0 x1 x2 x3 h q0 q1 q3 _ _ _ (lv_sub hl [0, 1, 2, 3] rfl) hP va_S.rf
end

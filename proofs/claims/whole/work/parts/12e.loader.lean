abbrev yLd_bind : MethodName := ⟨"ImageForge$Loader", "bind", "(LImageForge$Image;[[I)I"⟩
abbrev cLd_bind : ByteArray := prog_4_method_8_code
abbrev wsLd_bind : List Cond := .code yLd_bind cLd_bind 8 (some .int) :: bw
theorem gdLd_bind : GoodIn bw wsLd_bind := gd_of tw_768
theorem hdLd_bind : yLd_bind.cls ≠ "java/lang/invoke/MethodHandle" ∧ yLd_bind.cls ≠ "java/lang/invoke/VarHandle" ∧ (parseMethodDescriptor yLd_bind.desc).map (fun d => d.parameters.length) = some 2 := by decide +kernel
theorem dLd_bind_0 : decode cLd_bind 0 = .ok (.aload_n 1, 1) := by decide +kernel
theorem dLd_bind_1 : decode cLd_bind 1 = .ok (.iconst 2, 1) := by decide +kernel
theorem dLd_bind_2 : decode cLd_bind 2 = .ok (.invokevirtual 33, 3) := by decide +kernel
theorem dLd_bind_5 : decode cLd_bind 5 = .ok (.istore_n 3, 1) := by decide +kernel
theorem dLd_bind_6 : decode cLd_bind 6 = .ok (.iload_n 3, 1) := by decide +kernel
theorem dLd_bind_7 : decode cLd_bind 7 = .ok (.aload_n 1, 1) := by decide +kernel
theorem dLd_bind_8 : decode cLd_bind 8 = .ok (.iconst 2, 1) := by decide +kernel
theorem dLd_bind_9 : decode cLd_bind 9 = .ok (.invokevirtual 40, 3) := by decide +kernel
theorem dLd_bind_12 : decode cLd_bind 12 = .ok (.iadd, 1) := by decide +kernel
theorem dLd_bind_13 : decode cLd_bind 13 = .ok (.bipush 8, 2) := by decide +kernel
theorem dLd_bind_15 : decode cLd_bind 15 = .ok (.isub, 1) := by decide +kernel
theorem dLd_bind_16 : decode cLd_bind 16 = .ok (.istore 4, 2) := by decide +kernel
theorem dLd_bind_18 : decode cLd_bind 18 = .ok (.iload_n 3, 1) := by decide +kernel
theorem dLd_bind_19 : decode cLd_bind 19 = .ok (.istore 5, 2) := by decide +kernel
theorem dLd_bind_21 : decode cLd_bind 21 = .ok (.iload 5, 2) := by decide +kernel
theorem dLd_bind_23 : decode cLd_bind 23 = .ok (.iload 4, 2) := by decide +kernel
theorem dLd_bind_25 : decode cLd_bind 25 = .ok (.if_icmp .gt 67, 3) := by decide +kernel
theorem dLd_bind_28 : decode cLd_bind 28 = .ok (.aload_n 1, 1) := by decide +kernel
theorem dLd_bind_29 : decode cLd_bind 29 = .ok (.iload 5, 2) := by decide +kernel
theorem dLd_bind_31 : decode cLd_bind 31 = .ok (.invokevirtual 50, 3) := by decide +kernel
theorem dLd_bind_34 : decode cLd_bind 34 = .ok (.istore 6, 2) := by decide +kernel
theorem dLd_bind_36 : decode cLd_bind 36 = .ok (.iload 6, 2) := by decide +kernel
theorem dLd_bind_38 : decode cLd_bind 38 = .ok (.ifCond .ne 5, 3) := by decide +kernel
theorem dLd_bind_41 : decode cLd_bind 41 = .ok (.iconst 0, 1) := by decide +kernel
theorem dLd_bind_42 : decode cLd_bind 42 = .ok (.ireturn, 1) := by decide +kernel
theorem dLd_bind_43 : decode cLd_bind 43 = .ok (.iload 6, 2) := by decide +kernel
theorem dLd_bind_45 : decode cLd_bind 45 = .ok (.iconst 1, 1) := by decide +kernel
theorem dLd_bind_46 : decode cLd_bind 46 = .ok (.if_icmp .lt 9, 3) := by decide +kernel
theorem dLd_bind_49 : decode cLd_bind 49 = .ok (.iload 6, 2) := by decide +kernel
theorem dLd_bind_51 : decode cLd_bind 51 = .ok (.iconst 4, 1) := by decide +kernel
theorem dLd_bind_52 : decode cLd_bind 52 = .ok (.if_icmp .le 5, 3) := by decide +kernel
theorem dLd_bind_55 : decode cLd_bind 55 = .ok (.iconst 3, 1) := by decide +kernel
theorem dLd_bind_56 : decode cLd_bind 56 = .ok (.ireturn, 1) := by decide +kernel
theorem dLd_bind_57 : decode cLd_bind 57 = .ok (.aload_n 0, 1) := by decide +kernel
theorem dLd_bind_58 : decode cLd_bind 58 = .ok (.aload_n 1, 1) := by decide +kernel
theorem dLd_bind_59 : decode cLd_bind 59 = .ok (.aload_n 1, 1) := by decide +kernel
theorem dLd_bind_60 : decode cLd_bind 60 = .ok (.iload 5, 2) := by decide +kernel
theorem dLd_bind_62 : decode cLd_bind 62 = .ok (.iconst 4, 1) := by decide +kernel
theorem dLd_bind_63 : decode cLd_bind 63 = .ok (.iadd, 1) := by decide +kernel
theorem dLd_bind_64 : decode cLd_bind 64 = .ok (.invokevirtual 50, 3) := by decide +kernel
theorem dLd_bind_67 : decode cLd_bind 67 = .ok (.aload_n 2, 1) := by decide +kernel
theorem dLd_bind_68 : decode cLd_bind 68 = .ok (.iload 6, 2) := by decide +kernel
theorem dLd_bind_70 : decode cLd_bind 70 = .ok (.iconst 1, 1) := by decide +kernel
theorem dLd_bind_71 : decode cLd_bind 71 = .ok (.isub, 1) := by decide +kernel
theorem dLd_bind_72 : decode cLd_bind 72 = .ok (.aaload, 1) := by decide +kernel
theorem dLd_bind_73 : decode cLd_bind 73 = .ok (.invokevirtual 90, 3) := by decide +kernel
theorem dLd_bind_76 : decode cLd_bind 76 = .ok (.istore 7, 2) := by decide +kernel
theorem dLd_bind_78 : decode cLd_bind 78 = .ok (.iload 7, 2) := by decide +kernel
theorem dLd_bind_80 : decode cLd_bind 80 = .ok (.ifCond .eq 6, 3) := by decide +kernel
theorem dLd_bind_83 : decode cLd_bind 83 = .ok (.iload 7, 2) := by decide +kernel
theorem dLd_bind_85 : decode cLd_bind 85 = .ok (.ireturn, 1) := by decide +kernel
theorem dLd_bind_86 : decode cLd_bind 86 = .ok (.iinc 5 8, 3) := by decide +kernel
theorem dLd_bind_89 : decode cLd_bind 89 = .ok (.goto (-68), 3) := by decide +kernel
theorem dLd_bind_92 : decode cLd_bind 92 = .ok (.iconst 3, 1) := by decide +kernel
theorem dLd_bind_93 : decode cLd_bind 93 = .ok (.ireturn, 1) := by decide +kernel
section
variable {p : Program} {l : Launch} {e : Env} {s : State} {m : MethodId} {args : Array Value} {below : List Frame} {meth : Method} {c : Code} {D : va_G} {cA : Nat → ClassId} {ad : Nat → Nat} {L : List Nat} {rs : va_W} {al : Nat → Bool} {A : Nat → Prop}
abbrev rm_Ld_bind : Room := { frames := 2, cells := 0, slots := 0, locals := 50 }
def bk_Ld_bind_21 (F : Nat) (al : Nat → Bool) : Nat → Mr → Nat → Nat → Nat → Int32 → Int32 → Option (Mr × Int32)
  | 0, _, _, _, _, _, _ => none
  | n + 1, u, x0, x1, x2, x4, x5 => if x4 < x5 then (some (u, (3 : Int32))) else (bd2 (fn_Im_wordAt F al u x1 x5) fun u1 v1 => (if v1 = 0 then (some (u1, (0 : Int32))) else (if v1 < (1 : Int32) then (some (u1, (3 : Int32))) else (if v1 ≤ (4 : Int32) then (bd2 (fn_Im_wordAt F al u1 x1 (x5 + (4 : Int32))) fun u2 v2 => (ck (inb (v1 - (1 : Int32)) 4) (bd1 (rdR al u2 x2 (v1 - (1 : Int32)) 5) fun y4 => (bd2 (fn_Ld_bindSlots F al u2 x0 x1 v2 y4) fun u6 v6 => (if v6 = 0 then (bk_Ld_bind_21 F al n u6 x0 x1 x2 x4 (x5 + (8 : Int32))) else (some (u6, v6))))))) else (some (u1, (3 : Int32)))))))
set_option maxHeartbeats 4000000 in
set_option maxRecDepth 100000 in
theorem wk_Ld_bind_21 (cx : Cx p l e s m args below meth c cLd_bind 8 bw "ImageForge$Loader" (some .int) D cA ad L rs al A) (F : Nat) (out : Mr × Int32) : ∀ n : Nat, ∀ (u : Mr) (x0 : Nat) (x1 : Nat) (x2 : Nat) (x4 : Int32) (x5 : Int32), bk_Ld_bind_21 F al n u x0 x1 x2 x4 x5 = some out → okk al 13 x0 = true → okk al 6 x1 = true → okk al 4 x2 = true → Wb p l e rm_Ld_bind s m args below meth c D cA ad L rs A (QI below args s D cA ad L rs A out) 8 21 [(0, .ref (ad x0)), (1, .ref (ad x1)), (2, .ref (ad x2)), (4, .int x4), (5, .int x5)] [] u := by
  obtain ⟨hx, hb, hml, hown, hts, hr, hlocks, hK, hA, hD, hN, hal, hNx⟩ := cx
  intro n
  induction n with
  | zero =>
    intro u x0 x1 x2 x4 x5 h
    cases h
  | succ n ih =>
    intro u x0 x1 x2 x4 x5 h q0 q1 q2 H locs ls hl hP hS
    rw [bk_Ld_bind_21] at h
    refine lv_iload hx hb dLd_bind_21 (lv_at hl 4 rfl) ?_
    refine lv_iload hx hb dLd_bind_23 (lv_at hl 3 rfl) ?_
    refine lv_icmp_gt (tgt := 92) hx hb dLd_bind_25 rfl (fun hc => ?_) (fun hc => ?_)
    · replace h := it_t h hc
      refine lv_iconst (v := 3) hx hb dLd_bind_92 (by decide) ?_
      exact x_iret hx hb hr hlocks h hP hS dLd_bind_93
    · replace h := it_f h hc
      refine lv_aload_n hx hb dLd_bind_28 rfl (lv_at hl 1 rfl) ?_
      refine lv_iload hx hb dLd_bind_29 (lv_at hl 4 rfl) ?_
      obtain ⟨u1, v1, hc1, h⟩ := bd2_some h
      refine x_ci (u := u) (out := (u1, v1)) hA hD hS (va_runVN (As := [.int x5]) (rest := []) ⟨hx, hb, hml, hown, hts⟩ (ct_Im_wordAt hal hN F u x1 x5 (u1, v1) hc1 q1 _) ⟨va_cnB 1 hts gdIm_wordAt rfl rfl rfl (nn_10 hNx) (hts _ tw_2) hdIm_wordAt ⟨Nat.le_of_ble_eq_true rfl, Nat.le_of_ble_eq_true rfl⟩, (hts _ tw_240), (hts _ tp_3)⟩ (x_preV hK hD hNx hP (hal _ (okk_al q1)) (okk_t q1) rfl rfl) rfl rfl hl.1 rfl (lv_room (Nat.le_of_ble_eq_true rfl)) dLd_bind_31 ⟨Nat.zero_le _, Nat.zero_le _⟩) (fun H locs hP hS => ?_)
      refine lv_istore (lv' := [(6, .int v1), (0, .ref (ad x0)), (1, .ref (ad x1)), (2, .ref (ad x2)), (4, .int x4), (5, .int x5)]) hx hb dLd_bind_34 hl (by decide) rfl (fun ls hl => ?_)
      refine lv_iload hx hb dLd_bind_36 (lv_at hl 0 rfl) ?_
      refine lv_if_ne (tgt := 43) hx hb dLd_bind_38 rfl (fun hc => ?_) (fun hc => ?_)
      · replace h := it_f h hc
        refine lv_iload hx hb dLd_bind_43 (lv_at hl 0 rfl) ?_
        refine lv_iconst (v := 1) hx hb dLd_bind_45 (by decide) ?_
        refine lv_icmp_lt (tgt := 55) hx hb dLd_bind_46 rfl (fun hc => ?_) (fun hc => ?_)
        · replace h := it_t h hc
          refine lv_iconst (v := 3) hx hb dLd_bind_55 (by decide) ?_
          exact x_iret hx hb hr hlocks h hP hS dLd_bind_56
        · replace h := it_f h hc
          refine lv_iload hx hb dLd_bind_49 (lv_at hl 0 rfl) ?_
          refine lv_iconst (v := 4) hx hb dLd_bind_51 (by decide) ?_
          refine lv_icmp_le (tgt := 57) hx hb dLd_bind_52 rfl (fun hc => ?_) (fun hc => ?_)
          · replace h := it_t h hc
            refine lv_aload_n hx hb dLd_bind_57 rfl (lv_at hl 1 rfl) ?_
            refine lv_aload_n hx hb dLd_bind_58 rfl (lv_at hl 2 rfl) ?_
            refine lv_aload_n hx hb dLd_bind_59 rfl (lv_at hl 2 rfl) ?_
            refine lv_iload hx hb dLd_bind_60 (lv_at hl 5 rfl) ?_
            refine lv_iconst (v := 4) hx hb dLd_bind_62 (by decide) ?_
            refine lv_iadd hx hb dLd_bind_63 ?_
            obtain ⟨u2, v2, hc2, h⟩ := bd2_some h
            refine x_ci (u := u1) (out := (u2, v2)) hA hD hS (va_runVN (As := [.int (x5 + (4 : Int32))]) (rest := [.ref (ad x1), .ref (ad x0)]) ⟨hx, hb, hml, hown, hts⟩ (ct_Im_wordAt hal hN F u1 x1 (x5 + (4 : Int32)) (u2, v2) hc2 q1 _) ⟨va_cnB 1 hts gdIm_wordAt rfl rfl rfl (nn_10 hNx) (hts _ tw_2) hdIm_wordAt ⟨Nat.le_of_ble_eq_true rfl, Nat.le_of_ble_eq_true rfl⟩, (hts _ tw_240), (hts _ tp_3)⟩ (x_preV hK hD hNx hP (hal _ (okk_al q1)) (okk_t q1) rfl rfl) rfl rfl hl.1 rfl (lv_room (Nat.le_of_ble_eq_true rfl)) dLd_bind_64 ⟨Nat.zero_le _, Nat.zero_le _⟩) (fun H locs hP hS => ?_)
            refine lv_aload_n hx hb dLd_bind_67 rfl (lv_at hl 3 rfl) ?_
            refine lv_iload hx hb dLd_bind_68 (lv_at hl 0 rfl) ?_
            refine lv_iconst (v := 1) hx hb dLd_bind_70 (by decide) ?_
            refine lv_isub hx hb dLd_bind_71 ?_
            obtain ⟨hi3, h⟩ := ck_some h
            obtain ⟨y4, hy5, h⟩ := bd1_some h
            obtain ⟨hy5a, hy5⟩ := rdR_some hy5
            refine x_aald hx hb hK hP (hal _ (okk_al q2)) (okk_t q2) 8 (fun _ _ _ => rfl) rfl rfl (inb_in hi3) hy5a dLd_bind_72 ?_
            obtain ⟨u6, v6, hc6, h⟩ := bd2_some h
            refine x_ci (u := u2) (out := (u6, v6)) hA hD hS (va_runV (As := [.ref (ad x1), .int v2, .ref (ad y4)]) (rest := []) ⟨hx, hb, hml, hown, hts⟩ (ct_Ld_bindSlots hal hN F u2 x0 x1 v2 y4 (u6, v6) hc6 q0 q1 hy5 _) ⟨callB_of 3 hts gdLd_bindSlots rfl rfl rfl (hts _ tw_4) (hts _ tw_769) hdLd_bindSlots ⟨Nat.le_of_ble_eq_true rfl, Nat.le_of_ble_eq_true rfl⟩, (hts _ tw_771), (hts _ tp_51)⟩ (x_preV hK hD hNx hP (hal _ (okk_al q0)) (okk_t q0) rfl rfl) rfl rfl hl.1 rfl (lv_room (Nat.le_of_ble_eq_true rfl)) dLd_bind_73 ⟨Nat.zero_le _, Nat.zero_le _⟩) (fun H locs hP hS => ?_)
            refine lv_istore (lv' := [(7, .int v6), (6, .int v1), (0, .ref (ad x0)), (1, .ref (ad x1)), (2, .ref (ad x2)), (4, .int x4), (5, .int x5)]) hx hb dLd_bind_76 hl (by decide) rfl (fun ls hl => ?_)
            refine lv_iload hx hb dLd_bind_78 (lv_at hl 0 rfl) ?_
            refine lv_if_eq (tgt := 86) hx hb dLd_bind_80 rfl (fun hc => ?_) (fun hc => ?_)
            · replace h := it_t h hc
              refine lv_iinc (k := 6) (v := x5 + (8 : Int32)) (lv' := [(5, .int (x5 + (8 : Int32))), (7, .int v6), (6, .int v1), (0, .ref (ad x0)), (1, .ref (ad x1)), (2, .ref (ad x2)), (4, .int x4)]) hx hb dLd_bind_86 hl rfl (congrArg (fun z => _ + z) (show Int32.ofInt 8 = 8 by decide)) (by decide) rfl (fun ls hl => ?_)
              refine lv_goto (tgt := 21) hx hb dLd_bind_89 rfl ?_
              exact ih u6 x0 x1 x2 x4 (x5 + (8 : Int32)) h q0 q1 q2 _ _ _ (lv_sub hl [3, 4, 5, 6, 0] rfl) hP hS
            · replace h := it_f h hc
              refine lv_iload hx hb dLd_bind_83 (lv_at hl 0 rfl) ?_
              exact x_iret hx hb hr hlocks h hP hS dLd_bind_85
          · replace h := it_f h hc
            refine lv_iconst (v := 3) hx hb dLd_bind_55 (by decide) ?_
            exact x_iret hx hb hr hlocks h hP hS dLd_bind_56
      · replace h := it_t h hc
        refine lv_iconst (v := 0) hx hb dLd_bind_41 (by decide) ?_
        exact x_iret hx hb hr hlocks h hP hS dLd_bind_42
def bk_Ld_bind_0 (F : Nat) (al : Nat → Bool) (u : Mr) (x0 : Nat) (x1 : Nat) (x2 : Nat) : Option (Mr × Int32) := bd2 (fn_Im_sectionBegin F al u x1 (2 : Int32)) fun u1 v1 => (bd2 (fn_Im_sectionSize F al u1 x1 (2 : Int32)) fun u2 v2 => (bk_Ld_bind_21 F al F u2 x0 x1 x2 ((v1 + v2) - (8 : Int32)) v1))
set_option maxHeartbeats 4000000 in
set_option maxRecDepth 100000 in
theorem wk_Ld_bind_0 (cx : Cx p l e s m args below meth c cLd_bind 8 bw "ImageForge$Loader" (some .int) D cA ad L rs al A) (F : Nat) (out : Mr × Int32) : ∀ (u : Mr) (x0 : Nat) (x1 : Nat) (x2 : Nat), bk_Ld_bind_0 F al u x0 x1 x2 = some out → okk al 13 x0 = true → okk al 6 x1 = true → okk al 4 x2 = true → Wb p l e rm_Ld_bind s m args below meth c D cA ad L rs A (QI below args s D cA ad L rs A out) 8 0 [(0, .ref (ad x0)), (1, .ref (ad x1)), (2, .ref (ad x2))] [] u := by
  obtain ⟨hx, hb, hml, hown, hts, hr, hlocks, hK, hA, hD, hN, hal, hNx⟩ := cx
  intro u x0 x1 x2 h q0 q1 q2 H locs ls hl hP hS
  unfold bk_Ld_bind_0 at h
  refine lv_aload_n hx hb dLd_bind_0 rfl (lv_at hl 1 rfl) ?_
  refine lv_iconst (v := 2) hx hb dLd_bind_1 (by decide) ?_
  obtain ⟨u1, v1, hc1, h⟩ := bd2_some h
  refine x_ci (u := u) (out := (u1, v1)) hA hD hS (va_runVN (As := [.int (2 : Int32)]) (rest := []) ⟨hx, hb, hml, hown, hts⟩ (ct_Im_sectionBegin hal hN F u x1 (2 : Int32) (u1, v1) hc1 q1 _) ⟨va_cnB 1 hts gdIm_sectionBegin rfl rfl rfl (nn_37 hNx) (hts _ tw_2) hdIm_sectionBegin ⟨Nat.le_of_ble_eq_true rfl, Nat.le_of_ble_eq_true rfl⟩, (hts _ tw_743), (hts _ tp_45)⟩ (x_preV hK hD hNx hP (hal _ (okk_al q1)) (okk_t q1) rfl rfl) rfl rfl hl.1 rfl (lv_room (Nat.le_of_ble_eq_true rfl)) dLd_bind_2 ⟨Nat.zero_le _, Nat.zero_le _⟩) (fun H locs hP hS => ?_)
  refine lv_istore_n (lv' := [(3, .int v1), (0, .ref (ad x0)), (1, .ref (ad x1)), (2, .ref (ad x2))]) hx hb dLd_bind_5 rfl hl (by decide) rfl (fun ls hl => ?_)
  refine lv_iload_n hx hb dLd_bind_6 rfl (lv_at hl 0 rfl) ?_
  refine lv_aload_n hx hb dLd_bind_7 rfl (lv_at hl 2 rfl) ?_
  refine lv_iconst (v := 2) hx hb dLd_bind_8 (by decide) ?_
  obtain ⟨u2, v2, hc2, h⟩ := bd2_some h
  refine x_ci (u := u1) (out := (u2, v2)) hA hD hS (va_runVN (As := [.int (2 : Int32)]) (rest := [.int v1]) ⟨hx, hb, hml, hown, hts⟩ (ct_Im_sectionSize hal hN F u1 x1 (2 : Int32) (u2, v2) hc2 q1 _) ⟨va_cnB 1 hts gdIm_sectionSize rfl rfl rfl (nn_38 hNx) (hts _ tw_2) hdIm_sectionSize ⟨Nat.le_of_ble_eq_true rfl, Nat.le_of_ble_eq_true rfl⟩, (hts _ tw_747), (hts _ tp_46)⟩ (x_preV hK hD hNx hP (hal _ (okk_al q1)) (okk_t q1) rfl rfl) rfl rfl hl.1 rfl (lv_room (Nat.le_of_ble_eq_true rfl)) dLd_bind_9 ⟨Nat.zero_le _, Nat.zero_le _⟩) (fun H locs hP hS => ?_)
  refine lv_iadd hx hb dLd_bind_12 ?_
  refine lv_bipush (v := 8) hx hb dLd_bind_13 (by decide) ?_
  refine lv_isub hx hb dLd_bind_15 ?_
  refine lv_istore (lv' := [(4, .int ((v1 + v2) - (8 : Int32))), (3, .int v1), (0, .ref (ad x0)), (1, .ref (ad x1)), (2, .ref (ad x2))]) hx hb dLd_bind_16 hl (by decide) rfl (fun ls hl => ?_)
  refine lv_iload_n hx hb dLd_bind_18 rfl (lv_at hl 1 rfl) ?_
  refine lv_istore (lv' := [(5, .int v1), (4, .int ((v1 + v2) - (8 : Int32))), (3, .int v1), (0, .ref (ad x0)), (1, .ref (ad x1)), (2, .ref (ad x2))]) hx hb dLd_bind_19 hl (by decide) rfl (fun ls hl => ?_)
  exact wk_Ld_bind_21 ⟨hx, hb, hml, hown, hts, hr, hlocks, hK, hA, hD, hN, hal, hNx⟩ F out F u2 x0 x1 x2 ((v1 + v2) - (8 : Int32)) v1 h q0 q1 q2 _ _ _ (lv_sub hl [3, 4, 5, 1, 0] rfl) hP hS
def fn_Ld_bind (F : Nat) (al : Nat → Bool) (u : Mr) (x0 : Nat) (x1 : Nat) (x2 : Nat) : Option (Mr × Int32) := bk_Ld_bind_0 F al u x0 x1 x2
set_option maxHeartbeats 4000000 in
set_option maxRecDepth 100000 in
theorem ct_Ld_bind {l : Launch} {D : va_G} {cA : Nat → ClassId} {ad : Nat → Nat} {L : List Nat} {rs : va_W} {al : Nat → Bool} (hal : ∀ k, al k = true → k ∈ L) (hN : L.Nodup) (F : Nat) (u : Mr) (x0 : Nat) (x1 : Nat) (x2 : Nat) (out : Mr × Int32) (h : fn_Ld_bind F al u x0 x1 x2 = some out) (q0 : okk al 13 x0 = true) (q1 : okk al 6 x1 = true) (q2 : okk al 4 x2 = true) : CtI l yLd_bind wsLd_bind rm_Ld_bind [.ref (ad x0), .ref (ad x1), .ref (ad x2)] D cA ad L rs u out := by
  intro sz
  refine Met.ofW (cc := cLd_bind) (maxL := 8) (ret := (some .int)) (by decide) rfl ?_
  intro p e s m args below meth c s₁ B hml hv
  obtain ⟨rfl, hsz, hP, hK, hD0, hNx⟩ := hv
  subst hsz
  have hD := hD0.self (sz := s.heap.size)
  generalize hAe : va_A (ww ad cA L rs u) s.heap.size = A at hD ⊢
  have hA : ∀ q, s.heap.size ≤ q → A q := fun q h => by rw [← hAe]; exact Or.inr h
  have hl := lv_entry ([.ref (ad x0), .ref (ad x1), .ref (ad x2)]) (n := 8) (Nat.le_of_ble_eq_true rfl)
  rw [lg_entry_eq]
  generalize (lg_sl ([.ref (ad x0), .ref (ad x1), .ref (ad x2)]) ++ List.replicate (8 - (lg_sl ([.ref (ad x0), .ref (ad x1), .ref (ad x2)])).length) Slot.unset).toArray = ls at hl ⊢
  exact wk_Ld_bind_0 ⟨B.exec, B.bytes, hml, findClass_of_methodNamed B.named, hts_bw (atoms_spec (ws := wsLd_bind) B.pre), B.returns, B.notSynchronized, hK, hA, fun v => ww_D hD, hN, hal, hNx⟩ F out u x0 x1 x2 h q0 q1 q2 _ _ _ (lv_sub hl [0, 1, 2] rfl) hP va_S.rf
end

abbrev yLd_prepare : MethodName := ⟨"ImageForge$Loader", "prepare", "(LImageForge$Image;[[II)I"⟩
abbrev cLd_prepare : ByteArray := prog_4_method_3_code
abbrev wsLd_prepare : List Cond := .code yLd_prepare cLd_prepare 4 (some .int) :: bw
theorem gdLd_prepare : GoodIn bw wsLd_prepare := gd_of tw_727
theorem hdLd_prepare : yLd_prepare.cls ≠ "java/lang/invoke/MethodHandle" ∧ yLd_prepare.cls ≠ "java/lang/invoke/VarHandle" ∧ (parseMethodDescriptor yLd_prepare.desc).map (fun d => d.parameters.length) = some 3 := by decide +kernel
theorem dLd_prepare_0 : decode cLd_prepare 0 = .ok (.aload_n 0, 1) := by decide +kernel
theorem dLd_prepare_1 : decode cLd_prepare 1 = .ok (.aload_n 1, 1) := by decide +kernel
theorem dLd_prepare_2 : decode cLd_prepare 2 = .ok (.invokevirtual 46, 3) := by decide +kernel
theorem dLd_prepare_5 : decode cLd_prepare 5 = .ok (.ifCond .ne 5, 3) := by decide +kernel
theorem dLd_prepare_8 : decode cLd_prepare 8 = .ok (.iconst 1, 1) := by decide +kernel
theorem dLd_prepare_9 : decode cLd_prepare 9 = .ok (.ireturn, 1) := by decide +kernel
theorem dLd_prepare_10 : decode cLd_prepare 10 = .ok (.aload_n 1, 1) := by decide +kernel
theorem dLd_prepare_11 : decode cLd_prepare 11 = .ok (.bipush 20, 2) := by decide +kernel
theorem dLd_prepare_13 : decode cLd_prepare 13 = .ok (.invokevirtual 50, 3) := by decide +kernel
theorem dLd_prepare_16 : decode cLd_prepare 16 = .ok (.aload_n 1, 1) := by decide +kernel
theorem dLd_prepare_17 : decode cLd_prepare 17 = .ok (.invokevirtual 53, 3) := by decide +kernel
theorem dLd_prepare_20 : decode cLd_prepare 20 = .ok (.if_icmp .eq 5, 3) := by decide +kernel
theorem dLd_prepare_23 : decode cLd_prepare 23 = .ok (.iconst 2, 1) := by decide +kernel
theorem dLd_prepare_24 : decode cLd_prepare 24 = .ok (.ireturn, 1) := by decide +kernel
theorem dLd_prepare_25 : decode cLd_prepare 25 = .ok (.aload_n 0, 1) := by decide +kernel
theorem dLd_prepare_26 : decode cLd_prepare 26 = .ok (.aload_n 1, 1) := by decide +kernel
theorem dLd_prepare_27 : decode cLd_prepare 27 = .ok (.invokevirtual 57, 3) := by decide +kernel
theorem dLd_prepare_30 : decode cLd_prepare 30 = .ok (.ifCond .eq 19, 3) := by decide +kernel
theorem dLd_prepare_33 : decode cLd_prepare 33 = .ok (.aload_n 0, 1) := by decide +kernel
theorem dLd_prepare_34 : decode cLd_prepare 34 = .ok (.aload_n 1, 1) := by decide +kernel
theorem dLd_prepare_35 : decode cLd_prepare 35 = .ok (.iload_n 3, 1) := by decide +kernel
theorem dLd_prepare_36 : decode cLd_prepare 36 = .ok (.aload_n 1, 1) := by decide +kernel
theorem dLd_prepare_37 : decode cLd_prepare 37 = .ok (.bipush 8, 2) := by decide +kernel
theorem dLd_prepare_39 : decode cLd_prepare 39 = .ok (.invokevirtual 50, 3) := by decide +kernel
theorem dLd_prepare_42 : decode cLd_prepare 42 = .ok (.isub, 1) := by decide +kernel
theorem dLd_prepare_43 : decode cLd_prepare 43 = .ok (.invokevirtual 60, 3) := by decide +kernel
theorem dLd_prepare_46 : decode cLd_prepare 46 = .ok (.ifCond .ne 5, 3) := by decide +kernel
theorem dLd_prepare_49 : decode cLd_prepare 49 = .ok (.iconst 3, 1) := by decide +kernel
theorem dLd_prepare_50 : decode cLd_prepare 50 = .ok (.ireturn, 1) := by decide +kernel
theorem dLd_prepare_51 : decode cLd_prepare 51 = .ok (.aload_n 1, 1) := by decide +kernel
theorem dLd_prepare_52 : decode cLd_prepare 52 = .ok (.iconst 2, 1) := by decide +kernel
theorem dLd_prepare_53 : decode cLd_prepare 53 = .ok (.invokevirtual 40, 3) := by decide +kernel
theorem dLd_prepare_56 : decode cLd_prepare 56 = .ok (.ifCond .ne 7, 3) := by decide +kernel
theorem dLd_prepare_59 : decode cLd_prepare 59 = .ok (.iconst 0, 1) := by decide +kernel
theorem dLd_prepare_60 : decode cLd_prepare 60 = .ok (.goto 9, 3) := by decide +kernel
theorem dLd_prepare_63 : decode cLd_prepare 63 = .ok (.aload_n 0, 1) := by decide +kernel
theorem dLd_prepare_64 : decode cLd_prepare 64 = .ok (.aload_n 1, 1) := by decide +kernel
theorem dLd_prepare_65 : decode cLd_prepare 65 = .ok (.aload_n 2, 1) := by decide +kernel
theorem dLd_prepare_66 : decode cLd_prepare 66 = .ok (.invokevirtual 64, 3) := by decide +kernel
theorem dLd_prepare_69 : decode cLd_prepare 69 = .ok (.ireturn, 1) := by decide +kernel
section
variable {p : Program} {l : Launch} {e : Env} {s : State} {m : MethodId} {args : Array Value} {below : List Frame} {meth : Method} {c : Code} {D : va_G} {cA : Nat → ClassId} {ad : Nat → Nat} {L : List Nat} {rs : va_W} {al : Nat → Bool} {A : Nat → Prop}
abbrev rm_Ld_prepare : Room := { frames := 4, cells := 0, slots := 0, locals := 100 }
def bk_Ld_prepare_0 (F : Nat) (al : Nat → Bool) (u : Mr) (x0 : Nat) (x1 : Nat) (x2 : Nat) (x3 : Int32) : Option (Mr × Int32) := bd2 (fn_Ld_hasHeader F al u x0 x1) fun u1 v1 => (if v1 = 0 then (some (u1, (1 : Int32))) else (bd2 (fn_Im_wordAt F al u1 x1 (20 : Int32)) fun u2 v2 => (bd2 (fn_Im_checksum F al u2 x1) fun u3 v3 => (if v2 = v3 then (bd2 (fn_Ld_holdsSections F al u3 x0 x1) fun u4 v4 => (if v4 = 0 then (some (u4, (3 : Int32))) else (bd2 (fn_Im_wordAt F al u4 x1 (8 : Int32)) fun u5 v5 => (bd2 (fn_Ld_relocate F al u5 x0 x1 (x3 - v5)) fun u6 v6 => (if v6 = 0 then (some (u6, (3 : Int32))) else (bd2 (fn_Im_sectionSize F al u6 x1 (2 : Int32)) fun u7 v7 => (if v7 = 0 then (some (u7, (0 : Int32))) else (bd2 (fn_Ld_bind F al u7 x0 x1 x2) fun u8 v8 => (some (u8, v8)))))))))) else (some (u3, (2 : Int32)))))))
set_option maxHeartbeats 4000000 in
set_option maxRecDepth 100000 in
theorem wk_Ld_prepare_0 (cx : Cx p l e s m args below meth c cLd_prepare 4 bw "ImageForge$Loader" (some .int) D cA ad L rs al A) (F : Nat) (out : Mr × Int32) : ∀ (u : Mr) (x0 : Nat) (x1 : Nat) (x2 : Nat) (x3 : Int32), bk_Ld_prepare_0 F al u x0 x1 x2 x3 = some out → okk al 13 x0 = true → okk al 6 x1 = true → okk al 4 x2 = true → Wb p l e rm_Ld_prepare s m args below meth c D cA ad L rs A (QI below args s D cA ad L rs A out) 4 0 [(0, .ref (ad x0)), (1, .ref (ad x1)), (2, .ref (ad x2)), (3, .int x3)] [] u := by
  obtain ⟨hx, hb, hml, hown, hts, hr, hlocks, hK, hA, hD, hN, hal, hNx⟩ := cx
  intro u x0 x1 x2 x3 h q0 q1 q2 H locs ls hl hP hS
  unfold bk_Ld_prepare_0 at h
  refine lv_aload_n hx hb dLd_prepare_0 rfl (lv_at hl 0 rfl) ?_
  refine lv_aload_n hx hb dLd_prepare_1 rfl (lv_at hl 1 rfl) ?_
  obtain ⟨u1, v1, hc1, h⟩ := bd2_some h
  refine x_ci (u := u) (out := (u1, v1)) hA hD hS (va_runV (As := [.ref (ad x1)]) (rest := []) ⟨hx, hb, hml, hown, hts⟩ (ct_Ld_hasHeader hal hN F u x0 x1 (u1, v1) hc1 q0 q1 _) ⟨callB_of 1 hts gdLd_hasHeader rfl rfl rfl (hts _ tw_4) (hts _ tw_728) hdLd_hasHeader ⟨Nat.le_of_ble_eq_true rfl, Nat.le_of_ble_eq_true rfl⟩, (hts _ tw_730), (hts _ tp_42)⟩ (x_preV hK hD hNx hP (hal _ (okk_al q0)) (okk_t q0) rfl rfl) rfl rfl hl.1 rfl (lv_room (Nat.le_of_ble_eq_true rfl)) dLd_prepare_2 ⟨Nat.zero_le _, Nat.zero_le _⟩) (fun H locs hP hS => ?_)
  refine lv_if_ne (tgt := 10) hx hb dLd_prepare_5 rfl (fun hc => ?_) (fun hc => ?_)
  · replace h := it_f h hc
    refine lv_aload_n hx hb dLd_prepare_10 rfl (lv_at hl 1 rfl) ?_
    refine lv_bipush (v := 20) hx hb dLd_prepare_11 (by decide) ?_
    obtain ⟨u2, v2, hc2, h⟩ := bd2_some h
    refine x_ci (u := u1) (out := (u2, v2)) hA hD hS (va_runVN (As := [.int (20 : Int32)]) (rest := []) ⟨hx, hb, hml, hown, hts⟩ (ct_Im_wordAt hal hN F u1 x1 (20 : Int32) (u2, v2) hc2 q1 _) ⟨va_cnB 1 hts gdIm_wordAt rfl rfl rfl (nn_10 hNx) (hts _ tw_2) hdIm_wordAt ⟨Nat.le_of_ble_eq_true rfl, Nat.le_of_ble_eq_true rfl⟩, (hts _ tw_240), (hts _ tp_3)⟩ (x_preV hK hD hNx hP (hal _ (okk_al q1)) (okk_t q1) rfl rfl) rfl rfl hl.1 rfl (lv_room (Nat.le_of_ble_eq_true rfl)) dLd_prepare_13 ⟨Nat.zero_le _, Nat.zero_le _⟩) (fun H locs hP hS => ?_)
    refine lv_aload_n hx hb dLd_prepare_16 rfl (lv_at hl 1 rfl) ?_
    obtain ⟨u3, v3, hc3, h⟩ := bd2_some h
    refine x_ci (u := u2) (out := (u3, v3)) hA hD hS (va_runVN (As := []) (rest := [.int v2]) ⟨hx, hb, hml, hown, hts⟩ (ct_Im_checksum hal hN F u2 x1 (u3, v3) hc3 q1 _) ⟨va_cnB 0 hts gdIm_checksum rfl rfl rfl (nn_35 hNx) (hts _ tw_2) hdIm_checksum ⟨Nat.le_of_ble_eq_true rfl, Nat.le_of_ble_eq_true rfl⟩, (hts _ tw_657), (hts _ tp_35)⟩ (x_preV hK hD hNx hP (hal _ (okk_al q1)) (okk_t q1) rfl rfl) rfl rfl hl.1 rfl (lv_room (Nat.le_of_ble_eq_true rfl)) dLd_prepare_17 ⟨Nat.zero_le _, Nat.zero_le _⟩) (fun H locs hP hS => ?_)
    refine lv_icmp_eq (tgt := 25) hx hb dLd_prepare_20 rfl (fun hc => ?_) (fun hc => ?_)
    · replace h := it_t h hc
      refine lv_aload_n hx hb dLd_prepare_25 rfl (lv_at hl 0 rfl) ?_
      refine lv_aload_n hx hb dLd_prepare_26 rfl (lv_at hl 1 rfl) ?_
      obtain ⟨u4, v4, hc4, h⟩ := bd2_some h
      refine x_ci (u := u3) (out := (u4, v4)) hA hD hS (va_runV (As := [.ref (ad x1)]) (rest := []) ⟨hx, hb, hml, hown, hts⟩ (ct_Ld_holdsSections hal hN F u3 x0 x1 (u4, v4) hc4 q0 q1 _) ⟨callB_of 1 hts gdLd_holdsSections rfl rfl rfl (hts _ tw_4) (hts _ tw_733) hdLd_holdsSections ⟨Nat.le_of_ble_eq_true rfl, Nat.le_of_ble_eq_true rfl⟩, (hts _ tw_735), (hts _ tp_43)⟩ (x_preV hK hD hNx hP (hal _ (okk_al q0)) (okk_t q0) rfl rfl) rfl rfl hl.1 rfl (lv_room (Nat.le_of_ble_eq_true rfl)) dLd_prepare_27 ⟨Nat.zero_le _, Nat.zero_le _⟩) (fun H locs hP hS => ?_)
      refine lv_if_eq (tgt := 49) hx hb dLd_prepare_30 rfl (fun hc => ?_) (fun hc => ?_)
      · replace h := it_t h hc
        refine lv_iconst (v := 3) hx hb dLd_prepare_49 (by decide) ?_
        exact x_iret hx hb hr hlocks h hP hS dLd_prepare_50
      · replace h := it_f h hc
        refine lv_aload_n hx hb dLd_prepare_33 rfl (lv_at hl 0 rfl) ?_
        refine lv_aload_n hx hb dLd_prepare_34 rfl (lv_at hl 1 rfl) ?_
        refine lv_iload_n hx hb dLd_prepare_35 rfl (lv_at hl 3 rfl) ?_
        refine lv_aload_n hx hb dLd_prepare_36 rfl (lv_at hl 1 rfl) ?_
        refine lv_bipush (v := 8) hx hb dLd_prepare_37 (by decide) ?_
        obtain ⟨u5, v5, hc5, h⟩ := bd2_some h
        refine x_ci (u := u4) (out := (u5, v5)) hA hD hS (va_runVN (As := [.int (8 : Int32)]) (rest := [.int x3, .ref (ad x1), .ref (ad x0)]) ⟨hx, hb, hml, hown, hts⟩ (ct_Im_wordAt hal hN F u4 x1 (8 : Int32) (u5, v5) hc5 q1 _) ⟨va_cnB 1 hts gdIm_wordAt rfl rfl rfl (nn_10 hNx) (hts _ tw_2) hdIm_wordAt ⟨Nat.le_of_ble_eq_true rfl, Nat.le_of_ble_eq_true rfl⟩, (hts _ tw_240), (hts _ tp_3)⟩ (x_preV hK hD hNx hP (hal _ (okk_al q1)) (okk_t q1) rfl rfl) rfl rfl hl.1 rfl (lv_room (Nat.le_of_ble_eq_true rfl)) dLd_prepare_39 ⟨Nat.zero_le _, Nat.zero_le _⟩) (fun H locs hP hS => ?_)
        refine lv_isub hx hb dLd_prepare_42 ?_
        obtain ⟨u6, v6, hc6, h⟩ := bd2_some h
        refine x_ci (u := u5) (out := (u6, v6)) hA hD hS (va_runV (As := [.ref (ad x1), .int (x3 - v5)]) (rest := []) ⟨hx, hb, hml, hown, hts⟩ (ct_Ld_relocate hal hN F u5 x0 x1 (x3 - v5) (u6, v6) hc6 q0 q1 _) ⟨callB_of 2 hts gdLd_relocate rfl rfl rfl (hts _ tw_4) (hts _ tw_749) hdLd_relocate ⟨Nat.le_of_ble_eq_true rfl, Nat.le_of_ble_eq_true rfl⟩, (hts _ tw_751), (hts _ tp_47)⟩ (x_preV hK hD hNx hP (hal _ (okk_al q0)) (okk_t q0) rfl rfl) rfl rfl hl.1 rfl (lv_room (Nat.le_of_ble_eq_true rfl)) dLd_prepare_43 ⟨Nat.zero_le _, Nat.zero_le _⟩) (fun H locs hP hS => ?_)
        refine lv_if_ne (tgt := 51) hx hb dLd_prepare_46 rfl (fun hc => ?_) (fun hc => ?_)
        · replace h := it_f h hc
          refine lv_aload_n hx hb dLd_prepare_51 rfl (lv_at hl 1 rfl) ?_
          refine lv_iconst (v := 2) hx hb dLd_prepare_52 (by decide) ?_
          obtain ⟨u7, v7, hc7, h⟩ := bd2_some h
          refine x_ci (u := u6) (out := (u7, v7)) hA hD hS (va_runVN (As := [.int (2 : Int32)]) (rest := []) ⟨hx, hb, hml, hown, hts⟩ (ct_Im_sectionSize hal hN F u6 x1 (2 : Int32) (u7, v7) hc7 q1 _) ⟨va_cnB 1 hts gdIm_sectionSize rfl rfl rfl (nn_38 hNx) (hts _ tw_2) hdIm_sectionSize ⟨Nat.le_of_ble_eq_true rfl, Nat.le_of_ble_eq_true rfl⟩, (hts _ tw_747), (hts _ tp_46)⟩ (x_preV hK hD hNx hP (hal _ (okk_al q1)) (okk_t q1) rfl rfl) rfl rfl hl.1 rfl (lv_room (Nat.le_of_ble_eq_true rfl)) dLd_prepare_53 ⟨Nat.zero_le _, Nat.zero_le _⟩) (fun H locs hP hS => ?_)
          refine lv_if_ne (tgt := 63) hx hb dLd_prepare_56 rfl (fun hc => ?_) (fun hc => ?_)
          · replace h := it_f h hc
            refine lv_aload_n hx hb dLd_prepare_63 rfl (lv_at hl 0 rfl) ?_
            refine lv_aload_n hx hb dLd_prepare_64 rfl (lv_at hl 1 rfl) ?_
            refine lv_aload_n hx hb dLd_prepare_65 rfl (lv_at hl 2 rfl) ?_
            obtain ⟨u8, v8, hc8, h⟩ := bd2_some h
            refine x_ci (u := u7) (out := (u8, v8)) hA hD hS (va_runV (As := [.ref (ad x1), .ref (ad x2)]) (rest := []) ⟨hx, hb, hml, hown, hts⟩ (ct_Ld_bind hal hN F u7 x0 x1 x2 (u8, v8) hc8 q0 q1 q2 _) ⟨callB_of 2 hts gdLd_bind rfl rfl rfl (hts _ tw_4) (hts _ tw_765) hdLd_bind ⟨Nat.le_of_ble_eq_true rfl, Nat.le_of_ble_eq_true rfl⟩, (hts _ tw_767), (hts _ tp_50)⟩ (x_preV hK hD hNx hP (hal _ (okk_al q0)) (okk_t q0) rfl rfl) rfl rfl hl.1 rfl (lv_room (Nat.le_of_ble_eq_true rfl)) dLd_prepare_66 ⟨Nat.zero_le _, Nat.zero_le _⟩) (fun H locs hP hS => ?_)
            exact x_iret hx hb hr hlocks h hP hS dLd_prepare_69
          · replace h := it_t h hc
            refine lv_iconst (v := 0) hx hb dLd_prepare_59 (by decide) ?_
            refine lv_goto (tgt := 69) hx hb dLd_prepare_60 rfl ?_
            exact x_iret hx hb hr hlocks h hP hS dLd_prepare_69
        · replace h := it_t h hc
          refine lv_iconst (v := 3) hx hb dLd_prepare_49 (by decide) ?_
          exact x_iret hx hb hr hlocks h hP hS dLd_prepare_50
    · replace h := it_f h hc
      refine lv_iconst (v := 2) hx hb dLd_prepare_23 (by decide) ?_
      exact x_iret hx hb hr hlocks h hP hS dLd_prepare_24
  · replace h := it_t h hc
    refine lv_iconst (v := 1) hx hb dLd_prepare_8 (by decide) ?_
    exact x_iret hx hb hr hlocks h hP hS dLd_prepare_9
def fn_Ld_prepare (F : Nat) (al : Nat → Bool) (u : Mr) (x0 : Nat) (x1 : Nat) (x2 : Nat) (x3 : Int32) : Option (Mr × Int32) := bk_Ld_prepare_0 F al u x0 x1 x2 x3
set_option maxHeartbeats 4000000 in
set_option maxRecDepth 100000 in
theorem ct_Ld_prepare {l : Launch} {D : va_G} {cA : Nat → ClassId} {ad : Nat → Nat} {L : List Nat} {rs : va_W} {al : Nat → Bool} (hal : ∀ k, al k = true → k ∈ L) (hN : L.Nodup) (F : Nat) (u : Mr) (x0 : Nat) (x1 : Nat) (x2 : Nat) (x3 : Int32) (out : Mr × Int32) (h : fn_Ld_prepare F al u x0 x1 x2 x3 = some out) (q0 : okk al 13 x0 = true) (q1 : okk al 6 x1 = true) (q2 : okk al 4 x2 = true) : CtI l yLd_prepare wsLd_prepare rm_Ld_prepare [.ref (ad x0), .ref (ad x1), .ref (ad x2), .int x3] D cA ad L rs u out := by
  intro sz
  refine Met.ofW (cc := cLd_prepare) (maxL := 4) (ret := (some .int)) (by decide) rfl ?_
  intro p e s m args below meth c s₁ B hml hv
  obtain ⟨rfl, hsz, hP, hK, hD0, hNx⟩ := hv
  subst hsz
  have hD := hD0.self (sz := s.heap.size)
  generalize hAe : va_A (ww ad cA L rs u) s.heap.size = A at hD ⊢
  have hA : ∀ q, s.heap.size ≤ q → A q := fun q h => by rw [← hAe]; exact Or.inr h
  have hl := lv_entry ([.ref (ad x0), .ref (ad x1), .ref (ad x2), .int x3]) (n := 4) (Nat.le_of_ble_eq_true rfl)
  rw [lg_entry_eq]
  generalize (lg_sl ([.ref (ad x0), .ref (ad x1), .ref (ad x2), .int x3]) ++ List.replicate (4 - (lg_sl ([.ref (ad x0), .ref (ad x1), .ref (ad x2), .int x3])).length) Slot.unset).toArray = ls at hl ⊢
  exact wk_Ld_prepare_0 ⟨B.exec, B.bytes, hml, findClass_of_methodNamed B.named, hts_bw (atoms_spec (ws := wsLd_prepare) B.pre), B.returns, B.notSynchronized, hK, hA, fun v => ww_D hD, hN, hal, hNx⟩ F out u x0 x1 x2 x3 h q0 q1 q2 _ _ _ (lv_sub hl [0, 1, 2, 3] rfl) hP va_S.rf
end

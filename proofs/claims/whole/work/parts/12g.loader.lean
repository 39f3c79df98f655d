abbrev yLd_bring : MethodName := ⟨"ImageForge$Loader", "bring", "(LImageForge$Image;[[II)I"⟩
abbrev cLd_bring : ByteArray := prog_4_method_2_code
abbrev wsLd_bring : List Cond := .code yLd_bring cLd_bring 6 (some .int) :: bw
theorem gdLd_bring : GoodIn bw wsLd_bring := gd_of tw_718
theorem hdLd_bring : yLd_bring.cls ≠ "java/lang/invoke/MethodHandle" ∧ yLd_bring.cls ≠ "java/lang/invoke/VarHandle" ∧ (parseMethodDescriptor yLd_bring.desc).map (fun d => d.parameters.length) = some 3 := by decide +kernel
theorem dLd_bring_0 : decode cLd_bring 0 = .ok (.aload_n 0, 1) := by decide +kernel
theorem dLd_bring_1 : decode cLd_bring 1 = .ok (.getfield 18, 3) := by decide +kernel
theorem dLd_bring_4 : decode cLd_bring 4 = .ok (.aload_n 1, 1) := by decide +kernel
theorem dLd_bring_5 : decode cLd_bring 5 = .ok (.invokevirtual 21, 3) := by decide +kernel
theorem dLd_bring_8 : decode cLd_bring 8 = .ok (.aload_n 0, 1) := by decide +kernel
theorem dLd_bring_9 : decode cLd_bring 9 = .ok (.aload_n 1, 1) := by decide +kernel
theorem dLd_bring_10 : decode cLd_bring 10 = .ok (.aload_n 2, 1) := by decide +kernel
theorem dLd_bring_11 : decode cLd_bring 11 = .ok (.iload_n 3, 1) := by decide +kernel
theorem dLd_bring_12 : decode cLd_bring 12 = .ok (.invokevirtual 25, 3) := by decide +kernel
theorem dLd_bring_15 : decode cLd_bring 15 = .ok (.istore 4, 2) := by decide +kernel
theorem dLd_bring_17 : decode cLd_bring 17 = .ok (.iload 4, 2) := by decide +kernel
theorem dLd_bring_19 : decode cLd_bring 19 = .ok (.ifCond .ne 46, 3) := by decide +kernel
theorem dLd_bring_22 : decode cLd_bring 22 = .ok (.aload_n 0, 1) := by decide +kernel
theorem dLd_bring_23 : decode cLd_bring 23 = .ok (.getfield 12, 3) := by decide +kernel
theorem dLd_bring_26 : decode cLd_bring 26 = .ok (.astore 5, 2) := by decide +kernel
theorem dLd_bring_28 : decode cLd_bring 28 = .ok (.aload_n 0, 1) := by decide +kernel
theorem dLd_bring_29 : decode cLd_bring 29 = .ok (.aload_n 0, 1) := by decide +kernel
theorem dLd_bring_30 : decode cLd_bring 30 = .ok (.getfield 18, 3) := by decide +kernel
theorem dLd_bring_33 : decode cLd_bring 33 = .ok (.putfield 12, 3) := by decide +kernel
theorem dLd_bring_36 : decode cLd_bring 36 = .ok (.aload_n 0, 1) := by decide +kernel
theorem dLd_bring_37 : decode cLd_bring 37 = .ok (.aload 5, 2) := by decide +kernel
theorem dLd_bring_39 : decode cLd_bring 39 = .ok (.putfield 18, 3) := by decide +kernel
theorem dLd_bring_42 : decode cLd_bring 42 = .ok (.aload_n 0, 1) := by decide +kernel
theorem dLd_bring_43 : decode cLd_bring 43 = .ok (.iload_n 3, 1) := by decide +kernel
theorem dLd_bring_44 : decode cLd_bring 44 = .ok (.putfield 29, 3) := by decide +kernel
theorem dLd_bring_47 : decode cLd_bring 47 = .ok (.aload_n 0, 1) := by decide +kernel
theorem dLd_bring_48 : decode cLd_bring 48 = .ok (.aload_n 1, 1) := by decide +kernel
theorem dLd_bring_49 : decode cLd_bring 49 = .ok (.iconst 3, 1) := by decide +kernel
theorem dLd_bring_50 : decode cLd_bring 50 = .ok (.invokevirtual 33, 3) := by decide +kernel
theorem dLd_bring_53 : decode cLd_bring 53 = .ok (.putfield 37, 3) := by decide +kernel
theorem dLd_bring_56 : decode cLd_bring 56 = .ok (.aload_n 0, 1) := by decide +kernel
theorem dLd_bring_57 : decode cLd_bring 57 = .ok (.aload_n 1, 1) := by decide +kernel
theorem dLd_bring_58 : decode cLd_bring 58 = .ok (.iconst 3, 1) := by decide +kernel
theorem dLd_bring_59 : decode cLd_bring 59 = .ok (.invokevirtual 40, 3) := by decide +kernel
theorem dLd_bring_62 : decode cLd_bring 62 = .ok (.putfield 43, 3) := by decide +kernel
theorem dLd_bring_65 : decode cLd_bring 65 = .ok (.iload 4, 2) := by decide +kernel
theorem dLd_bring_67 : decode cLd_bring 67 = .ok (.ireturn, 1) := by decide +kernel
section
variable {p : Program} {l : Launch} {e : Env} {s : State} {m : MethodId} {args : Array Value} {below : List Frame} {meth : Method} {c : Code} {D : va_G} {cA : Nat → ClassId} {ad : Nat → Nat} {L : List Nat} {rs : va_W} {al : Nat → Bool} {A : Nat → Prop}
abbrev rm_Ld_bring : Room := { frames := 5, cells := 0, slots := 0, locals := 123 }
def bk_Ld_bring_0 (F : Nat) (al : Nat → Bool) (u : Mr) (x0 : Nat) (x1 : Nat) (x2 : Nat) (x3 : Int32) : Option (Mr × Int32) := bd1 (rdR al u x0 1 6) fun y1 => (bd2 (fn_Im_copyFrom F al u y1 x1) fun u3 v3 => (bd2 (fn_Ld_prepare F al u3 x0 x1 x2 x3) fun u4 v4 => (if v4 = 0 then (bd1 (rdR al u4 x0 0 6) fun y5 => (bd1 (rdR al u4 x0 1 6) fun y7 => (bd2 (fn_Im_sectionBegin F al (stI (stR (stR u4 x0 0 (some y7)) x0 1 (some y5)) x0 2 x3) x1 (3 : Int32)) fun u9 v9 => (bd2 (fn_Im_sectionSize F al (stI u9 x0 3 v9) x1 (3 : Int32)) fun u10 v10 => (some (stI u10 x0 4 v10, v4)))))) else (some (u4, v4)))))
set_option maxHeartbeats 4000000 in
set_option maxRecDepth 100000 in
theorem wk_Ld_bring_0 (cx : Cx p l e s m args below meth c cLd_bring 6 bw "ImageForge$Loader" (some .int) D cA ad L rs al A) (F : Nat) (out : Mr × Int32) : ∀ (u : Mr) (x0 : Nat) (x1 : Nat) (x2 : Nat) (x3 : Int32), bk_Ld_bring_0 F al u x0 x1 x2 x3 = some out → okk al 13 x0 = true → okk al 6 x1 = true → okk al 4 x2 = true → Wb p l e rm_Ld_bring s m args below meth c D cA ad L rs A (QI below args s D cA ad L rs A out) 6 0 [(0, .ref (ad x0)), (1, .ref (ad x1)), (2, .ref (ad x2)), (3, .int x3)] [] u := by
  obtain ⟨hx, hb, hml, hown, hts, hr, hlocks, hK, hA, hD, hN, hal, hNx⟩ := cx
  intro u x0 x1 x2 x3 h q0 q1 q2 H locs ls hl hP hS
  unfold bk_Ld_bring_0 at h
  refine lv_aload_n hx hb dLd_bring_0 rfl (lv_at hl 0 rfl) ?_
  obtain ⟨y1, hy2, h⟩ := bd1_some h
  obtain ⟨hy2a, hy2⟩ := rdR_some hy2
  refine x_get hx hb hts in_Ld hown hK hP (hal _ (okk_al q0)) (okk_t q0) rfl rfl 1 (by decide) (hts _ tw_87) (fun _ h9 => h9) (congrArg some (x_rf hy2a)) dLd_bring_1 ?_
  refine lv_aload_n hx hb dLd_bring_4 rfl (lv_at hl 1 rfl) ?_
  obtain ⟨u3, v3, hc3, h⟩ := bd2_some h
  refine x_cv (u := u) (out := (u3, v3)) hA hD hS (va_runVN (As := [.ref (ad x1)]) (rest := []) ⟨hx, hb, hml, hown, hts⟩ (ct_Im_copyFrom hal hN F u y1 x1 (u3, v3) hc3 hy2 q1 _) ⟨va_cnB 1 hts gdIm_copyFrom rfl rfl rfl (nn_34 hNx) (hts _ tw_2) hdIm_copyFrom ⟨Nat.le_of_ble_eq_true rfl, Nat.le_of_ble_eq_true rfl⟩, (hts _ tw_721), (hts _ tp_40)⟩ (x_preV hK hD hNx hP (hal _ (okk_al hy2)) (okk_t hy2) rfl rfl) rfl rfl hl.1 rfl (lv_room (Nat.le_of_ble_eq_true rfl)) dLd_bring_5 ⟨Nat.zero_le _, Nat.zero_le _⟩) (fun H locs hP hS => ?_)
  refine lv_aload_n hx hb dLd_bring_8 rfl (lv_at hl 0 rfl) ?_
  refine lv_aload_n hx hb dLd_bring_9 rfl (lv_at hl 1 rfl) ?_
  refine lv_aload_n hx hb dLd_bring_10 rfl (lv_at hl 2 rfl) ?_
  refine lv_iload_n hx hb dLd_bring_11 rfl (lv_at hl 3 rfl) ?_
  obtain ⟨u4, v4, hc4, h⟩ := bd2_some h
  refine x_ci (u := u3) (out := (u4, v4)) hA hD hS (va_runV (As := [.ref (ad x1), .ref (ad x2), .int x3]) (rest := []) ⟨hx, hb, hml, hown, hts⟩ (ct_Ld_prepare hal hN F u3 x0 x1 x2 x3 (u4, v4) hc4 q0 q1 q2 _) ⟨callB_of 3 hts gdLd_prepare rfl rfl rfl (hts _ tw_4) (hts _ tw_724) hdLd_prepare ⟨Nat.le_of_ble_eq_true rfl, Nat.le_of_ble_eq_true rfl⟩, (hts _ tw_726), (hts _ tp_41)⟩ (x_preV hK hD hNx hP (hal _ (okk_al q0)) (okk_t q0) rfl rfl) rfl rfl hl.1 rfl (lv_room (Nat.le_of_ble_eq_true rfl)) dLd_bring_12 ⟨Nat.zero_le _, Nat.zero_le _⟩) (fun H locs hP hS => ?_)
  refine lv_istore (lv' := [(4, .int v4), (0, .ref (ad x0)), (1, .ref (ad x1)), (2, .ref (ad x2)), (3, .int x3)]) hx hb dLd_bring_15 hl (by decide) rfl (fun ls hl => ?_)
  refine lv_iload hx hb dLd_bring_17 (lv_at hl 0 rfl) ?_
  refine lv_if_ne (tgt := 65) hx hb dLd_bring_19 rfl (fun hc => ?_) (fun hc => ?_)
  · replace h := it_f h hc
    refine lv_iload hx hb dLd_bring_65 (lv_at hl 0 rfl) ?_
    exact x_iret hx hb hr hlocks h hP hS dLd_bring_67
  · replace h := it_t h hc
    refine lv_aload_n hx hb dLd_bring_22 rfl (lv_at hl 1 rfl) ?_
    obtain ⟨y5, hy6, h⟩ := bd1_some h
    obtain ⟨hy6a, hy6⟩ := rdR_some hy6
    refine x_get hx hb hts in_Ld hown hK hP (hal _ (okk_al q0)) (okk_t q0) rfl rfl 0 (by decide) (hts _ tw_86) (fun _ h9 => h9) (congrArg some (x_rf hy6a)) dLd_bring_23 ?_
    refine lv_astore (lv' := [(5, .ref (ad y5)), (4, .int v4), (0, .ref (ad x0)), (1, .ref (ad x1)), (2, .ref (ad x2)), (3, .int x3)]) hx hb dLd_bring_26 hl (by decide) rfl (fun ls hl => ?_)
    refine lv_aload_n hx hb dLd_bring_28 rfl (lv_at hl 2 rfl) ?_
    refine lv_aload_n hx hb dLd_bring_29 rfl (lv_at hl 2 rfl) ?_
    obtain ⟨y7, hy8, h⟩ := bd1_some h
    obtain ⟨hy8a, hy8⟩ := rdR_some hy8
    refine x_get hx hb hts in_Ld hown hK hP (hal _ (okk_al q0)) (okk_t q0) rfl rfl 1 (by decide) (hts _ tw_87) (fun _ h9 => h9) (congrArg some (x_rf hy8a)) dLd_bring_30 ?_
    refine x_put hx hb hts in_Ld t_Ld t_Ld_ok nm_Ld hown hK hD hN hP hS (hal _ (okk_al q0)) (okk_t q0) rfl rfl 0 (by decide) (hts _ tw_86) (fun _ h9 => h9) rfl (ty := .object "ImageForge$Image") (v := .ref (ad y7)) (by decide +kernel) rfl rfl (Nat.le_of_ble_eq_true rfl) (stR u4 x0 0 (some y7)) stR_o (by rw [stR_up]; exact eq_13_0) dLd_bring_33 (fun H locs hP hS => ?_)
    refine lv_aload_n hx hb dLd_bring_36 rfl (lv_at hl 2 rfl) ?_
    refine lv_aload hx hb dLd_bring_37 (lv_at hl 0 rfl) ?_
    refine x_put hx hb hts in_Ld t_Ld t_Ld_ok nm_Ld hown hK hD hN hP hS (hal _ (okk_al q0)) (okk_t q0) rfl rfl 1 (by decide) (hts _ tw_87) (fun _ h9 => h9) rfl (ty := .object "ImageForge$Image") (v := .ref (ad y5)) (by decide +kernel) rfl rfl (Nat.le_of_ble_eq_true rfl) (stR (stR u4 x0 0 (some y7)) x0 1 (some y5)) stR_o (by rw [stR_up]; exact eq_13_1) dLd_bring_39 (fun H locs hP hS => ?_)
    refine lv_aload_n hx hb dLd_bring_42 rfl (lv_at hl 2 rfl) ?_
    refine lv_iload_n hx hb dLd_bring_43 rfl (lv_at hl 5 rfl) ?_
    refine x_put hx hb hts in_Ld t_Ld t_Ld_ok nm_Ld hown hK hD hN hP hS (hal _ (okk_al q0)) (okk_t q0) rfl rfl 2 (by decide) (hts _ tw_88) (fun _ h9 => h9) rfl (ty := .int) (by decide +kernel) rfl rfl (Nat.le_of_ble_eq_true rfl) (stI (stR (stR u4 x0 0 (some y7)) x0 1 (some y5)) x0 2 x3) stI_o (by rw [stI_up]; exact eg_13_2) dLd_bring_44 (fun H locs hP hS => ?_)
    refine lv_aload_n hx hb dLd_bring_47 rfl (lv_at hl 2 rfl) ?_
    refine lv_aload_n hx hb dLd_bring_48 rfl (lv_at hl 3 rfl) ?_
    refine lv_iconst (v := 3) hx hb dLd_bring_49 (by decide) ?_
    obtain ⟨u9, v9, hc9, h⟩ := bd2_some h
    refine x_ci (u := stI (stR (stR u4 x0 0 (some y7)) x0 1 (some y5)) x0 2 x3) (out := (u9, v9)) hA hD hS (va_runVN (As := [.int (3 : Int32)]) (rest := [.ref (ad x0)]) ⟨hx, hb, hml, hown, hts⟩ (ct_Im_sectionBegin hal hN F (stI (stR (stR u4 x0 0 (some y7)) x0 1 (some y5)) x0 2 x3) x1 (3 : Int32) (u9, v9) hc9 q1 _) ⟨va_cnB 1 hts gdIm_sectionBegin rfl rfl rfl (nn_37 hNx) (hts _ tw_2) hdIm_sectionBegin ⟨Nat.le_of_ble_eq_true rfl, Nat.le_of_ble_eq_true rfl⟩, (hts _ tw_743), (hts _ tp_45)⟩ (x_preV hK hD hNx hP (hal _ (okk_al q1)) (okk_t q1) rfl rfl) rfl rfl hl.1 rfl (lv_room (Nat.le_of_ble_eq_true rfl)) dLd_bring_50 ⟨Nat.zero_le _, Nat.zero_le _⟩) (fun H locs hP hS => ?_)
    refine x_put hx hb hts in_Ld t_Ld t_Ld_ok nm_Ld hown hK hD hN hP hS (hal _ (okk_al q0)) (okk_t q0) rfl rfl 3 (by decide) (hts _ tw_89) (fun _ h9 => h9) rfl (ty := .int) (by decide +kernel) rfl rfl (Nat.le_of_ble_eq_true rfl) (stI u9 x0 3 v9) stI_o (by rw [stI_up]; exact eg_13_3) dLd_bring_53 (fun H locs hP hS => ?_)
    refine lv_aload_n hx hb dLd_bring_56 rfl (lv_at hl 2 rfl) ?_
    refine lv_aload_n hx hb dLd_bring_57 rfl (lv_at hl 3 rfl) ?_
    refine lv_iconst (v := 3) hx hb dLd_bring_58 (by decide) ?_
    obtain ⟨u10, v10, hc10, h⟩ := bd2_some h
    refine x_ci (u := stI u9 x0 3 v9) (out := (u10, v10)) hA hD hS (va_runVN (As := [.int (3 : Int32)]) (rest := [.ref (ad x0)]) ⟨hx, hb, hml, hown, hts⟩ (ct_Im_sectionSize hal hN F (stI u9 x0 3 v9) x1 (3 : Int32) (u10, v10) hc10 q1 _) ⟨va_cnB 1 hts gdIm_sectionSize rfl rfl rfl (nn_38 hNx) (hts _ tw_2) hdIm_sectionSize ⟨Nat.le_of_ble_eq_true rfl, Nat.le_of_ble_eq_true rfl⟩, (hts _ tw_747), (hts _ tp_46)⟩ (x_preV hK hD hNx hP (hal _ (okk_al q1)) (okk_t q1) rfl rfl) rfl rfl hl.1 rfl (lv_room (Nat.le_of_ble_eq_true rfl)) dLd_bring_59 ⟨Nat.zero_le _, Nat.zero_le _⟩) (fun H locs hP hS => ?_)
    refine x_put hx hb hts in_Ld t_Ld t_Ld_ok nm_Ld hown hK hD hN hP hS (hal _ (okk_al q0)) (okk_t q0) rfl rfl 4 (by decide) (hts _ tw_90) (fun _ h9 => h9) rfl (ty := .int) (by decide +kernel) rfl rfl (Nat.le_of_ble_eq_true rfl) (stI u10 x0 4 v10) stI_o (by rw [stI_up]; exact eg_13_4) dLd_bring_62 (fun H locs hP hS => ?_)
    refine lv_iload hx hb dLd_bring_65 (lv_at hl 1 rfl) ?_
    exact x_iret hx hb hr hlocks h hP hS dLd_bring_67
def fn_Ld_bring (F : Nat) (al : Nat → Bool) (u : Mr) (x0 : Nat) (x1 : Nat) (x2 : Nat) (x3 : Int32) : Option (Mr × Int32) := bk_Ld_bring_0 F al u x0 x1 x2 x3
set_option maxHeartbeats 4000000 in
set_option maxRecDepth 100000 in
theorem ct_Ld_bring {l : Launch} {D : va_G} {cA : Nat → ClassId} {ad : Nat → Nat} {L : List Nat} {rs : va_W} {al : Nat → Bool} (hal : ∀ k, al k = true → k ∈ L) (hN : L.Nodup) (F : Nat) (u : Mr) (x0 : Nat) (x1 : Nat) (x2 : Nat) (x3 : Int32) (out : Mr × Int32) (h : fn_Ld_bring F al u x0 x1 x2 x3 = some out) (q0 : okk al 13 x0 = true) (q1 : okk al 6 x1 = true) (q2 : okk al 4 x2 = true) : CtI l yLd_bring wsLd_bring rm_Ld_bring [.ref (ad x0), .ref (ad x1), .ref (ad x2), .int x3] D cA ad L rs u out := by
  intro sz
  refine Met.ofW (cc := cLd_bring) (maxL := 6) (ret := (some .int)) (by decide) rfl ?_
  intro p e s m args below meth c s₁ B hml hv
  obtain ⟨rfl, hsz, hP, hK, hD0, hNx⟩ := hv
  subst hsz
  have hD := hD0.self (sz := s.heap.size)
  generalize hAe : va_A (ww ad cA L rs u) s.heap.size = A at hD ⊢
  have hA : ∀ q, s.heap.size ≤ q → A q := fun q h => by rw [← hAe]; exact Or.inr h
  have hl := lv_entry ([.ref (ad x0), .ref (ad x1), .ref (ad x2), .int x3]) (n := 6) (Nat.le_of_ble_eq_true rfl)
  rw [lg_entry_eq]
  generalize (lg_sl ([.ref (ad x0), .ref (ad x1), .ref (ad x2), .int x3]) ++ List.replicate (6 - (lg_sl ([.ref (ad x0), .ref (ad x1), .ref (ad x2), .int x3])).length) Slot.unset).toArray = ls at hl ⊢
  exact wk_Ld_bring_0 ⟨B.exec, B.bytes, hml, findClass_of_methodNamed B.named, hts_bw (atoms_spec (ws := wsLd_bring) B.pre), B.returns, B.notSynchronized, hK, hA, fun v => ww_D hD, hN, hal, hNx⟩ F out u x0 x1 x2 x3 h q0 q1 q2 _ _ _ (lv_sub hl [0, 1, 2, 3] rfl) hP va_S.rf
end

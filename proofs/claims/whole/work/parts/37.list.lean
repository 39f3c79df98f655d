abbrev yAl_add2 : MethodName := ⟨"java/util/ArrayList", "add", "(Ljava/lang/Object;[Ljava/lang/Object;I)V"⟩
abbrev cAl_add2 : ByteArray := prog_26_method_24_code
abbrev wsAl_add2 : List Cond := .code yAl_add2 cAl_add2 4 none :: bw
theorem gdAl_add2 : GoodIn bw wsAl_add2 := gd_of tw_433
theorem hdAl_add2 : yAl_add2.cls ≠ "java/lang/invoke/MethodHandle" ∧ yAl_add2.cls ≠ "java/lang/invoke/VarHandle" ∧ (parseMethodDescriptor yAl_add2.desc).map (fun d => d.parameters.length) = some 3 := by decide +kernel
theorem dAl_add2_0 : decode cAl_add2 0 = .ok (.iload_n 3, 1) := by decide +kernel
theorem dAl_add2_1 : decode cAl_add2 1 = .ok (.aload_n 2, 1) := by decide +kernel
theorem dAl_add2_2 : decode cAl_add2 2 = .ok (.arraylength, 1) := by decide +kernel
theorem dAl_add2_3 : decode cAl_add2 3 = .ok (.if_icmp .ne 8, 3) := by decide +kernel
theorem dAl_add2_6 : decode cAl_add2 6 = .ok (.aload_n 0, 1) := by decide +kernel
theorem dAl_add2_7 : decode cAl_add2 7 = .ok (.invokevirtual 129, 3) := by decide +kernel
theorem dAl_add2_10 : decode cAl_add2 10 = .ok (.astore_n 2, 1) := by decide +kernel
theorem dAl_add2_11 : decode cAl_add2 11 = .ok (.aload_n 2, 1) := by decide +kernel
theorem dAl_add2_12 : decode cAl_add2 12 = .ok (.iload_n 3, 1) := by decide +kernel
theorem dAl_add2_13 : decode cAl_add2 13 = .ok (.aload_n 1, 1) := by decide +kernel
theorem dAl_add2_14 : decode cAl_add2 14 = .ok (.aastore, 1) := by decide +kernel
theorem dAl_add2_15 : decode cAl_add2 15 = .ok (.aload_n 0, 1) := by decide +kernel
theorem dAl_add2_16 : decode cAl_add2 16 = .ok (.iload_n 3, 1) := by decide +kernel
theorem dAl_add2_17 : decode cAl_add2 17 = .ok (.iconst 1, 1) := by decide +kernel
theorem dAl_add2_18 : decode cAl_add2 18 = .ok (.iadd, 1) := by decide +kernel
theorem dAl_add2_19 : decode cAl_add2 19 = .ok (.putfield 48, 3) := by decide +kernel
theorem dAl_add2_22 : decode cAl_add2 22 = .ok (.return_, 1) := by decide +kernel
section
variable {p : Program} {l : Launch} {e : Env} {s : State} {m : MethodId} {args : Array Value} {below : List Frame} {meth : Method} {c : Code} {D : va_G} {cA : Nat → ClassId} {ad : Nat → Nat} {L : List Nat} {rs : va_W} {al : Nat → Bool} {sl : Nat → Option Nat} {n0 : Nat} {A : Nat → Prop}
abbrev rm_Al_add2 : Room := { frames := 0, cells := 0, slots := 0, locals := 0 }
def bk_Al_add2_11 (F : Nat) (al : Nat → Bool) (sl : Nat → Option Nat) (n0 : Nat) (u : Mr) (x0 : Nat) (x1 : Nat) (x2 : Nat) (x3 : Int32) : Option (Mr × Int32) := ck (inb x3 10) (some (stI (stR u x2 x3 (some x1)) x0 2 (x3 + (1 : Int32)), 0))
set_option maxHeartbeats 4000000 in
set_option maxRecDepth 100000 in
theorem wk_Al_add2_11 (cx : Cx p l e s m args below meth c cAl_add2 4 bw "java/util/ArrayList" none D cA ad (Ln sl n0 L) rs (aln al sl n0) A) (cz : Cz s meth "add" ad L al sl n0 A) (F : Nat) (out : Mr × Int32) : ∀ (u : Mr) (x0 : Nat) (x1 : Nat) (x2 : Nat) (x3 : Int32), bk_Al_add2_11 F al sl n0 u x0 x1 x2 x3 = some out → okk (aln al sl n0) 18 x0 = true → okk (aln al sl n0) 21 x1 = true → okk (aln al sl n0) 19 x2 = true → Wb p l e rm_Al_add2 s m args below meth c D cA ad (Ln sl n0 L) rs A (QVn below args s D cA ad (Ln sl n0 L) rs A out 0 0) 4 11 [(0, .ref (ad x0)), (1, .ref (ad x1)), (2, .ref (ad x2)), (3, .int x3)] [] u := by
  obtain ⟨hx, hb, hml, hown, hts, hr, hlocks, hK, hA, hD, hN, hal, hNx⟩ := cx
  obtain ⟨hal0, hla, hsl, hnm, hdZ, hdT, hno, hny⟩ := cz
  intro u x0 x1 x2 x3 h q0 q1 q2 H locs ls hl hP hS
  unfold bk_Al_add2_11 at h
  refine lv_aload_n hx hb dAl_add2_11 rfl (lv_at hl 2 rfl) ?_
  refine lv_iload_n hx hb dAl_add2_12 rfl (lv_at hl 3 rfl) ?_
  refine lv_aload_n hx hb dAl_add2_13 rfl (lv_at hl 1 rfl) ?_
  obtain ⟨hi1, h⟩ := ck_some h
  refine x_aast hx hb hK hD hN hP hS (hal _ (okk_al q2)) (okk_t q2) 7 (fun _ _ _ => rfl) rfl (Or.inr (hny.2.1 ("ImageForge$Reference", "java/lang/Object") (by decide +kernel))) (by decide) (hal _ (okk_al q1)) (okk_t q1) rfl rfl (inb_in hi1) dAl_add2_14 (fun H locs hP hS => ?_)
  refine lv_aload_n hx hb dAl_add2_15 rfl (lv_at hl 0 rfl) ?_
  refine lv_iload_n hx hb dAl_add2_16 rfl (lv_at hl 3 rfl) ?_
  refine lv_iconst (v := 1) hx hb dAl_add2_17 (by decide) ?_
  refine lv_iadd hx hb dAl_add2_18 ?_
  refine x_put hx hb hts in_Al t_Al t_Al_ok nm_Al hown hK hD hN hP hS (hal _ (okk_al q0)) (okk_t q0) rfl rfl 2 (by decide) (hts _ tw_139) (fun _ h9 => h9) rfl (ty := .int) (by decide +kernel) rfl rfl (Nat.le_of_ble_eq_true rfl) (stI (stR u x2 x3 (some x1)) x0 2 (x3 + (1 : Int32))) stI_o (by rw [stI_up]; exact eg_18_2) dAl_add2_19 (fun H locs hP hS => ?_)
  exact x_vretN hx hb hr hlocks h hP hD hN hS (Nat.le_of_ble_eq_true rfl) (Nat.le_of_ble_eq_true rfl) dAl_add2_22
def bk_Al_add2_0 (F : Nat) (al : Nat → Bool) (sl : Nat → Option Nat) (n0 : Nat) (u : Mr) (x0 : Nat) (x1 : Nat) (x2 : Nat) (x3 : Int32) : Option (Mr × Int32) := if x3 = (10 : Int32) then (none) else (bk_Al_add2_11 F al sl n0 u x0 x1 x2 x3)
set_option maxHeartbeats 4000000 in
set_option maxRecDepth 100000 in
theorem wk_Al_add2_0 (cx : Cx p l e s m args below meth c cAl_add2 4 bw "java/util/ArrayList" none D cA ad (Ln sl n0 L) rs (aln al sl n0) A) (cz : Cz s meth "add" ad L al sl n0 A) (F : Nat) (out : Mr × Int32) : ∀ (u : Mr) (x0 : Nat) (x1 : Nat) (x2 : Nat) (x3 : Int32), bk_Al_add2_0 F al sl n0 u x0 x1 x2 x3 = some out → okk (aln al sl n0) 18 x0 = true → okk (aln al sl n0) 21 x1 = true → okk (aln al sl n0) 19 x2 = true → Wb p l e rm_Al_add2 s m args below meth c D cA ad (Ln sl n0 L) rs A (QVn below args s D cA ad (Ln sl n0 L) rs A out 0 0) 4 0 [(0, .ref (ad x0)), (1, .ref (ad x1)), (2, .ref (ad x2)), (3, .int x3)] [] u := by
  obtain ⟨hx, hb, hml, hown, hts, hr, hlocks, hK, hA, hD, hN, hal, hNx⟩ := cx
  obtain ⟨hal0, hla, hsl, hnm, hdZ, hdT, hno, hny⟩ := cz
  intro u x0 x1 x2 x3 h q0 q1 q2 H locs ls hl hP hS
  unfold bk_Al_add2_0 at h
  refine lv_iload_n hx hb dAl_add2_0 rfl (lv_at hl 3 rfl) ?_
  refine lv_aload_n hx hb dAl_add2_1 rfl (lv_at hl 2 rfl) ?_
  refine x_alen hx hb hK hP (hal _ (okk_al q2)) (okk_t q2) 7 rfl rfl rfl (v := 10) rfl dAl_add2_2 ?_
  refine lv_icmp_ne (tgt := 11) hx hb dAl_add2_3 rfl (fun hc => ?_) (fun hc => ?_)
  · replace h := it_f h hc
    exact wk_Al_add2_11 ⟨hx, hb, hml, hown, hts, hr, hlocks, hK, hA, hD, hN, hal, hNx⟩ ⟨hal0, hla, hsl, hnm, hdZ, hdT, hno, hny⟩ F out u x0 x1 x2 x3 h q0 q1 q2 _ _ _ (lv_sub hl [0, 1, 2, 3] rfl) hP hS
  · replace h := it_t h hc
    cases h
def fn_Al_add2 (F : Nat) (al : Nat → Bool) (sl : Nat → Option Nat) (n0 : Nat) (u : Mr) (x0 : Nat) (x1 : Nat) (x2 : Nat) (x3 : Int32) : Option (Mr × Int32) := bk_Al_add2_0 F al sl n0 u x0 x1 x2 x3
set_option maxHeartbeats 4000000 in
set_option maxRecDepth 100000 in
theorem ct_Al_add2 {l : Launch} {D : va_G} {cA : Nat → ClassId} {ad : Nat → Nat} {L : List Nat} {rs : va_W} {al : Nat → Bool} {sl : Nat → Option Nat} {n0 sz : Nat} (hal0 : ∀ k, al k = true → k ∈ L) (hla : ∀ k, k ∈ L → al k = true) (hN : (Ln sl n0 L).Nodup) (hsl : ∀ i k, sl i = some k → ad k + n0 = sz + i) (F : Nat) (u : Mr) (x0 : Nat) (x1 : Nat) (x2 : Nat) (x3 : Int32) (out : Mr × Int32) (h : fn_Al_add2 F al sl n0 u x0 x1 x2 x3 = some out) (q0 : okk (aln al sl n0) 18 x0 = true) (q1 : okk (aln al sl n0) 21 x1 = true) (q2 : okk (aln al sl n0) 19 x2 = true) : CtVn l yAl_add2 wsAl_add2 rm_Al_add2 [.ref (ad x0), .ref (ad x1), .ref (ad x2), .int x3] D cA ad (Ln sl n0 L) (Ln sl n0 L) rs u out 0 0 sz := by
  refine Met.ofW (cc := cAl_add2) (maxL := 4) (ret := none) (by decide) rfl ?_
  intro p e s m args below meth c s₁ B hml hv
  obtain ⟨rfl, ⟨hsz, hP, hK, hD0, hNx⟩, hdZ, hdT, hno, hny⟩ := hv
  subst hsz
  have hD := hD0.self (sz := s.heap.size)
  generalize hAe : va_A (ww ad cA (Ln sl n0 L) rs u) s.heap.size = A at hD hdZ hdT ⊢
  have hA : ∀ q, s.heap.size ≤ q → A q := fun q h => by rw [← hAe]; exact Or.inr h
  have hl := lv_entry ([.ref (ad x0), .ref (ad x1), .ref (ad x2), .int x3]) (n := 4) (Nat.le_of_ble_eq_true rfl)
  rw [lg_entry_eq]
  generalize (lg_sl ([.ref (ad x0), .ref (ad x1), .ref (ad x2), .int x3]) ++ List.replicate (4 - (lg_sl ([.ref (ad x0), .ref (ad x1), .ref (ad x2), .int x3])).length) Slot.unset).toArray = ls at hl ⊢
  have hpre := atoms_spec (ws := wsAl_add2) B.pre
  have hnm : meth.name = "add" := (name_of_methodNamed B.named B.method).1
  exact wk_Al_add2_0 ⟨B.exec, B.bytes, hml, findClass_of_methodNamed B.named, hts_bw hpre, B.returns, B.notSynchronized, hK, hA, fun v => ww_D hD, hN, aln_in hal0 n0, hNx⟩ ⟨hal0, hla, hsl, hnm, hdZ, hdT, hno, hny⟩ F out u x0 x1 x2 x3 h q0 q1 q2 _ _ _ (lv_sub hl [0, 1, 2, 3] rfl) hP va_S.rf
end
abbrev yAl_add : MethodName := ⟨"java/util/ArrayList", "add", "(Ljava/lang/Object;)Z"⟩
abbrev cAl_add : ByteArray := prog_26_method_25_code
abbrev wsAl_add : List Cond := .code yAl_add cAl_add 2 (some .boolean) :: bw
theorem gdAl_add : GoodIn bw wsAl_add := gd_of tw_429
theorem hdAl_add : yAl_add.cls ≠ "java/lang/invoke/MethodHandle" ∧ yAl_add.cls ≠ "java/lang/invoke/VarHandle" ∧ (parseMethodDescriptor yAl_add.desc).map (fun d => d.parameters.length) = some 1 := by decide +kernel
theorem dAl_add_0 : decode cAl_add 0 = .ok (.aload_n 0, 1) := by decide +kernel
theorem dAl_add_1 : decode cAl_add 1 = .ok (.dup, 1) := by decide +kernel
theorem dAl_add_2 : decode cAl_add 2 = .ok (.getfield 63, 3) := by decide +kernel
theorem dAl_add_5 : decode cAl_add 5 = .ok (.iconst 1, 1) := by decide +kernel
theorem dAl_add_6 : decode cAl_add 6 = .ok (.iadd, 1) := by decide +kernel
theorem dAl_add_7 : decode cAl_add 7 = .ok (.putfield 63, 3) := by decide +kernel
theorem dAl_add_10 : decode cAl_add 10 = .ok (.aload_n 0, 1) := by decide +kernel
theorem dAl_add_11 : decode cAl_add 11 = .ok (.aload_n 1, 1) := by decide +kernel
theorem dAl_add_12 : decode cAl_add 12 = .ok (.aload_n 0, 1) := by decide +kernel
theorem dAl_add_13 : decode cAl_add 13 = .ok (.getfield 9, 3) := by decide +kernel
theorem dAl_add_16 : decode cAl_add 16 = .ok (.aload_n 0, 1) := by decide +kernel
theorem dAl_add_17 : decode cAl_add 17 = .ok (.getfield 48, 3) := by decide +kernel
theorem dAl_add_20 : decode cAl_add 20 = .ok (.invokevirtual 131, 3) := by decide +kernel
theorem dAl_add_23 : decode cAl_add 23 = .ok (.iconst 1, 1) := by decide +kernel
theorem dAl_add_24 : decode cAl_add 24 = .ok (.ireturn, 1) := by decide +kernel
section
variable {p : Program} {l : Launch} {e : Env} {s : State} {m : MethodId} {args : Array Value} {below : List Frame} {meth : Method} {c : Code} {D : va_G} {cA : Nat → ClassId} {ad : Nat → Nat} {L : List Nat} {rs : va_W} {al : Nat → Bool} {sl : Nat → Option Nat} {n0 : Nat} {A : Nat → Prop}
abbrev rm_Al_add : Room := { frames := 1, cells := 0, slots := 0, locals := 23 }
def bk_Al_add_0 (F : Nat) (al : Nat → Bool) (sl : Nat → Option Nat) (n0 : Nat) (u : Mr) (x0 : Nat) (x1 : Nat) : Option (Mr × Int32) := bd1 (rdR (aln al sl n0) (stI u x0 0 ((u.1 x0 0) + (1 : Int32))) x0 1 19) fun y1 => (bd2 (fn_Al_add2 F al sl n0 (stI u x0 0 ((u.1 x0 0) + (1 : Int32))) x0 x1 y1 ((stI u x0 0 ((u.1 x0 0) + (1 : Int32))).1 x0 2)) fun u3 v3 => (some (u3, (1 : Int32))))
set_option maxHeartbeats 4000000 in
set_option maxRecDepth 100000 in
theorem wk_Al_add_0 (cx : Cx p l e s m args below meth c cAl_add 2 bw "java/util/ArrayList" (some .boolean) D cA ad (Ln sl n0 L) rs (aln al sl n0) A) (cz : Cz s meth "add" ad L al sl n0 A) (F : Nat) (out : Mr × Int32) : ∀ (u : Mr) (x0 : Nat) (x1 : Nat), bk_Al_add_0 F al sl n0 u x0 x1 = some out → okk (aln al sl n0) 18 x0 = true → okk (aln al sl n0) 21 x1 = true → Wb p l e rm_Al_add s m args below meth c D cA ad (Ln sl n0 L) rs A (QIn below args s D cA ad (Ln sl n0 L) rs A out 0 0) 2 0 [(0, .ref (ad x0)), (1, .ref (ad x1))] [] u := by
  obtain ⟨hx, hb, hml, hown, hts, hr, hlocks, hK, hA, hD, hN, hal, hNx⟩ := cx
  obtain ⟨hal0, hla, hsl, hnm, hdZ, hdT, hno, hny⟩ := cz
  intro u x0 x1 h q0 q1 H locs ls hl hP hS
  unfold bk_Al_add_0 at h
  refine lv_aload_n hx hb dAl_add_0 rfl (lv_at hl 0 rfl) ?_
  refine lv_dup hx hb dAl_add_1 rfl ?_
  refine x_get hx hb hts in_Al hown hK hP (hal _ (okk_al q0)) (okk_t q0) rfl rfl 0 (by decide) (hts _ tw_141) (fun x h9 => u_same (hts _ tw_142) x h9) rfl dAl_add_2 ?_
  refine lv_iconst (v := 1) hx hb dAl_add_5 (by decide) ?_
  refine lv_iadd hx hb dAl_add_6 ?_
  refine x_put hx hb hts in_Al t_Al t_Al_ok nm_Al hown hK hD hN hP hS (hal _ (okk_al q0)) (okk_t q0) rfl rfl 0 (by decide) (hts _ tw_141) (fun x h9 => u_same (hts _ tw_142) x h9) rfl (ty := .int) (by decide +kernel) rfl rfl (Nat.le_of_ble_eq_true rfl) (stI u x0 0 ((u.1 x0 0) + (1 : Int32))) stI_o (by rw [stI_up]; exact eg_18_0) dAl_add_7 (fun H locs hP hS => ?_)
  refine lv_aload_n hx hb dAl_add_10 rfl (lv_at hl 0 rfl) ?_
  refine lv_aload_n hx hb dAl_add_11 rfl (lv_at hl 1 rfl) ?_
  refine lv_aload_n hx hb dAl_add_12 rfl (lv_at hl 0 rfl) ?_
  obtain ⟨y1, hy2, h⟩ := bd1_some h
  obtain ⟨hy2a, hy2⟩ := rdR_some hy2
  refine x_get hx hb hts in_Al hown hK hP (hal _ (okk_al q0)) (okk_t q0) rfl rfl 1 (by decide) (hts _ tw_138) (fun _ h9 => h9) (congrArg some (x_rf hy2a)) dAl_add_13 ?_
  refine lv_aload_n hx hb dAl_add_16 rfl (lv_at hl 0 rfl) ?_
  refine x_get hx hb hts in_Al hown hK hP (hal _ (okk_al q0)) (okk_t q0) rfl rfl 2 (by decide) (hts _ tw_139) (fun _ h9 => h9) rfl dAl_add_17 ?_
  replace h := bd2_some h
  obtain ⟨u3, v3, hc3, h⟩ := h
  refine x_size hS.1 (fun hz => ?_)
  refine z_cv (u := stI u x0 0 ((u.1 x0 0) + (1 : Int32))) (out := (u3, v3)) hA hD hS (va_runV (As := [.ref (ad x1), .ref (ad y1), .int ((stI u x0 0 ((u.1 x0 0) + (1 : Int32))).1 x0 2)]) (rest := []) ⟨hx, hb, hml, hown, hts⟩ (ct_Al_add2 hal0 hla hN (sz := H.size) (x_hsl hsl hz) F (stI u x0 0 ((u.1 x0 0) + (1 : Int32))) x0 x1 y1 ((stI u x0 0 ((u.1 x0 0) + (1 : Int32))).1 x0 2) (u3, v3) hc3 q0 q1 hy2) ⟨callB_of 3 hts gdAl_add2 rfl rfl rfl (hts _ tw_9) (hts _ tw_430) hdAl_add2 ⟨Nat.le_of_ble_eq_true rfl, Nat.le_of_ble_eq_true rfl⟩, (hts _ tw_432), (hts _ tp_9)⟩ (x_preVN hK hD hNx hP hS hA hdZ hdT hno hny (hal _ (okk_al q0)) (okk_t q0) rfl rfl) rfl rfl hl.1 rfl (lv_room (Nat.le_of_ble_eq_true rfl)) dAl_add_20 ⟨Nat.le_of_ble_eq_true rfl, Nat.le_of_ble_eq_true rfl⟩) (fun t9 locs hB hS9 => ?_)
  obtain ⟨hP9, hD9, hN9⟩ := hB
  replace hD := x_Dw hA hD hS hD9
  replace hN := hN9
  clear hP hS
  generalize t9.heap = H at hP9 hS9 ⊢
  have hP := hP9
  have hS := hS9
  clear hP9 hS9 hD9 hN9
  refine lv_iconst (v := 1) hx hb dAl_add_23 (by decide) ?_
  exact x_zretN hx hb hr hlocks rfl h hP hD hN hS (Nat.le_of_ble_eq_true rfl) (Nat.le_of_ble_eq_true rfl) dAl_add_24
def fn_Al_add (F : Nat) (al : Nat → Bool) (sl : Nat → Option Nat) (n0 : Nat) (u : Mr) (x0 : Nat) (x1 : Nat) : Option (Mr × Int32) := bk_Al_add_0 F al sl n0 u x0 x1
set_option maxHeartbeats 4000000 in
set_option maxRecDepth 100000 in
theorem ct_Al_add {l : Launch} {D : va_G} {cA : Nat → ClassId} {ad : Nat → Nat} {L : List Nat} {rs : va_W} {al : Nat → Bool} {sl : Nat → Option Nat} {n0 sz : Nat} (hal0 : ∀ k, al k = true → k ∈ L) (hla : ∀ k, k ∈ L → al k = true) (hN : (Ln sl n0 L).Nodup) (hsl : ∀ i k, sl i = some k → ad k + n0 = sz + i) (F : Nat) (u : Mr) (x0 : Nat) (x1 : Nat) (out : Mr × Int32) (h : fn_Al_add F al sl n0 u x0 x1 = some out) (q0 : okk (aln al sl n0) 18 x0 = true) (q1 : okk (aln al sl n0) 21 x1 = true) : CtIn l yAl_add wsAl_add rm_Al_add [.ref (ad x0), .ref (ad x1)] D cA ad (Ln sl n0 L) (Ln sl n0 L) rs u out 0 0 sz := by
  refine Met.ofW (cc := cAl_add) (maxL := 2) (ret := (some .boolean)) (by decide) rfl ?_
  intro p e s m args below meth c s₁ B hml hv
  obtain ⟨rfl, ⟨hsz, hP, hK, hD0, hNx⟩, hdZ, hdT, hno, hny⟩ := hv
  subst hsz
  have hD := hD0.self (sz := s.heap.size)
  generalize hAe : va_A (ww ad cA (Ln sl n0 L) rs u) s.heap.size = A at hD hdZ hdT ⊢
  have hA : ∀ q, s.heap.size ≤ q → A q := fun q h => by rw [← hAe]; exact Or.inr h
  have hl := lv_entry ([.ref (ad x0), .ref (ad x1)]) (n := 2) (Nat.le_of_ble_eq_true rfl)
  rw [lg_entry_eq]
  generalize (lg_sl ([.ref (ad x0), .ref (ad x1)]) ++ List.replicate (2 - (lg_sl ([.ref (ad x0), .ref (ad x1)])).length) Slot.unset).toArray = ls at hl ⊢
  have hpre := atoms_spec (ws := wsAl_add) B.pre
  have hnm : meth.name = "add" := (name_of_methodNamed B.named B.method).1
  exact wk_Al_add_0 ⟨B.exec, B.bytes, hml, findClass_of_methodNamed B.named, hts_bw hpre, B.returns, B.notSynchronized, hK, hA, fun v => ww_D hD, hN, aln_in hal0 n0, hNx⟩ ⟨hal0, hla, hsl, hnm, hdZ, hdT, hno, hny⟩ F out u x0 x1 h q0 q1 _ _ _ (lv_sub hl [0, 1] rfl) hP va_S.rf
end
abbrev yAl_grow2B : MethodName := ⟨"java/util/ArrayList", "grow", "(I)[Ljava/lang/Object;"⟩
abbrev cAl_grow2B : ByteArray := prog_26_method_6_code
abbrev wsAl_grow2B : List Cond := .code yAl_grow2B cAl_grow2B 4 (some (.array (.object "java/lang/Object"))) :: bw
theorem gdAl_grow2B : GoodIn bw wsAl_grow2B := gd_of tw_441
theorem hdAl_grow2B : yAl_grow2B.cls ≠ "java/lang/invoke/MethodHandle" ∧ yAl_grow2B.cls ≠ "java/lang/invoke/VarHandle" ∧ (parseMethodDescriptor yAl_grow2B.desc).map (fun d => d.parameters.length) = some 1 := by decide +kernel
theorem dAl_grow2B_0 : decode cAl_grow2B 0 = .ok (.aload_n 0, 1) := by decide +kernel
theorem dAl_grow2B_1 : decode cAl_grow2B 1 = .ok (.getfield 9, 3) := by decide +kernel
theorem dAl_grow2B_4 : decode cAl_grow2B 4 = .ok (.arraylength, 1) := by decide +kernel
theorem dAl_grow2B_5 : decode cAl_grow2B 5 = .ok (.istore_n 2, 1) := by decide +kernel
theorem dAl_grow2B_6 : decode cAl_grow2B 6 = .ok (.iload_n 2, 1) := by decide +kernel
theorem dAl_grow2B_7 : decode cAl_grow2B 7 = .ok (.ifCond .gt 13, 3) := by decide +kernel
theorem dAl_grow2B_10 : decode cAl_grow2B 10 = .ok (.aload_n 0, 1) := by decide +kernel
theorem dAl_grow2B_11 : decode cAl_grow2B 11 = .ok (.getfield 9, 3) := by decide +kernel
theorem dAl_grow2B_14 : decode cAl_grow2B 14 = .ok (.getstatic 39, 3) := by decide +kernel
theorem dAl_grow2B_17 : decode cAl_grow2B 17 = .ok (.if_acmp .eq 28, 3) := by decide +kernel
theorem dAl_grow2B_20 : decode cAl_grow2B 20 = .ok (.iload_n 2, 1) := by decide +kernel
theorem dAl_grow2B_21 : decode cAl_grow2B 21 = .ok (.iload_n 1, 1) := by decide +kernel
theorem dAl_grow2B_22 : decode cAl_grow2B 22 = .ok (.iload_n 2, 1) := by decide +kernel
theorem dAl_grow2B_23 : decode cAl_grow2B 23 = .ok (.isub, 1) := by decide +kernel
theorem dAl_grow2B_24 : decode cAl_grow2B 24 = .ok (.iload_n 2, 1) := by decide +kernel
theorem dAl_grow2B_25 : decode cAl_grow2B 25 = .ok (.iconst 1, 1) := by decide +kernel
theorem dAl_grow2B_26 : decode cAl_grow2B 26 = .ok (.ishr, 1) := by decide +kernel
theorem dAl_grow2B_27 : decode cAl_grow2B 27 = .ok (.invokestatic 73, 3) := by decide +kernel
theorem dAl_grow2B_30 : decode cAl_grow2B 30 = .ok (.istore_n 3, 1) := by decide +kernel
theorem dAl_grow2B_31 : decode cAl_grow2B 31 = .ok (.aload_n 0, 1) := by decide +kernel
theorem dAl_grow2B_32 : decode cAl_grow2B 32 = .ok (.aload_n 0, 1) := by decide +kernel
theorem dAl_grow2B_33 : decode cAl_grow2B 33 = .ok (.getfield 9, 3) := by decide +kernel
theorem dAl_grow2B_36 : decode cAl_grow2B 36 = .ok (.iload_n 3, 1) := by decide +kernel
theorem dAl_grow2B_37 : decode cAl_grow2B 37 = .ok (.invokestatic 66, 3) := by decide +kernel
theorem dAl_grow2B_40 : decode cAl_grow2B 40 = .ok (.dup_x1, 1) := by decide +kernel
theorem dAl_grow2B_41 : decode cAl_grow2B 41 = .ok (.putfield 9, 3) := by decide +kernel
theorem dAl_grow2B_44 : decode cAl_grow2B 44 = .ok (.areturn, 1) := by decide +kernel
theorem dAl_grow2B_45 : decode cAl_grow2B 45 = .ok (.aload_n 0, 1) := by decide +kernel
theorem dAl_grow2B_46 : decode cAl_grow2B 46 = .ok (.bipush 10, 2) := by decide +kernel
theorem dAl_grow2B_48 : decode cAl_grow2B 48 = .ok (.iload_n 1, 1) := by decide +kernel
theorem dAl_grow2B_49 : decode cAl_grow2B 49 = .ok (.invokestatic 79, 3) := by decide +kernel
theorem dAl_grow2B_52 : decode cAl_grow2B 52 = .ok (.anewarray 7, 3) := by decide +kernel
theorem dAl_grow2B_55 : decode cAl_grow2B 55 = .ok (.dup_x1, 1) := by decide +kernel
theorem dAl_grow2B_56 : decode cAl_grow2B 56 = .ok (.putfield 9, 3) := by decide +kernel
theorem dAl_grow2B_59 : decode cAl_grow2B 59 = .ok (.areturn, 1) := by decide +kernel
section
variable {p : Program} {l : Launch} {e : Env} {s : State} {m : MethodId} {args : Array Value} {below : List Frame} {meth : Method} {c : Code} {D : va_G} {cA : Nat → ClassId} {ad : Nat → Nat} {L : List Nat} {rs : va_W} {al : Nat → Bool} {sl : Nat → Option Nat} {n0 : Nat} {A : Nat → Prop}
abbrev rm_Al_grow2B : Room := { frames := 1, cells := 1, slots := 10, locals := 30 }
def bk_Al_grow2B_0 (F : Nat) (al : Nat → Bool) (sl : Nat → Option Nat) (n0 : Nat) (u : Mr) (x0 : Nat) (x1 : Int32) : Option (Mr × Nat) := ck (decide (u.2.1 x0 1 = some 1472)) (ck (decide (u.2.1 x0 1 = some 1472)) (ck (decide ((if (10 : Int32) < x1 then x1 else (10 : Int32)) = 10)) (bd1 (alo al sl n0 19) fun y4 => (some (stR (clr u y4) x0 1 (some y4), y4)))))
set_option maxHeartbeats 4000000 in
set_option maxRecDepth 100000 in
theorem wk_Al_grow2B_0 (cx : Cx p l e s m args below meth c cAl_grow2B 4 bw "java/util/ArrayList" (some (.array (.object "java/lang/Object"))) D cA ad (Ln sl n0 L) rs (aln al sl n0) A) (cz : Cz s meth "grow" ad L al sl n0 A) (F : Nat) (out : Mr × Nat) : ∀ (u : Mr) (x0 : Nat) (x1 : Int32), bk_Al_grow2B_0 F al sl n0 u x0 x1 = some out → okk (aln al sl n0) 18 x0 = true → Wb p l e rm_Al_grow2B s m args below meth c D cA ad (Ln sl n0 L) rs A (QRn below args s D cA ad (Ln sl (n0 + 1) L) rs A out 1 10) 4 0 [(0, .ref (ad x0)), (1, .int x1)] [] u := by
  obtain ⟨hx, hb, hml, hown, hts, hr, hlocks, hK, hA, hD, hN, hal, hNx⟩ := cx
  obtain ⟨hal0, hla, hsl, hnm, hdZ, hdT, hno, hny⟩ := cz
  intro u x0 x1 h q0 H locs ls hl hP hS
  unfold bk_Al_grow2B_0 at h
  refine lv_aload_n hx hb dAl_grow2B_0 rfl (lv_at hl 0 rfl) ?_
  obtain ⟨hy1, h⟩ := ck_some h
  replace hy1 := of_decide_eq_true hy1
  refine x_get hx hb hts in_Al hown hK hP (hal _ (okk_al q0)) (okk_t q0) rfl rfl 1 (by decide) (hts _ tw_138) (fun _ h9 => h9) (congrArg some (x_rf hy1)) dAl_grow2B_1 ?_
  refine va_tlen hx hb hdT hS (v := 0) rfl dAl_grow2B_4 ?_
  refine lv_istore_n (lv' := [(2, .int (0 : Int32)), (0, .ref (ad x0)), (1, .int x1)]) hx hb dAl_grow2B_5 rfl hl (by decide) rfl (fun ls hl => ?_)
  refine lv_iload_n hx hb dAl_grow2B_6 rfl (lv_at hl 0 rfl) ?_
  refine lv_if_gt (tgt := 20) hx hb dAl_grow2B_7 rfl (fun hc => absurd hc (by decide)) (fun _ => ?_)
  refine lv_aload_n hx hb dAl_grow2B_10 rfl (lv_at hl 1 rfl) ?_
  obtain ⟨hy2, h⟩ := ck_some h
  replace hy2 := of_decide_eq_true hy2
  refine x_get hx hb hts in_Al hown hK hP (hal _ (okk_al q0)) (okk_t q0) rfl rfl 1 (by decide) (hts _ tw_138) (fun _ h9 => h9) (congrArg some (x_rf hy2)) dAl_grow2B_11 ?_
  refine va_gets hx hb hdZ hS hown (hts _ tw_136) (fun _ h9 => h9) dAl_grow2B_14 ?_
  refine lv_acmp_eq (tgt := 45) (rx := some (ad 1472)) (ry := some (ad 1472)) hx hb dAl_grow2B_17 rfl (fun _ => ?_) (fun hc => absurd rfl hc)
  refine lv_aload_n hx hb dAl_grow2B_45 rfl (lv_at hl 1 rfl) ?_
  refine lv_bipush (v := 10) hx hb dAl_grow2B_46 (by decide) ?_
  refine lv_iload_n hx hb dAl_grow2B_48 rfl (lv_at hl 2 rfl) ?_
  refine va_mmax hx hb (by rw [hml]; exact hl.1.symm) hown (hts _ tw_484) (hts _ tw_446) (hts _ tw_19) (hts _ tw_447) (by decide) (Nat.le_of_ble_eq_true rfl) (Nat.zero_le _) (Nat.zero_le _) dAl_grow2B_49 ?_
  obtain ⟨hq3, h⟩ := ck_some h
  rw [of_decide_eq_true hq3]
  replace h := bd1_some h
  obtain ⟨y4, hy5, h⟩ := h
  obtain ⟨hy5a, hy5b, hy5t⟩ := alo_some hy5
  clear hy5
  refine x_size hS.1 (fun hz => ?_)
  refine x_anew (N := 10) hx hb hown (hts _ tw_485) hno.2.2.2.1 hD hP hS hA (aln_out hla hy5b) hy5t (x_had hsl hy5a hz rfl) 7 (hK.2 7 _ rfl).2 rfl (by decide) (by decide) (by decide) (Nat.le_of_ble_eq_true rfl) (Nat.le_of_ble_eq_true rfl) dAl_grow2B_52 (fun H hP hD hS => ?_)
  rw [Ln_s (show (n0 + 1) = n0 + 1 from rfl) hy5a] at hP hD
  replace hN : (Ln sl (n0 + 1) L).Nodup := Ln_nd rfl hy5a (aln_out hla hy5b) hN
  replace hal := aln_in (sl := sl) hal0 (n0 + 1)
  replace q0 := okk_n (show n0 ≤ (n0 + 1) from Nat.le_add_right _ _) q0
  have hy5f := okk_new (al := al) (n := (n0 + 1)) hy5a (Nat.lt_succ_self _) hy5t
  refine W.widen (k := 1) (n := 10) (Nat.le_of_ble_eq_true rfl) (Nat.le_of_ble_eq_true rfl) ?_
  refine lv_dup_x1 hx hb dAl_grow2B_55 rfl rfl ?_
  refine x_put hx hb hts in_Al t_Al t_Al_ok nm_Al hown hK hD hN hP hS (hal _ (okk_al q0)) (okk_t q0) rfl rfl 1 (by decide) (hts _ tw_138) (fun _ h9 => h9) rfl (ty := .array (.object "java/lang/Object")) (v := .ref (ad y4)) (by decide +kernel) rfl rfl (Nat.le_of_ble_eq_true rfl) (stR (clr u y4) x0 1 (some y4)) stR_o (by rw [stR_up]; exact eq_18_1) dAl_grow2B_56 (fun H locs hP hS => ?_)
  exact x_aretN hx hb hr (by first | exact Or.inl ⟨_, rfl⟩ | exact Or.inr ⟨_, rfl⟩) hlocks h hP hD hN hS (Nat.le_of_ble_eq_true rfl) (Nat.le_of_ble_eq_true rfl) dAl_grow2B_59
def fn_Al_grow2B (F : Nat) (al : Nat → Bool) (sl : Nat → Option Nat) (n0 : Nat) (u : Mr) (x0 : Nat) (x1 : Int32) : Option (Mr × Nat) := bk_Al_grow2B_0 F al sl n0 u x0 x1
set_option maxHeartbeats 4000000 in
set_option maxRecDepth 100000 in
theorem ct_Al_grow2B {l : Launch} {D : va_G} {cA : Nat → ClassId} {ad : Nat → Nat} {L : List Nat} {rs : va_W} {al : Nat → Bool} {sl : Nat → Option Nat} {n0 sz : Nat} (hal0 : ∀ k, al k = true → k ∈ L) (hla : ∀ k, k ∈ L → al k = true) (hN : (Ln sl n0 L).Nodup) (hsl : ∀ i k, sl i = some k → ad k + n0 = sz + i) (F : Nat) (u : Mr) (x0 : Nat) (x1 : Int32) (out : Mr × Nat) (h : fn_Al_grow2B F al sl n0 u x0 x1 = some out) (q0 : okk (aln al sl n0) 18 x0 = true) : CtRn l yAl_grow2B wsAl_grow2B rm_Al_grow2B [.ref (ad x0), .int x1] D cA ad (Ln sl n0 L) (Ln sl (n0 + 1) L) rs u out 1 10 sz := by
  refine Met.ofW (cc := cAl_grow2B) (maxL := 4) (ret := (some (.array (.object "java/lang/Object")))) (by decide) rfl ?_
  intro p e s m args below meth c s₁ B hml hv
  obtain ⟨rfl, ⟨hsz, hP, hK, hD0, hNx⟩, hdZ, hdT, hno, hny⟩ := hv
  subst hsz
  have hD := hD0.self (sz := s.heap.size)
  generalize hAe : va_A (ww ad cA (Ln sl n0 L) rs u) s.heap.size = A at hD hdZ hdT ⊢
  have hA : ∀ q, s.heap.size ≤ q → A q := fun q h => by rw [← hAe]; exact Or.inr h
  have hl := lv_entry ([.ref (ad x0), .int x1]) (n := 4) (Nat.le_of_ble_eq_true rfl)
  rw [lg_entry_eq]
  generalize (lg_sl ([.ref (ad x0), .int x1]) ++ List.replicate (4 - (lg_sl ([.ref (ad x0), .int x1])).length) Slot.unset).toArray = ls at hl ⊢
  have hpre := atoms_spec (ws := wsAl_grow2B) B.pre
  have hnm : meth.name = "grow" := (name_of_methodNamed B.named B.method).1
  exact wk_Al_grow2B_0 ⟨B.exec, B.bytes, hml, findClass_of_methodNamed B.named, hts_bw hpre, B.returns, B.notSynchronized, hK, hA, fun v => ww_D hD, hN, aln_in hal0 n0, hNx⟩ ⟨hal0, hla, hsl, hnm, hdZ, hdT, hno, hny⟩ F out u x0 x1 h q0 _ _ _ (lv_sub hl [0, 1] rfl) hP va_S.rf
end
abbrev yAl_growB : MethodName := ⟨"java/util/ArrayList", "grow", "()[Ljava/lang/Object;"⟩
abbrev cAl_growB : ByteArray := prog_26_method_7_code
abbrev wsAl_growB : List Cond := .code yAl_growB cAl_growB 1 (some (.array (.object "java/lang/Object"))) :: bw
theorem gdAl_growB : GoodIn bw wsAl_growB := gd_of tw_437
theorem hdAl_growB : yAl_growB.cls ≠ "java/lang/invoke/MethodHandle" ∧ yAl_growB.cls ≠ "java/lang/invoke/VarHandle" ∧ (parseMethodDescriptor yAl_growB.desc).map (fun d => d.parameters.length) = some 0 := by decide +kernel
theorem dAl_growB_0 : decode cAl_growB 0 = .ok (.aload_n 0, 1) := by decide +kernel
theorem dAl_growB_1 : decode cAl_growB 1 = .ok (.aload_n 0, 1) := by decide +kernel
theorem dAl_growB_2 : decode cAl_growB 2 = .ok (.getfield 48, 3) := by decide +kernel
theorem dAl_growB_5 : decode cAl_growB 5 = .ok (.iconst 1, 1) := by decide +kernel
theorem dAl_growB_6 : decode cAl_growB 6 = .ok (.iadd, 1) := by decide +kernel
theorem dAl_growB_7 : decode cAl_growB 7 = .ok (.invokevirtual 69, 3) := by decide +kernel
theorem dAl_growB_10 : decode cAl_growB 10 = .ok (.areturn, 1) := by decide +kernel
section
variable {p : Program} {l : Launch} {e : Env} {s : State} {m : MethodId} {args : Array Value} {below : List Frame} {meth : Method} {c : Code} {D : va_G} {cA : Nat → ClassId} {ad : Nat → Nat} {L : List Nat} {rs : va_W} {al : Nat → Bool} {sl : Nat → Option Nat} {n0 : Nat} {A : Nat → Prop}
abbrev rm_Al_growB : Room := { frames := 2, cells := 1, slots := 10, locals := 53 }
def bk_Al_growB_0 (F : Nat) (al : Nat → Bool) (sl : Nat → Option Nat) (n0 : Nat) (u : Mr) (x0 : Nat) : Option (Mr × Nat) := bd2 (fn_Al_grow2B F al sl n0 u x0 ((u.1 x0 2) + (1 : Int32))) fun u1 v1 => ck (sl n0).isSome (ck (okk (aln al sl (n0 + 1)) 19 v1) (some (u1, v1)))
set_option maxHeartbeats 4000000 in
set_option maxRecDepth 100000 in
theorem wk_Al_growB_0 (cx : Cx p l e s m args below meth c cAl_growB 1 bw "java/util/ArrayList" (some (.array (.object "java/lang/Object"))) D cA ad (Ln sl n0 L) rs (aln al sl n0) A) (cz : Cz s meth "grow" ad L al sl n0 A) (F : Nat) (out : Mr × Nat) : ∀ (u : Mr) (x0 : Nat), bk_Al_growB_0 F al sl n0 u x0 = some out → okk (aln al sl n0) 18 x0 = true → Wb p l e rm_Al_growB s m args below meth c D cA ad (Ln sl n0 L) rs A (QRn below args s D cA ad (Ln sl (n0 + 1) L) rs A out 1 10) 1 0 [(0, .ref (ad x0))] [] u := by
  obtain ⟨hx, hb, hml, hown, hts, hr, hlocks, hK, hA, hD, hN, hal, hNx⟩ := cx
  obtain ⟨hal0, hla, hsl, hnm, hdZ, hdT, hno, hny⟩ := cz
  intro u x0 h q0 H locs ls hl hP hS
  unfold bk_Al_growB_0 at h
  refine lv_aload_n hx hb dAl_growB_0 rfl (lv_at hl 0 rfl) ?_
  refine lv_aload_n hx hb dAl_growB_1 rfl (lv_at hl 0 rfl) ?_
  refine x_get hx hb hts in_Al hown hK hP (hal _ (okk_al q0)) (okk_t q0) rfl rfl 2 (by decide) (hts _ tw_139) (fun _ h9 => h9) rfl dAl_growB_2 ?_
  refine lv_iconst (v := 1) hx hb dAl_growB_5 (by decide) ?_
  refine lv_iadd hx hb dAl_growB_6 ?_
  replace h := bd2_some h
  obtain ⟨u1, v1, hc1, h⟩ := h
  refine x_size hS.1 (fun hz => ?_)
  refine z_cr (u := u) (out := (u1, v1)) hA hD hS (va_runV (As := [.int ((u.1 x0 2) + (1 : Int32))]) (rest := []) ⟨hx, hb, hml, hown, hts⟩ (ct_Al_grow2B hal0 hla hN (sz := H.size) (x_hsl hsl hz) F u x0 ((u.1 x0 2) + (1 : Int32)) (u1, v1) hc1 q0) ⟨callB_of 1 hts gdAl_grow2B rfl rfl rfl (hts _ tw_9) (hts _ tw_438) hdAl_grow2B ⟨Nat.le_of_ble_eq_true rfl, Nat.le_of_ble_eq_true rfl⟩, (hts _ tw_440), (hts _ tp_11)⟩ (x_preVN hK hD hNx hP hS hA hdZ hdT hno hny (hal _ (okk_al q0)) (okk_t q0) rfl rfl) rfl rfl hl.1 rfl (lv_room (Nat.le_of_ble_eq_true rfl)) dAl_growB_7 ⟨Nat.le_of_ble_eq_true rfl, Nat.le_of_ble_eq_true rfl⟩) (fun t9 locs hB hS9 => ?_)
  obtain ⟨hP9, hD9, hN9⟩ := hB
  replace hD := x_Dw hA hD hS hD9
  replace hN := hN9
  clear hP hS
  generalize t9.heap = H at hP9 hS9 ⊢
  have hP := hP9
  have hS := hS9
  clear hP9 hS9 hD9 hN9
  replace h := ck_some h
  obtain ⟨hk2, h⟩ := h
  obtain ⟨hk2y, hk2z⟩ := Option.isSome_iff_exists.mp hk2
  clear hk2
  replace q0 := okk_n (show n0 ≤ (n0 + 1) from Nat.le_add_right _ _) q0
  replace hal := aln_in (sl := sl) hal0 (n0 + 1)
  refine W.widen (k := 1) (n := 10) (Nat.le_of_ble_eq_true rfl) (Nat.le_of_ble_eq_true rfl) ?_
  obtain ⟨hq3, h⟩ := ck_some h
  exact x_aretN hx hb hr (by first | exact Or.inl ⟨_, rfl⟩ | exact Or.inr ⟨_, rfl⟩) hlocks h hP hD hN hS (Nat.le_of_ble_eq_true rfl) (Nat.le_of_ble_eq_true rfl) dAl_growB_10
def fn_Al_growB (F : Nat) (al : Nat → Bool) (sl : Nat → Option Nat) (n0 : Nat) (u : Mr) (x0 : Nat) : Option (Mr × Nat) := bk_Al_growB_0 F al sl n0 u x0
set_option maxHeartbeats 4000000 in
set_option maxRecDepth 100000 in
theorem ct_Al_growB {l : Launch} {D : va_G} {cA : Nat → ClassId} {ad : Nat → Nat} {L : List Nat} {rs : va_W} {al : Nat → Bool} {sl : Nat → Option Nat} {n0 sz : Nat} (hal0 : ∀ k, al k = true → k ∈ L) (hla : ∀ k, k ∈ L → al k = true) (hN : (Ln sl n0 L).Nodup) (hsl : ∀ i k, sl i = some k → ad k + n0 = sz + i) (F : Nat) (u : Mr) (x0 : Nat) (out : Mr × Nat) (h : fn_Al_growB F al sl n0 u x0 = some out) (q0 : okk (aln al sl n0) 18 x0 = true) : CtRn l yAl_growB wsAl_growB rm_Al_growB [.ref (ad x0)] D cA ad (Ln sl n0 L) (Ln sl (n0 + 1) L) rs u out 1 10 sz := by
  refine Met.ofW (cc := cAl_growB) (maxL := 1) (ret := (some (.array (.object "java/lang/Object")))) (by decide) rfl ?_
  intro p e s m args below meth c s₁ B hml hv
  obtain ⟨rfl, ⟨hsz, hP, hK, hD0, hNx⟩, hdZ, hdT, hno, hny⟩ := hv
  subst hsz
  have hD := hD0.self (sz := s.heap.size)
  generalize hAe : va_A (ww ad cA (Ln sl n0 L) rs u) s.heap.size = A at hD hdZ hdT ⊢
  have hA : ∀ q, s.heap.size ≤ q → A q := fun q h => by rw [← hAe]; exact Or.inr h
  have hl := lv_entry ([.ref (ad x0)]) (n := 1) (Nat.le_of_ble_eq_true rfl)
  rw [lg_entry_eq]
  generalize (lg_sl ([.ref (ad x0)]) ++ List.replicate (1 - (lg_sl ([.ref (ad x0)])).length) Slot.unset).toArray = ls at hl ⊢
  have hpre := atoms_spec (ws := wsAl_growB) B.pre
  have hnm : meth.name = "grow" := (name_of_methodNamed B.named B.method).1
  exact wk_Al_growB_0 ⟨B.exec, B.bytes, hml, findClass_of_methodNamed B.named, hts_bw hpre, B.returns, B.notSynchronized, hK, hA, fun v => ww_D hD, hN, aln_in hal0 n0, hNx⟩ ⟨hal0, hla, hsl, hnm, hdZ, hdT, hno, hny⟩ F out u x0 h q0 _ _ _ (lv_sub hl [0] rfl) hP va_S.rf
end
abbrev yAl_add2B : MethodName := ⟨"java/util/ArrayList", "add", "(Ljava/lang/Object;[Ljava/lang/Object;I)V"⟩
abbrev cAl_add2B : ByteArray := prog_26_method_24_code
abbrev wsAl_add2B : List Cond := .code yAl_add2B cAl_add2B 4 none :: bw
theorem gdAl_add2B : GoodIn bw wsAl_add2B := gd_of tw_433
theorem hdAl_add2B : yAl_add2B.cls ≠ "java/lang/invoke/MethodHandle" ∧ yAl_add2B.cls ≠ "java/lang/invoke/VarHandle" ∧ (parseMethodDescriptor yAl_add2B.desc).map (fun d => d.parameters.length) = some 3 := by decide +kernel
theorem dAl_add2B_0 : decode cAl_add2B 0 = .ok (.iload_n 3, 1) := by decide +kernel
theorem dAl_add2B_1 : decode cAl_add2B 1 = .ok (.aload_n 2, 1) := by decide +kernel
theorem dAl_add2B_2 : decode cAl_add2B 2 = .ok (.arraylength, 1) := by decide +kernel
theorem dAl_add2B_3 : decode cAl_add2B 3 = .ok (.if_icmp .ne 8, 3) := by decide +kernel
theorem dAl_add2B_6 : decode cAl_add2B 6 = .ok (.aload_n 0, 1) := by decide +kernel
theorem dAl_add2B_7 : decode cAl_add2B 7 = .ok (.invokevirtual 129, 3) := by decide +kernel
theorem dAl_add2B_10 : decode cAl_add2B 10 = .ok (.astore_n 2, 1) := by decide +kernel
theorem dAl_add2B_11 : decode cAl_add2B 11 = .ok (.aload_n 2, 1) := by decide +kernel
theorem dAl_add2B_12 : decode cAl_add2B 12 = .ok (.iload_n 3, 1) := by decide +kernel
theorem dAl_add2B_13 : decode cAl_add2B 13 = .ok (.aload_n 1, 1) := by decide +kernel
theorem dAl_add2B_14 : decode cAl_add2B 14 = .ok (.aastore, 1) := by decide +kernel
theorem dAl_add2B_15 : decode cAl_add2B 15 = .ok (.aload_n 0, 1) := by decide +kernel
theorem dAl_add2B_16 : decode cAl_add2B 16 = .ok (.iload_n 3, 1) := by decide +kernel
theorem dAl_add2B_17 : decode cAl_add2B 17 = .ok (.iconst 1, 1) := by decide +kernel
theorem dAl_add2B_18 : decode cAl_add2B 18 = .ok (.iadd, 1) := by decide +kernel
theorem dAl_add2B_19 : decode cAl_add2B 19 = .ok (.putfield 48, 3) := by decide +kernel
theorem dAl_add2B_22 : decode cAl_add2B 22 = .ok (.return_, 1) := by decide +kernel
section
variable {p : Program} {l : Launch} {e : Env} {s : State} {m : MethodId} {args : Array Value} {below : List Frame} {meth : Method} {c : Code} {D : va_G} {cA : Nat → ClassId} {ad : Nat → Nat} {L : List Nat} {rs : va_W} {al : Nat → Bool} {sl : Nat → Option Nat} {n0 : Nat} {A : Nat → Prop}
abbrev rm_Al_add2B : Room := { frames := 3, cells := 1, slots := 10, locals := 73 }
def bk_Al_add2B_0 (F : Nat) (al : Nat → Bool) (sl : Nat → Option Nat) (n0 : Nat) (u : Mr) (x0 : Nat) (x1 : Nat) (x3 : Int32) : Option (Mr × Int32) := if x3 = (0 : Int32) then (bd2 (fn_Al_growB F al sl n0 u x0) fun u1 v1 => ck (sl n0).isSome (ck (okk (aln al sl (n0 + 1)) 19 v1) (ck (inb x3 10) (some (stI (stR u1 v1 x3 (some x1)) x0 2 (x3 + (1 : Int32)), 0))))) else (none)
set_option maxHeartbeats 4000000 in
set_option maxRecDepth 100000 in
theorem wk_Al_add2B_0 (cx : Cx p l e s m args below meth c cAl_add2B 4 bw "java/util/ArrayList" none D cA ad (Ln sl n0 L) rs (aln al sl n0) A) (cz : Cz s meth "add" ad L al sl n0 A) (F : Nat) (out : Mr × Int32) : ∀ (u : Mr) (x0 : Nat) (x1 : Nat) (x3 : Int32), bk_Al_add2B_0 F al sl n0 u x0 x1 x3 = some out → okk (aln al sl n0) 18 x0 = true → okk (aln al sl n0) 21 x1 = true → Wb p l e rm_Al_add2B s m args below meth c D cA ad (Ln sl n0 L) rs A (QVn below args s D cA ad (Ln sl (n0 + 1) L) rs A out 1 10) 4 0 [(0, .ref (ad x0)), (1, .ref (ad x1)), (2, .ref (ad 1472)), (3, .int x3)] [] u := by
  obtain ⟨hx, hb, hml, hown, hts, hr, hlocks, hK, hA, hD, hN, hal, hNx⟩ := cx
  obtain ⟨hal0, hla, hsl, hnm, hdZ, hdT, hno, hny⟩ := cz
  intro u x0 x1 x3 h q0 q1 H locs ls hl hP hS
  unfold bk_Al_add2B_0 at h
  refine lv_iload_n hx hb dAl_add2B_0 rfl (lv_at hl 3 rfl) ?_
  refine lv_aload_n hx hb dAl_add2B_1 rfl (lv_at hl 2 rfl) ?_
  refine va_tlen hx hb hdT hS (v := 0) rfl dAl_add2B_2 ?_
  refine lv_icmp_ne (tgt := 11) hx hb dAl_add2B_3 rfl (fun hc => ?_) (fun hc => ?_)
  · replace h := it_f h hc
    cases h
  · replace h := it_t h hc
    refine lv_aload_n hx hb dAl_add2B_6 rfl (lv_at hl 0 rfl) ?_
    replace h := bd2_some h
    obtain ⟨u1, v1, hc1, h⟩ := h
    refine x_size hS.1 (fun hz => ?_)
    refine z_cr (u := u) (out := (u1, v1)) hA hD hS (va_runV (As := []) (rest := []) ⟨hx, hb, hml, hown, hts⟩ (ct_Al_growB hal0 hla hN (sz := H.size) (x_hsl hsl hz) F u x0 (u1, v1) hc1 q0) ⟨callB_of 0 hts gdAl_growB rfl rfl rfl (hts _ tw_9) (hts _ tw_434) hdAl_growB ⟨Nat.le_of_ble_eq_true rfl, Nat.le_of_ble_eq_true rfl⟩, (hts _ tw_436), (hts _ tp_10)⟩ (x_preVN hK hD hNx hP hS hA hdZ hdT hno hny (hal _ (okk_al q0)) (okk_t q0) rfl rfl) rfl rfl hl.1 rfl (lv_room (Nat.le_of_ble_eq_true rfl)) dAl_add2B_7 ⟨Nat.le_of_ble_eq_true rfl, Nat.le_of_ble_eq_true rfl⟩) (fun t9 locs hB hS9 => ?_)
    obtain ⟨hP9, hD9, hN9⟩ := hB
    replace hD := x_Dw hA hD hS hD9
    replace hN := hN9
    clear hP hS
    generalize t9.heap = H at hP9 hS9 ⊢
    have hP := hP9
    have hS := hS9
    clear hP9 hS9 hD9 hN9
    replace h := ck_some h
    obtain ⟨hk2, h⟩ := h
    obtain ⟨hk2y, hk2z⟩ := Option.isSome_iff_exists.mp hk2
    clear hk2
    replace q0 := okk_n (show n0 ≤ (n0 + 1) from Nat.le_add_right _ _) q0
    replace q1 := okk_n (show n0 ≤ (n0 + 1) from Nat.le_add_right _ _) q1
    replace hal := aln_in (sl := sl) hal0 (n0 + 1)
    refine W.widen (k := 1) (n := 10) (Nat.le_of_ble_eq_true rfl) (Nat.le_of_ble_eq_true rfl) ?_
    obtain ⟨hq3, h⟩ := ck_some h
    refine lv_astore_n (lv' := [(2, .ref (ad v1)), (0, .ref (ad x0)), (1, .ref (ad x1)), (3, .int x3)]) hx hb dAl_add2B_10 rfl hl (by decide) rfl (fun ls hl => ?_)
    refine lv_aload_n hx hb dAl_add2B_11 rfl (lv_at hl 0 rfl) ?_
    refine lv_iload_n hx hb dAl_add2B_12 rfl (lv_at hl 3 rfl) ?_
    refine lv_aload_n hx hb dAl_add2B_13 rfl (lv_at hl 2 rfl) ?_
    obtain ⟨hi4, h⟩ := ck_some h
    refine x_aast hx hb hK hD hN hP hS (hal _ (okk_al hq3)) (okk_t hq3) 7 (fun _ _ _ => rfl) rfl (Or.inr (hny.2.1 ("ImageForge$Reference", "java/lang/Object") (by decide +kernel))) (by decide) (hal _ (okk_al q1)) (okk_t q1) rfl rfl (inb_in hi4) dAl_add2B_14 (fun H locs hP hS => ?_)
    refine lv_aload_n hx hb dAl_add2B_15 rfl (lv_at hl 1 rfl) ?_
    refine lv_iload_n hx hb dAl_add2B_16 rfl (lv_at hl 3 rfl) ?_
    refine lv_iconst (v := 1) hx hb dAl_add2B_17 (by decide) ?_
    refine lv_iadd hx hb dAl_add2B_18 ?_
    refine x_put hx hb hts in_Al t_Al t_Al_ok nm_Al hown hK hD hN hP hS (hal _ (okk_al q0)) (okk_t q0) rfl rfl 2 (by decide) (hts _ tw_139) (fun _ h9 => h9) rfl (ty := .int) (by decide +kernel) rfl rfl (Nat.le_of_ble_eq_true rfl) (stI (stR u1 v1 x3 (some x1)) x0 2 (x3 + (1 : Int32))) stI_o (by rw [stI_up]; exact eg_18_2) dAl_add2B_19 (fun H locs hP hS => ?_)
    exact x_vretN hx hb hr hlocks h hP hD hN hS (Nat.le_of_ble_eq_true rfl) (Nat.le_of_ble_eq_true rfl) dAl_add2B_22
def fn_Al_add2B (F : Nat) (al : Nat → Bool) (sl : Nat → Option Nat) (n0 : Nat) (u : Mr) (x0 : Nat) (x1 : Nat) (x3 : Int32) : Option (Mr × Int32) := bk_Al_add2B_0 F al sl n0 u x0 x1 x3
set_option maxHeartbeats 4000000 in
set_option maxRecDepth 100000 in
theorem ct_Al_add2B {l : Launch} {D : va_G} {cA : Nat → ClassId} {ad : Nat → Nat} {L : List Nat} {rs : va_W} {al : Nat → Bool} {sl : Nat → Option Nat} {n0 sz : Nat} (hal0 : ∀ k, al k = true → k ∈ L) (hla : ∀ k, k ∈ L → al k = true) (hN : (Ln sl n0 L).Nodup) (hsl : ∀ i k, sl i = some k → ad k + n0 = sz + i) (F : Nat) (u : Mr) (x0 : Nat) (x1 : Nat) (x3 : Int32) (out : Mr × Int32) (h : fn_Al_add2B F al sl n0 u x0 x1 x3 = some out) (q0 : okk (aln al sl n0) 18 x0 = true) (q1 : okk (aln al sl n0) 21 x1 = true) : CtVn l yAl_add2B wsAl_add2B rm_Al_add2B [.ref (ad x0), .ref (ad x1), .ref (ad 1472), .int x3] D cA ad (Ln sl n0 L) (Ln sl (n0 + 1) L) rs u out 1 10 sz := by
  refine Met.ofW (cc := cAl_add2B) (maxL := 4) (ret := none) (by decide) rfl ?_
  intro p e s m args below meth c s₁ B hml hv
  obtain ⟨rfl, ⟨hsz, hP, hK, hD0, hNx⟩, hdZ, hdT, hno, hny⟩ := hv
  subst hsz
  have hD := hD0.self (sz := s.heap.size)
  generalize hAe : va_A (ww ad cA (Ln sl n0 L) rs u) s.heap.size = A at hD hdZ hdT ⊢
  have hA : ∀ q, s.heap.size ≤ q → A q := fun q h => by rw [← hAe]; exact Or.inr h
  have hl := lv_entry ([.ref (ad x0), .ref (ad x1), .ref (ad 1472), .int x3]) (n := 4) (Nat.le_of_ble_eq_true rfl)
  rw [lg_entry_eq]
  generalize (lg_sl ([.ref (ad x0), .ref (ad x1), .ref (ad 1472), .int x3]) ++ List.replicate (4 - (lg_sl ([.ref (ad x0), .ref (ad x1), .ref (ad 1472), .int x3])).length) Slot.unset).toArray = ls at hl ⊢
  have hpre := atoms_spec (ws := wsAl_add2B) B.pre
  have hnm : meth.name = "add" := (name_of_methodNamed B.named B.method).1
  exact wk_Al_add2B_0 ⟨B.exec, B.bytes, hml, findClass_of_methodNamed B.named, hts_bw hpre, B.returns, B.notSynchronized, hK, hA, fun v => ww_D hD, hN, aln_in hal0 n0, hNx⟩ ⟨hal0, hla, hsl, hnm, hdZ, hdT, hno, hny⟩ F out u x0 x1 x3 h q0 q1 _ _ _ (lv_sub hl [0, 1, 2, 3] rfl) hP va_S.rf
end
abbrev yAl_addB : MethodName := ⟨"java/util/ArrayList", "add", "(Ljava/lang/Object;)Z"⟩
abbrev cAl_addB : ByteArray := prog_26_method_25_code
abbrev wsAl_addB : List Cond := .code yAl_addB cAl_addB 2 (some .boolean) :: bw
theorem gdAl_addB : GoodIn bw wsAl_addB := gd_of tw_429
theorem hdAl_addB : yAl_addB.cls ≠ "java/lang/invoke/MethodHandle" ∧ yAl_addB.cls ≠ "java/lang/invoke/VarHandle" ∧ (parseMethodDescriptor yAl_addB.desc).map (fun d => d.parameters.length) = some 1 := by decide +kernel
theorem dAl_addB_0 : decode cAl_addB 0 = .ok (.aload_n 0, 1) := by decide +kernel
theorem dAl_addB_1 : decode cAl_addB 1 = .ok (.dup, 1) := by decide +kernel
theorem dAl_addB_2 : decode cAl_addB 2 = .ok (.getfield 63, 3) := by decide +kernel
theorem dAl_addB_5 : decode cAl_addB 5 = .ok (.iconst 1, 1) := by decide +kernel
theorem dAl_addB_6 : decode cAl_addB 6 = .ok (.iadd, 1) := by decide +kernel
theorem dAl_addB_7 : decode cAl_addB 7 = .ok (.putfield 63, 3) := by decide +kernel
theorem dAl_addB_10 : decode cAl_addB 10 = .ok (.aload_n 0, 1) := by decide +kernel
theorem dAl_addB_11 : decode cAl_addB 11 = .ok (.aload_n 1, 1) := by decide +kernel
theorem dAl_addB_12 : decode cAl_addB 12 = .ok (.aload_n 0, 1) := by decide +kernel
theorem dAl_addB_13 : decode cAl_addB 13 = .ok (.getfield 9, 3) := by decide +kernel
theorem dAl_addB_16 : decode cAl_addB 16 = .ok (.aload_n 0, 1) := by decide +kernel
theorem dAl_addB_17 : decode cAl_addB 17 = .ok (.getfield 48, 3) := by decide +kernel
theorem dAl_addB_20 : decode cAl_addB 20 = .ok (.invokevirtual 131, 3) := by decide +kernel
theorem dAl_addB_23 : decode cAl_addB 23 = .ok (.iconst 1, 1) := by decide +kernel
theorem dAl_addB_24 : decode cAl_addB 24 = .ok (.ireturn, 1) := by decide +kernel
section
variable {p : Program} {l : Launch} {e : Env} {s : State} {m : MethodId} {args : Array Value} {below : List Frame} {meth : Method} {c : Code} {D : va_G} {cA : Nat → ClassId} {ad : Nat → Nat} {L : List Nat} {rs : va_W} {al : Nat → Bool} {sl : Nat → Option Nat} {n0 : Nat} {A : Nat → Prop}
abbrev rm_Al_addB : Room := { frames := 4, cells := 1, slots := 10, locals := 96 }
def bk_Al_addB_0 (F : Nat) (al : Nat → Bool) (sl : Nat → Option Nat) (n0 : Nat) (u : Mr) (x0 : Nat) (x1 : Nat) : Option (Mr × Int32) := ck (decide ((stI u x0 0 ((u.1 x0 0) + (1 : Int32))).2.1 x0 1 = some 1472)) (bd2 (fn_Al_add2B F al sl n0 (stI u x0 0 ((u.1 x0 0) + (1 : Int32))) x0 x1 ((stI u x0 0 ((u.1 x0 0) + (1 : Int32))).1 x0 2)) fun u2 v2 => ck (sl n0).isSome (some (u2, (1 : Int32))))
set_option maxHeartbeats 4000000 in
set_option maxRecDepth 100000 in
theorem wk_Al_addB_0 (cx : Cx p l e s m args below meth c cAl_addB 2 bw "java/util/ArrayList" (some .boolean) D cA ad (Ln sl n0 L) rs (aln al sl n0) A) (cz : Cz s meth "add" ad L al sl n0 A) (F : Nat) (out : Mr × Int32) : ∀ (u : Mr) (x0 : Nat) (x1 : Nat), bk_Al_addB_0 F al sl n0 u x0 x1 = some out → okk (aln al sl n0) 18 x0 = true → okk (aln al sl n0) 21 x1 = true → Wb p l e rm_Al_addB s m args below meth c D cA ad (Ln sl n0 L) rs A (QIn below args s D cA ad (Ln sl (n0 + 1) L) rs A out 1 10) 2 0 [(0, .ref (ad x0)), (1, .ref (ad x1))] [] u := by
  obtain ⟨hx, hb, hml, hown, hts, hr, hlocks, hK, hA, hD, hN, hal, hNx⟩ := cx
  obtain ⟨hal0, hla, hsl, hnm, hdZ, hdT, hno, hny⟩ := cz
  intro u x0 x1 h q0 q1 H locs ls hl hP hS
  unfold bk_Al_addB_0 at h
  refine lv_aload_n hx hb dAl_addB_0 rfl (lv_at hl 0 rfl) ?_
  refine lv_dup hx hb dAl_addB_1 rfl ?_
  refine x_get hx hb hts in_Al hown hK hP (hal _ (okk_al q0)) (okk_t q0) rfl rfl 0 (by decide) (hts _ tw_141) (fun x h9 => u_same (hts _ tw_142) x h9) rfl dAl_addB_2 ?_
  refine lv_iconst (v := 1) hx hb dAl_addB_5 (by decide) ?_
  refine lv_iadd hx hb dAl_addB_6 ?_
  refine x_put hx hb hts in_Al t_Al t_Al_ok nm_Al hown hK hD hN hP hS (hal _ (okk_al q0)) (okk_t q0) rfl rfl 0 (by decide) (hts _ tw_141) (fun x h9 => u_same (hts _ tw_142) x h9) rfl (ty := .int) (by decide +kernel) rfl rfl (Nat.le_of_ble_eq_true rfl) (stI u x0 0 ((u.1 x0 0) + (1 : Int32))) stI_o (by rw [stI_up]; exact eg_18_0) dAl_addB_7 (fun H locs hP hS => ?_)
  refine lv_aload_n hx hb dAl_addB_10 rfl (lv_at hl 0 rfl) ?_
  refine lv_aload_n hx hb dAl_addB_11 rfl (lv_at hl 1 rfl) ?_
  refine lv_aload_n hx hb dAl_addB_12 rfl (lv_at hl 0 rfl) ?_
  obtain ⟨hy1, h⟩ := ck_some h
  replace hy1 := of_decide_eq_true hy1
  refine x_get hx hb hts in_Al hown hK hP (hal _ (okk_al q0)) (okk_t q0) rfl rfl 1 (by decide) (hts _ tw_138) (fun _ h9 => h9) (congrArg some (x_rf hy1)) dAl_addB_13 ?_
  refine lv_aload_n hx hb dAl_addB_16 rfl (lv_at hl 0 rfl) ?_
  refine x_get hx hb hts in_Al hown hK hP (hal _ (okk_al q0)) (okk_t q0) rfl rfl 2 (by decide) (hts _ tw_139) (fun _ h9 => h9) rfl dAl_addB_17 ?_
  replace h := bd2_some h
  obtain ⟨u2, v2, hc2, h⟩ := h
  refine x_size hS.1 (fun hz => ?_)
  refine z_cv (u := stI u x0 0 ((u.1 x0 0) + (1 : Int32))) (out := (u2, v2)) hA hD hS (va_runV (As := [.ref (ad x1), .ref (ad 1472), .int ((stI u x0 0 ((u.1 x0 0) + (1 : Int32))).1 x0 2)]) (rest := []) ⟨hx, hb, hml, hown, hts⟩ (ct_Al_add2B hal0 hla hN (sz := H.size) (x_hsl hsl hz) F (stI u x0 0 ((u.1 x0 0) + (1 : Int32))) x0 x1 ((stI u x0 0 ((u.1 x0 0) + (1 : Int32))).1 x0 2) (u2, v2) hc2 q0 q1) ⟨callB_of 3 hts gdAl_add2B rfl rfl rfl (hts _ tw_9) (hts _ tw_430) hdAl_add2B ⟨Nat.le_of_ble_eq_true rfl, Nat.le_of_ble_eq_true rfl⟩, (hts _ tw_432), (hts _ tp_9)⟩ (x_preVN hK hD hNx hP hS hA hdZ hdT hno hny (hal _ (okk_al q0)) (okk_t q0) rfl rfl) rfl rfl hl.1 rfl (lv_room (Nat.le_of_ble_eq_true rfl)) dAl_addB_20 ⟨Nat.le_of_ble_eq_true rfl, Nat.le_of_ble_eq_true rfl⟩) (fun t9 locs hB hS9 => ?_)
  obtain ⟨hP9, hD9, hN9⟩ := hB
  replace hD := x_Dw hA hD hS hD9
  replace hN := hN9
  clear hP hS
  generalize t9.heap = H at hP9 hS9 ⊢
  have hP := hP9
  have hS := hS9
  clear hP9 hS9 hD9 hN9
  replace h := ck_some h
  obtain ⟨hk3, h⟩ := h
  obtain ⟨hk3y, hk3z⟩ := Option.isSome_iff_exists.mp hk3
  clear hk3
  replace q0 := okk_n (show n0 ≤ (n0 + 1) from Nat.le_add_right _ _) q0
  replace q1 := okk_n (show n0 ≤ (n0 + 1) from Nat.le_add_right _ _) q1
  replace hal := aln_in (sl := sl) hal0 (n0 + 1)
  refine W.widen (k := 1) (n := 10) (Nat.le_of_ble_eq_true rfl) (Nat.le_of_ble_eq_true rfl) ?_
  refine lv_iconst (v := 1) hx hb dAl_addB_23 (by decide) ?_
  exact x_zretN hx hb hr hlocks rfl h hP hD hN hS (Nat.le_of_ble_eq_true rfl) (Nat.le_of_ble_eq_true rfl) dAl_addB_24
def fn_Al_addB (F : Nat) (al : Nat → Bool) (sl : Nat → Option Nat) (n0 : Nat) (u : Mr) (x0 : Nat) (x1 : Nat) : Option (Mr × Int32) := bk_Al_addB_0 F al sl n0 u x0 x1
set_option maxHeartbeats 4000000 in
set_option maxRecDepth 100000 in
theorem ct_Al_addB {l : Launch} {D : va_G} {cA : Nat → ClassId} {ad : Nat → Nat} {L : List Nat} {rs : va_W} {al : Nat → Bool} {sl : Nat → Option Nat} {n0 sz : Nat} (hal0 : ∀ k, al k = true → k ∈ L) (hla : ∀ k, k ∈ L → al k = true) (hN : (Ln sl n0 L).Nodup) (hsl : ∀ i k, sl i = some k → ad k + n0 = sz + i) (F : Nat) (u : Mr) (x0 : Nat) (x1 : Nat) (out : Mr × Int32) (h : fn_Al_addB F al sl n0 u x0 x1 = some out) (q0 : okk (aln al sl n0) 18 x0 = true) (q1 : okk (aln al sl n0) 21 x1 = true) : CtIn l yAl_addB wsAl_addB rm_Al_addB [.ref (ad x0), .ref (ad x1)] D cA ad (Ln sl n0 L) (Ln sl (n0 + 1) L) rs u out 1 10 sz := by
  refine Met.ofW (cc := cAl_addB) (maxL := 2) (ret := (some .boolean)) (by decide) rfl ?_
  intro p e s m args below meth c s₁ B hml hv
  obtain ⟨rfl, ⟨hsz, hP, hK, hD0, hNx⟩, hdZ, hdT, hno, hny⟩ := hv
  subst hsz
  have hD := hD0.self (sz := s.heap.size)
  generalize hAe : va_A (ww ad cA (Ln sl n0 L) rs u) s.heap.size = A at hD hdZ hdT ⊢
  have hA : ∀ q, s.heap.size ≤ q → A q := fun q h => by rw [← hAe]; exact Or.inr h
  have hl := lv_entry ([.ref (ad x0), .ref (ad x1)]) (n := 2) (Nat.le_of_ble_eq_true rfl)
  rw [lg_entry_eq]
  generalize (lg_sl ([.ref (ad x0), .ref (ad x1)]) ++ List.replicate (2 - (lg_sl ([.ref (ad x0), .ref (ad x1)])).length) Slot.unset).toArray = ls at hl ⊢
  have hpre := atoms_spec (ws := wsAl_addB) B.pre
  have hnm : meth.name = "add" := (name_of_methodNamed B.named B.method).1
  exact wk_Al_addB_0 ⟨B.exec, B.bytes, hml, findClass_of_methodNamed B.named, hts_bw hpre, B.returns, B.notSynchronized, hK, hA, fun v => ww_D hD, hN, aln_in hal0 n0, hNx⟩ ⟨hal0, hla, hsl, hnm, hdZ, hdT, hno, hny⟩ F out u x0 x1 h q0 q1 _ _ _ (lv_sub hl [0, 1] rfl) hP va_S.rf
end

abbrev yAc_init : MethodName := ⟨"java/util/AbstractCollection", "<init>", "()V"⟩
abbrev cAc_init : ByteArray := prog_24_method_1_code
abbrev wsAc_init : List Cond := .code yAc_init cAc_init 1 none :: bw
theorem gdAc_init : GoodIn bw wsAc_init := gd_of tw_134
theorem hdAc_init : yAc_init.cls ≠ "java/lang/invoke/MethodHandle" ∧ yAc_init.cls ≠ "java/lang/invoke/VarHandle" ∧ (parseMethodDescriptor yAc_init.desc).map (fun d => d.parameters.length) = some 0 := by decide +kernel
theorem dAc_init_0 : decode cAc_init 0 = .ok (.aload_n 0, 1) := by decide +kernel
theorem dAc_init_1 : decode cAc_init 1 = .ok (.invokespecial 1, 3) := by decide +kernel
theorem dAc_init_4 : decode cAc_init 4 = .ok (.return_, 1) := by decide +kernel
section
variable {p : Program} {l : Launch} {e : Env} {s : State} {m : MethodId} {args : Array Value} {below : List Frame} {meth : Method} {c : Code} {D : va_G} {cA : Nat → ClassId} {ad : Nat → Nat} {L : List Nat} {rs : va_W} {al : Nat → Bool} {sl : Nat → Option Nat} {n0 : Nat} {A : Nat → Prop}
abbrev rm_Ac_init : Room := { frames := 1, cells := 0, slots := 0, locals := 30 }
def bk_Ac_init_0 (F : Nat) (al : Nat → Bool) (sl : Nat → Option Nat) (n0 : Nat) (u : Mr) (x0 : Nat) : Option (Mr × Int32) := some (u, 0)
set_option maxHeartbeats 4000000 in
set_option maxRecDepth 100000 in
theorem wk_Ac_init_0 (cx : Cx p l e s m args below meth c cAc_init 1 bw "java/util/AbstractCollection" none D cA ad (Ln sl n0 L) rs (aln al sl n0) A) (cz : Cz s meth "<init>" ad L al sl n0 A) (F : Nat) (out : Mr × Int32) : ∀ (u : Mr) (x0 : Nat), bk_Ac_init_0 F al sl n0 u x0 = some out → Wb p l e rm_Ac_init s m args below meth c D cA ad (Ln sl n0 L) rs A (QVn below args s D cA ad (Ln sl n0 L) rs A out 0 0) 1 0 [(0, .ref (ad x0))] [] u := by
  obtain ⟨hx, hb, hml, hown, hts, hr, hlocks, hK, hA, hD, hN, hal, hNx⟩ := cx
  obtain ⟨hal0, hla, hsl, hnm, hdZ, hdT, hno, hny⟩ := cz
  intro u x0 h H locs ls hl hP hS
  unfold bk_Ac_init_0 at h
  refine lv_aload_n hx hb dAc_init_0 rfl (lv_at hl 0 rfl) ?_
  refine W.objInit hx hb hown (hts _ tw_135) (hts _ tw_33) (hts _ tw_34) rfl (hl.1.trans hml.symm) rfl dAc_init_1 (Nat.le_of_ble_eq_true rfl) (Nat.le_of_ble_eq_true rfl) ?_
  refine W.eq (g2 := F0 m 4 _ []) rfl ?_
  exact x_vretN hx hb hr hlocks h hP hD hN hS (Nat.le_of_ble_eq_true rfl) (Nat.le_of_ble_eq_true rfl) dAc_init_4
def fn_Ac_init (F : Nat) (al : Nat → Bool) (sl : Nat → Option Nat) (n0 : Nat) (u : Mr) (x0 : Nat) : Option (Mr × Int32) := bk_Ac_init_0 F al sl n0 u x0
set_option maxHeartbeats 4000000 in
set_option maxRecDepth 100000 in
theorem ct_Ac_init {l : Launch} {D : va_G} {cA : Nat → ClassId} {ad : Nat → Nat} {L : List Nat} {rs : va_W} {al : Nat → Bool} {sl : Nat → Option Nat} {n0 sz : Nat} (hal0 : ∀ k, al k = true → k ∈ L) (hla : ∀ k, k ∈ L → al k = true) (hN : (Ln sl n0 L).Nodup) (hsl : ∀ i k, sl i = some k → ad k + n0 = sz + i) (F : Nat) (u : Mr) (x0 : Nat) (out : Mr × Int32) (h : fn_Ac_init F al sl n0 u x0 = some out)  : CtVn l yAc_init wsAc_init rm_Ac_init [.ref (ad x0)] D cA ad (Ln sl n0 L) (Ln sl n0 L) rs u out 0 0 sz := by
  refine Met.ofW (cc := cAc_init) (maxL := 1) (ret := none) (by decide) rfl ?_
  intro p e s m args below meth c s₁ B hml hv
  obtain ⟨rfl, ⟨hsz, hP, hK, hD0, hNx⟩, hdZ, hdT, hno, hny⟩ := hv
  subst hsz
  have hD := hD0.self (sz := s.heap.size)
  generalize hAe : va_A (ww ad cA (Ln sl n0 L) rs u) s.heap.size = A at hD hdZ hdT ⊢
  have hA : ∀ q, s.heap.size ≤ q → A q := fun q h => by rw [← hAe]; exact Or.inr h
  have hl := lv_entry ([.ref (ad x0)]) (n := 1) (Nat.le_of_ble_eq_true rfl)
  rw [lg_entry_eq]
  generalize (lg_sl ([.ref (ad x0)]) ++ List.replicate (1 - (lg_sl ([.ref (ad x0)])).length) Slot.unset).toArray = ls at hl ⊢
  have hpre := atoms_spec (ws := wsAc_init) B.pre
  have hnm : meth.name = "<init>" := (name_of_methodNamed B.named B.method).1
  exact wk_Ac_init_0 ⟨B.exec, B.bytes, hml, findClass_of_methodNamed B.named, hts_bw hpre, B.returns, B.notSynchronized, hK, hA, fun v => ww_D hD, hN, aln_in hal0 n0, hNx⟩ ⟨hal0, hla, hsl, hnm, hdZ, hdT, hno, hny⟩ F out u x0 h  _ _ _ (lv_sub hl [0] rfl) hP va_S.rf
end
abbrev yRc_init : MethodName := ⟨"java/lang/Record", "<init>", "()V"⟩
abbrev cRc_init : ByteArray := prog_19_method_1_code
abbrev wsRc_init : List Cond := .code yRc_init cRc_init 1 none :: bw
theorem gdRc_init : GoodIn bw wsRc_init := gd_of tw_411
theorem hdRc_init : yRc_init.cls ≠ "java/lang/invoke/MethodHandle" ∧ yRc_init.cls ≠ "java/lang/invoke/VarHandle" ∧ (parseMethodDescriptor yRc_init.desc).map (fun d => d.parameters.length) = some 0 := by decide +kernel
theorem dRc_init_0 : decode cRc_init 0 = .ok (.aload_n 0, 1) := by decide +kernel
theorem dRc_init_1 : decode cRc_init 1 = .ok (.invokespecial 1, 3) := by decide +kernel
theorem dRc_init_4 : decode cRc_init 4 = .ok (.return_, 1) := by decide +kernel
section
variable {p : Program} {l : Launch} {e : Env} {s : State} {m : MethodId} {args : Array Value} {below : List Frame} {meth : Method} {c : Code} {D : va_G} {cA : Nat → ClassId} {ad : Nat → Nat} {L : List Nat} {rs : va_W} {al : Nat → Bool} {sl : Nat → Option Nat} {n0 : Nat} {A : Nat → Prop}
abbrev rm_Rc_init : Room := { frames := 1, cells := 0, slots := 0, locals := 30 }
def bk_Rc_init_0 (F : Nat) (al : Nat → Bool) (sl : Nat → Option Nat) (n0 : Nat) (u : Mr) (x0 : Nat) : Option (Mr × Int32) := some (u, 0)
set_option maxHeartbeats 4000000 in
set_option maxRecDepth 100000 in
theorem wk_Rc_init_0 (cx : Cx p l e s m args below meth c cRc_init 1 bw "java/lang/Record" none D cA ad (Ln sl n0 L) rs (aln al sl n0) A) (cz : Cz s meth "<init>" ad L al sl n0 A) (F : Nat) (out : Mr × Int32) : ∀ (u : Mr) (x0 : Nat), bk_Rc_init_0 F al sl n0 u x0 = some out → Wb p l e rm_Rc_init s m args below meth c D cA ad (Ln sl n0 L) rs A (QVn below args s D cA ad (Ln sl n0 L) rs A out 0 0) 1 0 [(0, .ref (ad x0))] [] u := by
  obtain ⟨hx, hb, hml, hown, hts, hr, hlocks, hK, hA, hD, hN, hal, hNx⟩ := cx
  obtain ⟨hal0, hla, hsl, hnm, hdZ, hdT, hno, hny⟩ := cz
  intro u x0 h H locs ls hl hP hS
  unfold bk_Rc_init_0 at h
  refine lv_aload_n hx hb dRc_init_0 rfl (lv_at hl 0 rfl) ?_
  refine W.objInit hx hb hown (hts _ tw_412) (hts _ tw_33) (hts _ tw_34) rfl (hl.1.trans hml.symm) rfl dRc_init_1 (Nat.le_of_ble_eq_true rfl) (Nat.le_of_ble_eq_true rfl) ?_
  refine W.eq (g2 := F0 m 4 _ []) rfl ?_
  exact x_vretN hx hb hr hlocks h hP hD hN hS (Nat.le_of_ble_eq_true rfl) (Nat.le_of_ble_eq_true rfl) dRc_init_4
def fn_Rc_init (F : Nat) (al : Nat → Bool) (sl : Nat → Option Nat) (n0 : Nat) (u : Mr) (x0 : Nat) : Option (Mr × Int32) := bk_Rc_init_0 F al sl n0 u x0
set_option maxHeartbeats 4000000 in
set_option maxRecDepth 100000 in
theorem ct_Rc_init {l : Launch} {D : va_G} {cA : Nat → ClassId} {ad : Nat → Nat} {L : List Nat} {rs : va_W} {al : Nat → Bool} {sl : Nat → Option Nat} {n0 sz : Nat} (hal0 : ∀ k, al k = true → k ∈ L) (hla : ∀ k, k ∈ L → al k = true) (hN : (Ln sl n0 L).Nodup) (hsl : ∀ i k, sl i = some k → ad k + n0 = sz + i) (F : Nat) (u : Mr) (x0 : Nat) (out : Mr × Int32) (h : fn_Rc_init F al sl n0 u x0 = some out)  : CtVn l yRc_init wsRc_init rm_Rc_init [.ref (ad x0)] D cA ad (Ln sl n0 L) (Ln sl n0 L) rs u out 0 0 sz := by
  refine Met.ofW (cc := cRc_init) (maxL := 1) (ret := none) (by decide) rfl ?_
  intro p e s m args below meth c s₁ B hml hv
  obtain ⟨rfl, ⟨hsz, hP, hK, hD0, hNx⟩, hdZ, hdT, hno, hny⟩ := hv
  subst hsz
  have hD := hD0.self (sz := s.heap.size)
  generalize hAe : va_A (ww ad cA (Ln sl n0 L) rs u) s.heap.size = A at hD hdZ hdT ⊢
  have hA : ∀ q, s.heap.size ≤ q → A q := fun q h => by rw [← hAe]; exact Or.inr h
  have hl := lv_entry ([.ref (ad x0)]) (n := 1) (Nat.le_of_ble_eq_true rfl)
  rw [lg_entry_eq]
  generalize (lg_sl ([.ref (ad x0)]) ++ List.replicate (1 - (lg_sl ([.ref (ad x0)])).length) Slot.unset).toArray = ls at hl ⊢
  have hpre := atoms_spec (ws := wsRc_init) B.pre
  have hnm : meth.name = "<init>" := (name_of_methodNamed B.named B.method).1
  exact wk_Rc_init_0 ⟨B.exec, B.bytes, hml, findClass_of_methodNamed B.named, hts_bw hpre, B.returns, B.notSynchronized, hK, hA, fun v => ww_D hD, hN, aln_in hal0 n0, hNx⟩ ⟨hal0, hla, hsl, hnm, hdZ, hdT, hno, hny⟩ F out u x0 h  _ _ _ (lv_sub hl [0] rfl) hP va_S.rf
end
abbrev yAb_init : MethodName := ⟨"java/util/AbstractList", "<init>", "()V"⟩
abbrev cAb_init : ByteArray := prog_25_method_1_code
abbrev wsAb_init : List Cond := .code yAb_init cAb_init 1 none :: bw
theorem gdAb_init : GoodIn bw wsAb_init := gd_of tw_131
theorem hdAb_init : yAb_init.cls ≠ "java/lang/invoke/MethodHandle" ∧ yAb_init.cls ≠ "java/lang/invoke/VarHandle" ∧ (parseMethodDescriptor yAb_init.desc).map (fun d => d.parameters.length) = some 0 := by decide +kernel
theorem dAb_init_0 : decode cAb_init 0 = .ok (.aload_n 0, 1) := by decide +kernel
theorem dAb_init_1 : decode cAb_init 1 = .ok (.invokespecial 1, 3) := by decide +kernel
theorem dAb_init_4 : decode cAb_init 4 = .ok (.aload_n 0, 1) := by decide +kernel
theorem dAb_init_5 : decode cAb_init 5 = .ok (.iconst 0, 1) := by decide +kernel
theorem dAb_init_6 : decode cAb_init 6 = .ok (.putfield 7, 3) := by decide +kernel
theorem dAb_init_9 : decode cAb_init 9 = .ok (.return_, 1) := by decide +kernel
section
variable {p : Program} {l : Launch} {e : Env} {s : State} {m : MethodId} {args : Array Value} {below : List Frame} {meth : Method} {c : Code} {D : va_G} {cA : Nat → ClassId} {ad : Nat → Nat} {L : List Nat} {rs : va_W} {al : Nat → Bool} {sl : Nat → Option Nat} {n0 : Nat} {A : Nat → Prop}
abbrev rm_Ab_init : Room := { frames := 2, cells := 0, slots := 0, locals := 50 }
def bk_Ab_init_0 (F : Nat) (al : Nat → Bool) (sl : Nat → Option Nat) (n0 : Nat) (u : Mr) (x0 : Nat) : Option (Mr × Int32) := bd2 (fn_Ac_init F al sl n0 u x0) fun u1 v1 => (some (stI u1 x0 0 (0 : Int32), 0))
set_option maxHeartbeats 4000000 in
set_option maxRecDepth 100000 in
theorem wk_Ab_init_0 (cx : Cx p l e s m args below meth c cAb_init 1 bw "java/util/AbstractList" none D cA ad (Ln sl n0 L) rs (aln al sl n0) A) (cz : Cz s meth "<init>" ad L al sl n0 A) (F : Nat) (out : Mr × Int32) : ∀ (u : Mr) (x0 : Nat), bk_Ab_init_0 F al sl n0 u x0 = some out → okk (aln al sl n0) 18 x0 = true → Wb p l e rm_Ab_init s m args below meth c D cA ad (Ln sl n0 L) rs A (QVn below args s D cA ad (Ln sl n0 L) rs A out 0 0) 1 0 [(0, .ref (ad x0))] [] u := by
  obtain ⟨hx, hb, hml, hown, hts, hr, hlocks, hK, hA, hD, hN, hal, hNx⟩ := cx
  obtain ⟨hal0, hla, hsl, hnm, hdZ, hdT, hno, hny⟩ := cz
  intro u x0 h q0 H locs ls hl hP hS
  unfold bk_Ab_init_0 at h
  refine lv_aload_n hx hb dAb_init_0 rfl (lv_at hl 0 rfl) ?_
  replace h := bd2_some h
  obtain ⟨u1, v1, hc1, h⟩ := h
  refine x_size hS.1 (fun hz => ?_)
  refine z_cv (u := u) (out := (u1, v1)) hA hD hS (va_runI (As := []) (rest := []) ⟨hx, hb, hml, hown, hts⟩ (ct_Ac_init hal0 hla hN (sz := H.size) (x_hsl hsl hz) F u x0 (u1, v1) hc1 ) ⟨callB_of 0 hts gdAc_init rfl rfl rfl (hts _ tw_7) (hts _ tw_132) hdAc_init ⟨Nat.le_of_ble_eq_true rfl, Nat.le_of_ble_eq_true rfl⟩, rfl, (hts _ tw_133)⟩ (x_preSN hK hD hNx hP hS hA hdZ hdT hno hny) rfl rfl hl.1 rfl (lv_room (Nat.le_of_ble_eq_true rfl)) dAb_init_1 ⟨Nat.le_of_ble_eq_true rfl, Nat.le_of_ble_eq_true rfl⟩) (fun t9 locs hB hS9 => ?_)
  obtain ⟨hP9, hD9, hN9⟩ := hB
  replace hD := x_Dw hA hD hS hD9
  replace hN := hN9
  clear hP hS
  generalize t9.heap = H at hP9 hS9 ⊢
  have hP := hP9
  have hS := hS9
  clear hP9 hS9 hD9 hN9
  refine lv_aload_n hx hb dAb_init_4 rfl (lv_at hl 0 rfl) ?_
  refine lv_iconst (v := 0) hx hb dAb_init_5 (by decide) ?_
  refine x_put hx hb hts in_Al t_Al t_Al_ok nm_Al hown hK hD hN hP hS (hal _ (okk_al q0)) (okk_t q0) rfl rfl 0 (by decide) (hts _ tw_140) (fun _ h9 => h9) rfl (ty := .int) (by decide +kernel) rfl rfl (Nat.le_of_ble_eq_true rfl) (stI u1 x0 0 (0 : Int32)) stI_o (by rw [stI_up]; exact eg_18_0) dAb_init_6 (fun H locs hP hS => ?_)
  exact x_vretN hx hb hr hlocks h hP hD hN hS (Nat.le_of_ble_eq_true rfl) (Nat.le_of_ble_eq_true rfl) dAb_init_9
def fn_Ab_init (F : Nat) (al : Nat → Bool) (sl : Nat → Option Nat) (n0 : Nat) (u : Mr) (x0 : Nat) : Option (Mr × Int32) := bk_Ab_init_0 F al sl n0 u x0
set_option maxHeartbeats 4000000 in
set_option maxRecDepth 100000 in
theorem ct_Ab_init {l : Launch} {D : va_G} {cA : Nat → ClassId} {ad : Nat → Nat} {L : List Nat} {rs : va_W} {al : Nat → Bool} {sl : Nat → Option Nat} {n0 sz : Nat} (hal0 : ∀ k, al k = true → k ∈ L) (hla : ∀ k, k ∈ L → al k = true) (hN : (Ln sl n0 L).Nodup) (hsl : ∀ i k, sl i = some k → ad k + n0 = sz + i) (F : Nat) (u : Mr) (x0 : Nat) (out : Mr × Int32) (h : fn_Ab_init F al sl n0 u x0 = some out) (q0 : okk (aln al sl n0) 18 x0 = true) : CtVn l yAb_init wsAb_init rm_Ab_init [.ref (ad x0)] D cA ad (Ln sl n0 L) (Ln sl n0 L) rs u out 0 0 sz := by
  refine Met.ofW (cc := cAb_init) (maxL := 1) (ret := none) (by decide) rfl ?_
  intro p e s m args below meth c s₁ B hml hv
  obtain ⟨rfl, ⟨hsz, hP, hK, hD0, hNx⟩, hdZ, hdT, hno, hny⟩ := hv
  subst hsz
  have hD := hD0.self (sz := s.heap.size)
  generalize hAe : va_A (ww ad cA (Ln sl n0 L) rs u) s.heap.size = A at hD hdZ hdT ⊢
  have hA : ∀ q, s.heap.size ≤ q → A q := fun q h => by rw [← hAe]; exact Or.inr h
  have hl := lv_entry ([.ref (ad x0)]) (n := 1) (Nat.le_of_ble_eq_true rfl)
  rw [lg_entry_eq]
  generalize (lg_sl ([.ref (ad x0)]) ++ List.replicate (1 - (lg_sl ([.ref (ad x0)])).length) Slot.unset).toArray = ls at hl ⊢
  have hpre := atoms_spec (ws := wsAb_init) B.pre
  have hnm : meth.name = "<init>" := (name_of_methodNamed B.named B.method).1
  exact wk_Ab_init_0 ⟨B.exec, B.bytes, hml, findClass_of_methodNamed B.named, hts_bw hpre, B.returns, B.notSynchronized, hK, hA, fun v => ww_D hD, hN, aln_in hal0 n0, hNx⟩ ⟨hal0, hla, hsl, hnm, hdZ, hdT, hno, hny⟩ F out u x0 h q0 _ _ _ (lv_sub hl [0] rfl) hP va_S.rf
end
abbrev yAl_init : MethodName := ⟨"java/util/ArrayList", "<init>", "()V"⟩
abbrev cAl_init : ByteArray := prog_26_method_2_code
abbrev wsAl_init : List Cond := .code yAl_init cAl_init 1 none :: bw
theorem gdAl_init : GoodIn bw wsAl_init := gd_of tw_128
theorem hdAl_init : yAl_init.cls ≠ "java/lang/invoke/MethodHandle" ∧ yAl_init.cls ≠ "java/lang/invoke/VarHandle" ∧ (parseMethodDescriptor yAl_init.desc).map (fun d => d.parameters.length) = some 0 := by decide +kernel
theorem dAl_init_0 : decode cAl_init 0 = .ok (.aload_n 0, 1) := by decide +kernel
theorem dAl_init_1 : decode cAl_init 1 = .ok (.invokespecial 1, 3) := by decide +kernel
theorem dAl_init_4 : decode cAl_init 4 = .ok (.aload_n 0, 1) := by decide +kernel
theorem dAl_init_5 : decode cAl_init 5 = .ok (.getstatic 39, 3) := by decide +kernel
theorem dAl_init_8 : decode cAl_init 8 = .ok (.putfield 9, 3) := by decide +kernel
theorem dAl_init_11 : decode cAl_init 11 = .ok (.return_, 1) := by decide +kernel
section
variable {p : Program} {l : Launch} {e : Env} {s : State} {m : MethodId} {args : Array Value} {below : List Frame} {meth : Method} {c : Code} {D : va_G} {cA : Nat → ClassId} {ad : Nat → Nat} {L : List Nat} {rs : va_W} {al : Nat → Bool} {sl : Nat → Option Nat} {n0 : Nat} {A : Nat → Prop}
abbrev rm_Al_init : Room := { frames := 3, cells := 0, slots := 0, locals := 70 }
def bk_Al_init_0 (F : Nat) (al : Nat → Bool) (sl : Nat → Option Nat) (n0 : Nat) (u : Mr) (x0 : Nat) : Option (Mr × Int32) := bd2 (fn_Ab_init F al sl n0 u x0) fun u1 v1 => (some (stR u1 x0 1 (some 1472), 0))
set_option maxHeartbeats 4000000 in
set_option maxRecDepth 100000 in
theorem wk_Al_init_0 (cx : Cx p l e s m args below meth c cAl_init 1 bw "java/util/ArrayList" none D cA ad (Ln sl n0 L) rs (aln al sl n0) A) (cz : Cz s meth "<init>" ad L al sl n0 A) (F : Nat) (out : Mr × Int32) : ∀ (u : Mr) (x0 : Nat), bk_Al_init_0 F al sl n0 u x0 = some out → okk (aln al sl n0) 18 x0 = true → Wb p l e rm_Al_init s m args below meth c D cA ad (Ln sl n0 L) rs A (QVn below args s D cA ad (Ln sl n0 L) rs A out 0 0) 1 0 [(0, .ref (ad x0))] [] u := by
  obtain ⟨hx, hb, hml, hown, hts, hr, hlocks, hK, hA, hD, hN, hal, hNx⟩ := cx
  obtain ⟨hal0, hla, hsl, hnm, hdZ, hdT, hno, hny⟩ := cz
  intro u x0 h q0 H locs ls hl hP hS
  unfold bk_Al_init_0 at h
  refine lv_aload_n hx hb dAl_init_0 rfl (lv_at hl 0 rfl) ?_
  replace h := bd2_some h
  obtain ⟨u1, v1, hc1, h⟩ := h
  refine x_size hS.1 (fun hz => ?_)
  refine z_cv (u := u) (out := (u1, v1)) hA hD hS (va_runI (As := []) (rest := []) ⟨hx, hb, hml, hown, hts⟩ (ct_Ab_init hal0 hla hN (sz := H.size) (x_hsl hsl hz) F u x0 (u1, v1) hc1 q0) ⟨callB_of 0 hts gdAb_init rfl rfl rfl (hts _ tw_8) (hts _ tw_129) hdAb_init ⟨Nat.le_of_ble_eq_true rfl, Nat.le_of_ble_eq_true rfl⟩, rfl, (hts _ tw_130)⟩ (x_preSN hK hD hNx hP hS hA hdZ hdT hno hny) rfl rfl hl.1 rfl (lv_room (Nat.le_of_ble_eq_true rfl)) dAl_init_1 ⟨Nat.le_of_ble_eq_true rfl, Nat.le_of_ble_eq_true rfl⟩) (fun t9 locs hB hS9 => ?_)
  obtain ⟨hP9, hD9, hN9⟩ := hB
  replace hD := x_Dw hA hD hS hD9
  replace hN := hN9
  clear hP hS
  generalize t9.heap = H at hP9 hS9 ⊢
  have hP := hP9
  have hS := hS9
  clear hP9 hS9 hD9 hN9
  refine lv_aload_n hx hb dAl_init_4 rfl (lv_at hl 0 rfl) ?_
  refine va_gets hx hb hdZ hS hown (hts _ tw_136) (fun _ h9 => h9) dAl_init_5 ?_
  refine x_put hx hb hts in_Al t_Al t_Al_ok nm_Al hown hK hD hN hP hS (hal _ (okk_al q0)) (okk_t q0) rfl rfl 1 (by decide) (hts _ tw_138) (fun _ h9 => h9) rfl (ty := .array (.object "java/lang/Object")) (v := .ref (ad 1472)) (by decide +kernel) rfl rfl (Nat.le_of_ble_eq_true rfl) (stR u1 x0 1 (some 1472)) stR_o (by rw [stR_up]; exact eq_18_1) dAl_init_8 (fun H locs hP hS => ?_)
  exact x_vretN hx hb hr hlocks h hP hD hN hS (Nat.le_of_ble_eq_true rfl) (Nat.le_of_ble_eq_true rfl) dAl_init_11
def fn_Al_init (F : Nat) (al : Nat → Bool) (sl : Nat → Option Nat) (n0 : Nat) (u : Mr) (x0 : Nat) : Option (Mr × Int32) := bk_Al_init_0 F al sl n0 u x0
set_option maxHeartbeats 4000000 in
set_option maxRecDepth 100000 in
theorem ct_Al_init {l : Launch} {D : va_G} {cA : Nat → ClassId} {ad : Nat → Nat} {L : List Nat} {rs : va_W} {al : Nat → Bool} {sl : Nat → Option Nat} {n0 sz : Nat} (hal0 : ∀ k, al k = true → k ∈ L) (hla : ∀ k, k ∈ L → al k = true) (hN : (Ln sl n0 L).Nodup) (hsl : ∀ i k, sl i = some k → ad k + n0 = sz + i) (F : Nat) (u : Mr) (x0 : Nat) (out : Mr × Int32) (h : fn_Al_init F al sl n0 u x0 = some out) (q0 : okk (aln al sl n0) 18 x0 = true) : CtVn l yAl_init wsAl_init rm_Al_init [.ref (ad x0)] D cA ad (Ln sl n0 L) (Ln sl n0 L) rs u out 0 0 sz := by
  refine Met.ofW (cc := cAl_init) (maxL := 1) (ret := none) (by decide) rfl ?_
  intro p e s m args below meth c s₁ B hml hv
  obtain ⟨rfl, ⟨hsz, hP, hK, hD0, hNx⟩, hdZ, hdT, hno, hny⟩ := hv
  subst hsz
  have hD := hD0.self (sz := s.heap.size)
  generalize hAe : va_A (ww ad cA (Ln sl n0 L) rs u) s.heap.size = A at hD hdZ hdT ⊢
  have hA : ∀ q, s.heap.size ≤ q → A q := fun q h => by rw [← hAe]; exact Or.inr h
  have hl := lv_entry ([.ref (ad x0)]) (n := 1) (Nat.le_of_ble_eq_true rfl)
  rw [lg_entry_eq]
  generalize (lg_sl ([.ref (ad x0)]) ++ List.replicate (1 - (lg_sl ([.ref (ad x0)])).length) Slot.unset).toArray = ls at hl ⊢
  have hpre := atoms_spec (ws := wsAl_init) B.pre
  have hnm : meth.name = "<init>" := (name_of_methodNamed B.named B.method).1
  exact wk_Al_init_0 ⟨B.exec, B.bytes, hml, findClass_of_methodNamed B.named, hts_bw hpre, B.returns, B.notSynchronized, hK, hA, fun v => ww_D hD, hN, aln_in hal0 n0, hNx⟩ ⟨hal0, hla, hsl, hnm, hdZ, hdT, hno, hny⟩ F out u x0 h q0 _ _ _ (lv_sub hl [0] rfl) hP va_S.rf
end
abbrev yNm_init : MethodName := ⟨"ImageForge$Name", "<init>", "()V"⟩
abbrev cNm_init : ByteArray := prog_5_method_1_code
abbrev wsNm_init : List Cond := .code yNm_init cNm_init 1 none :: bw
theorem gdNm_init : GoodIn bw wsNm_init := gd_of tw_167
theorem hdNm_init : yNm_init.cls ≠ "java/lang/invoke/MethodHandle" ∧ yNm_init.cls ≠ "java/lang/invoke/VarHandle" ∧ (parseMethodDescriptor yNm_init.desc).map (fun d => d.parameters.length) = some 0 := by decide +kernel
theorem dNm_init_0 : decode cNm_init 0 = .ok (.aload_n 0, 1) := by decide +kernel
theorem dNm_init_1 : decode cNm_init 1 = .ok (.invokespecial 3, 3) := by decide +kernel
theorem dNm_init_4 : decode cNm_init 4 = .ok (.aload_n 0, 1) := by decide +kernel
theorem dNm_init_5 : decode cNm_init 5 = .ok (.iconst (-1), 1) := by decide +kernel
theorem dNm_init_6 : decode cNm_init 6 = .ok (.putfield 9, 3) := by decide +kernel
theorem dNm_init_9 : decode cNm_init 9 = .ok (.return_, 1) := by decide +kernel
section
variable {p : Program} {l : Launch} {e : Env} {s : State} {m : MethodId} {args : Array Value} {below : List Frame} {meth : Method} {c : Code} {D : va_G} {cA : Nat → ClassId} {ad : Nat → Nat} {L : List Nat} {rs : va_W} {al : Nat → Bool} {sl : Nat → Option Nat} {n0 : Nat} {A : Nat → Prop}
abbrev rm_Nm_init : Room := { frames := 1, cells := 0, slots := 0, locals := 30 }
def bk_Nm_init_0 (F : Nat) (al : Nat → Bool) (sl : Nat → Option Nat) (n0 : Nat) (u : Mr) (x0 : Nat) : Option (Mr × Int32) := some (stI u x0 4 (-1 : Int32), 0)
set_option maxHeartbeats 4000000 in
set_option maxRecDepth 100000 in
theorem wk_Nm_init_0 (cx : Cx p l e s m args below meth c cNm_init 1 bw "ImageForge$Name" none D cA ad (Ln sl n0 L) rs (aln al sl n0) A) (cz : Cz s meth "<init>" ad L al sl n0 A) (F : Nat) (out : Mr × Int32) : ∀ (u : Mr) (x0 : Nat), bk_Nm_init_0 F al sl n0 u x0 = some out → okk (aln al sl n0) 20 x0 = true → Wb p l e rm_Nm_init s m args below meth c D cA ad (Ln sl n0 L) rs A (QVn below args s D cA ad (Ln sl n0 L) rs A out 0 0) 1 0 [(0, .ref (ad x0))] [] u := by
  obtain ⟨hx, hb, hml, hown, hts, hr, hlocks, hK, hA, hD, hN, hal, hNx⟩ := cx
  obtain ⟨hal0, hla, hsl, hnm, hdZ, hdT, hno, hny⟩ := cz
  intro u x0 h q0 H locs ls hl hP hS
  unfold bk_Nm_init_0 at h
  refine lv_aload_n hx hb dNm_init_0 rfl (lv_at hl 0 rfl) ?_
  refine W.objInit hx hb hown (hts _ tw_168) (hts _ tw_33) (hts _ tw_34) rfl (hl.1.trans hml.symm) rfl dNm_init_1 (Nat.le_of_ble_eq_true rfl) (Nat.le_of_ble_eq_true rfl) ?_
  refine W.eq (g2 := F0 m 4 _ []) rfl ?_
  refine lv_aload_n hx hb dNm_init_4 rfl (lv_at hl 0 rfl) ?_
  refine lv_iconst (v := (-1)) hx hb dNm_init_5 (by decide) ?_
  refine x_put hx hb hts in_Nm t_Nm t_Nm_ok nm_Nm hown hK hD hN hP hS (hal _ (okk_al q0)) (okk_t q0) rfl rfl 4 (by decide) (hts _ tw_177) (fun _ h9 => h9) rfl (ty := .int) (by decide +kernel) rfl rfl (Nat.le_of_ble_eq_true rfl) (stI u x0 4 (-1 : Int32)) stI_o (by rw [stI_up]; exact eg_20_4) dNm_init_6 (fun H locs hP hS => ?_)
  exact x_vretN hx hb hr hlocks h hP hD hN hS (Nat.le_of_ble_eq_true rfl) (Nat.le_of_ble_eq_true rfl) dNm_init_9
def fn_Nm_init (F : Nat) (al : Nat → Bool) (sl : Nat → Option Nat) (n0 : Nat) (u : Mr) (x0 : Nat) : Option (Mr × Int32) := bk_Nm_init_0 F al sl n0 u x0
set_option maxHeartbeats 4000000 in
set_option maxRecDepth 100000 in
theorem ct_Nm_init {l : Launch} {D : va_G} {cA : Nat → ClassId} {ad : Nat → Nat} {L : List Nat} {rs : va_W} {al : Nat → Bool} {sl : Nat → Option Nat} {n0 sz : Nat} (hal0 : ∀ k, al k = true → k ∈ L) (hla : ∀ k, k ∈ L → al k = true) (hN : (Ln sl n0 L).Nodup) (hsl : ∀ i k, sl i = some k → ad k + n0 = sz + i) (F : Nat) (u : Mr) (x0 : Nat) (out : Mr × Int32) (h : fn_Nm_init F al sl n0 u x0 = some out) (q0 : okk (aln al sl n0) 20 x0 = true) : CtVn l yNm_init wsNm_init rm_Nm_init [.ref (ad x0)] D cA ad (Ln sl n0 L) (Ln sl n0 L) rs u out 0 0 sz := by
  refine Met.ofW (cc := cNm_init) (maxL := 1) (ret := none) (by decide) rfl ?_
  intro p e s m args below meth c s₁ B hml hv
  obtain ⟨rfl, ⟨hsz, hP, hK, hD0, hNx⟩, hdZ, hdT, hno, hny⟩ := hv
  subst hsz
  have hD := hD0.self (sz := s.heap.size)
  generalize hAe : va_A (ww ad cA (Ln sl n0 L) rs u) s.heap.size = A at hD hdZ hdT ⊢
  have hA : ∀ q, s.heap.size ≤ q → A q := fun q h => by rw [← hAe]; exact Or.inr h
  have hl := lv_entry ([.ref (ad x0)]) (n := 1) (Nat.le_of_ble_eq_true rfl)
  rw [lg_entry_eq]
  generalize (lg_sl ([.ref (ad x0)]) ++ List.replicate (1 - (lg_sl ([.ref (ad x0)])).length) Slot.unset).toArray = ls at hl ⊢
  have hpre := atoms_spec (ws := wsNm_init) B.pre
  have hnm : meth.name = "<init>" := (name_of_methodNamed B.named B.method).1
  exact wk_Nm_init_0 ⟨B.exec, B.bytes, hml, findClass_of_methodNamed B.named, hts_bw hpre, B.returns, B.notSynchronized, hK, hA, fun v => ww_D hD, hN, aln_in hal0 n0, hNx⟩ ⟨hal0, hla, hsl, hnm, hdZ, hdT, hno, hny⟩ F out u x0 h q0 _ _ _ (lv_sub hl [0] rfl) hP va_S.rf
end
abbrev yRf_init : MethodName := ⟨"ImageForge$Reference", "<init>", "(IIII)V"⟩
abbrev cRf_init : ByteArray := prog_8_method_1_code
abbrev wsRf_init : List Cond := .code yRf_init cRf_init 5 none :: bw
theorem gdRf_init : GoodIn bw wsRf_init := gd_of tw_408
theorem hdRf_init : yRf_init.cls ≠ "java/lang/invoke/MethodHandle" ∧ yRf_init.cls ≠ "java/lang/invoke/VarHandle" ∧ (parseMethodDescriptor yRf_init.desc).map (fun d => d.parameters.length) = some 4 := by decide +kernel
theorem dRf_init_0 : decode cRf_init 0 = .ok (.aload_n 0, 1) := by decide +kernel
theorem dRf_init_1 : decode cRf_init 1 = .ok (.invokespecial 1, 3) := by decide +kernel
theorem dRf_init_4 : decode cRf_init 4 = .ok (.aload_n 0, 1) := by decide +kernel
theorem dRf_init_5 : decode cRf_init 5 = .ok (.iload_n 1, 1) := by decide +kernel
theorem dRf_init_6 : decode cRf_init 6 = .ok (.putfield 7, 3) := by decide +kernel
theorem dRf_init_9 : decode cRf_init 9 = .ok (.aload_n 0, 1) := by decide +kernel
theorem dRf_init_10 : decode cRf_init 10 = .ok (.iload_n 2, 1) := by decide +kernel
theorem dRf_init_11 : decode cRf_init 11 = .ok (.putfield 13, 3) := by decide +kernel
theorem dRf_init_14 : decode cRf_init 14 = .ok (.aload_n 0, 1) := by decide +kernel
theorem dRf_init_15 : decode cRf_init 15 = .ok (.iload_n 3, 1) := by decide +kernel
theorem dRf_init_16 : decode cRf_init 16 = .ok (.putfield 16, 3) := by decide +kernel
theorem dRf_init_19 : decode cRf_init 19 = .ok (.aload_n 0, 1) := by decide +kernel
theorem dRf_init_20 : decode cRf_init 20 = .ok (.iload 4, 2) := by decide +kernel
theorem dRf_init_22 : decode cRf_init 22 = .ok (.putfield 19, 3) := by decide +kernel
theorem dRf_init_25 : decode cRf_init 25 = .ok (.return_, 1) := by decide +kernel
section
variable {p : Program} {l : Launch} {e : Env} {s : State} {m : MethodId} {args : Array Value} {below : List Frame} {meth : Method} {c : Code} {D : va_G} {cA : Nat → ClassId} {ad : Nat → Nat} {L : List Nat} {rs : va_W} {al : Nat → Bool} {sl : Nat → Option Nat} {n0 : Nat} {A : Nat → Prop}
abbrev rm_Rf_init : Room := { frames := 2, cells := 0, slots := 0, locals := 50 }
def bk_Rf_init_0 (F : Nat) (al : Nat → Bool) (sl : Nat → Option Nat) (n0 : Nat) (u : Mr) (x0 : Nat) (x1 : Int32) (x2 : Int32) (x3 : Int32) (x4 : Int32) : Option (Mr × Int32) := bd2 (fn_Rc_init F al sl n0 u x0) fun u1 v1 => (some (stI (stI (stI (stI u1 x0 0 x1) x0 1 x2) x0 2 x3) x0 3 x4, 0))
set_option maxHeartbeats 4000000 in
set_option maxRecDepth 100000 in
theorem wk_Rf_init_0 (cx : Cx p l e s m args below meth c cRf_init 5 bw "ImageForge$Reference" none D cA ad (Ln sl n0 L) rs (aln al sl n0) A) (cz : Cz s meth "<init>" ad L al sl n0 A) (F : Nat) (out : Mr × Int32) : ∀ (u : Mr) (x0 : Nat) (x1 : Int32) (x2 : Int32) (x3 : Int32) (x4 : Int32), bk_Rf_init_0 F al sl n0 u x0 x1 x2 x3 x4 = some out → okk (aln al sl n0) 21 x0 = true → Wb p l e rm_Rf_init s m args below meth c D cA ad (Ln sl n0 L) rs A (QVn below args s D cA ad (Ln sl n0 L) rs A out 0 0) 5 0 [(0, .ref (ad x0)), (1, .int x1), (2, .int x2), (3, .int x3), (4, .int x4)] [] u := by
  obtain ⟨hx, hb, hml, hown, hts, hr, hlocks, hK, hA, hD, hN, hal, hNx⟩ := cx
  obtain ⟨hal0, hla, hsl, hnm, hdZ, hdT, hno, hny⟩ := cz
  intro u x0 x1 x2 x3 x4 h q0 H locs ls hl hP hS
  unfold bk_Rf_init_0 at h
  refine lv_aload_n hx hb dRf_init_0 rfl (lv_at hl 0 rfl) ?_
  replace h := bd2_some h
  obtain ⟨u1, v1, hc1, h⟩ := h
  refine x_size hS.1 (fun hz => ?_)
  refine z_cv (u := u) (out := (u1, v1)) hA hD hS (va_runI (As := []) (rest := []) ⟨hx, hb, hml, hown, hts⟩ (ct_Rc_init hal0 hla hN (sz := H.size) (x_hsl hsl hz) F u x0 (u1, v1) hc1 ) ⟨callB_of 0 hts gdRc_init rfl rfl rfl (hts _ tw_20) (hts _ tw_409) hdRc_init ⟨Nat.le_of_ble_eq_true rfl, Nat.le_of_ble_eq_true rfl⟩, rfl, (hts _ tw_410)⟩ (x_preSN hK hD hNx hP hS hA hdZ hdT hno hny) rfl rfl hl.1 rfl (lv_room (Nat.le_of_ble_eq_true rfl)) dRf_init_1 ⟨Nat.le_of_ble_eq_true rfl, Nat.le_of_ble_eq_true rfl⟩) (fun t9 locs hB hS9 => ?_)
  obtain ⟨hP9, hD9, hN9⟩ := hB
  replace hD := x_Dw hA hD hS hD9
  replace hN := hN9
  clear hP hS
  generalize t9.heap = H at hP9 hS9 ⊢
  have hP := hP9
  have hS := hS9
  clear hP9 hS9 hD9 hN9
  refine lv_aload_n hx hb dRf_init_4 rfl (lv_at hl 0 rfl) ?_
  refine lv_iload_n hx hb dRf_init_5 rfl (lv_at hl 1 rfl) ?_
  refine x_putF hx hb hts in_Rf t_Rf t_Rf_ok nm_Rf hown hK hD hN hP hS (hal _ (okk_al q0)) (okk_t q0) rfl rfl 0 (by decide) (hts _ tw_413) (fun _ h9 => h9) rfl hnm rfl (ty := .int) (by decide +kernel) rfl rfl (Nat.le_of_ble_eq_true rfl) (stI u1 x0 0 x1) stI_o (by rw [stI_up]; exact eg_21_0) dRf_init_6 (fun H locs hP hS => ?_)
  refine lv_aload_n hx hb dRf_init_9 rfl (lv_at hl 0 rfl) ?_
  refine lv_iload_n hx hb dRf_init_10 rfl (lv_at hl 2 rfl) ?_
  refine x_putF hx hb hts in_Rf t_Rf t_Rf_ok nm_Rf hown hK hD hN hP hS (hal _ (okk_al q0)) (okk_t q0) rfl rfl 1 (by decide) (hts _ tw_414) (fun _ h9 => h9) rfl hnm rfl (ty := .int) (by decide +kernel) rfl rfl (Nat.le_of_ble_eq_true rfl) (stI (stI u1 x0 0 x1) x0 1 x2) stI_o (by rw [stI_up]; exact eg_21_1) dRf_init_11 (fun H locs hP hS => ?_)
  refine lv_aload_n hx hb dRf_init_14 rfl (lv_at hl 0 rfl) ?_
  refine lv_iload_n hx hb dRf_init_15 rfl (lv_at hl 3 rfl) ?_
  refine x_putF hx hb hts in_Rf t_Rf t_Rf_ok nm_Rf hown hK hD hN hP hS (hal _ (okk_al q0)) (okk_t q0) rfl rfl 2 (by decide) (hts _ tw_415) (fun _ h9 => h9) rfl hnm rfl (ty := .int) (by decide +kernel) rfl rfl (Nat.le_of_ble_eq_true rfl) (stI (stI (stI u1 x0 0 x1) x0 1 x2) x0 2 x3) stI_o (by rw [stI_up]; exact eg_21_2) dRf_init_16 (fun H locs hP hS => ?_)
  refine lv_aload_n hx hb dRf_init_19 rfl (lv_at hl 0 rfl) ?_
  refine lv_iload hx hb dRf_init_20 (lv_at hl 4 rfl) ?_
  refine x_putF hx hb hts in_Rf t_Rf t_Rf_ok nm_Rf hown hK hD hN hP hS (hal _ (okk_al q0)) (okk_t q0) rfl rfl 3 (by decide) (hts _ tw_416) (fun _ h9 => h9) rfl hnm rfl (ty := .int) (by decide +kernel) rfl rfl (Nat.le_of_ble_eq_true rfl) (stI (stI (stI (stI u1 x0 0 x1) x0 1 x2) x0 2 x3) x0 3 x4) stI_o (by rw [stI_up]; exact eg_21_3) dRf_init_22 (fun H locs hP hS => ?_)
  exact x_vretN hx hb hr hlocks h hP hD hN hS (Nat.le_of_ble_eq_true rfl) (Nat.le_of_ble_eq_true rfl) dRf_init_25
def fn_Rf_init (F : Nat) (al : Nat → Bool) (sl : Nat → Option Nat) (n0 : Nat) (u : Mr) (x0 : Nat) (x1 : Int32) (x2 : Int32) (x3 : Int32) (x4 : Int32) : Option (Mr × Int32) := bk_Rf_init_0 F al sl n0 u x0 x1 x2 x3 x4
set_option maxHeartbeats 4000000 in
set_option maxRecDepth 100000 in
theorem ct_Rf_init {l : Launch} {D : va_G} {cA : Nat → ClassId} {ad : Nat → Nat} {L : List Nat} {rs : va_W} {al : Nat → Bool} {sl : Nat → Option Nat} {n0 sz : Nat} (hal0 : ∀ k, al k = true → k ∈ L) (hla : ∀ k, k ∈ L → al k = true) (hN : (Ln sl n0 L).Nodup) (hsl : ∀ i k, sl i = some k → ad k + n0 = sz + i) (F : Nat) (u : Mr) (x0 : Nat) (x1 : Int32) (x2 : Int32) (x3 : Int32) (x4 : Int32) (out : Mr × Int32) (h : fn_Rf_init F al sl n0 u x0 x1 x2 x3 x4 = some out) (q0 : okk (aln al sl n0) 21 x0 = true) : CtVn l yRf_init wsRf_init rm_Rf_init [.ref (ad x0), .int x1, .int x2, .int x3, .int x4] D cA ad (Ln sl n0 L) (Ln sl n0 L) rs u out 0 0 sz := by
  refine Met.ofW (cc := cRf_init) (maxL := 5) (ret := none) (by decide) rfl ?_
  intro p e s m args below meth c s₁ B hml hv
  obtain ⟨rfl, ⟨hsz, hP, hK, hD0, hNx⟩, hdZ, hdT, hno, hny⟩ := hv
  subst hsz
  have hD := hD0.self (sz := s.heap.size)
  generalize hAe : va_A (ww ad cA (Ln sl n0 L) rs u) s.heap.size = A at hD hdZ hdT ⊢
  have hA : ∀ q, s.heap.size ≤ q → A q := fun q h => by rw [← hAe]; exact Or.inr h
  have hl := lv_entry ([.ref (ad x0), .int x1, .int x2, .int x3, .int x4]) (n := 5) (Nat.le_of_ble_eq_true rfl)
  rw [lg_entry_eq]
  generalize (lg_sl ([.ref (ad x0), .int x1, .int x2, .int x3, .int x4]) ++ List.replicate (5 - (lg_sl ([.ref (ad x0), .int x1, .int x2, .int x3, .int x4])).length) Slot.unset).toArray = ls at hl ⊢
  have hpre := atoms_spec (ws := wsRf_init) B.pre
  have hnm : meth.name = "<init>" := (name_of_methodNamed B.named B.method).1
  exact wk_Rf_init_0 ⟨B.exec, B.bytes, hml, findClass_of_methodNamed B.named, hts_bw hpre, B.returns, B.notSynchronized, hK, hA, fun v => ww_D hD, hN, aln_in hal0 n0, hNx⟩ ⟨hal0, hla, hsl, hnm, hdZ, hdT, hno, hny⟩ F out u x0 x1 x2 x3 x4 h q0 _ _ _ (lv_sub hl [0, 1, 2, 3, 4] rfl) hP va_S.rf
end
abbrev yPt_init : MethodName := ⟨"ImageForge$Part", "<init>", "()V"⟩
abbrev cPt_init : ByteArray := prog_7_method_1_code
abbrev wsPt_init : List Cond := .code yPt_init cPt_init 1 none :: bw
theorem gdPt_init : GoodIn bw wsPt_init := gd_of tw_112
theorem hdPt_init : yPt_init.cls ≠ "java/lang/invoke/MethodHandle" ∧ yPt_init.cls ≠ "java/lang/invoke/VarHandle" ∧ (parseMethodDescriptor yPt_init.desc).map (fun d => d.parameters.length) = some 0 := by decide +kernel
theorem dPt_init_0 : decode cPt_init 0 = .ok (.aload_n 0, 1) := by decide +kernel
theorem dPt_init_1 : decode cPt_init 1 = .ok (.invokespecial 3, 3) := by decide +kernel
theorem dPt_init_4 : decode cPt_init 4 = .ok (.aload_n 0, 1) := by decide +kernel
theorem dPt_init_5 : decode cPt_init 5 = .ok (.bipush 40, 2) := by decide +kernel
theorem dPt_init_7 : decode cPt_init 7 = .ok (.newarray .byte, 2) := by decide +kernel
theorem dPt_init_9 : decode cPt_init 9 = .ok (.putfield 9, 3) := by decide +kernel
theorem dPt_init_12 : decode cPt_init 12 = .ok (.return_, 1) := by decide +kernel
section
variable {p : Program} {l : Launch} {e : Env} {s : State} {m : MethodId} {args : Array Value} {below : List Frame} {meth : Method} {c : Code} {D : va_G} {cA : Nat → ClassId} {ad : Nat → Nat} {L : List Nat} {rs : va_W} {al : Nat → Bool} {sl : Nat → Option Nat} {n0 : Nat} {A : Nat → Prop}
abbrev rm_Pt_init : Room := { frames := 1, cells := 1, slots := 40, locals := 30 }
def bk_Pt_init_0 (F : Nat) (al : Nat → Bool) (sl : Nat → Option Nat) (n0 : Nat) (u : Mr) (x0 : Nat) : Option (Mr × Int32) := bd1 (alo al sl n0 17) fun y1 => (some (stR (clr u y1) x0 0 (some y1), 0))
set_option maxHeartbeats 4000000 in
set_option maxRecDepth 100000 in
theorem wk_Pt_init_0 (cx : Cx p l e s m args below meth c cPt_init 1 bw "ImageForge$Part" none D cA ad (Ln sl n0 L) rs (aln al sl n0) A) (cz : Cz s meth "<init>" ad L al sl n0 A) (F : Nat) (out : Mr × Int32) : ∀ (u : Mr) (x0 : Nat), bk_Pt_init_0 F al sl n0 u x0 = some out → okk (aln al sl n0) 16 x0 = true → Wb p l e rm_Pt_init s m args below meth c D cA ad (Ln sl n0 L) rs A (QVn below args s D cA ad (Ln sl (n0 + 1) L) rs A out 1 40) 1 0 [(0, .ref (ad x0))] [] u := by
  obtain ⟨hx, hb, hml, hown, hts, hr, hlocks, hK, hA, hD, hN, hal, hNx⟩ := cx
  obtain ⟨hal0, hla, hsl, hnm, hdZ, hdT, hno, hny⟩ := cz
  intro u x0 h q0 H locs ls hl hP hS
  unfold bk_Pt_init_0 at h
  refine lv_aload_n hx hb dPt_init_0 rfl (lv_at hl 0 rfl) ?_
  refine W.objInit hx hb hown (hts _ tw_113) (hts _ tw_33) (hts _ tw_34) rfl (hl.1.trans hml.symm) rfl dPt_init_1 (Nat.le_of_ble_eq_true rfl) (Nat.le_of_ble_eq_true rfl) ?_
  refine W.eq (g2 := F0 m 4 _ []) rfl ?_
  refine lv_aload_n hx hb dPt_init_4 rfl (lv_at hl 0 rfl) ?_
  refine lv_bipush (v := 40) hx hb dPt_init_5 (by decide) ?_
  replace h := bd1_some h
  obtain ⟨y1, hy2, h⟩ := h
  obtain ⟨hy2a, hy2b, hy2t⟩ := alo_some hy2
  clear hy2
  refine x_size hS.1 (fun hz => ?_)
  refine x_newa (atype := .byte) (N := 40) hx hb (hts _ tw_59) hD hP hS hA (aln_out hla hy2b) hy2t (x_had hsl hy2a hz rfl) 1 (hK.2 1 _ rfl).2 rfl rfl (by decide) (by decide) (by decide) (Nat.le_of_ble_eq_true rfl) (Nat.le_of_ble_eq_true rfl) dPt_init_7 (fun H hP hD hS => ?_)
  rw [Ln_s (show (n0 + 1) = n0 + 1 from rfl) hy2a] at hP hD
  replace hN : (Ln sl (n0 + 1) L).Nodup := Ln_nd rfl hy2a (aln_out hla hy2b) hN
  replace hal := aln_in (sl := sl) hal0 (n0 + 1)
  replace q0 := okk_n (show n0 ≤ (n0 + 1) from Nat.le_add_right _ _) q0
  have hy2f := okk_new (al := al) (n := (n0 + 1)) hy2a (Nat.lt_succ_self _) hy2t
  refine W.widen (k := 1) (n := 40) (Nat.le_of_ble_eq_true rfl) (Nat.le_of_ble_eq_true rfl) ?_
  refine x_putF hx hb hts in_Pt t_Pt t_Pt_ok nm_Pt hown hK hD hN hP hS (hal _ (okk_al q0)) (okk_t q0) rfl rfl 0 (by decide) (hts _ tw_114) (fun _ h9 => h9) rfl hnm rfl (ty := .array .byte) (v := .ref (ad y1)) (by decide +kernel) rfl rfl (Nat.le_of_ble_eq_true rfl) (stR (clr u y1) x0 0 (some y1)) stR_o (by rw [stR_up]; exact eq_16_0) dPt_init_9 (fun H locs hP hS => ?_)
  exact x_vretN hx hb hr hlocks h hP hD hN hS (Nat.le_of_ble_eq_true rfl) (Nat.le_of_ble_eq_true rfl) dPt_init_12
def fn_Pt_init (F : Nat) (al : Nat → Bool) (sl : Nat → Option Nat) (n0 : Nat) (u : Mr) (x0 : Nat) : Option (Mr × Int32) := bk_Pt_init_0 F al sl n0 u x0
set_option maxHeartbeats 4000000 in
set_option maxRecDepth 100000 in
theorem ct_Pt_init {l : Launch} {D : va_G} {cA : Nat → ClassId} {ad : Nat → Nat} {L : List Nat} {rs : va_W} {al : Nat → Bool} {sl : Nat → Option Nat} {n0 sz : Nat} (hal0 : ∀ k, al k = true → k ∈ L) (hla : ∀ k, k ∈ L → al k = true) (hN : (Ln sl n0 L).Nodup) (hsl : ∀ i k, sl i = some k → ad k + n0 = sz + i) (F : Nat) (u : Mr) (x0 : Nat) (out : Mr × Int32) (h : fn_Pt_init F al sl n0 u x0 = some out) (q0 : okk (aln al sl n0) 16 x0 = true) : CtVn l yPt_init wsPt_init rm_Pt_init [.ref (ad x0)] D cA ad (Ln sl n0 L) (Ln sl (n0 + 1) L) rs u out 1 40 sz := by
  refine Met.ofW (cc := cPt_init) (maxL := 1) (ret := none) (by decide) rfl ?_
  intro p e s m args below meth c s₁ B hml hv
  obtain ⟨rfl, ⟨hsz, hP, hK, hD0, hNx⟩, hdZ, hdT, hno, hny⟩ := hv
  subst hsz
  have hD := hD0.self (sz := s.heap.size)
  generalize hAe : va_A (ww ad cA (Ln sl n0 L) rs u) s.heap.size = A at hD hdZ hdT ⊢
  have hA : ∀ q, s.heap.size ≤ q → A q := fun q h => by rw [← hAe]; exact Or.inr h
  have hl := lv_entry ([.ref (ad x0)]) (n := 1) (Nat.le_of_ble_eq_true rfl)
  rw [lg_entry_eq]
  generalize (lg_sl ([.ref (ad x0)]) ++ List.replicate (1 - (lg_sl ([.ref (ad x0)])).length) Slot.unset).toArray = ls at hl ⊢
  have hpre := atoms_spec (ws := wsPt_init) B.pre
  have hnm : meth.name = "<init>" := (name_of_methodNamed B.named B.method).1
  exact wk_Pt_init_0 ⟨B.exec, B.bytes, hml, findClass_of_methodNamed B.named, hts_bw hpre, B.returns, B.notSynchronized, hK, hA, fun v => ww_D hD, hN, aln_in hal0 n0, hNx⟩ ⟨hal0, hla, hsl, hnm, hdZ, hdT, hno, hny⟩ F out u x0 h q0 _ _ _ (lv_sub hl [0] rfl) hP va_S.rf
end
abbrev yIm_init : MethodName := ⟨"ImageForge$Image", "<init>", "()V"⟩
abbrev cIm_init : ByteArray := prog_2_method_1_code
abbrev wsIm_init : List Cond := .code yIm_init cIm_init 1 none :: bw
theorem gdIm_init : GoodIn bw wsIm_init := gd_of tw_45
theorem hdIm_init : yIm_init.cls ≠ "java/lang/invoke/MethodHandle" ∧ yIm_init.cls ≠ "java/lang/invoke/VarHandle" ∧ (parseMethodDescriptor yIm_init.desc).map (fun d => d.parameters.length) = some 0 := by decide +kernel
theorem dIm_init_0 : decode cIm_init 0 = .ok (.aload_n 0, 1) := by decide +kernel
theorem dIm_init_1 : decode cIm_init 1 = .ok (.invokespecial 3, 3) := by decide +kernel
theorem dIm_init_4 : decode cIm_init 4 = .ok (.aload_n 0, 1) := by decide +kernel
theorem dIm_init_5 : decode cIm_init 5 = .ok (.sipush 896, 3) := by decide +kernel
theorem dIm_init_8 : decode cIm_init 8 = .ok (.newarray .byte, 2) := by decide +kernel
theorem dIm_init_10 : decode cIm_init 10 = .ok (.putfield 9, 3) := by decide +kernel
theorem dIm_init_13 : decode cIm_init 13 = .ok (.return_, 1) := by decide +kernel
section
variable {p : Program} {l : Launch} {e : Env} {s : State} {m : MethodId} {args : Array Value} {below : List Frame} {meth : Method} {c : Code} {D : va_G} {cA : Nat → ClassId} {ad : Nat → Nat} {L : List Nat} {rs : va_W} {al : Nat → Bool} {sl : Nat → Option Nat} {n0 : Nat} {A : Nat → Prop}
abbrev rm_Im_init : Room := { frames := 1, cells := 1, slots := 896, locals := 30 }
def bk_Im_init_0 (F : Nat) (al : Nat → Bool) (sl : Nat → Option Nat) (n0 : Nat) (u : Mr) (x0 : Nat) : Option (Mr × Int32) := bd1 (alo al sl n0 7) fun y1 => (some (stR (clr u y1) x0 0 (some y1), 0))
set_option maxHeartbeats 4000000 in
set_option maxRecDepth 100000 in
theorem wk_Im_init_0 (cx : Cx p l e s m args below meth c cIm_init 1 bw "ImageForge$Image" none D cA ad (Ln sl n0 L) rs (aln al sl n0) A) (cz : Cz s meth "<init>" ad L al sl n0 A) (F : Nat) (out : Mr × Int32) : ∀ (u : Mr) (x0 : Nat), bk_Im_init_0 F al sl n0 u x0 = some out → okk (aln al sl n0) 6 x0 = true → Wb p l e rm_Im_init s m args below meth c D cA ad (Ln sl n0 L) rs A (QVn below args s D cA ad (Ln sl (n0 + 1) L) rs A out 1 896) 1 0 [(0, .ref (ad x0))] [] u := by
  obtain ⟨hx, hb, hml, hown, hts, hr, hlocks, hK, hA, hD, hN, hal, hNx⟩ := cx
  obtain ⟨hal0, hla, hsl, hnm, hdZ, hdT, hno, hny⟩ := cz
  intro u x0 h q0 H locs ls hl hP hS
  unfold bk_Im_init_0 at h
  refine lv_aload_n hx hb dIm_init_0 rfl (lv_at hl 0 rfl) ?_
  refine W.objInit hx hb hown (hts _ tw_46) (hts _ tw_33) (hts _ tw_34) rfl (hl.1.trans hml.symm) rfl dIm_init_1 (Nat.le_of_ble_eq_true rfl) (Nat.le_of_ble_eq_true rfl) ?_
  refine W.eq (g2 := F0 m 4 _ []) rfl ?_
  refine lv_aload_n hx hb dIm_init_4 rfl (lv_at hl 0 rfl) ?_
  refine lv_sipush (v := 896) hx hb dIm_init_5 (by decide) ?_
  replace h := bd1_some h
  obtain ⟨y1, hy2, h⟩ := h
  obtain ⟨hy2a, hy2b, hy2t⟩ := alo_some hy2
  clear hy2
  refine x_size hS.1 (fun hz => ?_)
  refine x_newa (atype := .byte) (N := 896) hx hb (hts _ tw_59) hD hP hS hA (aln_out hla hy2b) hy2t (x_had hsl hy2a hz rfl) 1 (hK.2 1 _ rfl).2 rfl rfl (by decide) (by decide) (by decide) (Nat.le_of_ble_eq_true rfl) (Nat.le_of_ble_eq_true rfl) dIm_init_8 (fun H hP hD hS => ?_)
  rw [Ln_s (show (n0 + 1) = n0 + 1 from rfl) hy2a] at hP hD
  replace hN : (Ln sl (n0 + 1) L).Nodup := Ln_nd rfl hy2a (aln_out hla hy2b) hN
  replace hal := aln_in (sl := sl) hal0 (n0 + 1)
  replace q0 := okk_n (show n0 ≤ (n0 + 1) from Nat.le_add_right _ _) q0
  have hy2f := okk_new (al := al) (n := (n0 + 1)) hy2a (Nat.lt_succ_self _) hy2t
  refine W.widen (k := 1) (n := 896) (Nat.le_of_ble_eq_true rfl) (Nat.le_of_ble_eq_true rfl) ?_
  refine x_putF hx hb hts in_Im t_Im t_Im_ok nm_Im hown hK hD hN hP hS (hal _ (okk_al q0)) (okk_t q0) rfl rfl 0 (by decide) (hts _ tw_47) (fun _ h9 => h9) rfl hnm rfl (ty := .array .byte) (v := .ref (ad y1)) (by decide +kernel) rfl rfl (Nat.le_of_ble_eq_true rfl) (stR (clr u y1) x0 0 (some y1)) stR_o (by rw [stR_up]; exact eq_6_0) dIm_init_10 (fun H locs hP hS => ?_)
  exact x_vretN hx hb hr hlocks h hP hD hN hS (Nat.le_of_ble_eq_true rfl) (Nat.le_of_ble_eq_true rfl) dIm_init_13
def fn_Im_init (F : Nat) (al : Nat → Bool) (sl : Nat → Option Nat) (n0 : Nat) (u : Mr) (x0 : Nat) : Option (Mr × Int32) := bk_Im_init_0 F al sl n0 u x0
set_option maxHeartbeats 4000000 in
set_option maxRecDepth 100000 in
theorem ct_Im_init {l : Launch} {D : va_G} {cA : Nat → ClassId} {ad : Nat → Nat} {L : List Nat} {rs : va_W} {al : Nat → Bool} {sl : Nat → Option Nat} {n0 sz : Nat} (hal0 : ∀ k, al k = true → k ∈ L) (hla : ∀ k, k ∈ L → al k = true) (hN : (Ln sl n0 L).Nodup) (hsl : ∀ i k, sl i = some k → ad k + n0 = sz + i) (F : Nat) (u : Mr) (x0 : Nat) (out : Mr × Int32) (h : fn_Im_init F al sl n0 u x0 = some out) (q0 : okk (aln al sl n0) 6 x0 = true) : CtVn l yIm_init wsIm_init rm_Im_init [.ref (ad x0)] D cA ad (Ln sl n0 L) (Ln sl (n0 + 1) L) rs u out 1 896 sz := by
  refine Met.ofW (cc := cIm_init) (maxL := 1) (ret := none) (by decide) rfl ?_
  intro p e s m args below meth c s₁ B hml hv
  obtain ⟨rfl, ⟨hsz, hP, hK, hD0, hNx⟩, hdZ, hdT, hno, hny⟩ := hv
  subst hsz
  have hD := hD0.self (sz := s.heap.size)
  generalize hAe : va_A (ww ad cA (Ln sl n0 L) rs u) s.heap.size = A at hD hdZ hdT ⊢
  have hA : ∀ q, s.heap.size ≤ q → A q := fun q h => by rw [← hAe]; exact Or.inr h
  have hl := lv_entry ([.ref (ad x0)]) (n := 1) (Nat.le_of_ble_eq_true rfl)
  rw [lg_entry_eq]
  generalize (lg_sl ([.ref (ad x0)]) ++ List.replicate (1 - (lg_sl ([.ref (ad x0)])).length) Slot.unset).toArray = ls at hl ⊢
  have hpre := atoms_spec (ws := wsIm_init) B.pre
  have hnm : meth.name = "<init>" := (name_of_methodNamed B.named B.method).1
  exact wk_Im_init_0 ⟨B.exec, B.bytes, hml, findClass_of_methodNamed B.named, hts_bw hpre, B.returns, B.notSynchronized, hK, hA, fun v => ww_D hD, hN, aln_in hal0 n0, hNx⟩ ⟨hal0, hla, hsl, hnm, hdZ, hdT, hno, hny⟩ F out u x0 h q0 _ _ _ (lv_sub hl [0] rfl) hP va_S.rf
end
abbrev yOb_init : MethodName := ⟨"ImageForge$ObjectFile", "<init>", "()V"⟩
abbrev cOb_init : ByteArray := prog_6_method_1_code
abbrev wsOb_init : List Cond := .code yOb_init cOb_init 1 none :: bw
theorem gdOb_init : GoodIn bw wsOb_init := gd_of tw_105
theorem hdOb_init : yOb_init.cls ≠ "java/lang/invoke/MethodHandle" ∧ yOb_init.cls ≠ "java/lang/invoke/VarHandle" ∧ (parseMethodDescriptor yOb_init.desc).map (fun d => d.parameters.length) = some 0 := by decide +kernel
theorem dOb_init_0 : decode cOb_init 0 = .ok (.aload_n 0, 1) := by decide +kernel
theorem dOb_init_1 : decode cOb_init 1 = .ok (.invokespecial 3, 3) := by decide +kernel
theorem dOb_init_4 : decode cOb_init 4 = .ok (.aload_n 0, 1) := by decide +kernel
theorem dOb_init_5 : decode cOb_init 5 = .ok (.iconst 2, 1) := by decide +kernel
theorem dOb_init_6 : decode cOb_init 6 = .ok (.anewarray 9, 3) := by decide +kernel
theorem dOb_init_9 : decode cOb_init 9 = .ok (.dup, 1) := by decide +kernel
theorem dOb_init_10 : decode cOb_init 10 = .ok (.iconst 0, 1) := by decide +kernel
theorem dOb_init_11 : decode cOb_init 11 = .ok (.new 9, 3) := by decide +kernel
theorem dOb_init_14 : decode cOb_init 14 = .ok (.dup, 1) := by decide +kernel
theorem dOb_init_15 : decode cOb_init 15 = .ok (.invokespecial 11, 3) := by decide +kernel
theorem dOb_init_18 : decode cOb_init 18 = .ok (.aastore, 1) := by decide +kernel
theorem dOb_init_19 : decode cOb_init 19 = .ok (.dup, 1) := by decide +kernel
theorem dOb_init_20 : decode cOb_init 20 = .ok (.iconst 1, 1) := by decide +kernel
theorem dOb_init_21 : decode cOb_init 21 = .ok (.new 9, 3) := by decide +kernel
theorem dOb_init_24 : decode cOb_init 24 = .ok (.dup, 1) := by decide +kernel
theorem dOb_init_25 : decode cOb_init 25 = .ok (.invokespecial 11, 3) := by decide +kernel
theorem dOb_init_28 : decode cOb_init 28 = .ok (.aastore, 1) := by decide +kernel
theorem dOb_init_29 : decode cOb_init 29 = .ok (.putfield 12, 3) := by decide +kernel
theorem dOb_init_32 : decode cOb_init 32 = .ok (.aload_n 0, 1) := by decide +kernel
theorem dOb_init_33 : decode cOb_init 33 = .ok (.new 18, 3) := by decide +kernel
theorem dOb_init_36 : decode cOb_init 36 = .ok (.dup, 1) := by decide +kernel
theorem dOb_init_37 : decode cOb_init 37 = .ok (.invokespecial 20, 3) := by decide +kernel
theorem dOb_init_40 : decode cOb_init 40 = .ok (.putfield 21, 3) := by decide +kernel
theorem dOb_init_43 : decode cOb_init 43 = .ok (.return_, 1) := by decide +kernel
section
variable {p : Program} {l : Launch} {e : Env} {s : State} {m : MethodId} {args : Array Value} {below : List Frame} {meth : Method} {c : Code} {D : va_G} {cA : Nat → ClassId} {ad : Nat → Nat} {L : List Nat} {rs : va_W} {al : Nat → Bool} {sl : Nat → Option Nat} {n0 : Nat} {A : Nat → Prop}
abbrev rm_Ob_init : Room := { frames := 4, cells := 6, slots := 89, locals := 90 }
def bk_Ob_init_0 (F : Nat) (al : Nat → Bool) (sl : Nat → Option Nat) (n0 : Nat) (u : Mr) (x0 : Nat) : Option (Mr × Int32) := bd1 (alo al sl n0 15) fun y1 => (bd1 (alo al sl (n0 + 1) 16) fun y3 => (bd2 (fn_Pt_init F al sl (n0 + 2) (clr (clr u y1) y3) y3) fun u5 v5 => ck (sl (n0 + 2)).isSome (bd1 (alo al sl (n0 + 3) 16) fun y7 => (bd2 (fn_Pt_init F al sl (n0 + 4) (clr (stR u5 y1 (0 : Int32) (some y3)) y7) y7) fun u9 v9 => ck (sl (n0 + 4)).isSome (bd1 (alo al sl (n0 + 5) 18) fun y11 => (bd2 (fn_Al_init F al sl (n0 + 6) (clr (stR (stR u9 y1 (1 : Int32) (some y7)) x0 0 (some y1)) y11) y11) fun u13 v13 => (some (stR u13 x0 1 (some y11), 0))))))))
set_option maxHeartbeats 4000000 in
set_option maxRecDepth 100000 in
theorem wk_Ob_init_0 (cx : Cx p l e s m args below meth c cOb_init 1 bw "ImageForge$ObjectFile" none D cA ad (Ln sl n0 L) rs (aln al sl n0) A) (cz : Cz s meth "<init>" ad L al sl n0 A) (F : Nat) (out : Mr × Int32) : ∀ (u : Mr) (x0 : Nat), bk_Ob_init_0 F al sl n0 u x0 = some out → okk (aln al sl n0) 14 x0 = true → Wb p l e rm_Ob_init s m args below meth c D cA ad (Ln sl n0 L) rs A (QVn below args s D cA ad (Ln sl (n0 + 6) L) rs A out 6 89) 1 0 [(0, .ref (ad x0))] [] u := by
  obtain ⟨hx, hb, hml, hown, hts, hr, hlocks, hK, hA, hD, hN, hal, hNx⟩ := cx
  obtain ⟨hal0, hla, hsl, hnm, hdZ, hdT, hno, hny⟩ := cz
  intro u x0 h q0 H locs ls hl hP hS
  unfold bk_Ob_init_0 at h
  refine lv_aload_n hx hb dOb_init_0 rfl (lv_at hl 0 rfl) ?_
  refine W.objInit hx hb hown (hts _ tw_106) (hts _ tw_33) (hts _ tw_34) rfl (hl.1.trans hml.symm) rfl dOb_init_1 (Nat.le_of_ble_eq_true rfl) (Nat.le_of_ble_eq_true rfl) ?_
  refine W.eq (g2 := F0 m 4 _ []) rfl ?_
  refine lv_aload_n hx hb dOb_init_4 rfl (lv_at hl 0 rfl) ?_
  refine lv_iconst (v := 2) hx hb dOb_init_5 (by decide) ?_
  replace h := bd1_some h
  obtain ⟨y1, hy2, h⟩ := h
  obtain ⟨hy2a, hy2b, hy2t⟩ := alo_some hy2
  clear hy2
  refine x_size hS.1 (fun hz => ?_)
  refine x_anew (N := 2) hx hb hown (hts _ tw_107) hno.2.2.1 hD hP hS hA (aln_out hla hy2b) hy2t (x_had hsl hy2a hz rfl) 6 (hK.2 6 _ rfl).2 rfl (by decide) (by decide) (by decide) (Nat.le_of_ble_eq_true rfl) (Nat.le_of_ble_eq_true rfl) dOb_init_6 (fun H hP hD hS => ?_)
  rw [Ln_s (show (n0 + 1) = n0 + 1 from rfl) hy2a] at hP hD
  replace hN : (Ln sl (n0 + 1) L).Nodup := Ln_nd rfl hy2a (aln_out hla hy2b) hN
  replace hal := aln_in (sl := sl) hal0 (n0 + 1)
  replace q0 := okk_n (show n0 ≤ (n0 + 1) from Nat.le_add_right _ _) q0
  have hy2f := okk_new (al := al) (n := (n0 + 1)) hy2a (Nat.lt_succ_self _) hy2t
  refine W.widen (k := 1) (n := 2) (Nat.le_of_ble_eq_true rfl) (Nat.le_of_ble_eq_true rfl) ?_
  refine lv_dup hx hb dOb_init_9 rfl ?_
  refine lv_iconst (v := 0) hx hb dOb_init_10 (by decide) ?_
  replace h := bd1_some h
  obtain ⟨y3, hy4, h⟩ := h
  obtain ⟨hy4a, hy4b, hy4t⟩ := alo_some hy4
  clear hy4
  refine x_size (x_lo hsl hP hy2a (Nat.lt_succ_self _) rfl) (fun hz => ?_)
  refine x_new hx hb hts in_Pt t_Pt t_Pt_ok hown (hts _ tw_107) (hts _ tw_109) (hts _ tw_6) hK hD hP hS hA (aln_out hla hy4b) hy4t (x_had hsl hy4a hz rfl) rfl rfl df_Pt (Nat.le_of_ble_eq_true rfl) (Nat.le_of_ble_eq_true rfl) dOb_init_11 (fun H hP hD hS => ?_)
  rw [Ln_s (show (n0 + 2) = (n0 + 1) + 1 from rfl) hy4a] at hP hD
  replace hN : (Ln sl (n0 + 2) L).Nodup := Ln_nd rfl hy4a (aln_out hla hy4b) hN
  replace hal := aln_in (sl := sl) hal0 (n0 + 2)
  replace hy2f := okk_n (show (n0 + 1) ≤ (n0 + 2) from Nat.add_le_add_left (by decide) _) hy2f
  replace q0 := okk_n (show (n0 + 1) ≤ (n0 + 2) from Nat.add_le_add_left (by decide) _) q0
  have hy4f := okk_new (al := al) (n := (n0 + 2)) hy4a (Nat.lt_succ_self _) hy4t
  refine W.widen (k := 2) (n := 4) (Nat.le_of_ble_eq_true rfl) (Nat.le_of_ble_eq_true rfl) ?_
  refine lv_dup hx hb dOb_init_14 rfl ?_
  replace h := bd2_some h
  obtain ⟨u5, v5, hc5, h⟩ := h
  refine x_size (x_lo hsl hP hy4a (Nat.lt_succ_self _) rfl) (fun hz => ?_)
  refine z_cv (u := clr (clr u y1) y3) (out := (u5, v5)) hA hD hS (va_runIN (As := []) (rest := [.ref (ad y3), .int (0 : Int32), .ref (ad y1), .ref (ad y1), .ref (ad x0)]) ⟨hx, hb, hml, hown, hts⟩ (ct_Pt_init hal0 hla hN (sz := H.size) (x_hsl hsl hz) F (clr (clr u y1) y3) y3 (u5, v5) hc5 hy4f) ⟨va_cnB 0 hts gdPt_init rfl rfl rfl (nn_5 hNx) (hts _ tw_6) hdPt_init ⟨Nat.le_of_ble_eq_true rfl, Nat.le_of_ble_eq_true rfl⟩, rfl, (hts _ tw_111)⟩ (x_preSN hK hD hNx hP hS hA hdZ hdT hno hny) rfl rfl hl.1 rfl (lv_room (Nat.le_of_ble_eq_true rfl)) dOb_init_15 ⟨Nat.le_of_ble_eq_true rfl, Nat.le_of_ble_eq_true rfl⟩) (fun t9 locs hB hS9 => ?_)
  obtain ⟨hP9, hD9, hN9⟩ := hB
  replace hD := x_Dw hA hD hS hD9
  replace hN := hN9
  clear hP hS
  generalize t9.heap = H at hP9 hS9 ⊢
  have hP := hP9
  have hS := hS9
  clear hP9 hS9 hD9 hN9
  replace h := ck_some h
  obtain ⟨hk6, h⟩ := h
  obtain ⟨hk6y, hk6z⟩ := Option.isSome_iff_exists.mp hk6
  clear hk6
  replace hy2f := okk_n (show (n0 + 2) ≤ (n0 + 3) from Nat.add_le_add_left (by decide) _) hy2f
  replace hy4f := okk_n (show (n0 + 2) ≤ (n0 + 3) from Nat.add_le_add_left (by decide) _) hy4f
  replace q0 := okk_n (show (n0 + 2) ≤ (n0 + 3) from Nat.add_le_add_left (by decide) _) q0
  replace hal := aln_in (sl := sl) hal0 (n0 + 3)
  refine W.widen (k := 3) (n := 44) (Nat.le_of_ble_eq_true rfl) (Nat.le_of_ble_eq_true rfl) ?_
  refine x_aast hx hb hK hD hN hP hS (hal _ (okk_al hy2f)) (okk_t hy2f) 6 (fun _ _ _ => rfl) rfl (Or.inl rfl) (by decide) (hal _ (okk_al hy4f)) (okk_t hy4f) rfl rfl (inb_in (show inb (0 : Int32) 2 = true by decide)) dOb_init_18 (fun H locs hP hS => ?_)
  refine lv_dup hx hb dOb_init_19 rfl ?_
  refine lv_iconst (v := 1) hx hb dOb_init_20 (by decide) ?_
  replace h := bd1_some h
  obtain ⟨y7, hy8, h⟩ := h
  obtain ⟨hy8a, hy8b, hy8t⟩ := alo_some hy8
  clear hy8
  refine x_size (x_lo hsl hP hk6z (Nat.lt_succ_self _) rfl) (fun hz => ?_)
  refine x_new hx hb hts in_Pt t_Pt t_Pt_ok hown (hts _ tw_107) (hts _ tw_109) (hts _ tw_6) hK hD hP hS hA (aln_out hla hy8b) hy8t (x_had hsl hy8a hz rfl) rfl rfl df_Pt (Nat.le_of_ble_eq_true rfl) (Nat.le_of_ble_eq_true rfl) dOb_init_21 (fun H hP hD hS => ?_)
  rw [Ln_s (show (n0 + 4) = (n0 + 3) + 1 from rfl) hy8a] at hP hD
  replace hN : (Ln sl (n0 + 4) L).Nodup := Ln_nd rfl hy8a (aln_out hla hy8b) hN
  replace hal := aln_in (sl := sl) hal0 (n0 + 4)
  replace hy2f := okk_n (show (n0 + 3) ≤ (n0 + 4) from Nat.add_le_add_left (by decide) _) hy2f
  replace q0 := okk_n (show (n0 + 3) ≤ (n0 + 4) from Nat.add_le_add_left (by decide) _) q0
  have hy8f := okk_new (al := al) (n := (n0 + 4)) hy8a (Nat.lt_succ_self _) hy8t
  refine W.widen (k := 4) (n := 46) (Nat.le_of_ble_eq_true rfl) (Nat.le_of_ble_eq_true rfl) ?_
  refine lv_dup hx hb dOb_init_24 rfl ?_
  replace h := bd2_some h
  obtain ⟨u9, v9, hc9, h⟩ := h
  refine x_size (x_lo hsl hP hy8a (Nat.lt_succ_self _) rfl) (fun hz => ?_)
  refine z_cv (u := clr (stR u5 y1 (0 : Int32) (some y3)) y7) (out := (u9, v9)) hA hD hS (va_runIN (As := []) (rest := [.ref (ad y7), .int (1 : Int32), .ref (ad y1), .ref (ad y1), .ref (ad x0)]) ⟨hx, hb, hml, hown, hts⟩ (ct_Pt_init hal0 hla hN (sz := H.size) (x_hsl hsl hz) F (clr (stR u5 y1 (0 : Int32) (some y3)) y7) y7 (u9, v9) hc9 hy8f) ⟨va_cnB 0 hts gdPt_init rfl rfl rfl (nn_5 hNx) (hts _ tw_6) hdPt_init ⟨Nat.le_of_ble_eq_true rfl, Nat.le_of_ble_eq_true rfl⟩, rfl, (hts _ tw_111)⟩ (x_preSN hK hD hNx hP hS hA hdZ hdT hno hny) rfl rfl hl.1 rfl (lv_room (Nat.le_of_ble_eq_true rfl)) dOb_init_25 ⟨Nat.le_of_ble_eq_true rfl, Nat.le_of_ble_eq_true rfl⟩) (fun t9 locs hB hS9 => ?_)
  obtain ⟨hP9, hD9, hN9⟩ := hB
  replace hD := x_Dw hA hD hS hD9
  replace hN := hN9
  clear hP hS
  generalize t9.heap = H at hP9 hS9 ⊢
  have hP := hP9
  have hS := hS9
  clear hP9 hS9 hD9 hN9
  replace h := ck_some h
  obtain ⟨hk10, h⟩ := h
  obtain ⟨hk10y, hk10z⟩ := Option.isSome_iff_exists.mp hk10
  clear hk10
  replace hy2f := okk_n (show (n0 + 4) ≤ (n0 + 5) from Nat.add_le_add_left (by decide) _) hy2f
  replace hy8f := okk_n (show (n0 + 4) ≤ (n0 + 5) from Nat.add_le_add_left (by decide) _) hy8f
  replace q0 := okk_n (show (n0 + 4) ≤ (n0 + 5) from Nat.add_le_add_left (by decide) _) q0
  replace hal := aln_in (sl := sl) hal0 (n0 + 5)
  refine W.widen (k := 5) (n := 86) (Nat.le_of_ble_eq_true rfl) (Nat.le_of_ble_eq_true rfl) ?_
  refine x_aast hx hb hK hD hN hP hS (hal _ (okk_al hy2f)) (okk_t hy2f) 6 (fun _ _ _ => rfl) rfl (Or.inl rfl) (by decide) (hal _ (okk_al hy8f)) (okk_t hy8f) rfl rfl (inb_in (show inb (1 : Int32) 2 = true by decide)) dOb_init_28 (fun H locs hP hS => ?_)
  refine x_putF hx hb hts in_Ob t_Ob t_Ob_ok nm_Ob hown hK hD hN hP hS (hal _ (okk_al q0)) (okk_t q0) rfl rfl 0 (by decide) (hts _ tw_150) (fun _ h9 => h9) rfl hnm rfl (ty := .array (.object "ImageForge$Part")) (v := .ref (ad y1)) (by decide +kernel) rfl rfl (Nat.le_of_ble_eq_true rfl) (stR (stR u9 y1 (1 : Int32) (some y7)) x0 0 (some y1)) stR_o (by rw [stR_up]; exact eq_14_0) dOb_init_29 (fun H locs hP hS => ?_)
  refine lv_aload_n hx hb dOb_init_32 rfl (lv_at hl 0 rfl) ?_
  replace h := bd1_some h
  obtain ⟨y11, hy12, h⟩ := h
  obtain ⟨hy12a, hy12b, hy12t⟩ := alo_some hy12
  clear hy12
  refine x_size (x_lo hsl hP hk10z (Nat.lt_succ_self _) rfl) (fun hz => ?_)
  refine x_new hx hb hts in_Al t_Al t_Al_ok hown (hts _ tw_124) (hts _ tw_125) (hts _ tw_9) hK hD hP hS hA (aln_out hla hy12b) hy12t (x_had hsl hy12a hz rfl) rfl rfl df_Al (Nat.le_of_ble_eq_true rfl) (Nat.le_of_ble_eq_true rfl) dOb_init_33 (fun H hP hD hS => ?_)
  rw [Ln_s (show (n0 + 6) = (n0 + 5) + 1 from rfl) hy12a] at hP hD
  replace hN : (Ln sl (n0 + 6) L).Nodup := Ln_nd rfl hy12a (aln_out hla hy12b) hN
  replace hal := aln_in (sl := sl) hal0 (n0 + 6)
  replace q0 := okk_n (show (n0 + 5) ≤ (n0 + 6) from Nat.add_le_add_left (by decide) _) q0
  have hy12f := okk_new (al := al) (n := (n0 + 6)) hy12a (Nat.lt_succ_self _) hy12t
  refine W.widen (k := 6) (n := 89) (Nat.le_of_ble_eq_true rfl) (Nat.le_of_ble_eq_true rfl) ?_
  refine lv_dup hx hb dOb_init_36 rfl ?_
  replace h := bd2_some h
  obtain ⟨u13, v13, hc13, h⟩ := h
  refine x_size (x_lo hsl hP hy12a (Nat.lt_succ_self _) rfl) (fun hz => ?_)
  refine z_cv (u := clr (stR (stR u9 y1 (1 : Int32) (some y7)) x0 0 (some y1)) y11) (out := (u13, v13)) hA hD hS (va_runI (As := []) (rest := [.ref (ad y11), .ref (ad x0)]) ⟨hx, hb, hml, hown, hts⟩ (ct_Al_init hal0 hla hN (sz := H.size) (x_hsl hsl hz) F (clr (stR (stR u9 y1 (1 : Int32) (some y7)) x0 0 (some y1)) y11) y11 (u13, v13) hc13 hy12f) ⟨callB_of 0 hts gdAl_init rfl rfl rfl (hts _ tw_9) (hts _ tw_126) hdAl_init ⟨Nat.le_of_ble_eq_true rfl, Nat.le_of_ble_eq_true rfl⟩, rfl, (hts _ tw_127)⟩ (x_preSN hK hD hNx hP hS hA hdZ hdT hno hny) rfl rfl hl.1 rfl (lv_room (Nat.le_of_ble_eq_true rfl)) dOb_init_37 ⟨Nat.le_of_ble_eq_true rfl, Nat.le_of_ble_eq_true rfl⟩) (fun t9 locs hB hS9 => ?_)
  obtain ⟨hP9, hD9, hN9⟩ := hB
  replace hD := x_Dw hA hD hS hD9
  replace hN := hN9
  clear hP hS
  generalize t9.heap = H at hP9 hS9 ⊢
  have hP := hP9
  have hS := hS9
  clear hP9 hS9 hD9 hN9
  refine x_putF hx hb hts in_Ob t_Ob t_Ob_ok nm_Ob hown hK hD hN hP hS (hal _ (okk_al q0)) (okk_t q0) rfl rfl 1 (by decide) (hts _ tw_153) (fun _ h9 => h9) rfl hnm rfl (ty := .object "java/util/ArrayList") (v := .ref (ad y11)) (by decide +kernel) rfl rfl (Nat.le_of_ble_eq_true rfl) (stR u13 x0 1 (some y11)) stR_o (by rw [stR_up]; exact eq_14_1) dOb_init_40 (fun H locs hP hS => ?_)
  exact x_vretN hx hb hr hlocks h hP hD hN hS (Nat.le_of_ble_eq_true rfl) (Nat.le_of_ble_eq_true rfl) dOb_init_43
def fn_Ob_init (F : Nat) (al : Nat → Bool) (sl : Nat → Option Nat) (n0 : Nat) (u : Mr) (x0 : Nat) : Option (Mr × Int32) := bk_Ob_init_0 F al sl n0 u x0
set_option maxHeartbeats 4000000 in
set_option maxRecDepth 100000 in
theorem ct_Ob_init {l : Launch} {D : va_G} {cA : Nat → ClassId} {ad : Nat → Nat} {L : List Nat} {rs : va_W} {al : Nat → Bool} {sl : Nat → Option Nat} {n0 sz : Nat} (hal0 : ∀ k, al k = true → k ∈ L) (hla : ∀ k, k ∈ L → al k = true) (hN : (Ln sl n0 L).Nodup) (hsl : ∀ i k, sl i = some k → ad k + n0 = sz + i) (F : Nat) (u : Mr) (x0 : Nat) (out : Mr × Int32) (h : fn_Ob_init F al sl n0 u x0 = some out) (q0 : okk (aln al sl n0) 14 x0 = true) : CtVn l yOb_init wsOb_init rm_Ob_init [.ref (ad x0)] D cA ad (Ln sl n0 L) (Ln sl (n0 + 6) L) rs u out 6 89 sz := by
  refine Met.ofW (cc := cOb_init) (maxL := 1) (ret := none) (by decide) rfl ?_
  intro p e s m args below meth c s₁ B hml hv
  obtain ⟨rfl, ⟨hsz, hP, hK, hD0, hNx⟩, hdZ, hdT, hno, hny⟩ := hv
  subst hsz
  have hD := hD0.self (sz := s.heap.size)
  generalize hAe : va_A (ww ad cA (Ln sl n0 L) rs u) s.heap.size = A at hD hdZ hdT ⊢
  have hA : ∀ q, s.heap.size ≤ q → A q := fun q h => by rw [← hAe]; exact Or.inr h
  have hl := lv_entry ([.ref (ad x0)]) (n := 1) (Nat.le_of_ble_eq_true rfl)
  rw [lg_entry_eq]
  generalize (lg_sl ([.ref (ad x0)]) ++ List.replicate (1 - (lg_sl ([.ref (ad x0)])).length) Slot.unset).toArray = ls at hl ⊢
  have hpre := atoms_spec (ws := wsOb_init) B.pre
  have hnm : meth.name = "<init>" := (name_of_methodNamed B.named B.method).1
  exact wk_Ob_init_0 ⟨B.exec, B.bytes, hml, findClass_of_methodNamed B.named, hts_bw hpre, B.returns, B.notSynchronized, hK, hA, fun v => ww_D hD, hN, aln_in hal0 n0, hNx⟩ ⟨hal0, hla, hsl, hnm, hdZ, hdT, hno, hny⟩ F out u x0 h q0 _ _ _ (lv_sub hl [0] rfl) hP va_S.rf
end
abbrev yLk_init : MethodName := ⟨"ImageForge$Linker", "<init>", "()V"⟩
abbrev cLk_init : ByteArray := prog_3_method_1_code
abbrev wsLk_init : List Cond := .code yLk_init cLk_init 1 none :: bw
theorem gdLk_init : GoodIn bw wsLk_init := gd_of tw_64
theorem hdLk_init : yLk_init.cls ≠ "java/lang/invoke/MethodHandle" ∧ yLk_init.cls ≠ "java/lang/invoke/VarHandle" ∧ (parseMethodDescriptor yLk_init.desc).map (fun d => d.parameters.length) = some 0 := by decide +kernel
theorem dLk_init_0 : decode cLk_init 0 = .ok (.aload_n 0, 1) := by decide +kernel
theorem dLk_init_1 : decode cLk_init 1 = .ok (.invokespecial 3, 3) := by decide +kernel
theorem dLk_init_4 : decode cLk_init 4 = .ok (.aload_n 0, 1) := by decide +kernel
theorem dLk_init_5 : decode cLk_init 5 = .ok (.bipush 16, 2) := by decide +kernel
theorem dLk_init_7 : decode cLk_init 7 = .ok (.newarray .int, 2) := by decide +kernel
theorem dLk_init_9 : decode cLk_init 9 = .ok (.putfield 9, 3) := by decide +kernel
theorem dLk_init_12 : decode cLk_init 12 = .ok (.aload_n 0, 1) := by decide +kernel
theorem dLk_init_13 : decode cLk_init 13 = .ok (.iconst 2, 1) := by decide +kernel
theorem dLk_init_14 : decode cLk_init 14 = .ok (.iconst 4, 1) := by decide +kernel
theorem dLk_init_15 : decode cLk_init 15 = .ok (.multianewarray 15 2, 4) := by decide +kernel
theorem dLk_init_19 : decode cLk_init 19 = .ok (.putfield 17, 3) := by decide +kernel
theorem dLk_init_22 : decode cLk_init 22 = .ok (.aload_n 0, 1) := by decide +kernel
theorem dLk_init_23 : decode cLk_init 23 = .ok (.sipush 896, 3) := by decide +kernel
theorem dLk_init_26 : decode cLk_init 26 = .ok (.newarray .boolean, 2) := by decide +kernel
theorem dLk_init_28 : decode cLk_init 28 = .ok (.putfield 20, 3) := by decide +kernel
theorem dLk_init_31 : decode cLk_init 31 = .ok (.return_, 1) := by decide +kernel
section
variable {p : Program} {l : Launch} {e : Env} {s : State} {m : MethodId} {args : Array Value} {below : List Frame} {meth : Method} {c : Code} {D : va_G} {cA : Nat → ClassId} {ad : Nat → Nat} {L : List Nat} {rs : va_W} {al : Nat → Bool} {sl : Nat → Option Nat} {n0 : Nat} {A : Nat → Prop}
abbrev rm_Lk_init : Room := { frames := 1, cells := 5, slots := 922, locals := 30 }
def bk_Lk_init_0 (F : Nat) (al : Nat → Bool) (sl : Nat → Option Nat) (n0 : Nat) (u : Mr) (x0 : Nat) : Option (Mr × Int32) := bd1 (alo al sl n0 9) fun y1 => (bd1 (alo al sl (n0 + 1) 10) fun y3 => (bd1 (alo al sl (n0 + 2) 11) fun y5 => (bd1 (alo al sl (n0 + 3) 11) fun y7 => (bd1 (alo al sl (n0 + 4) 12) fun y9 => (some (stR (clr (stR (stR (stR (clr (clr (clr (stR (clr u y1) x0 0 (some y1)) y3) y5) y7) y3 (0 : Int32) (some y5)) y3 (1 : Int32) (some y7)) x0 1 (some y3)) y9) x0 2 (some y9), 0))))))
set_option maxHeartbeats 4000000 in
set_option maxRecDepth 100000 in
theorem wk_Lk_init_0 (cx : Cx p l e s m args below meth c cLk_init 1 bw "ImageForge$Linker" none D cA ad (Ln sl n0 L) rs (aln al sl n0) A) (cz : Cz s meth "<init>" ad L al sl n0 A) (F : Nat) (out : Mr × Int32) : ∀ (u : Mr) (x0 : Nat), bk_Lk_init_0 F al sl n0 u x0 = some out → okk (aln al sl n0) 8 x0 = true → Wb p l e rm_Lk_init s m args below meth c D cA ad (Ln sl n0 L) rs A (QVn below args s D cA ad (Ln sl (n0 + 5) L) rs A out 5 922) 1 0 [(0, .ref (ad x0))] [] u := by
  obtain ⟨hx, hb, hml, hown, hts, hr, hlocks, hK, hA, hD, hN, hal, hNx⟩ := cx
  obtain ⟨hal0, hla, hsl, hnm, hdZ, hdT, hno, hny⟩ := cz
  intro u x0 h q0 H locs ls hl hP hS
  unfold bk_Lk_init_0 at h
  refine lv_aload_n hx hb dLk_init_0 rfl (lv_at hl 0 rfl) ?_
  refine W.objInit hx hb hown (hts _ tw_65) (hts _ tw_33) (hts _ tw_34) rfl (hl.1.trans hml.symm) rfl dLk_init_1 (Nat.le_of_ble_eq_true rfl) (Nat.le_of_ble_eq_true rfl) ?_
  refine W.eq (g2 := F0 m 4 _ []) rfl ?_
  refine lv_aload_n hx hb dLk_init_4 rfl (lv_at hl 0 rfl) ?_
  refine lv_bipush (v := 16) hx hb dLk_init_5 (by decide) ?_
  replace h := bd1_some h
  obtain ⟨y1, hy2, h⟩ := h
  obtain ⟨hy2a, hy2b, hy2t⟩ := alo_some hy2
  clear hy2
  refine x_size hS.1 (fun hz => ?_)
  refine x_newa (atype := .int) (N := 16) hx hb (hts _ tw_58) hD hP hS hA (aln_out hla hy2b) hy2t (x_had hsl hy2a hz rfl) 0 (hK.2 0 _ rfl).2 rfl rfl (by decide) (by decide) (by decide) (Nat.le_of_ble_eq_true rfl) (Nat.le_of_ble_eq_true rfl) dLk_init_7 (fun H hP hD hS => ?_)
  rw [Ln_s (show (n0 + 1) = n0 + 1 from rfl) hy2a] at hP hD
  replace hN : (Ln sl (n0 + 1) L).Nodup := Ln_nd rfl hy2a (aln_out hla hy2b) hN
  replace hal := aln_in (sl := sl) hal0 (n0 + 1)
  replace q0 := okk_n (show n0 ≤ (n0 + 1) from Nat.le_add_right _ _) q0
  have hy2f := okk_new (al := al) (n := (n0 + 1)) hy2a (Nat.lt_succ_self _) hy2t
  refine W.widen (k := 1) (n := 16) (Nat.le_of_ble_eq_true rfl) (Nat.le_of_ble_eq_true rfl) ?_
  refine x_putF hx hb hts in_Lk t_Lk t_Lk_ok nm_Lk hown hK hD hN hP hS (hal _ (okk_al q0)) (okk_t q0) rfl rfl 0 (by decide) (hts _ tw_67) (fun _ h9 => h9) rfl hnm rfl (ty := .array .int) (v := .ref (ad y1)) (by decide +kernel) rfl rfl (Nat.le_of_ble_eq_true rfl) (stR (clr u y1) x0 0 (some y1)) stR_o (by rw [stR_up]; exact eq_8_0) dLk_init_9 (fun H locs hP hS => ?_)
  refine lv_aload_n hx hb dLk_init_12 rfl (lv_at hl 0 rfl) ?_
  refine lv_iconst (v := 2) hx hb dLk_init_13 (by decide) ?_
  refine lv_iconst (v := 4) hx hb dLk_init_14 (by decide) ?_
  refine x_size (x_lo hsl hP hy2a (Nat.lt_succ_self _) rfl) (fun hz => ?_)
  replace h := bd1_some h
  obtain ⟨y3, hy4, h⟩ := h
  obtain ⟨hy4a, hy4b, hy4t⟩ := alo_some hy4
  clear hy4
  replace h := bd1_some h
  obtain ⟨y5, hy6, h⟩ := h
  obtain ⟨hy6a, hy6b, hy6t⟩ := alo_some hy6
  clear hy6
  replace h := bd1_some h
  obtain ⟨y7, hy8, h⟩ := h
  obtain ⟨hy8a, hy8b, hy8t⟩ := alo_some hy8
  clear hy8
  have hq : ∀ q ∈ [y3, y5, y7], q ∉ Ln sl (n0 + 1) L := by
    intro q hq hm
    simp only [List.mem_cons, List.not_mem_nil, or_false] at hq
    rcases hq with rfl | rfl | rfl
    · exact aln_out hla hy4b (hm)
    · exact aln_out hla hy6b (List.mem_append.mpr ((List.mem_append.mp hm).imp (Bn_mono (show (n0 + 1) ≤ (n0 + 2) from Nat.add_le_add_left (by decide) _)) id))
    · exact aln_out hla hy8b (List.mem_append.mpr ((List.mem_append.mp hm).imp (Bn_mono (show (n0 + 1) ≤ (n0 + 3) from Nat.add_le_add_left (by decide) _)) id))
  have hne : [y3, y5, y7].Nodup := by
    have hz9 : ∀ (i j : Nat) (a b : Nat), sl i = some a → sl j = some b → i ≠ j → a ≠ b := fun i j a b h1 h2 h3 h4 => by
      have e1 := hsl i a h1
      have e2 := hsl j b h2
      subst h4
      omega
    simp only [List.nodup_cons, List.mem_cons, List.not_mem_nil, or_false, not_or, not_false_eq_true, List.nodup_nil, and_true]
    exact ⟨⟨hz9 _ _ _ _ hy4a hy6a (by omega), hz9 _ _ _ _ hy4a hy8a (by omega)⟩, hz9 _ _ _ _ hy6a hy8a (by omega)⟩
  have hneq := hne
  simp only [List.nodup_cons, List.mem_cons, List.not_mem_nil, or_false, not_or, not_false_eq_true, List.nodup_nil, and_true] at hneq
  refine x_mna (k0 := y3) (ks := [y5, y7]) (N := 2) (K := 4) hx hb hown (hts _ tw_66) hno.2.2.2.2 (hts _ tw_58) hK hD hP hS hA hq ?_ (stR (stR (clr (clr (clr (stR (clr u y1) x0 0 (some y1)) y3) y5) y7) y3 (0 : Int32) (some y5)) y3 (1 : Int32) (some y7)) ?_ ?_ ?_ (by decide) (by decide) (by decide) (by decide) rfl (by decide) (by decide) (Nat.le_of_ble_eq_true rfl) (Nat.le_of_ble_eq_true rfl) dLk_init_15 (fun H hP hD hS => ?_)
  · intro i q hi
    have hi9 : i < 3 := (List.getElem?_eq_some_iff.mp hi).1
    obtain rfl | rfl | rfl : i = 0 ∨ i = 1 ∨ i = 2 := by omega
    · obtain rfl := Option.some.inj hi
      have e1 := hsl _ _ hy4a
      omega
    · obtain rfl := Option.some.inj hi
      have e1 := hsl _ _ hy6a
      omega
    · obtain rfl := Option.some.inj hi
      have e1 := hsl _ _ hy8a
      omega
  · intro j hj
    simp only [List.mem_cons, List.not_mem_nil, or_false, not_or] at hj
    refine ⟨?_, ?_, ?_⟩ <;> · funext b; simp [clr, stR, hj]
  · refine ⟨_, by rw [okk_t (T := 10) (al := aln al sl (n0 + 4)) (okk_new hy4a (by omega) hy4t)]; rfl, ?_⟩
    intro j hj
    obtain rfl | rfl : j = 0 ∨ j = 1 := by omega
    · have e1 := hsl _ _ hy6a
      have e2 : ((stR (stR (clr (clr (clr (stR (clr u y1) x0 0 (some y1)) y3) y5) y7) y3 (0 : Int32) (some y5)) y3 (1 : Int32) (some y7)) : Mr).2.1 y3 (nI 0) = some y5 := by
        simp [clr, stR, show nI 0 = (0 : Int32) from rfl]
      show Option.map ad (((stR (stR (clr (clr (clr (stR (clr u y1) x0 0 (some y1)) y3) y5) y7) y3 (0 : Int32) (some y5)) y3 (1 : Int32) (some y7)) : Mr).2.1 y3 (nI 0)) = _
      rw [e2, Option.map_some]
      congr 1
      omega
    · have e1 := hsl _ _ hy8a
      have e2 : ((stR (stR (clr (clr (clr (stR (clr u y1) x0 0 (some y1)) y3) y5) y7) y3 (0 : Int32) (some y5)) y3 (1 : Int32) (some y7)) : Mr).2.1 y3 (nI 1) = some y7 := by
        simp [clr, stR, show nI 1 = (1 : Int32) from rfl]
      show Option.map ad (((stR (stR (clr (clr (clr (stR (clr u y1) x0 0 (some y1)) y3) y5) y7) y3 (0 : Int32) (some y5)) y3 (1 : Int32) (some y7)) : Mr).2.1 y3 (nI 1)) = _
      rw [e2, Option.map_some]
      congr 1
      omega
  · intro q hm
    simp only [List.mem_cons, List.not_mem_nil, or_false] at hm
    rcases hm with e9 | e9
    · have r1 : ((stR (stR (clr (clr (clr (stR (clr u y1) x0 0 (some y1)) y3) y5) y7) y3 (0 : Int32) (some y5)) y3 (1 : Int32) (some y7)) : Mr).1 y5 = fun _ => 0 := by
        funext b; simp [clr, stR, hneq]
      rw [e9, hy6t, r1]
      rfl
    · have r1 : ((stR (stR (clr (clr (clr (stR (clr u y1) x0 0 (some y1)) y3) y5) y7) y3 (0 : Int32) (some y5)) y3 (1 : Int32) (some y7)) : Mr).1 y7 = fun _ => 0 := by
        funext b; simp [clr, stR, hneq]
      rw [e9, hy8t, r1]
      rfl
  replace hP : va_P D vwCl (ww ad cA (Ln sl (n0 + 4) L) rs (stR (stR (clr (clr (clr (stR (clr u y1) x0 0 (some y1)) y3) y5) y7) y3 (0 : Int32) (some y5)) y3 (1 : Int32) (some y7))) H := by
    rw [← Ln_s (show (n0 + 4) = (n0 + 3) + 1 from rfl) hy8a, ← Ln_s (show (n0 + 3) = (n0 + 2) + 1 from rfl) hy6a, ← Ln_s (show (n0 + 2) = (n0 + 1) + 1 from rfl) hy4a]
    exact hP
  replace hD : ∀ v : Mr, va_D A (ww ad cA (Ln sl (n0 + 4) L) rs v) := by
    rw [← Ln_s (show (n0 + 4) = (n0 + 3) + 1 from rfl) hy8a, ← Ln_s (show (n0 + 3) = (n0 + 2) + 1 from rfl) hy6a, ← Ln_s (show (n0 + 2) = (n0 + 1) + 1 from rfl) hy4a]
    exact hD
  replace hN : (Ln sl (n0 + 2) L).Nodup := Ln_nd rfl hy4a (aln_out hla hy4b) hN
  replace hN : (Ln sl (n0 + 3) L).Nodup := Ln_nd rfl hy6a (aln_out hla hy6b) hN
  replace hN : (Ln sl (n0 + 4) L).Nodup := Ln_nd rfl hy8a (aln_out hla hy8b) hN
  replace hal := aln_in (sl := sl) hal0 (n0 + 4)
  replace q0 := okk_n (show (n0 + 1) ≤ (n0 + 4) from Nat.add_le_add_left (by decide) _) q0
  have hy4f := okk_new (al := al) (n := (n0 + 4)) hy4a (by omega) hy4t
  refine W.widen (k := 4) (n := 26) (Nat.le_of_ble_eq_true rfl) (Nat.le_of_ble_eq_true rfl) ?_
  refine x_putF hx hb hts in_Lk t_Lk t_Lk_ok nm_Lk hown hK hD hN hP hS (hal _ (okk_al q0)) (okk_t q0) rfl rfl 1 (by decide) (hts _ tw_68) (fun _ h9 => h9) rfl hnm rfl (ty := .array (.array .int)) (v := .ref (ad y3)) (by decide +kernel) rfl rfl (Nat.le_of_ble_eq_true rfl) (stR (stR (stR (clr (clr (clr (stR (clr u y1) x0 0 (some y1)) y3) y5) y7) y3 (0 : Int32) (some y5)) y3 (1 : Int32) (some y7)) x0 1 (some y3)) stR_o (by rw [stR_up]; exact eq_8_1) dLk_init_19 (fun H locs hP hS => ?_)
  refine lv_aload_n hx hb dLk_init_22 rfl (lv_at hl 0 rfl) ?_
  refine lv_sipush (v := 896) hx hb dLk_init_23 (by decide) ?_
  replace h := bd1_some h
  obtain ⟨y9, hy10, h⟩ := h
  obtain ⟨hy10a, hy10b, hy10t⟩ := alo_some hy10
  clear hy10
  refine x_size (x_lo hsl hP hy8a (Nat.lt_succ_self _) rfl) (fun hz => ?_)
  refine x_newa (atype := .boolean) (N := 896) hx hb (hts _ tw_77) hD hP hS hA (aln_out hla hy10b) hy10t (x_had hsl hy10a hz rfl) 2 (hK.2 2 _ rfl).2 rfl rfl (by decide) (by decide) (by decide) (Nat.le_of_ble_eq_true rfl) (Nat.le_of_ble_eq_true rfl) dLk_init_26 (fun H hP hD hS => ?_)
  rw [Ln_s (show (n0 + 5) = (n0 + 4) + 1 from rfl) hy10a] at hP hD
  replace hN : (Ln sl (n0 + 5) L).Nodup := Ln_nd rfl hy10a (aln_out hla hy10b) hN
  replace hal := aln_in (sl := sl) hal0 (n0 + 5)
  replace q0 := okk_n (show (n0 + 4) ≤ (n0 + 5) from Nat.add_le_add_left (by decide) _) q0
  have hy10f := okk_new (al := al) (n := (n0 + 5)) hy10a (Nat.lt_succ_self _) hy10t
  refine W.widen (k := 5) (n := 922) (Nat.le_of_ble_eq_true rfl) (Nat.le_of_ble_eq_true rfl) ?_
  refine x_putF hx hb hts in_Lk t_Lk t_Lk_ok nm_Lk hown hK hD hN hP hS (hal _ (okk_al q0)) (okk_t q0) rfl rfl 2 (by decide) (hts _ tw_69) (fun _ h9 => h9) rfl hnm rfl (ty := .array .boolean) (v := .ref (ad y9)) (by decide +kernel) rfl rfl (Nat.le_of_ble_eq_true rfl) (stR (clr (stR (stR (stR (clr (clr (clr (stR (clr u y1) x0 0 (some y1)) y3) y5) y7) y3 (0 : Int32) (some y5)) y3 (1 : Int32) (some y7)) x0 1 (some y3)) y9) x0 2 (some y9)) stR_o (by rw [stR_up]; exact eq_8_2) dLk_init_28 (fun H locs hP hS => ?_)
  exact x_vretN hx hb hr hlocks h hP hD hN hS (Nat.le_of_ble_eq_true rfl) (Nat.le_of_ble_eq_true rfl) dLk_init_31
def fn_Lk_init (F : Nat) (al : Nat → Bool) (sl : Nat → Option Nat) (n0 : Nat) (u : Mr) (x0 : Nat) : Option (Mr × Int32) := bk_Lk_init_0 F al sl n0 u x0
set_option maxHeartbeats 4000000 in
set_option maxRecDepth 100000 in
theorem ct_Lk_init {l : Launch} {D : va_G} {cA : Nat → ClassId} {ad : Nat → Nat} {L : List Nat} {rs : va_W} {al : Nat → Bool} {sl : Nat → Option Nat} {n0 sz : Nat} (hal0 : ∀ k, al k = true → k ∈ L) (hla : ∀ k, k ∈ L → al k = true) (hN : (Ln sl n0 L).Nodup) (hsl : ∀ i k, sl i = some k → ad k + n0 = sz + i) (F : Nat) (u : Mr) (x0 : Nat) (out : Mr × Int32) (h : fn_Lk_init F al sl n0 u x0 = some out) (q0 : okk (aln al sl n0) 8 x0 = true) : CtVn l yLk_init wsLk_init rm_Lk_init [.ref (ad x0)] D cA ad (Ln sl n0 L) (Ln sl (n0 + 5) L) rs u out 5 922 sz := by
  refine Met.ofW (cc := cLk_init) (maxL := 1) (ret := none) (by decide) rfl ?_
  intro p e s m args below meth c s₁ B hml hv
  obtain ⟨rfl, ⟨hsz, hP, hK, hD0, hNx⟩, hdZ, hdT, hno, hny⟩ := hv
  subst hsz
  have hD := hD0.self (sz := s.heap.size)
  generalize hAe : va_A (ww ad cA (Ln sl n0 L) rs u) s.heap.size = A at hD hdZ hdT ⊢
  have hA : ∀ q, s.heap.size ≤ q → A q := fun q h => by rw [← hAe]; exact Or.inr h
  have hl := lv_entry ([.ref (ad x0)]) (n := 1) (Nat.le_of_ble_eq_true rfl)
  rw [lg_entry_eq]
  generalize (lg_sl ([.ref (ad x0)]) ++ List.replicate (1 - (lg_sl ([.ref (ad x0)])).length) Slot.unset).toArray = ls at hl ⊢
  have hpre := atoms_spec (ws := wsLk_init) B.pre
  have hnm : meth.name = "<init>" := (name_of_methodNamed B.named B.method).1
  exact wk_Lk_init_0 ⟨B.exec, B.bytes, hml, findClass_of_methodNamed B.named, hts_bw hpre, B.returns, B.notSynchronized, hK, hA, fun v => ww_D hD, hN, aln_in hal0 n0, hNx⟩ ⟨hal0, hla, hsl, hnm, hdZ, hdT, hno, hny⟩ F out u x0 h q0 _ _ _ (lv_sub hl [0] rfl) hP va_S.rf
end
abbrev yLd_init : MethodName := ⟨"ImageForge$Loader", "<init>", "()V"⟩
abbrev cLd_init : ByteArray := prog_4_method_1_code
abbrev wsLd_init : List Cond := .code yLd_init cLd_init 1 none :: bw
theorem gdLd_init : GoodIn bw wsLd_init := gd_of tw_82
theorem hdLd_init : yLd_init.cls ≠ "java/lang/invoke/MethodHandle" ∧ yLd_init.cls ≠ "java/lang/invoke/VarHandle" ∧ (parseMethodDescriptor yLd_init.desc).map (fun d => d.parameters.length) = some 0 := by decide +kernel
theorem dLd_init_0 : decode cLd_init 0 = .ok (.aload_n 0, 1) := by decide +kernel
theorem dLd_init_1 : decode cLd_init 1 = .ok (.invokespecial 3, 3) := by decide +kernel
theorem dLd_init_4 : decode cLd_init 4 = .ok (.aload_n 0, 1) := by decide +kernel
theorem dLd_init_5 : decode cLd_init 5 = .ok (.new 9, 3) := by decide +kernel
theorem dLd_init_8 : decode cLd_init 8 = .ok (.dup, 1) := by decide +kernel
theorem dLd_init_9 : decode cLd_init 9 = .ok (.invokespecial 11, 3) := by decide +kernel
theorem dLd_init_12 : decode cLd_init 12 = .ok (.putfield 12, 3) := by decide +kernel
theorem dLd_init_15 : decode cLd_init 15 = .ok (.aload_n 0, 1) := by decide +kernel
theorem dLd_init_16 : decode cLd_init 16 = .ok (.new 9, 3) := by decide +kernel
theorem dLd_init_19 : decode cLd_init 19 = .ok (.dup, 1) := by decide +kernel
theorem dLd_init_20 : decode cLd_init 20 = .ok (.invokespecial 11, 3) := by decide +kernel
theorem dLd_init_23 : decode cLd_init 23 = .ok (.putfield 18, 3) := by decide +kernel
theorem dLd_init_26 : decode cLd_init 26 = .ok (.return_, 1) := by decide +kernel
section
variable {p : Program} {l : Launch} {e : Env} {s : State} {m : MethodId} {args : Array Value} {below : List Frame} {meth : Method} {c : Code} {D : va_G} {cA : Nat → ClassId} {ad : Nat → Nat} {L : List Nat} {rs : va_W} {al : Nat → Bool} {sl : Nat → Option Nat} {n0 : Nat} {A : Nat → Prop}
abbrev rm_Ld_init : Room := { frames := 2, cells := 4, slots := 1796, locals := 50 }
def bk_Ld_init_0 (F : Nat) (al : Nat → Bool) (sl : Nat → Option Nat) (n0 : Nat) (u : Mr) (x0 : Nat) : Option (Mr × Int32) := bd1 (alo al sl n0 6) fun y1 => (bd2 (fn_Im_init F al sl (n0 + 1) (clr u y1) y1) fun u3 v3 => ck (sl (n0 + 1)).isSome (bd1 (alo al sl (n0 + 2) 6) fun y5 => (bd2 (fn_Im_init F al sl (n0 + 3) (clr (stR u3 x0 0 (some y1)) y5) y5) fun u7 v7 => ck (sl (n0 + 3)).isSome (some (stR u7 x0 1 (some y5), 0)))))
set_option maxHeartbeats 4000000 in
set_option maxRecDepth 100000 in
theorem wk_Ld_init_0 (cx : Cx p l e s m args below meth c cLd_init 1 bw "ImageForge$Loader" none D cA ad (Ln sl n0 L) rs (aln al sl n0) A) (cz : Cz s meth "<init>" ad L al sl n0 A) (F : Nat) (out : Mr × Int32) : ∀ (u : Mr) (x0 : Nat), bk_Ld_init_0 F al sl n0 u x0 = some out → okk (aln al sl n0) 13 x0 = true → Wb p l e rm_Ld_init s m args below meth c D cA ad (Ln sl n0 L) rs A (QVn below args s D cA ad (Ln sl (n0 + 4) L) rs A out 4 1796) 1 0 [(0, .ref (ad x0))] [] u := by
  obtain ⟨hx, hb, hml, hown, hts, hr, hlocks, hK, hA, hD, hN, hal, hNx⟩ := cx
  obtain ⟨hal0, hla, hsl, hnm, hdZ, hdT, hno, hny⟩ := cz
  intro u x0 h q0 H locs ls hl hP hS
  unfold bk_Ld_init_0 at h
  refine lv_aload_n hx hb dLd_init_0 rfl (lv_at hl 0 rfl) ?_
  refine W.objInit hx hb hown (hts _ tw_83) (hts _ tw_33) (hts _ tw_34) rfl (hl.1.trans hml.symm) rfl dLd_init_1 (Nat.le_of_ble_eq_true rfl) (Nat.le_of_ble_eq_true rfl) ?_
  refine W.eq (g2 := F0 m 4 _ []) rfl ?_
  refine lv_aload_n hx hb dLd_init_4 rfl (lv_at hl 0 rfl) ?_
  replace h := bd1_some h
  obtain ⟨y1, hy2, h⟩ := h
  obtain ⟨hy2a, hy2b, hy2t⟩ := alo_some hy2
  clear hy2
  refine x_size hS.1 (fun hz => ?_)
  refine x_new hx hb hts in_Im t_Im t_Im_ok hown (hts _ tw_84) (hts _ tw_42) (hts _ tw_2) hK hD hP hS hA (aln_out hla hy2b) hy2t (x_had hsl hy2a hz rfl) rfl rfl df_Im (Nat.le_of_ble_eq_true rfl) (Nat.le_of_ble_eq_true rfl) dLd_init_5 (fun H hP hD hS => ?_)
  rw [Ln_s (show (n0 + 1) = n0 + 1 from rfl) hy2a] at hP hD
  replace hN : (Ln sl (n0 + 1) L).Nodup := Ln_nd rfl hy2a (aln_out hla hy2b) hN
  replace hal := aln_in (sl := sl) hal0 (n0 + 1)
  replace q0 := okk_n (show n0 ≤ (n0 + 1) from Nat.le_add_right _ _) q0
  have hy2f := okk_new (al := al) (n := (n0 + 1)) hy2a (Nat.lt_succ_self _) hy2t
  refine W.widen (k := 1) (n := 2) (Nat.le_of_ble_eq_true rfl) (Nat.le_of_ble_eq_true rfl) ?_
  refine lv_dup hx hb dLd_init_8 rfl ?_
  replace h := bd2_some h
  obtain ⟨u3, v3, hc3, h⟩ := h
  refine x_size (x_lo hsl hP hy2a (Nat.lt_succ_self _) rfl) (fun hz => ?_)
  refine z_cv (u := clr u y1) (out := (u3, v3)) hA hD hS (va_runIN (As := []) (rest := [.ref (ad y1), .ref (ad x0)]) ⟨hx, hb, hml, hown, hts⟩ (ct_Im_init hal0 hla hN (sz := H.size) (x_hsl hsl hz) F (clr u y1) y1 (u3, v3) hc3 hy2f) ⟨va_cnB 0 hts gdIm_init rfl rfl rfl (nn_3 hNx) (hts _ tw_2) hdIm_init ⟨Nat.le_of_ble_eq_true rfl, Nat.le_of_ble_eq_true rfl⟩, rfl, (hts _ tw_44)⟩ (x_preSN hK hD hNx hP hS hA hdZ hdT hno hny) rfl rfl hl.1 rfl (lv_room (Nat.le_of_ble_eq_true rfl)) dLd_init_9 ⟨Nat.le_of_ble_eq_true rfl, Nat.le_of_ble_eq_true rfl⟩) (fun t9 locs hB hS9 => ?_)
  obtain ⟨hP9, hD9, hN9⟩ := hB
  replace hD := x_Dw hA hD hS hD9
  replace hN := hN9
  clear hP hS
  generalize t9.heap = H at hP9 hS9 ⊢
  have hP := hP9
  have hS := hS9
  clear hP9 hS9 hD9 hN9
  replace h := ck_some h
  obtain ⟨hk4, h⟩ := h
  obtain ⟨hk4y, hk4z⟩ := Option.isSome_iff_exists.mp hk4
  clear hk4
  replace hy2f := okk_n (show (n0 + 1) ≤ (n0 + 2) from Nat.add_le_add_left (by decide) _) hy2f
  replace q0 := okk_n (show (n0 + 1) ≤ (n0 + 2) from Nat.add_le_add_left (by decide) _) q0
  replace hal := aln_in (sl := sl) hal0 (n0 + 2)
  refine W.widen (k := 2) (n := 898) (Nat.le_of_ble_eq_true rfl) (Nat.le_of_ble_eq_true rfl) ?_
  refine x_put hx hb hts in_Ld t_Ld t_Ld_ok nm_Ld hown hK hD hN hP hS (hal _ (okk_al q0)) (okk_t q0) rfl rfl 0 (by decide) (hts _ tw_86) (fun _ h9 => h9) rfl (ty := .object "ImageForge$Image") (v := .ref (ad y1)) (by decide +kernel) rfl rfl (Nat.le_of_ble_eq_true rfl) (stR u3 x0 0 (some y1)) stR_o (by rw [stR_up]; exact eq_13_0) dLd_init_12 (fun H locs hP hS => ?_)
  refine lv_aload_n hx hb dLd_init_15 rfl (lv_at hl 0 rfl) ?_
  replace h := bd1_some h
  obtain ⟨y5, hy6, h⟩ := h
  obtain ⟨hy6a, hy6b, hy6t⟩ := alo_some hy6
  clear hy6
  refine x_size (x_lo hsl hP hk4z (Nat.lt_succ_self _) rfl) (fun hz => ?_)
  refine x_new hx hb hts in_Im t_Im t_Im_ok hown (hts _ tw_84) (hts _ tw_42) (hts _ tw_2) hK hD hP hS hA (aln_out hla hy6b) hy6t (x_had hsl hy6a hz rfl) rfl rfl df_Im (Nat.le_of_ble_eq_true rfl) (Nat.le_of_ble_eq_true rfl) dLd_init_16 (fun H hP hD hS => ?_)
  rw [Ln_s (show (n0 + 3) = (n0 + 2) + 1 from rfl) hy6a] at hP hD
  replace hN : (Ln sl (n0 + 3) L).Nodup := Ln_nd rfl hy6a (aln_out hla hy6b) hN
  replace hal := aln_in (sl := sl) hal0 (n0 + 3)
  replace q0 := okk_n (show (n0 + 2) ≤ (n0 + 3) from Nat.add_le_add_left (by decide) _) q0
  have hy6f := okk_new (al := al) (n := (n0 + 3)) hy6a (Nat.lt_succ_self _) hy6t
  refine W.widen (k := 3) (n := 900) (Nat.le_of_ble_eq_true rfl) (Nat.le_of_ble_eq_true rfl) ?_
  refine lv_dup hx hb dLd_init_19 rfl ?_
  replace h := bd2_some h
  obtain ⟨u7, v7, hc7, h⟩ := h
  refine x_size (x_lo hsl hP hy6a (Nat.lt_succ_self _) rfl) (fun hz => ?_)
  refine z_cv (u := clr (stR u3 x0 0 (some y1)) y5) (out := (u7, v7)) hA hD hS (va_runIN (As := []) (rest := [.ref (ad y5), .ref (ad x0)]) ⟨hx, hb, hml, hown, hts⟩ (ct_Im_init hal0 hla hN (sz := H.size) (x_hsl hsl hz) F (clr (stR u3 x0 0 (some y1)) y5) y5 (u7, v7) hc7 hy6f) ⟨va_cnB 0 hts gdIm_init rfl rfl rfl (nn_3 hNx) (hts _ tw_2) hdIm_init ⟨Nat.le_of_ble_eq_true rfl, Nat.le_of_ble_eq_true rfl⟩, rfl, (hts _ tw_44)⟩ (x_preSN hK hD hNx hP hS hA hdZ hdT hno hny) rfl rfl hl.1 rfl (lv_room (Nat.le_of_ble_eq_true rfl)) dLd_init_20 ⟨Nat.le_of_ble_eq_true rfl, Nat.le_of_ble_eq_true rfl⟩) (fun t9 locs hB hS9 => ?_)
  obtain ⟨hP9, hD9, hN9⟩ := hB
  replace hD := x_Dw hA hD hS hD9
  replace hN := hN9
  clear hP hS
  generalize t9.heap = H at hP9 hS9 ⊢
  have hP := hP9
  have hS := hS9
  clear hP9 hS9 hD9 hN9
  replace h := ck_some h
  obtain ⟨hk8, h⟩ := h
  obtain ⟨hk8y, hk8z⟩ := Option.isSome_iff_exists.mp hk8
  clear hk8
  replace hy6f := okk_n (show (n0 + 3) ≤ (n0 + 4) from Nat.add_le_add_left (by decide) _) hy6f
  replace q0 := okk_n (show (n0 + 3) ≤ (n0 + 4) from Nat.add_le_add_left (by decide) _) q0
  replace hal := aln_in (sl := sl) hal0 (n0 + 4)
  refine W.widen (k := 4) (n := 1796) (Nat.le_of_ble_eq_true rfl) (Nat.le_of_ble_eq_true rfl) ?_
  refine x_put hx hb hts in_Ld t_Ld t_Ld_ok nm_Ld hown hK hD hN hP hS (hal _ (okk_al q0)) (okk_t q0) rfl rfl 1 (by decide) (hts _ tw_87) (fun _ h9 => h9) rfl (ty := .object "ImageForge$Image") (v := .ref (ad y5)) (by decide +kernel) rfl rfl (Nat.le_of_ble_eq_true rfl) (stR u7 x0 1 (some y5)) stR_o (by rw [stR_up]; exact eq_13_1) dLd_init_23 (fun H locs hP hS => ?_)
  exact x_vretN hx hb hr hlocks h hP hD hN hS (Nat.le_of_ble_eq_true rfl) (Nat.le_of_ble_eq_true rfl) dLd_init_26
def fn_Ld_init (F : Nat) (al : Nat → Bool) (sl : Nat → Option Nat) (n0 : Nat) (u : Mr) (x0 : Nat) : Option (Mr × Int32) := bk_Ld_init_0 F al sl n0 u x0
set_option maxHeartbeats 4000000 in
set_option maxRecDepth 100000 in
theorem ct_Ld_init {l : Launch} {D : va_G} {cA : Nat → ClassId} {ad : Nat → Nat} {L : List Nat} {rs : va_W} {al : Nat → Bool} {sl : Nat → Option Nat} {n0 sz : Nat} (hal0 : ∀ k, al k = true → k ∈ L) (hla : ∀ k, k ∈ L → al k = true) (hN : (Ln sl n0 L).Nodup) (hsl : ∀ i k, sl i = some k → ad k + n0 = sz + i) (F : Nat) (u : Mr) (x0 : Nat) (out : Mr × Int32) (h : fn_Ld_init F al sl n0 u x0 = some out) (q0 : okk (aln al sl n0) 13 x0 = true) : CtVn l yLd_init wsLd_init rm_Ld_init [.ref (ad x0)] D cA ad (Ln sl n0 L) (Ln sl (n0 + 4) L) rs u out 4 1796 sz := by
  refine Met.ofW (cc := cLd_init) (maxL := 1) (ret := none) (by decide) rfl ?_
  intro p e s m args below meth c s₁ B hml hv
  obtain ⟨rfl, ⟨hsz, hP, hK, hD0, hNx⟩, hdZ, hdT, hno, hny⟩ := hv
  subst hsz
  have hD := hD0.self (sz := s.heap.size)
  generalize hAe : va_A (ww ad cA (Ln sl n0 L) rs u) s.heap.size = A at hD hdZ hdT ⊢
  have hA : ∀ q, s.heap.size ≤ q → A q := fun q h => by rw [← hAe]; exact Or.inr h
  have hl := lv_entry ([.ref (ad x0)]) (n := 1) (Nat.le_of_ble_eq_true rfl)
  rw [lg_entry_eq]
  generalize (lg_sl ([.ref (ad x0)]) ++ List.replicate (1 - (lg_sl ([.ref (ad x0)])).length) Slot.unset).toArray = ls at hl ⊢
  have hpre := atoms_spec (ws := wsLd_init) B.pre
  have hnm : meth.name = "<init>" := (name_of_methodNamed B.named B.method).1
  exact wk_Ld_init_0 ⟨B.exec, B.bytes, hml, findClass_of_methodNamed B.named, hts_bw hpre, B.returns, B.notSynchronized, hK, hA, fun v => ww_D hD, hN, aln_in hal0 n0, hNx⟩ ⟨hal0, hla, hsl, hnm, hdZ, hdT, hno, hny⟩ F out u x0 h q0 _ _ _ (lv_sub hl [0] rfl) hP va_S.rf
end

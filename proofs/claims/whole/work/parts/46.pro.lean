section
variable {p : Program} {l : Launch} {e : Env} {s : State} {m : MethodId} {b : Nat} {below : List Frame} {meth : Method} {c : Code} {D : va_G} {cA : Nat → ClassId} {ad : Nat → Nat} {L : List Nat} {rs : va_W} {al : Nat → Bool} {sl : Nat → Option Nat} {A : Nat → Prop} {Ls : Nat} {xs : Nat → Int32} {c0 s0 : Nat} {Q : State → Prop}
def pro (F : Nat) (al : Nat → Bool) (sl : Nat → Option Nat) (n0 : Nat) (u : Mr) : Option (Mr × (Nat × (Nat × Nat))) := bd1 (alo al sl n0 1) fun y1 => (bd2 (fn_Fg_init F al sl (n0 + 1) (clr u y1) y1) fun u3 v3 => ck (sl (n0 + 64)).isSome (bd1 (alo al sl (n0 + 65) 32) fun y5 => (bd2 (fn_Md_init F al sl (n0 + 66) (clr u3 y5) y5) fun u7 v7 => ck (sl (n0 + 88)).isSome (bd1 (alo al sl (n0 + 89) 22) fun y9 => (some (clr u7 y9, (y1, (y5, y9))))))))
set_option maxHeartbeats 4000000 in
set_option maxRecDepth 100000 in
theorem wpro {n0 : Nat} (hn0 : n0 = 0) (hx : p.tables.exec = Jvm.exec) (hb : c.code = code) (hml : c.maxLocals = 7) (hown : s.vm.findClass "ImageForgeLaw" = some m.cls) (hts : ∀ w ∈ bw, w.before #[Value.ref b] s = true) (hK : va_K D vwCl (tyl cA) s) (hA : ∀ q, s.heap.size ≤ q → A q) (hD : ∀ v : Mr, va_D A (ww ad cA (Ln sl n0 L) rs v)) (hN : (Ln sl n0 L).Nodup) (hNx : Nx s) (hal0 : ∀ k, al k = true → k ∈ L) (hla : ∀ k, k ∈ L → al k = true) (hsl : ∀ i k, sl i = some k → ad k + n0 = s.heap.size + i) (hdZ : dZ ad A s s.heap) (hdT : dT ad A s s.heap) (hno : No s) (hny : Ny s) (F : Nat) (out : Mr × (Nat × (Nat × Nat)))
    (hk : ∀ (H : Heap) (locs : List Loc) (ls : Array Slot), lv_has ls 7 [(0, .ref b), (1, .ref (ad out.2.1)), (2, .ref (ad out.2.2.1)), (3, .ref (ad out.2.2.2)), (4, .int 0)] → va_P D vwCl (ww ad cA (Ln sl (n0 + 90) L) rs out.1) H → (∀ v : Mr, va_D A (ww ad cA (Ln sl (n0 + 90) L) rs v)) → (Ln sl (n0 + 90) L).Nodup → va_S A s.heap H locs → W p l e room_1 s m #[Value.ref b] below meth c H locs 90 13777 Q (F0 m 23 ls []))
    (u : Mr) (H : Heap) (locs : List Loc) (ls : Array Slot) (h : pro F al sl n0 u = some out) (hl : lv_has ls 7 [(0, .ref b)]) (hP : va_P D vwCl (ww ad cA (Ln sl n0 L) rs u) H) (hS : va_S A s.heap H locs) : W p l e room_1 s m #[Value.ref b] below meth c H locs 0 0 Q (F0 m 0 ls []) := by
  have hal := aln_in (sl := sl) hal0 n0
  unfold pro at h
  replace h := bd1_some h
  obtain ⟨y1, hy2, h⟩ := h
  obtain ⟨hy2a, hy2b, hy2t⟩ := alo_some hy2
  clear hy2
  refine x_size hS.1 (fun hz => ?_)
  refine x_new hx hb hts in_Fg t_Fg t_Fg_ok hown (hts _ tw_27) (hts _ tw_28) (hts _ tw_1) hK hD hP hS hA (aln_out hla hy2b) hy2t (x_had hsl hy2a hz rfl) rfl rfl df_Fg (Nat.le_of_ble_eq_true rfl) (Nat.le_of_ble_eq_true rfl) dLw_law_0 (fun H hP hD hS => ?_)
  rw [Ln_s (show (n0 + 1) = n0 + 1 from rfl) hy2a] at hP hD
  replace hN : (Ln sl (n0 + 1) L).Nodup := Ln_nd rfl hy2a (aln_out hla hy2b) hN
  replace hal := aln_in (sl := sl) hal0 (n0 + 1)
  have hy2f := okk_new (al := al) (n := (n0 + 1)) hy2a (Nat.lt_succ_self _) hy2t
  refine W.widen (k := 1) (n := 6) (Nat.le_of_ble_eq_true rfl) (Nat.le_of_ble_eq_true rfl) ?_
  refine lv_dup hx hb dLw_law_3 rfl ?_
  replace h := bd2_some h
  obtain ⟨u3, v3, hc3, h⟩ := h
  refine x_size (x_lo hsl hP hy2a (Nat.lt_succ_self _) rfl) (fun hz => ?_)
  refine z_cv (u := clr u y1) (out := (u3, v3)) hA hD hS (va_runI (As := []) (rest := [.ref (ad y1)]) ⟨hx, hb, hml, hown, hts⟩ (ct_Fg_init hal0 hla hN (sz := H.size) (x_hsl hsl hz) F (clr u y1) y1 (u3, v3) hc3 hy2f) ⟨callB_of 0 hts gdFg_init rfl rfl rfl (hts _ tw_1) (hts _ tw_29) hdFg_init ⟨Nat.le_of_ble_eq_true rfl, Nat.le_of_ble_eq_true rfl⟩, rfl, (hts _ tw_30)⟩ (x_preSN hK hD hNx hP hS hA hdZ hdT hno hny) rfl rfl hl.1 rfl (lv_room (Nat.le_of_ble_eq_true rfl)) dLw_law_4 ⟨Nat.le_of_ble_eq_true rfl, Nat.le_of_ble_eq_true rfl⟩) (fun t9 locs hB hS9 => ?_)
  obtain ⟨hP9, hD9, hN9⟩ := hB
  replace hD := x_Dw hA hD hS hD9
  replace hN := hN9
  clear hP hS
  generalize t9.heap = H at hP9 hS9 ⊢
  have hP := hP9
  have hS := hS9
  clear hP9 hS9 hD9 hN9
  replace h := ck_some h
  obtain ⟨hk4, h⟩ := h
  obtain ⟨hk4y, hk4z⟩ := Option.isSome_iff_exists.mp hk4
  clear hk4
  replace hy2f := okk_n (show (n0 + 1) ≤ (n0 + 65) from Nat.add_le_add_left (by decide) _) hy2f
  replace hal := aln_in (sl := sl) hal0 (n0 + 65)
  refine W.widen (k := 65) (n := 4534) (Nat.le_of_ble_eq_true rfl) (Nat.le_of_ble_eq_true rfl) ?_
  refine lv_astore_n (lv' := [(1, .ref (ad y1)), (0, .ref b)]) hx hb dLw_law_7 rfl hl (by decide) rfl (fun ls hl => ?_)
  replace h := bd1_some h
  obtain ⟨y5, hy6, h⟩ := h
  obtain ⟨hy6a, hy6b, hy6t⟩ := alo_some hy6
  clear hy6
  refine x_size (x_lo hsl hP hk4z (Nat.lt_succ_self _) rfl) (fun hz => ?_)
  refine x_new hx hb hts in_Md t_Md t_Md_ok hown (hts _ tw_776) (hts _ tw_777) (hts _ tw_11) hK hD hP hS hA (aln_out hla hy6b) hy6t (x_had hsl hy6a hz rfl) rfl rfl df_Md (Nat.le_of_ble_eq_true rfl) (Nat.le_of_ble_eq_true rfl) dLw_law_8 (fun H hP hD hS => ?_)
  rw [Ln_s (show (n0 + 66) = (n0 + 65) + 1 from rfl) hy6a] at hP hD
  replace hN : (Ln sl (n0 + 66) L).Nodup := Ln_nd rfl hy6a (aln_out hla hy6b) hN
  replace hal := aln_in (sl := sl) hal0 (n0 + 66)
  replace hy2f := okk_n (show (n0 + 65) ≤ (n0 + 66) from Nat.add_le_add_left (by decide) _) hy2f
  have hy6f := okk_new (al := al) (n := (n0 + 66)) hy6a (Nat.lt_succ_self _) hy6t
  refine W.widen (k := 66) (n := 4566) (Nat.le_of_ble_eq_true rfl) (Nat.le_of_ble_eq_true rfl) ?_
  refine lv_dup hx hb dLw_law_11 rfl ?_
  replace h := bd2_some h
  obtain ⟨u7, v7, hc7, h⟩ := h
  refine x_size (x_lo hsl hP hy6a (Nat.lt_succ_self _) rfl) (fun hz => ?_)
  refine z_cv (u := clr u3 y5) (out := (u7, v7)) hA hD hS (va_runI (As := []) (rest := [.ref (ad y5)]) ⟨hx, hb, hml, hown, hts⟩ (ct_Md_init hal0 hla hN (sz := H.size) (x_hsl hsl hz) F (clr u3 y5) y5 (u7, v7) hc7 hy6f) ⟨callB_of 0 hts gdMd_init rfl rfl rfl (hts _ tw_11) (hts _ tw_778) hdMd_init ⟨Nat.le_of_ble_eq_true rfl, Nat.le_of_ble_eq_true rfl⟩, rfl, (hts _ tw_779)⟩ (x_preSN hK hD hNx hP hS hA hdZ hdT hno hny) rfl rfl hl.1 rfl (lv_room (Nat.le_of_ble_eq_true rfl)) dLw_law_12 ⟨Nat.le_of_ble_eq_true rfl, Nat.le_of_ble_eq_true rfl⟩) (fun t9 locs hB hS9 => ?_)
  obtain ⟨hP9, hD9, hN9⟩ := hB
  replace hD := x_Dw hA hD hS hD9
  replace hN := hN9
  clear hP hS
  generalize t9.heap = H at hP9 hS9 ⊢
  have hP := hP9
  have hS := hS9
  clear hP9 hS9 hD9 hN9
  replace h := ck_some h
  obtain ⟨hk8, h⟩ := h
  obtain ⟨hk8y, hk8z⟩ := Option.isSome_iff_exists.mp hk8
  clear hk8
  replace hy2f := okk_n (show (n0 + 66) ≤ (n0 + 89) from Nat.add_le_add_left (by decide) _) hy2f
  replace hy6f := okk_n (show (n0 + 66) ≤ (n0 + 89) from Nat.add_le_add_left (by decide) _) hy6f
  replace hal := aln_in (sl := sl) hal0 (n0 + 89)
  refine W.widen (k := 89) (n := 13776) (Nat.le_of_ble_eq_true rfl) (Nat.le_of_ble_eq_true rfl) ?_
  refine lv_astore_n (lv' := [(2, .ref (ad y5)), (1, .ref (ad y1)), (0, .ref b)]) hx hb dLw_law_15 rfl hl (by decide) rfl (fun ls hl => ?_)
  refine lv_iconst (v := 1) hx hb dLw_law_16 (by decide) ?_
  replace h := bd1_some h
  obtain ⟨y9, hy10, h⟩ := h
  obtain ⟨hy10a, hy10b, hy10t⟩ := alo_some hy10
  clear hy10
  refine x_size (x_lo hsl hP hk8z (Nat.lt_succ_self _) rfl) (fun hz => ?_)
  refine x_newa (atype := .long) (N := 1) hx hb (hts _ tw_1054) hD hP hS hA (aln_out hla hy10b) hy10t (x_had hsl hy10a hz rfl) 3 (hK.2 3 _ rfl).2 rfl rfl (by decide) (by decide) (by decide) (Nat.le_of_ble_eq_true rfl) (Nat.le_of_ble_eq_true rfl) dLw_law_17 (fun H hP hD hS => ?_)
  rw [Ln_s (show (n0 + 90) = (n0 + 89) + 1 from rfl) hy10a] at hP hD
  replace hN : (Ln sl (n0 + 90) L).Nodup := Ln_nd rfl hy10a (aln_out hla hy10b) hN
  replace hal := aln_in (sl := sl) hal0 (n0 + 90)
  replace hy2f := okk_n (show (n0 + 89) ≤ (n0 + 90) from Nat.add_le_add_left (by decide) _) hy2f
  replace hy6f := okk_n (show (n0 + 89) ≤ (n0 + 90) from Nat.add_le_add_left (by decide) _) hy6f
  have hy10f := okk_new (al := al) (n := (n0 + 90)) hy10a (Nat.lt_succ_self _) hy10t
  refine W.widen (k := 90) (n := 13777) (Nat.le_of_ble_eq_true rfl) (Nat.le_of_ble_eq_true rfl) ?_
  refine lv_astore_n (lv' := [(3, .ref (ad y9)), (2, .ref (ad y5)), (1, .ref (ad y1)), (0, .ref b)]) hx hb dLw_law_19 rfl hl (by decide) rfl (fun ls hl => ?_)
  refine lv_iconst (v := 0) hx hb dLw_law_20 (by decide) ?_
  refine lv_istore (lv' := [(4, .int (0 : Int32)), (3, .ref (ad y9)), (2, .ref (ad y5)), (1, .ref (ad y1)), (0, .ref b)]) hx hb dLw_law_21 hl (by decide) rfl (fun ls hl => ?_)
  obtain rfl := Option.some.inj h
  exact hk _ _ _ (lv_sub hl [4, 3, 2, 1, 0] rfl) hP hD hN hS
end

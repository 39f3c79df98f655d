/-! link: all of it in step -/
section
variable {f F : Nat} {al : Nat → Bool} {u wB uc um : Mr}
theorem lk_partsF (hb : LkB al u wB) {P : Nat → Prop} {p e b : Nat} {m : Nat → Nat} (hp : p < 2) (hm : ∀ o, m o ≤ 40) (hmu : ∀ o, o < 4 → u.1 (1024 + (2 * o + p)) 1 = nI (m o)) (hbe : b = upn 64 e) (he : e ≤ 256) (h : LkR u wB uc um) (hE : EQ P uc um) (h18 : um.1 2048 18 = nI e) :
    ∃ uc' um', fn_Lk_writeParts (f + 4000) al uc 512 128 (nI p) 384 (nI b) = some (uc', nI (endp m b 4)) ∧ fn_Md_layParts (f + 4000) al um 2048 (nI p) = some (um', 0) ∧ LkR u wB uc' um' ∧ EQ P uc' um' ∧ um'.1 2048 18 = nI (endp m b 4) ∧ um'.1 2688 (nI p) = nI b ∧ um'.1 2689 (nI p) = nI (endp m b 4) ∧ (∀ o, o < 4 → uc'.1 (704 + p) (nI o) = nI (plc m b o) ∧ um'.1 2113 (nI (2 * o + p)) = nI (plc m b o)) ∧
      (∀ k, k ≠ 448 → k ≠ 704 + p → uc'.1 k = uc.1 k) ∧ (∀ k, ¬ (k = 2048 ∨ k = 2113 ∨ k = 2625 ∨ k = 2688 ∨ k = 2689) → um'.1 k = um.1 k) ∧ (∀ o', o' < 4 → um'.1 2113 (nI (2 * o' + (1 - p))) = um.1 2113 (nI (2 * o' + (1 - p)))) ∧ (∀ i, i < 5 → i ≠ p → um'.1 2688 (nI i) = um.1 2688 (nI i) ∧ um'.1 2689 (nI i) = um.1 2689 (nI i)) ∧ StB b (endp m b 4) uc um uc' um' := by
  have hsm := LkR.sm hb h
  have hb2 : b ≤ 256 ∧ b % 64 = 0 := by
    rw [hbe]
    unfold upn
    omega
  generalize hW : stI (stI um 2048 18 (nI b)) 2688 (nI p) (nI b) = W
  have hBg : fn_Md_begin (f + 4000) al um 2048 (nI p) = some (W, 0) := by
    have := e_begin (F := f + 4000) (i := p) hsm h18 (by omega) (by omega)
    rw [← hbe, hW] at this
    exact this
  have W18 : W.1 2048 18 = nI b := by rw [← hW, stI_ne (by decide), stI_same]
  have Wo : ∀ q, q ≠ 2048 → q ≠ 2688 → W.1 q = um.1 q := fun q h1 h2 => by rw [← hW, stI_ne h2, stI_ne h1]
  have W88 : ∀ i, i < 5 → W.1 2688 (nI i) = if i = p then nI b else um.1 2688 (nI i) := fun i hi => by
    rw [← hW, stI_at, stI_ne (by decide)]
    by_cases z : i = p
    · rw [if_pos (by rw [z]), if_pos z]
    · rw [if_neg (fun y => z (nI_inj (by omega) (by omega) y)), if_neg z]
  have WR : LkR u wB uc W := by rw [← hW]; exact LkR.m (LkR.m18 h) (by omega) (by decide)
  have WE : EQ P uc W := hE.cg rfl (Wo _ (by decide) (by decide))
  obtain ⟨uc', um', r1, r2, r3, r4, r5, r6, r7, r8, r9, r10, r11, r12, r13⟩ := lk_parts (f := f) hb hp hm hmu (b := b) (by omega) hb2.1 4 (f + 4000) 0 uc W b (by omega) (by omega) WR WE W18 rfl (by omega)
  refine ⟨uc', um', r1, ?_, r3, r4, r5, by rw [r10 _ (by omega), W88 p (by omega), if_pos rfl], r6, fun o ho => r7 o (Nat.zero_le _) ho, r9, fun k hk => by rw [r10 k (by omega), Wo k (by omega) (by omega)], fun o' ho' => by rw [r11 o' ho', Wo _ (by decide) (by decide)], fun i hi h2 => ⟨by rw [r10 _ (by omega), W88 i hi, if_neg h2], by rw [r12 i hi h2, Wo _ (by decide) (by decide)]⟩, StB.trans (b := uc) (b' := W) (StB.cg rfl (Wo _ (by decide) (by decide))) r13⟩
  unfold fn_Md_layParts bk_Md_layParts_0
  rw [hBg, bd2_s, W18]
  exact r2
/-- the size of a part -/
def mm (u : Mr) (p o : Nat) : Nat := if o < 4 ∧ p < 2 then (u.1 (1024 + (2 * o + p)) 1).toNatClampNeg else 0
theorem mm_of (h : RPart u) {p o : Nat} : mm u p o ≤ 40 ∧ (o < 4 → p < 2 → u.1 (1024 + (2 * o + p)) 1 = nI (mm u p o)) := by
  unfold mm
  by_cases c : o < 4 ∧ p < 2
  · obtain ⟨n, n1, n2, -⟩ := h (2 * o + p) (by omega)
    rw [if_pos c, n2, nI_clamp (by omega)]
    exact ⟨n1, fun _ _ => rfl⟩
  · rw [if_neg c]
    exact ⟨by omega, fun h1 h2 => absurd ⟨h1, h2⟩ c⟩
def nrf (u : Mr) (o : Nat) : Nat := (u.1 (1152 + o) 2).toNatClampNeg
def bb1 (u : Mr) : Nat := upn 64 (endp (mm u 0) 64 4)
def bb2 (u : Mr) : Nat := upn 64 (endp (mm u 1) (bb1 u) 4)
def ppl (u : Mr) (p o : Nat) : Nat := if p = 0 then plc (mm u 0) 64 o else plc (mm u 1) (bb1 u) o
theorem bb_le (h : RPart u) : 64 ≤ endp (mm u 0) 64 4 ∧ endp (mm u 0) 64 4 ≤ 224 ∧ endp (mm u 0) 64 4 ≤ bb1 u ∧ bb1 u ≤ 256 ∧ bb1 u % 64 = 0 ∧ bb1 u ≤ endp (mm u 1) (bb1 u) 4 ∧ endp (mm u 1) (bb1 u) 4 ≤ 416 ∧ endp (mm u 1) (bb1 u) 4 ≤ bb2 u ∧ bb2 u ≤ 448 ∧ bb2 u % 64 = 0 := by
  have h1 := endp_le (m := mm u 0) (b := 64) (fun o => (mm_of h).1) (by decide) 4
  have e1 : bb1 u = (endp (mm u 0) 64 4 + 64 - 1) / 64 * 64 := rfl
  have h2 := endp_le (m := mm u 1) (b := bb1 u) (fun o => (mm_of h).1) (by omega) 4
  have e2 : bb2 u = (endp (mm u 1) (bb1 u) 4 + 64 - 1) / 64 * 64 := rfl
  omega
theorem lk_rfb (hP : RPart u) (hR : RRef u) : RfB u (nrf u) (ppl u) (bb2 u) := by
  obtain ⟨q1, q2, q3, q4, q5, q6, q7, q8, q9, q10⟩ := bb_le hP
  have m40 : ∀ p o, mm u p o ≤ 40 := fun p o => (mm_of hP).1
  have hn : ∀ o, o < 4 → nrf u o ≤ 8 ∧ u.1 (1152 + o) 2 = nI (nrf u o) ∧ u.1 2241 (nI o) = nI (nrf u o) ∧ (∀ r, r < nrf u o → ∃ p w t k m, p < 2 ∧ t < 3 ∧ k < 16 ∧ w + 4 ≤ m ∧ m ≤ 40 ∧ u.1 (1024 + (2 * o + p)) 1 = nI m ∧ u.1 (1344 + (8 * o + r)) 0 = nI p ∧ u.1 (1344 + (8 * o + r)) 1 = nI w ∧ u.1 (1344 + (8 * o + r)) 2 = nI t ∧ u.1 (1344 + (8 * o + r)) 3 = nI k ∧ u.1 2368 (nI (8 * o + r)) = nI p ∧ u.1 2369 (nI (8 * o + r)) = nI w ∧ u.1 2370 (nI (8 * o + r)) = nI t ∧ u.1 2371 (nI (8 * o + r)) = nI k) ∧
      ∀ r r' p w w', r < nrf u o → r' < nrf u o → r ≠ r' → w < 2 ^ 31 → w' < 2 ^ 31 → u.1 2368 (nI (8 * o + r)) = nI p → u.1 2368 (nI (8 * o + r')) = nI p → u.1 2369 (nI (8 * o + r)) = nI w → u.1 2369 (nI (8 * o + r')) = nI w' → w + 4 ≤ w' ∨ w' + 4 ≤ w := fun o ho => by
    obtain ⟨n, n1, n2, n3, n4, n5⟩ := hR o ho
    have e : nrf u o = n := by
      unfold nrf
      rw [n2, nI_clamp (by omega)]
    rw [e]
    exact ⟨n1, n2, n3, n4, n5⟩
  -- a reference's place, and its part's bounds
  have pos : ∀ o r, o < 4 → r < nrf u o → ∃ p w, p < 2 ∧ w + 4 ≤ mm u p o ∧ w < 2 ^ 20 ∧ u.1 2368 (nI (8 * o + r)) = nI p ∧ u.1 2369 (nI (8 * o + r)) = nI w ∧ PL u (ppl u) o r = ppl u p o + w := fun o r ho hr => by
    obtain ⟨p, w, t, k, m, c1, c2, c3, c4, c5, c6, c7, c8, c9, c10, c11, c12, c13, c14⟩ := (hn o ho).2.2.2.1 r hr
    have em : m = mm u p o := nI_inj (by omega) (by have := m40 p o; omega) (c6.symm.trans ((mm_of hP).2 ho c1))
    refine ⟨p, w, c1, by omega, by omega, c11, c12, ?_⟩
    unfold PL
    rw [c11, c12, nI_clamp (by omega), nI_clamp (by omega)]
  have bnd0 : ∀ o, o < 4 → 0 < mm u 0 o → 64 ≤ plc (mm u 0) 64 o ∧ plc (mm u 0) 64 o + mm u 0 o ≤ endp (mm u 0) 64 4 := fun o ho hz => ⟨(plc_le (m40 0) (by decide) o).2.1, plc_end ho hz⟩
  have bnd1 : ∀ o, o < 4 → 0 < mm u 1 o → bb1 u ≤ plc (mm u 1) (bb1 u) o ∧ plc (mm u 1) (bb1 u) o + mm u 1 o ≤ endp (mm u 1) (bb1 u) 4 := fun o ho hz => ⟨(plc_le (m40 1) (by omega) o).2.1, plc_end ho hz⟩
  refine ⟨fun o ho => ⟨(hn o ho).1, (hn o ho).2.1, (hn o ho).2.2.1, fun r hr => ?_⟩, fun o r ho hr => ?_, fun o r o' r' ho hr ho' hr' he => ?_, fun p o hp ho => ?_, by omega⟩
  · obtain ⟨p, w, t, k, m, c1, c2, c3, c4, c5, c6, c7⟩ := (hn o ho).2.2.2.1 r hr
    exact ⟨p, w, t, k, c1, c2, c3, by omega, c7⟩
  · obtain ⟨p, w, p1, p2, p3, p4, p5, p6⟩ := pos o r ho hr
    rw [p6]
    unfold ppl
    by_cases z : p = 0
    · rw [if_pos z]
      rw [z] at p2
      have := bnd0 o ho (by omega)
      omega
    · rw [if_neg z]
      rw [show p = 1 by omega] at p2
      have := bnd1 o ho (by omega)
      omega
  · obtain ⟨p, w, p1, p2, p3, p4, p5, p6⟩ := pos o r ho hr
    obtain ⟨p', w', p1', p2', p3', p4', p5', p6'⟩ := pos o' r' ho' hr'
    rw [p6, p6'] at he
    unfold ppl at he
    by_cases z : p = 0
    · rw [if_pos z] at he
      rw [z] at p2 p4
      have b0 := bnd0 o ho (by omega)
      by_cases z' : p' = 0
      · rw [if_pos z'] at he
        rw [z'] at p2' p4'
        have b0' := bnd0 o' ho' (by omega)
        by_cases eo : o = o'
        · refine ⟨eo, Classical.byContradiction fun hne => ?_⟩
          rw [← eo] at hr' p4' p5' he
          have := (hn o ho).2.2.2.2 r r' 0 w w' hr hr' hne (by omega) (by omega) p4 p4' p5 p5'
          omega
        · exfalso
          rcases Nat.lt_or_ge o o' with lt | ge
          · have a1 := plc_end (m := mm u 0) (b := 64) lt (by omega)
            have a2 := (plc_le (m40 0) (show 64 % 4 = 0 by decide) o').1
            omega
          · have a1 := plc_end (m := mm u 0) (b := 64) (show o' < o by omega) (by omega)
            have a2 := (plc_le (m40 0) (show 64 % 4 = 0 by decide) o).1
            omega
      · rw [if_neg z'] at he
        rw [show p' = 1 by omega] at p2'
        have b1' := bnd1 o' ho' (by omega)
        omega
    · rw [if_neg z] at he
      rw [show p = 1 by omega] at p2 p4
      have b1 := bnd1 o ho (by omega)
      by_cases z' : p' = 0
      · rw [if_pos z'] at he
        rw [z'] at p2'
        have b0' := bnd0 o' ho' (by omega)
        omega
      · rw [if_neg z'] at he
        rw [show p' = 1 by omega] at p2' p4'
        have b1' := bnd1 o' ho' (by omega)
        by_cases eo : o = o'
        · refine ⟨eo, Classical.byContradiction fun hne => ?_⟩
          rw [← eo] at hr' p4' p5' he
          have := (hn o ho).2.2.2.2 r r' 1 w w' hr hr' hne (by omega) (by omega) p4 p4' p5 p5'
          omega
        · exfalso
          rcases Nat.lt_or_ge o o' with lt | ge
          · have a1 := plc_end (m := mm u 1) (b := bb1 u) lt (by omega)
            have a2 := (plc_le (m40 1) (show bb1 u % 4 = 0 by omega) o').1
            omega
          · have a1 := plc_end (m := mm u 1) (b := bb1 u) (show o' < o by omega) (by omega)
            have a2 := (plc_le (m40 1) (show bb1 u % 4 = 0 by omega) o).1
            omega
  · unfold ppl
    have a0 := plc_le (m40 0) (show 64 % 4 = 0 by decide) o
    have a1 := plc_le (m40 1) (show bb1 u % 4 = 0 by omega) o
    split <;> omega
/-- the reference behind its clearing -/
def LREST (F : Nat) (al : Nat → Bool) (u : Mr) : Option (Mr × Int32) := bd2 (fn_Md_layParts F al (stI u 2048 18 (64 : Int32)) 2048 (0 : Int32)) fun u1 v1 => (bd2 (fn_Md_layParts F al u1 2048 (1 : Int32)) fun u2 v2 => (bd2 (fn_Md_findPlaces F al u2 2048) fun u3 v3 => (bd2 (fn_Md_layImports F al u3 2048) fun u4 v4 => (bd2 (fn_Md_layExports F al u4 2048) fun u5 v5 => (bd2 (fn_Md_layRelocations F al u5 2048) fun u6 v6 => (bd2 (fn_Md_up F al u6 (u6.1 2048 18) (64 : Int32)) fun u7 v7 => (bd2 (fn_Md_resolve F al (stI u7 2048 18 v7) 2048) fun u8 v8 => (bd2 (fn_Md_header F al u8 2048) fun u9 v9 => (bk_Md_link_207 F al F (stI u9 2048 16 (u9.1 2048 18)) 2048 (0 : Int32))))))))))
theorem lk_zeroM (hm : Sm al um) : bk_Md_link_124 (f + 4000) al (f + 4000) um 2048 0 = LREST (f + 4000) al (wr um 2625 0 2048 (fun _ => 0)) := by
  have loop : ∀ d c j, d + j = 2048 → d < c → bk_Md_link_124 (f + 4000) al c (wr um 2625 0 j (fun _ => 0)) 2048 (nI j) = LREST (f + 4000) al (wr um 2625 0 2048 (fun _ => 0)) := by
    intro d
    induction d with
    | zero =>
      intro c j hd hc
      obtain ⟨c, rfl⟩ : ∃ q, c = q + 1 := ⟨c - 1, by omega⟩
      have e : j = 2048 := by omega
      rw [e, bk_Md_link_124, if_pos (by decide)]
      rfl
    | succ d ih =>
      intro c j hd hc
      obtain ⟨c, rfl⟩ : ∃ q, c = q + 1 := ⟨c - 1, by omega⟩
      have hs : Sm al (wr um 2625 0 j (fun _ => 0)) := hm.any rfl
      have e := wr_s (u := um) (k := 2625) (p := 0) (n := j) (g := fun _ => 0) (by omega)
      rw [Nat.zero_add] at e
      rw [bk_Md_link_124, if_neg (show ¬ (2048 : Int32) ≤ nI j from fun z => absurd ((na_le (a := 2048) (by decide) (by omega)).mp z) (by omega)), bd1_eq hs.2.2.2.1, ck_eq (in_t (by omega) (by decide)), e, show nI j + (1 : Int32) = nI (j + 1) from na_add _ 1]
      exact ih c (j + 1) (by omega) (by omega)
  have := loop 2048 (f + 4000) 0 (by omega) (by omega)
  rw [wr_0] at this
  exact this
theorem lk_zeroC (hc : Sc al uc) : fn_Im_clear (f + 4000) al uc 384 = some (wr uc 448 0 896 (fun _ => (0 : Int32).toInt8.toInt32), 0) := by
  have loop : ∀ d c j, d + j = 896 → d < c → bk_Ar_fill_5 (f + 4000) al c (wr uc 448 0 j (fun _ => (0 : Int32).toInt8.toInt32)) 448 0 (nI j) 896 = some (wr uc 448 0 896 (fun _ => (0 : Int32).toInt8.toInt32), 0) := by
    intro d
    induction d with
    | zero =>
      intro c j hd hc
      obtain ⟨c, rfl⟩ : ∃ q, c = q + 1 := ⟨c - 1, by omega⟩
      have e : j = 896 := by omega
      rw [e, bk_Ar_fill_5, if_pos (by decide)]
    | succ d ih =>
      intro c j hd hc
      obtain ⟨c, rfl⟩ : ∃ q, c = q + 1 := ⟨c - 1, by omega⟩
      have e := wr_s (u := uc) (k := 448) (p := 0) (n := j) (g := fun _ => (0 : Int32).toInt8.toInt32) (by omega)
      rw [Nat.zero_add] at e
      rw [bk_Ar_fill_5, if_neg (show ¬ (896 : Int32) ≤ nI j from fun z => absurd ((na_le (a := 896) (by decide) (by omega)).mp z) (by omega)), ck_eq (in_t (by omega) (by decide)), e, show nI j + (1 : Int32) = nI (j + 1) from na_add _ 1]
      exact ih c (j + 1) (by omega) (by omega)
  have := loop 896 (f + 4000) 0 (by omega) (by omega)
  rw [wr_0] at this
  unfold fn_Im_clear bk_Im_clear_0
  rw [bd1_eq (show rdR al uc 384 0 7 = some 448 from hc.2.2.2.2.1 0 (by decide))]
  unfold fn_Ar_fill bk_Ar_fill_0
  rw [show bk_Ar_fill_5 (f + 4000) al (f + 4000) uc 448 (0 : Int32) (0 : Int32) (896 : Int32) = _ from this, bd2_s]
end

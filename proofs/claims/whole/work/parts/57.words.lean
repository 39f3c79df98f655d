/-! Words in rows of bytes. -/
def wr (u : Mr) (k p n : Nat) (g : Nat → Int32) : Mr := (fun a b => if a = k ∧ ¬ b < 0 ∧ p ≤ b.toNatClampNeg ∧ b.toNatClampNeg < p + n then g (b.toNatClampNeg - p) else u.1 a b, u.2)
theorem wr_0 {u : Mr} {k p : Nat} {g : Nat → Int32} : wr u k p 0 g = u := by
  unfold wr
  refine Prod.ext ?_ rfl
  funext a b
  show (if _ then _ else _) = _
  rw [if_neg (by omega)]
theorem wr_s {u : Mr} {k p n : Nat} {g : Nat → Int32} (h : p + n < 2 ^ 31) : stI (wr u k p n g) k (nI (p + n)) (g n) = wr u k p (n + 1) g := by
  refine Prod.ext ?_ rfl
  funext a b
  show (if a = k ∧ b = nI (p + n) then g n else if a = k ∧ ¬ b < 0 ∧ p ≤ b.toNatClampNeg ∧ b.toNatClampNeg < p + n then g (b.toNatClampNeg - p) else u.1 a b) = if a = k ∧ ¬ b < 0 ∧ p ≤ b.toNatClampNeg ∧ b.toNatClampNeg < p + (n + 1) then g (b.toNatClampNeg - p) else u.1 a b
  by_cases h1 : a = k ∧ b = nI (p + n)
  · rw [if_pos h1, if_pos ⟨h1.1, by rw [h1.2]; exact na_neg h, by rw [h1.2, nI_clamp h]; omega⟩, h1.2, nI_clamp h, show p + n - p = n by omega]
  · rw [if_neg h1]
    by_cases h2 : a = k ∧ ¬ b < 0 ∧ p ≤ b.toNatClampNeg ∧ b.toNatClampNeg < p + n
    · rw [if_pos h2, if_pos ⟨h2.1, h2.2.1, h2.2.2.1, by omega⟩]
    · rw [if_neg h2, if_neg (fun z => ?_)]
      obtain ⟨z1, z2, z3, z4⟩ := z
      have h3 : b.toNatClampNeg ≠ p + n := fun e => h1 ⟨z1, by
        obtain ⟨c, hc, rfl⟩ := na_of z2
        rw [nI_clamp hc] at e
        rw [e]⟩
      exact h2 ⟨z1, z2, z3, by omega⟩
theorem wr_ne {u : Mr} {k p n a : Nat} {g : Nat → Int32} (h : a ≠ k) : (wr u k p n g).1 a = u.1 a := by
  funext b
  show (if _ then _ else _) = _
  rw [if_neg (fun z => h z.1)]
theorem wr_at {u : Mr} {k p n j : Nat} {g : Nat → Int32} (h : j < 2 ^ 31) : (wr u k p n g).1 k (nI j) = if p ≤ j ∧ j < p + n then g (j - p) else u.1 k (nI j) := by
  show (if k = k ∧ ¬ nI j < 0 ∧ p ≤ (nI j).toNatClampNeg ∧ (nI j).toNatClampNeg < p + n then g ((nI j).toNatClampNeg - p) else u.1 k (nI j)) = _
  rw [nI_clamp h]
  have h0 := na_neg h
  simp only [h0, not_false_eq_true, true_and]
theorem wr_fr {S : Nat → Prop} {u : Mr} {k p n : Nat} {g : Nat → Int32} (h : S k) : Fr S u (wr u k p n g) := ⟨rfl, fun a ha => wr_ne (fun e => ha (e ▸ h))⟩
theorem wr_byt {u : Mr} {k p n : Nat} {g : Nat → Int32} (h : ∀ z, byt (u.1 k z)) (hg : ∀ i, byt (g i)) : ∀ z, byt ((wr u k p n g).1 k z) := fun z => by
  show byt (if _ then _ else _)
  split
  · exact hg _
  · exact h z
/-- the i-th byte of a word, as it is shifted down -/
def sb (v : Int32) (i : Nat) : Int32 := v >>> (((8 : Int32) * nI i) &&& 31)
def wc (u : Mr) (k p : Nat) : Int32 := ((((u.1 k (nI p)) &&& (255 : Int32)) ||| (((u.1 k (nI (p + 1))) &&& (255 : Int32)) <<< ((8 : Int32) &&& 31))) ||| (((u.1 k (nI (p + 2))) &&& (255 : Int32)) <<< ((16 : Int32) &&& 31))) ||| (((u.1 k (nI (p + 3))) &&& (255 : Int32)) <<< ((24 : Int32) &&& 31))
def wm (u : Mr) (k p : Nat) : Int32 := (((u.1 k (nI p)) ||| ((u.1 k (nI (p + 1))) <<< ((8 : Int32) &&& 31))) ||| ((u.1 k (nI (p + 2))) <<< ((16 : Int32) &&& 31))) ||| ((u.1 k (nI (p + 3))) <<< ((24 : Int32) &&& 31))
theorem wc_wm {u v : Mr} {k r p : Nat} (h : ∀ j, p ≤ j → j < p + 4 → u.1 k (nI j) &&& 255 = v.1 r (nI j)) : wc u k p = wm v r p := by
  unfold wc wm
  rw [h p (by omega) (by omega), h (p + 1) (by omega) (by omega), h (p + 2) (by omega) (by omega), h (p + 3) (by omega) (by omega)]
theorem wm_cg {u v : Mr} {k r p : Nat} (h : ∀ j, p ≤ j → j < p + 4 → u.1 k (nI j) = v.1 r (nI j)) : wm u k p = wm v r p := by
  unfold wm
  rw [h p (by omega) (by omega), h (p + 1) (by omega) (by omega), h (p + 2) (by omega) (by omega), h (p + 3) (by omega) (by omega)]
section
variable {F f : Nat} {al : Nat → Bool} {u : Mr} {p i : Nat} {v : Int32}
theorem e_word (h : rdR al u i 0 7 = some (i + 64)) (hp : p + 4 ≤ 896) : fn_Im_wordAt F al u i (nI p) = some (u, wc u (i + 64) p) := by
  unfold fn_Im_wordAt bk_Im_wordAt_0
  rw [show nI p + (1 : Int32) = nI (p + 1) from na_add p 1, show nI p + (2 : Int32) = nI (p + 2) from na_add p 2, show nI p + (3 : Int32) = nI (p + 3) from na_add p 3, bd1_eq h, ck_eq (in_t (by omega) (by decide)), bd1_eq h, ck_eq (in_t (by omega) (by decide)), bd1_eq h, ck_eq (in_t (by omega) (by decide)), bd1_eq h, ck_eq (in_t (by omega) (by decide))]
  rfl
theorem e_half (h : rdR al u i 0 7 = some (i + 64)) (hp : p + 2 ≤ 896) : fn_Im_halfAt F al u i (nI p) = some (u, ((u.1 (i + 64) (nI p)) &&& (255 : Int32)) ||| (((u.1 (i + 64) (nI (p + 1))) &&& (255 : Int32)) <<< ((8 : Int32) &&& 31))) := by
  unfold fn_Im_halfAt bk_Im_halfAt_0
  rw [show nI p + (1 : Int32) = nI (p + 1) from na_add p 1, bd1_eq h, ck_eq (in_t (by omega) (by decide)), bd1_eq h, ck_eq (in_t (by omega) (by decide))]
theorem e_wordIn (k : Nat) (hp : p + 4 ≤ 2048) : fn_Md_wordIn F al u k (nI p) = some (u, wm u k p) := by
  unfold fn_Md_wordIn bk_Md_wordIn_0
  rw [show nI p + (1 : Int32) = nI (p + 1) from na_add p 1, show nI p + (2 : Int32) = nI (p + 2) from na_add p 2, show nI p + (3 : Int32) = nI (p + 3) from na_add p 3, ck_eq (in_t (by omega) (by decide)), ck_eq (in_t (by omega) (by decide)), ck_eq (in_t (by omega) (by decide)), ck_eq (in_t (by omega) (by decide))]
  rfl
theorem e_setWord (h : rdR al u i 0 7 = some (i + 64)) (hp : p + 4 ≤ 896) : fn_Im_setWord (f + 4000) al u i (nI p) v = some (wr u (i + 64) p 4 (fun j => (sb v j).toInt8.toInt32), 0) := by
  have key : ∀ d n, d < 5 → bk_Im_setWord_2 (f + 4000) al (n + d + 1) (wr u (i + 64) p (4 - d) (fun j => (sb v j).toInt8.toInt32)) i (nI p) v (nI (4 - d)) = some (wr u (i + 64) p 4 (fun j => (sb v j).toInt8.toInt32), 0) := by
    intro d
    induction d with
    | zero =>
      intro n _
      rw [bk_Im_setWord_2, if_pos (by decide)]
    | succ d ih =>
      intro n hd
      rw [bk_Im_setWord_2, if_neg (show ¬ ((4 : Int32) ≤ nI (4 - (d + 1))) from fun z => absurd ((na_le (a := 4) (b := 4 - (d + 1)) (by decide) (by omega)).mp z) (by omega)), bd1_eq (show rdR al (wr u (i + 64) p (4 - (d + 1)) _) i 0 7 = some (i + 64) from h), na_add, ck_eq (in_t (by omega) (by decide)), show nI (4 - (d + 1)) + (1 : Int32) = nI (4 - (d + 1) + 1) from na_add _ 1]
      have e := wr_s (u := u) (k := i + 64) (p := p) (n := 4 - (d + 1)) (g := fun j => (sb v j).toInt8.toInt32) (by omega)
      rw [show stI (wr u (i + 64) p (4 - (d + 1)) fun j => (sb v j).toInt8.toInt32) (i + 64) (nI (p + (4 - (d + 1)))) ((v >>> (((8 : Int32) * nI (4 - (d + 1))) &&& 31)).toInt8.toInt32) = wr u (i + 64) p (4 - (d + 1) + 1) (fun j => (sb v j).toInt8.toInt32) from e, show 4 - (d + 1) + 1 = 4 - d by omega]
      exact ih n (by omega)
  have := key 4 (f + 3995) (by omega)
  rw [show 4 - 4 = 0 from rfl, wr_0] at this
  exact this
theorem e_mword (h : Sm al u) (hp : p + 4 ≤ 2048) : fn_Md_word (f + 4000) al u 2048 (nI p) v = some (wr u 2625 p 4 (fun j => sb v j &&& 255), 0) := by
  have key : ∀ d n, d < 5 → bk_Md_word_2 (f + 4000) al (n + d + 1) (wr u 2625 p (4 - d) (fun j => sb v j &&& 255)) 2048 (nI p) v (nI (4 - d)) = some (wr u 2625 p 4 (fun j => sb v j &&& 255), 0) := by
    intro d
    induction d with
    | zero =>
      intro n _
      rw [bk_Md_word_2, if_pos (by decide)]
    | succ d ih =>
      intro n hd
      rw [bk_Md_word_2, if_neg (show ¬ ((4 : Int32) ≤ nI (4 - (d + 1))) from fun z => absurd ((na_le (a := 4) (b := 4 - (d + 1)) (by decide) (by omega)).mp z) (by omega)), bd1_eq (show rdR al (wr u 2625 p (4 - (d + 1)) _) 2048 19 41 = some 2625 from h.2.2.2.1), na_add, ck_eq (in_t (by omega) (by decide)), show nI (4 - (d + 1)) + (1 : Int32) = nI (4 - (d + 1) + 1) from na_add _ 1]
      have e := wr_s (u := u) (k := 2625) (p := p) (n := 4 - (d + 1)) (g := fun j => sb v j &&& 255) (by omega)
      rw [show stI (wr u 2625 p (4 - (d + 1)) fun j => sb v j &&& 255) 2625 (nI (p + (4 - (d + 1)))) ((v >>> (((8 : Int32) * nI (4 - (d + 1))) &&& 31)) &&& 255) = wr u 2625 p (4 - (d + 1) + 1) (fun j => sb v j &&& 255) from e, show 4 - (d + 1) + 1 = 4 - d by omega]
      exact ih n (by omega)
  have := key 4 (f + 3995) (by omega)
  rw [show 4 - 4 = 0 from rfl, wr_0] at this
  exact this
theorem e_change (h : Sm al u) (hp : p + 4 ≤ 2048) : fn_Md_change (f + 4000) al u 2048 (nI p) v = some (wr u 2627 p 4 (fun j => sb v j &&& 255), 0) := by
  have key : ∀ d n, d < 5 → bk_Md_change_2 (f + 4000) al (n + d + 1) (wr u 2627 p (4 - d) (fun j => sb v j &&& 255)) 2048 (nI p) v (nI (4 - d)) = some (wr u 2627 p 4 (fun j => sb v j &&& 255), 0) := by
    intro d
    induction d with
    | zero =>
      intro n _
      rw [bk_Md_change_2, if_pos (by decide)]
    | succ d ih =>
      intro n hd
      rw [bk_Md_change_2, if_neg (show ¬ ((4 : Int32) ≤ nI (4 - (d + 1))) from fun z => absurd ((na_le (a := 4) (b := 4 - (d + 1)) (by decide) (by omega)).mp z) (by omega)), bd1_eq (show rdR al (wr u 2627 p (4 - (d + 1)) _) 2048 30 41 = some 2627 from h.2.2.2.2.2.2.2.2.2), na_add, ck_eq (in_t (by omega) (by decide)), show nI (4 - (d + 1)) + (1 : Int32) = nI (4 - (d + 1) + 1) from na_add _ 1]
      have e := wr_s (u := u) (k := 2627) (p := p) (n := 4 - (d + 1)) (g := fun j => sb v j &&& 255) (by omega)
      rw [show stI (wr u 2627 p (4 - (d + 1)) fun j => sb v j &&& 255) 2627 (nI (p + (4 - (d + 1)))) ((v >>> (((8 : Int32) * nI (4 - (d + 1))) &&& 31)) &&& 255) = wr u 2627 p (4 - (d + 1) + 1) (fun j => sb v j &&& 255) from e, show 4 - (d + 1) + 1 = 4 - d by omega]
      exact ih n (by omega)
  have := key 4 (f + 3995) (by omega)
  rw [show 4 - 4 = 0 from rfl, wr_0] at this
  exact this
theorem e_sealW (h : Sm al u) : bk_Md_seal_37 (f + 4000) al (f + 4000) u 2048 v 0 = some (wr u 2624 20 4 (fun j => sb v j &&& 255), v) := by
  have key : ∀ d n, d < 5 → bk_Md_seal_37 (f + 4000) al (n + d + 1) (wr u 2624 20 (4 - d) (fun j => sb v j &&& 255)) 2048 v (nI (4 - d)) = some (wr u 2624 20 4 (fun j => sb v j &&& 255), v) := by
    intro d
    induction d with
    | zero =>
      intro n _
      rw [bk_Md_seal_37, if_pos (by decide)]
    | succ d ih =>
      intro n hd
      rw [bk_Md_seal_37, if_neg (show ¬ ((4 : Int32) ≤ nI (4 - (d + 1))) from fun z => absurd ((na_le (a := 4) (b := 4 - (d + 1)) (by decide) (by omega)).mp z) (by omega)), bd1_eq (show rdR al (wr u 2624 20 (4 - (d + 1)) _) 2048 17 41 = some 2624 from h.2.2.1), show (20 : Int32) + nI (4 - (d + 1)) = nI (20 + (4 - (d + 1))) from na_add 20 _, ck_eq (in_t (by omega) (by decide)), show nI (4 - (d + 1)) + (1 : Int32) = nI (4 - (d + 1) + 1) from na_add _ 1]
      have e := wr_s (u := u) (k := 2624) (p := 20) (n := 4 - (d + 1)) (g := fun j => sb v j &&& 255) (by omega)
      rw [show stI (wr u 2624 20 (4 - (d + 1)) fun j => sb v j &&& 255) 2624 (nI (20 + (4 - (d + 1)))) ((v >>> (((8 : Int32) * nI (4 - (d + 1))) &&& 31)) &&& 255) = wr u 2624 20 (4 - (d + 1) + 1) (fun j => sb v j &&& 255) from e, show 4 - (d + 1) + 1 = 4 - d by omega]
      exact ih n (by omega)
  have := key 4 (f + 3995) (by omega)
  rw [show 4 - 4 = 0 from rfl, wr_0] at this
  exact this
end
/-- the two sums -/
theorem e_sum {f i r n : Nat} {al : Nat → Bool} {u w : Mr} {x0 : Nat} (h : rdR al u i 0 7 = some (i + 64)) (hn : n ≤ 14) (hs : u.1 i 1 = nI (64 * n)) (hb : ∀ j, j < 64 * n → u.1 (i + 64) (nI j) &&& 255 = w.1 r (nI j)) :
    ∃ s, fn_Im_checksum (f + 4000) al u i = some (u, s) ∧ fn_Md_sumOf (f + 4000) al w x0 r (nI (64 * n)) = some (w, s) := by
  have key : ∀ d m c s, d + m = 32 * n → d < c → ∃ t, bk_Im_checksum_4 (f + 4000) al c u i s (nI (2 * m)) = some (u, t) ∧ bk_Md_sumOf_5 (f + 4000) al c w r (nI (64 * n)) s (nI (2 * m)) = some (w, t) := by
    intro d
    induction d with
    | zero =>
      intro m c s hm hc
      obtain ⟨c, rfl⟩ : ∃ k, c = k + 1 := ⟨c - 1, by omega⟩
      have e : nI (64 * n) ≤ nI (2 * m) := (na_le (by omega) (by omega)).mpr (by omega)
      rw [bk_Im_checksum_4, bk_Md_sumOf_5, hs, if_pos e, if_pos e]
      exact ⟨_, rfl, rfl⟩
    | succ d ih =>
      intro m c s hm hc
      obtain ⟨c, rfl⟩ : ∃ k, c = k + 1 := ⟨c - 1, by omega⟩
      have e : ¬ nI (64 * n) ≤ nI (2 * m) := fun z => absurd ((na_le (by omega) (by omega)).mp z) (by omega)
      have e2 : nI (2 * m) + (2 : Int32) = nI (2 * (m + 1)) := na_add _ 2
      have c20 : (nI (2 * m) < (20 : Int32)) ↔ 2 * m < 20 := na_lt (b := 20) (by omega) (by decide)
      have c24 : (nI (2 * m) < (24 : Int32)) ↔ 2 * m < 24 := na_lt (b := 24) (by omega) (by decide)
      have q20 : (nI (2 * m) = (20 : Int32)) ↔ 2 * m = 20 := ⟨fun z => nI_inj (b := 20) (by omega) (by decide) z, fun z => by rw [z]; rfl⟩
      have q22 : (nI (2 * m) = (22 : Int32)) ↔ 2 * m = 22 := ⟨fun z => nI_inj (b := 22) (by omega) (by decide) z, fun z => by rw [z]; rfl⟩
      rw [bk_Im_checksum_4, bk_Md_sumOf_5, hs, if_neg e, if_neg e]
      by_cases hk : 2 * m = 20 ∨ 2 * m = 22
      · rw [if_neg (fun z => absurd (c20.mp z) (by omega)), if_pos (c24.mpr (by omega))]
        unfold bk_Im_checksum_42 bk_Md_sumOf_55
        rw [e2]
        obtain ⟨t, t1, t2⟩ := ih (m + 1) c s (by omega) (by omega)
        refine ⟨t, t1, ?_⟩
        by_cases h20 : 2 * m = 20
        · rw [if_pos (q20.mpr h20)]
          exact t2
        · rw [if_neg (fun z => h20 (q20.mp z)), if_pos (q22.mpr (hk.resolve_left h20))]
          exact t2
      · have hcs : ∀ z, bk_Im_checksum_24 (f + 4000) al z u i s (nI (2 * m)) = z u i (((s + ((w.1 r (nI (2 * m))) ||| ((w.1 r (nI (2 * m + 1))) <<< ((8 : Int32) &&& 31)))) &&& (65535 : Int32)) + ((s + ((w.1 r (nI (2 * m))) ||| ((w.1 r (nI (2 * m + 1))) <<< ((8 : Int32) &&& 31)))) >>> ((16 : Int32) &&& 31))) (nI (2 * (m + 1))) := fun z => by
          unfold bk_Im_checksum_24 bk_Im_checksum_42
          rw [e_half h (by omega), bd2_s, e2, hb _ (by omega), hb _ (by omega)]
        rw [if_neg (fun z => hk (Or.inl (q20.mp z))), if_neg (fun z => hk (Or.inr (q22.mp z))), show nI (2 * m) + (1 : Int32) = nI (2 * m + 1) from na_add _ 1, ck_eq (in_t (by omega) (by decide)), ck_eq (in_t (by omega) (by decide))]
        unfold bk_Md_sumOf_55
        rw [e2]
        obtain ⟨t, t1, t2⟩ := ih (m + 1) c (((s + ((w.1 r (nI (2 * m))) ||| ((w.1 r (nI (2 * m + 1))) <<< ((8 : Int32) &&& 31)))) &&& (65535 : Int32)) + ((s + ((w.1 r (nI (2 * m))) ||| ((w.1 r (nI (2 * m + 1))) <<< ((8 : Int32) &&& 31)))) >>> ((16 : Int32) &&& 31))) (by omega) (by omega)
        refine ⟨t, ?_, t2⟩
        by_cases h20 : 2 * m < 20
        · rw [if_pos (c20.mpr h20), hcs]
          exact t1
        · rw [if_neg (fun z => h20 (c20.mp z)), if_neg (fun z => absurd (c24.mp z) (by omega)), hcs]
          exact t1
  obtain ⟨t, t1, t2⟩ := key (32 * n) 0 (f + 4000) 0 (by omega) (by omega)
  exact ⟨t, t1, t2⟩

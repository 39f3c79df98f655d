/-! seal and find -/
theorem wr_2 {u : Mr} {k p n : Nat} {g : Nat → Int32} : (wr u k p n g).2 = u.2 := rfl
theorem Sm.any {al : Nat → Bool} {u v : Mr} (h : v.2.1 = u.2.1) (q : Sm al u) : Sm al v := q.fr (S := fun _ => True) ⟨h, fun _ z => absurd trivial z⟩
theorem Sc.any {al : Nat → Bool} {u v : Mr} (h : v.2.1 = u.2.1) (q : Sc al u) : Sc al v := q.fr (S := fun _ => True) ⟨h, fun _ z => absurd trivial z⟩
theorem m_seal {f : Nat} {al : Nat → Bool} {u : Mr} (h : Inv al u) : ∃ u1 k u2 r, fn_Lw_seal (f + 4000) al u 64 1408 = some (u1, k) ∧ fn_Md_seal (f + 4000) al u1 2048 = some (u2, r) ∧ u2.1 2048 0 = k ∧ (k = 0 → u2.2.2 1408 0 = r.toInt64) ∧ Inv al u2 := by
  obtain ⟨hc, hm⟩ := h.base
  obtain ⟨n, hn, i1, i2, i3⟩ := h.2.2.2.2.2.2.2.2.2.2.1
  by_cases h0 : n = 0
  · subst h0
    have z1 : u.1 384 1 = 0 := i1
    have z2 : u.1 2048 16 = 0 := i2
    refine ⟨u, 1, stI u 2048 0 1, 0, ?_, ?_, stI_same, fun z => absurd z (by decide), h.thr 1⟩
    · unfold fn_Lw_seal bk_Lw_seal_0 fn_Fg_seal bk_Fg_seal_0 fn_Im_isNone bk_Im_isNone_0
      rw [bd1_eq hc.1.2.2.2.1, z1, if_pos rfl]
      rfl
    · unfold fn_Md_seal bk_Md_seal_0
      rw [z2, if_pos rfl]
      unfold bk_Md_seal_13
      rw [e_fails (Or.inr rfl)]
      rfl
  · have nz : ¬ nI (64 * n) = 0 := fun z => h0 (by have := nI_inj (b := 0) (by omega) (by decide) z; omega)
    obtain ⟨s, s1, s2⟩ := e_sum (f := f) (w := stI (stL (wr u 448 20 4 (fun j => (sb (0 : Int32) j).toInt8.toInt32)) 1408 0 0) 2048 0 0) (x0 := 2048) (hc.2.2.2.2.1 0 (by omega)) hn i1 (r := 2624) (fun j hj => by rw [stI_ne (by omega), stL_1, wr_ne (by omega)]; exact i3 j hj)
    have i14 : n ≤ 14 := hn
    generalize hu1 : stL (wr u 448 20 4 (fun j => (sb s j).toInt8.toInt32)) 1408 0 s.toInt64 = u1
    have f1 : Fr (fun k => k = 448) u u1 := by
      rw [← hu1]
      exact Fr.trans (wr_fr rfl) Fr.out
    obtain ⟨s', t1, t2⟩ := e_sum (f := f) (w := stI u1 2048 0 0) (x0 := 2048) (hc.2.2.2.2.1 0 (by omega)) hn i1 (r := 2624) (fun j hj => by rw [stI_ne (by omega), f1.2 _ (by omega)]; exact i3 j hj)
    have es : s' = s := by
      have := t1.symm.trans s1
      exact congrArg Prod.snd (Option.some.inj this)
    subst es
    refine ⟨u1, 0, wr (stI u1 2048 0 0) 2624 20 4 (fun j => sb s' j &&& 255), s', ?_, ?_, by rw [wr_ne (by omega), stI_same], fun _ => ?_, ?_⟩
    · unfold fn_Lw_seal bk_Lw_seal_0 fn_Fg_seal bk_Fg_seal_0 fn_Im_isNone bk_Im_isNone_0
      rw [bd1_eq hc.1.2.2.2.1, i1, if_neg nz, bd2_s, if_pos rfl, bd1_eq hc.1.2.2.2.1, show (384 : Nat) = 384 + 0 from rfl, t1, bd2_s, bd1_eq hc.1.2.2.2.1]
      have e9 := e_setWord (f := f) (v := s') (p := 20) (hc.2.2.2.2.1 0 (by omega)) (by omega)
      rw [show (20 : Int32) = nI 20 from rfl, e9, bd2_s, bd2_s, if_pos rfl, ← hu1]
    · unfold fn_Md_seal bk_Md_seal_0
      rw [f1.2 2048 (by omega), i2, if_neg nz]
      unfold bk_Md_seal_13
      rw [e_fails (Or.inl rfl), bd2_s, if_pos rfl, if_pos rfl, bd1_eq (show rdR al (stI u1 2048 0 0) 2048 17 41 = some 2624 from (hm.fr f1).2.2.1), stI_at, if_neg (by decide), f1.2 2048 (by omega), i2, t2, bd2_s]
      exact e_sealW ((hm.fr f1).fr (Fr.st (S := fun _ => True) trivial))
    · show u1.2.2 1408 0 = _
      rw [← hu1]
      exact stL_same
    · obtain ⟨h1, h2, h3, h4, h5, h6, h7, h8, h9, h10, h11, h12, g, h13, h14⟩ := h
      have fr : Fr (fun q => q = 448 ∨ q = 2048 ∨ q = 2624) u (wr (stI u1 2048 0 0) 2624 20 4 (fun j => sb s' j &&& 255)) := Fr.trans (Fr.trans (f1.mono (fun k hk => by omega)) (Fr.st (by omega))) (wr_fr (by omega))
      have e : ∀ i : Int32, i ≠ 0 → (wr (stI u1 2048 0 0) 2624 20 4 (fun j => sb s' j &&& 255)).1 2048 i = u.1 2048 i := fun i hi => by rw [wr_ne (by omega), stI_at, if_neg hi, f1.2 _ (by omega)]
      have ec : (wr (stI u1 2048 0 0) 2624 20 4 (fun j => sb s' j &&& 255)).1 448 = (wr u 448 20 4 (fun j => (sb s' j).toInt8.toInt32)).1 448 := by rw [wr_ne (by omega), stI_ne (by omega), ← hu1, stL_1]
      have em : ∀ j, j < 2 ^ 31 → (wr (stI u1 2048 0 0) 2624 20 4 (fun j => sb s' j &&& 255)).1 2624 (nI j) = if 20 ≤ j ∧ j < 24 then sb s' (j - 20) &&& 255 else u.1 2624 (nI j) := fun j hj => by rw [wr_at hj, stI_ne (by omega), f1.2 _ (by omega)]
      generalize wr (stI u1 2048 0 0) 2624 20 4 (fun j => sb s' j &&& 255) = w at fr e ec em
      have en : ∀ q, q < 16 → w.1 (1280 + q) = u.1 (1280 + q) := fun q hq => fr.2 _ (by omega)
      refine ⟨h1, h2.fr fr, h3.fr fr, h4.fr fr, h5.fr fr (fun o ho => by omega), h6.fr fr (fun q hq => by omega) (by omega), h7.fr fr (fun o ho => by omega) (fun q hq => by rw [en q hq]; exact ⟨rfl, rfl, rfl, rfl⟩) (by omega), h8.fr fr (fun o ho => by omega) (fun o ho => by omega) (fun o ho => by omega) (by omega), h9.fr fr (fun q hq => by rw [en q hq]; exact ⟨rfl, rfl, rfl⟩) (by omega), h10.fr fr (fun l hl => by omega) (by omega), ?_, ?_, g, h13.fr fr, h14.fr fr (by have := h13.1; omega) ⟨e _ (by decide), e _ (by decide), e _ (by decide), e _ (by decide), e _ (by decide)⟩⟩
      · rw [e 16 (by decide)]
        refine ⟨n, hn, by rw [fr.2 384 (by omega)]; exact i1, i2, fun q hq => ?_⟩
        show w.1 448 (nI q) &&& 255 = w.1 2624 (nI q)
        rw [ec, em q (by omega), wr_at (by omega)]
        by_cases e1 : 20 ≤ q ∧ q < 24
        · rw [if_pos (by omega), if_pos e1, by_and]
        · rw [if_neg (by omega), if_neg e1]
          exact i3 q hq
      · refine ⟨?_, by rw [fr.2 449 (by omega)]; exact h12.2.1, by rw [fr.2 450 (by omega)]; exact h12.2.2⟩
        rw [ec]
        exact wr_byt h12.1 (fun i => byt_b _)
theorem m_find {f : Nat} {al : Nat → Bool} {u : Mr} (h : Inv al u) (a : Int32) : ∃ u1 r, fn_Fg_find (f + 4000) al u 64 a = some (u, r) ∧ fn_Md_find (f + 4000) al u 2048 a = some (u1, r) ∧ Inv al u1 := by
  obtain ⟨hc, hm⟩ := h.base
  obtain ⟨g, hg, hl⟩ := h.2.2.2.2.2.2.2.2.2.2.2.2
  have e : ∀ i : Int32, i ≠ 0 → (stI u 2048 0 0).1 2048 i = u.1 2048 i := fun i hi => by rw [stI_at, if_neg hi]
  obtain ⟨g2, g0, g1⟩ := hg
  obtain ⟨l0, hl⟩ := hl
  unfold fn_Fg_find bk_Fg_find_0 fn_Ld_addressOf bk_Ld_addressOf_0 fn_Md_find bk_Md_find_0
  rw [bd1_eq hc.1.2.2.2.2.2, e 24 (by decide), e 29 (by decide), e 28 (by decide)]
  rcases hl with ⟨z1, z2, z3, z4⟩ | ⟨z1, ⟨n, hn, i1, i2, i3⟩, -, z5, z6, b, k, m, c1, c2, c3, c4, c5⟩
  · refine ⟨stI u 2048 0 0, 0, ?_, by rw [if_pos z1], h.thr 0⟩
    rw [z4, if_neg (by decide)]
    rfl
  · have hm64 : m = 64 * n := nI_inj (by omega) (by omega) (c3.symm.trans i1)
    rw [if_neg (show ¬ u.1 2048 24 = 0 by rw [z1]; decide), ← z5, ← z6, c1, c2]
    have k4 : ((4 : Int32) ≤ nI k) ↔ 4 ≤ k := na_le (a := 4) (by decide) (by omega)
    by_cases h4 : 4 ≤ k
    · rw [if_pos (k4.mpr h4), if_pos (k4.mpr h4), bd1_eq g0, bd1_eq (show rdR al (stI u 2048 0 0) 2048 27 41 = some 2626 from hm.2.2.2.2.2.2.2.2.1)]
      have hrd : rdR al u (385 + g) 0 7 = some (385 + g + 64) := by
        have := hc.2.2.2.2.1 (1 + g) (by omega)
        rw [show 384 + (1 + g) = 385 + g by omega, show 448 + (1 + g) = 385 + g + 64 by omega] at this
        exact this
      have hw : ∀ p, p + 4 ≤ 64 * n → wc u (385 + g + 64) p = wm (stI u 2048 0 0) 2626 p := fun p hp => wc_wm (fun j h1 h2 => by rw [stI_ne (by omega)]; exact i3 j (by omega))
      rw [e_word hrd (by omega), bd2_s, e_wordIn 2626 (by omega), bd2_s, hw b (by omega), c1, c2]
      generalize wm (stI u 2048 0 0) 2626 b = cnt
      have key : ∀ d j c, d + j = 112 → d < c → ∃ r, bk_Ld_addressOf_46 (f + 4000) al c u 832 a cnt (nI (b + 4 + 8 * j)) (nI b + nI k - 8) (nI j) = some (u, r) ∧ bk_Md_find_36 (f + 4000) al c (stI u 2048 0 0) 2048 a cnt (nI j) = some (stI u 2048 0 0, r) := by
        intro d
        induction d with
        | zero =>
          intro j c hj hc9
          obtain ⟨c, rfl⟩ : ∃ q, c = q + 1 := ⟨c - 1, by omega⟩
          rw [bk_Ld_addressOf_46, bk_Md_find_36]
          by_cases q1 : cnt ≤ nI j
          · rw [if_pos q1, if_pos q1]
            exact ⟨0, rfl, rfl⟩
          · rw [if_neg q1, if_neg q1, e 29 (by decide), ← z6, c2]
            have x1 : nI k < (12 : Int32) + (8 : Int32) * nI j := by
              rw [show (12 : Int32) = nI 12 from rfl, show (8 : Int32) = nI 8 from rfl, na_mul, na_add, na_lt (by omega) (by omega)]
              omega
            have x2 : nI b + nI k - 8 < nI (b + 4 + 8 * j) := by
              rw [na_add, Int32.lt_iff_toInt_lt, Int32.toInt_sub, nI_toInt (by omega), nI_toInt (by omega), show (8 : Int32).toInt = 8 from rfl]
              unfold Int.bmod
              simp only []
              split <;> omega
            rw [if_pos x1, if_pos x2]
            exact ⟨0, rfl, rfl⟩
        | succ d ih =>
          intro j c hj hc9
          obtain ⟨c, rfl⟩ : ∃ q, c = q + 1 := ⟨c - 1, by omega⟩
          rw [bk_Ld_addressOf_46, bk_Md_find_36]
          by_cases q1 : cnt ≤ nI j
          · rw [if_pos q1, if_pos q1]
            exact ⟨0, rfl, rfl⟩
          · rw [if_neg q1, if_neg q1, e 29 (by decide), e 28 (by decide), ← z6, ← z5, c2, c1]
            have x1 : (nI k < (12 : Int32) + (8 : Int32) * nI j) ↔ k < 12 + 8 * j := by
              rw [show (12 : Int32) = nI 12 from rfl, show (8 : Int32) = nI 8 from rfl, na_mul, na_add, na_lt (by omega) (by omega)]
            have x2 : (nI b + nI k - 8 < nI (b + 4 + 8 * j)) ↔ k < 12 + 8 * j := by
              rw [na_add, Int32.lt_iff_toInt_lt, Int32.toInt_sub, nI_toInt (by omega), nI_toInt (by omega), show (8 : Int32).toInt = 8 from rfl]
              unfold Int.bmod
              simp only []
              split <;> omega
            by_cases q2 : k < 12 + 8 * j
            · rw [if_pos (x1.mpr q2), if_pos (x2.mpr q2)]
              exact ⟨0, rfl, rfl⟩
            · rw [if_neg (fun z => q2 (x1.mp z)), if_neg (fun z => q2 (x2.mp z)), bd1_eq g0, bd1_eq (show rdR al (stI u 2048 0 0) 2048 27 41 = some 2626 from hm.2.2.2.2.2.2.2.2.1), show nI b + (4 : Int32) + (8 : Int32) * nI j = nI (b + 4 + 8 * j) by rw [show (4 : Int32) = nI 4 from rfl, show (8 : Int32) = nI 8 from rfl, na_mul, na_add, na_add], e_word hrd (by omega), bd2_s, e_wordIn 2626 (by omega), bd2_s, hw _ (by omega)]
              by_cases q3 : wm (stI u 2048 0 0) 2626 (b + 4 + 8 * j) = a
              · rw [if_pos q3, if_pos q3, bd1_eq g0, bd1_eq (show rdR al (stI u 2048 0 0) 2048 27 41 = some 2626 from hm.2.2.2.2.2.2.2.2.1), show nI (b + 4 + 8 * j) + (4 : Int32) = nI (b + 4 + 8 * j + 4) from na_add _ 4, e_word hrd (by omega), bd2_s, e_wordIn 2626 (by omega), bd2_s, hw _ (by omega), e 25 (by decide), ← l0]
                exact ⟨_, rfl, rfl⟩
              · rw [if_neg q3, if_neg q3, show nI (b + 4 + 8 * j) + (8 : Int32) = nI (b + 4 + 8 * (j + 1)) from na_add _ 8, show nI j + (1 : Int32) = nI (j + 1) from na_add _ 1]
                exact ih (j + 1) c (by omega) (by omega)
      obtain ⟨r, r1, r2⟩ := key 112 0 (f + 4000) (by omega) (by omega)
      refine ⟨stI u 2048 0 0, r, ?_, r2, h.thr 0⟩
      rw [show nI b + (4 : Int32) = nI (b + 4 + 8 * 0) from na_add _ 4, show (0 : Int32) = nI 0 from rfl, r1]
      rfl
    · refine ⟨stI u 2048 0 0, 0, ?_, ?_, h.thr 0⟩
      · rw [if_neg (fun z => h4 (k4.mp z))]
        rfl
      · rw [if_neg (fun z => h4 (k4.mp z))]

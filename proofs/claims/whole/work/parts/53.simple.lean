theorem na_ns {n : Nat} (hn : n < 2 ^ 31) {a : Nat} (ha : a < n) : ¬ (nI a < 0 ∨ nI n ≤ nI a) := by
  intro h
  rcases h with h | h
  · exact na_neg (by omega) h
  · exact absurd ((na_le hn (by omega)).mp h) (by omega)
theorem na_sp {x : Int32} {n : Nat} (hn : n < 2 ^ 31) (h : ¬ (x < 0 ∨ nI n ≤ x)) : ∃ a, a < n ∧ x = nI a := na_of_lt hn (fun z => h (Or.inl z)) (Int32.not_le.mp (fun z => h (Or.inr z)))
theorem in_t {a n : Nat} (ha : a < n) (hn : n < 2 ^ 31) : inb (nI a) n = true := by
  rw [na_inb (by omega)]
  exact decide_eq_true ha
theorem m_exported {F : Nat} {al : Nat → Bool} {u : Mr} (h : Inv al u) (a b : Int32) (hb : b = 0 ∨ b = 1) : ∃ u1 k u2 r, fn_Lw_exported F al u 64 a b = some (u1, k) ∧ fn_Md_exported F al u1 2048 a b = some (u2, r) ∧ u2.1 2048 0 = k ∧ Inv al u2 := by
  obtain ⟨hc, hm⟩ := h.base
  have hz : isz b = true := decide_eq_true hb
  by_cases hs : a < 0 ∨ 16 ≤ a
  · refine ⟨u, 1, stI u 2048 0 1, 0, ?_, ?_, stI_same, h.thr 1⟩
    · unfold fn_Lw_exported bk_Lw_exported_0 fn_Fg_exported bk_Fg_exported_0
      rw [e_below, if_pos hs]
      rfl
    · unfold fn_Md_exported bk_Md_exported_0
      rw [e_out, if_pos hs, bd2_s, e_fails (Or.inr rfl)]
      rfl
  · obtain ⟨k, hk, rfl⟩ := na_sp (n := 16) (by decide) hs
    refine ⟨stI u (1280 + k) 6 b, 0, stI (stI (stI u (1280 + k) 6 b) 2048 0 0) 2496 (nI k) b, 0, ?_, ?_, by rw [stI_ne (by omega), stI_same], ?_⟩
    · unfold fn_Lw_exported bk_Lw_exported_0 fn_Fg_exported bk_Fg_exported_0
      rw [e_below, if_neg hs, bd2_s, if_neg (by decide), bd1_eq hc.1.2.1, ck_eq (in_t hk (by decide)), bd1_eq (hc.2.2.1 k hk), ck_eq hz]
      rfl
    · unfold fn_Md_exported bk_Md_exported_0
      rw [e_out, if_neg hs, bd2_s, e_fails (Or.inl rfl), bd2_s, if_pos rfl, if_pos rfl]
      rw [bd1_eq (show rdR al (stI (stI u (1280 + k) 6 b) 2048 0 0) 2048 14 39 = some 2496 from hm.2.1.2.2.2.2.2.2.1), ck_eq (in_t hk (by decide)), ck_eq hz]
    · obtain ⟨h1, h2, h3, h4, h5, h6, h7, h8, h9, h10, h11, h12, g, h13, h14⟩ := h
      have f : Fr (fun q => (1280 ≤ q ∧ q < 1296) ∨ q = 2048 ∨ q = 2496) u (stI (stI (stI u (1280 + k) 6 b) 2048 0 0) 2496 (nI k) b) := Fr.trans (Fr.trans (Fr.st (by omega)) (Fr.st (by omega))) (Fr.st (by omega))
      have e : ∀ i : Int32, i ≠ 0 → (stI (stI (stI u (1280 + k) 6 b) 2048 0 0) 2496 (nI k) b).1 2048 i = u.1 2048 i := fun i hi => by rw [stI_ne (by omega), stI_at, if_neg hi, stI_ne (by omega)]
      have en : ∀ q i, q < 16 → (stI (stI (stI u (1280 + k) 6 b) 2048 0 0) 2496 (nI k) b).1 (1280 + q) i = if q = k ∧ i = 6 then b else u.1 (1280 + q) i := fun q i hq => by
        rw [stI_ne (by omega), stI_ne (by omega)]
        by_cases e1 : q = k
        · subst e1
          rw [stI_at]
          simp
        · rw [stI_ne (by omega), if_neg (fun z => e1 z.1)]
      have em : ∀ q, q < 16 → (stI (stI (stI u (1280 + k) 6 b) 2048 0 0) 2496 (nI k) b).1 2496 (nI q) = if q = k then b else u.1 2496 (nI q) := fun q hq => by
        rw [stI_at, stI_ne (by omega), stI_ne (by omega)]
        by_cases e1 : q = k
        · rw [if_pos (by rw [e1]), if_pos e1]
        · rw [if_neg (fun z => e1 (nI_inj (by omega) (by omega) z)), if_neg e1]
      generalize stI (stI (stI u (1280 + k) 6 b) 2048 0 0) 2496 (nI k) b = w at f e en em
      have ee : ∀ q i, q < 16 → i ≠ 6 → w.1 (1280 + q) i = u.1 (1280 + q) i := fun q i hq hi => by rw [en q i hq, if_neg (fun z => hi z.2)]
      refine ⟨h1, h2.fr f, h3.fr f, h4.fr f, h5.fr f (fun o ho => by omega), h6.fr f (fun q hq => by omega) (by omega), h7.fr f (fun o ho => by omega) (fun q hq => ⟨ee q 0 hq (by decide), ee q 1 hq (by decide), ee q 2 hq (by decide), ee q 3 hq (by decide)⟩) (by omega), h8.fr f (fun o ho => by omega) (fun o ho => by omega) (fun o ho => by omega) (by omega), fun q hq => ?_, h10.fr f (fun l hl => by omega) (by omega), ?_, h12.fr f (by omega), g, h13.fr f, h14.fr f (by have := h13.1; omega) ⟨e _ (by decide), e _ (by decide), e _ (by decide), e _ (by decide), e _ (by decide)⟩⟩
      · obtain ⟨a1, a2, a3⟩ := h9 q hq
        rw [ee q 4 hq (by decide), ee q 5 hq (by decide), f.2 2432 (by omega), f.2 2433 (by omega), em q hq, en q 6 hq]
        refine ⟨a1, ?_, ?_⟩
        · by_cases e1 : q = k
          · simp [e1]
          · simp [e1, a2]
        · by_cases e1 : q = k
          · simp [e1, hb]
          · simp only [e1, false_and, if_false]
            exact a3
      · rw [e 16 (by decide)]
        exact RImg.fr (by rw [f.2 _ (by omega)]) (f.2 _ (by omega)) (f.2 _ (by omega)) h11
theorem m_image {F : Nat} {al : Nat → Bool} {u : Mr} (h : Inv al u) (a : Int32) : ∃ u1 k u2 r, fn_Lw_image F al u 64 a 1408 = some (u1, k) ∧ fn_Md_image F al u1 2048 a = some (u2, r) ∧ u2.1 2048 0 = k ∧ (k = 0 → u2.2.2 1408 0 = r.toInt64) ∧ Inv al u2 := by
  obtain ⟨hc, hm⟩ := h.base
  obtain ⟨n, hn, i1, i2, i3⟩ := h.2.2.2.2.2.2.2.2.2.2.1
  by_cases hs : a < 0 ∨ nI (64 * n) ≤ a
  · refine ⟨u, 1, stI u 2048 0 1, 0, ?_, ?_, stI_same, fun z => absurd z (by decide), h.thr 1⟩
    · unfold fn_Lw_image bk_Lw_image_0 fn_Fg_image bk_Fg_image_0
      rw [bd1_eq hc.1.2.2.2.1, i1, e_below, if_pos hs]
      rfl
    · unfold fn_Md_image bk_Md_image_0
      rw [i2, e_out, if_pos hs, bd2_s, e_fails (Or.inr rfl)]
      rfl
  · obtain ⟨j, hj, rfl⟩ := na_sp (n := 64 * n) (by omega) hs
    refine ⟨stL u 1408 0 (u.1 448 (nI j) &&& 255).toInt64, 0, stI (stL u 1408 0 (u.1 448 (nI j) &&& 255).toInt64) 2048 0 0, u.1 2624 (nI j), ?_, ?_, stI_same, fun _ => ?_, (h.out _ _ _).thr 0⟩
    · unfold fn_Lw_image bk_Lw_image_0 fn_Fg_image bk_Fg_image_0
      rw [bd1_eq hc.1.2.2.2.1, i1, e_below, if_neg hs, bd2_s, if_neg (by decide), bd1_eq hc.1.2.2.2.1]
      unfold fn_Im_byteAt bk_Im_byteAt_0
      rw [bd1_eq (hc.2.2.2.2.1 0 (by omega)), ck_eq (in_t (by omega) (by decide))]
      rfl
    · unfold fn_Md_image bk_Md_image_0
      rw [show (stL u 1408 0 (u.1 448 (nI j) &&& 255).toInt64).1 2048 16 = nI (64 * n) from i2, e_out, if_neg hs, bd2_s, e_fails (Or.inl rfl), bd2_s, if_pos rfl, if_pos rfl]
      rw [bd1_eq (show rdR al (stI (stL u 1408 0 (u.1 448 (nI j) &&& 255).toInt64) 2048 0 0) 2048 17 41 = some 2624 from hm.2.2.1), ck_eq (in_t (by omega) (by decide)), stI_ne (by omega)]
      rfl
    · show (stL u 1408 0 (u.1 448 (nI j) &&& 255).toInt64).2.2 1408 0 = _
      rw [stL_same, i3 j hj]
theorem m_spoil {F : Nat} {al : Nat → Bool} {u : Mr} (h : Inv al u) (a x : Int32) : ∃ u1 k u2 r, fn_Lw_spoil F al u 64 a x = some (u1, k) ∧ fn_Md_spoil F al u1 2048 a x = some (u2, r) ∧ u2.1 2048 0 = k ∧ Inv al u2 := by
  obtain ⟨hc, hm⟩ := h.base
  obtain ⟨n, hn, i1, i2, i3⟩ := h.2.2.2.2.2.2.2.2.2.2.1
  by_cases hs : a < 0 ∨ nI (64 * n) ≤ a
  · refine ⟨u, 1, stI u 2048 0 1, 0, ?_, ?_, stI_same, h.thr 1⟩
    · unfold fn_Lw_spoil bk_Lw_spoil_0 fn_Fg_spoil bk_Fg_spoil_0
      rw [bd1_eq hc.1.2.2.2.1, i1, e_below, if_pos hs]
      rfl
    · unfold fn_Md_spoil bk_Md_spoil_0
      rw [i2, e_out, if_pos hs, bd2_s, e_fails (Or.inr rfl)]
      rfl
  · obtain ⟨j, hj, rfl⟩ := na_sp (n := 64 * n) (by omega) hs
    generalize hB : (((u.1 448 (nI j) &&& 255) ^^^ x).toInt8.toInt32) = B
    generalize hM : (u.1 2624 (nI j) ^^^ (x &&& 255)) = M
    refine ⟨stI u 448 (nI j) B, 0, stI (stI (stI u 448 (nI j) B) 2048 0 0) 2624 (nI j) M, 0, ?_, ?_, by rw [stI_ne (by omega), stI_same], ?_⟩
    · unfold fn_Lw_spoil bk_Lw_spoil_0 fn_Fg_spoil bk_Fg_spoil_0
      rw [bd1_eq hc.1.2.2.2.1, i1, e_below, if_neg hs, bd2_s, if_neg (by decide), bd1_eq hc.1.2.2.2.1, bd1_eq hc.1.2.2.2.1]
      unfold fn_Im_byteAt bk_Im_byteAt_0
      rw [bd1_eq (hc.2.2.2.2.1 0 (by omega)), ck_eq (in_t (by omega) (by decide)), bd2_s]
      unfold fn_Im_setByte bk_Im_setByte_0
      rw [bd1_eq (hc.2.2.2.2.1 0 (by omega)), ck_eq (in_t (by omega) (by decide)), bd2_s, ← hB]
      rfl
    · unfold fn_Md_spoil bk_Md_spoil_0
      rw [show (stI u 448 (nI j) B).1 2048 16 = nI (64 * n) from i2, e_out, if_neg hs, bd2_s, e_fails (Or.inl rfl), bd2_s, if_pos rfl, if_pos rfl]
      rw [bd1_eq (show rdR al (stI (stI u 448 (nI j) B) 2048 0 0) 2048 17 41 = some 2624 from hm.2.2.1), bd1_eq (show rdR al (stI (stI u 448 (nI j) B) 2048 0 0) 2048 17 41 = some 2624 from hm.2.2.1), ck_eq (in_t (by omega) (by decide)), ck_eq (in_t (by omega) (by decide)), stI_ne (by omega), stI_ne (by omega), hM]
    · obtain ⟨h1, h2, h3, h4, h5, h6, h7, h8, h9, h10, h11, h12, g, h13, h14⟩ := h
      have f : Fr (fun q => q = 448 ∨ q = 2048 ∨ q = 2624) u (stI (stI (stI u 448 (nI j) B) 2048 0 0) 2624 (nI j) M) := Fr.trans (Fr.trans (Fr.st (by omega)) (Fr.st (by omega))) (Fr.st (by omega))
      have e : ∀ i : Int32, i ≠ 0 → (stI (stI (stI u 448 (nI j) B) 2048 0 0) 2624 (nI j) M).1 2048 i = u.1 2048 i := fun i hi => by rw [stI_ne (by omega), stI_at, if_neg hi, stI_ne (by omega)]
      have ec : ∀ i, (stI (stI (stI u 448 (nI j) B) 2048 0 0) 2624 (nI j) M).1 448 i = if i = nI j then B else u.1 448 i := fun i => by rw [stI_ne (by omega), stI_ne (by omega), stI_at]
      have em : ∀ i, (stI (stI (stI u 448 (nI j) B) 2048 0 0) 2624 (nI j) M).1 2624 i = if i = nI j then M else u.1 2624 i := fun i => by rw [stI_at, stI_ne (by omega), stI_ne (by omega)]
      generalize stI (stI (stI u 448 (nI j) B) 2048 0 0) 2624 (nI j) M = w at f e ec em
      have en : ∀ q, q < 16 → w.1 (1280 + q) = u.1 (1280 + q) := fun q hq => f.2 _ (by omega)
      refine ⟨h1, h2.fr f, h3.fr f, h4.fr f, h5.fr f (fun o ho => by omega), h6.fr f (fun q hq => by omega) (by omega), h7.fr f (fun o ho => by omega) (fun q hq => by rw [en q hq]; exact ⟨rfl, rfl, rfl, rfl⟩) (by omega), h8.fr f (fun o ho => by omega) (fun o ho => by omega) (fun o ho => by omega) (by omega), h9.fr f (fun q hq => by rw [en q hq]; exact ⟨rfl, rfl, rfl⟩) (by omega), h10.fr f (fun l hl => by omega) (by omega), ?_, ?_, g, h13.fr f, h14.fr f (by have := h13.1; omega) ⟨e _ (by decide), e _ (by decide), e _ (by decide), e _ (by decide), e _ (by decide)⟩⟩
      · rw [e 16 (by decide)]
        refine ⟨n, hn, by rw [f.2 384 (by omega)]; exact i1, i2, fun q hq => ?_⟩
        show w.1 448 (nI q) &&& 255 = w.1 2624 (nI q)
        rw [ec, em]
        by_cases e1 : nI q = nI j
        · rw [if_pos e1, if_pos e1, ← hB, ← hM, by_and, xor_and, and_and, i3 j hj]
        · rw [if_neg e1, if_neg e1]
          exact i3 q hq
      · refine ⟨fun i => ?_, by rw [f.2 449 (by omega)]; exact h12.2.1, by rw [f.2 450 (by omega)]; exact h12.2.2⟩
        rw [ec]
        by_cases e1 : i = nI j
        · rw [if_pos e1, ← hB]
          exact byt_b _
        · rw [if_neg e1]
          exact h12.1 i

theorem m_imported {F : Nat} {al : Nat → Bool} {u : Mr} (h : Inv al u) (a b x : Int32) : ∃ u1 k u2 r, fn_Lw_imported F al u 64 a b x = some (u1, k) ∧ fn_Md_imported F al u1 2048 a b x = some (u2, r) ∧ u2.1 2048 0 = k ∧ Inv al u2 := by
  obtain ⟨hc, hm⟩ := h.base
  by_cases hs : a < 0 ∨ 16 ≤ a
  · refine ⟨u, 1, stI u 2048 0 1, 0, ?_, ?_, stI_same, h.thr 1⟩
    · unfold fn_Lw_imported bk_Lw_imported_0 fn_Fg_imported bk_Fg_imported_0 bk_Fg_imported_10 bk_Fg_imported_34
      by_cases hb : b = -1
      · rw [if_pos hb, e_below, if_pos hs]
        rfl
      · rw [if_neg hb, e_below, if_pos hs]
        rfl
    · unfold fn_Md_imported bk_Md_imported_0 bk_Md_imported_36 bk_Md_imported_41
      rw [e_out, if_pos hs, bd2_s, if_neg (by decide), e_fails (Or.inr rfl)]
      rfl
  by_cases hf : b ≠ -1 ∧ ((b < 0 ∨ 4 ≤ b) ∨ (x < 0 ∨ 100 ≤ x))
  · refine ⟨u, 1, stI u 2048 0 1, 0, ?_, ?_, stI_same, h.thr 1⟩
    · unfold fn_Lw_imported bk_Lw_imported_0 fn_Fg_imported bk_Fg_imported_0 bk_Fg_imported_10 bk_Fg_imported_34
      rw [if_neg hf.1, e_below, if_neg hs, bd2_s, if_neg (by decide), if_neg (by decide), e_slot, if_pos hf.2]
      rfl
    · unfold fn_Md_imported bk_Md_imported_0
      rw [e_out, if_neg hs, bd2_s, if_pos rfl, e_out, bd2_s]
      by_cases h1 : b < 0 ∨ 4 ≤ b
      · rw [if_pos h1, if_neg (by decide), if_neg hf.1]
        unfold bk_Md_imported_36 bk_Md_imported_41
        rw [e_fails (Or.inr rfl)]
        rfl
      · rw [if_neg h1, if_pos rfl]
        unfold bk_Md_imported_23
        rw [if_neg (fun z => h1 (Or.inl z)), e_out, if_pos (hf.2.resolve_left h1), bd2_s, if_neg (by decide)]
        unfold bk_Md_imported_36 bk_Md_imported_41
        rw [e_fails (Or.inr rfl)]
        rfl
  obtain ⟨k, hk, rfl⟩ := na_sp (n := 16) (by decide) hs
  have hbx : b = -1 ∨ ∃ l n, l < 4 ∧ n < 100 ∧ b = nI l ∧ x = nI n := by
    by_cases hb : b = -1
    · exact Or.inl hb
    · have h2 : ¬ ((b < 0 ∨ 4 ≤ b) ∨ (x < 0 ∨ 100 ≤ x)) := fun z => hf ⟨hb, z⟩
      obtain ⟨l, hl, e1⟩ := na_sp (n := 4) (by decide) (fun z => h2 (Or.inl z))
      obtain ⟨n, hn, e2⟩ := na_sp (n := 100) (by decide) (fun z => h2 (Or.inr z))
      exact Or.inr ⟨l, n, hl, hn, e1, e2⟩
  generalize hO : (if 0 ≤ b then x else 0) = O
  refine ⟨stI (stI u (1280 + k) 4 b) (1280 + k) 5 x, 0, stI (stI (stI (stI (stI u (1280 + k) 4 b) (1280 + k) 5 x) 2048 0 0) 2432 (nI k) (b + 1)) 2433 (nI k) O, 0, ?_, ?_, by rw [stI_ne (by omega), stI_ne (by omega), stI_same], ?_⟩
  · have hset : ∀ s0 : Int32, s0 = 0 ∨ ((b < 0 ∨ 4 ≤ b) ∨ (x < 0 ∨ 100 ≤ x)) = False → bk_Fg_imported_10 F al u s0 64 (nI k) b x = some (stI (stI u (1280 + k) 4 b) (1280 + k) 5 x, 0, 0) := by
      intro s0 hs0
      unfold bk_Fg_imported_10
      rw [e_below, if_neg hs, bd2_s, if_neg (by decide)]
      have hl : bk_Fg_imported_44 F al u 64 (nI k) b x = some (stI (stI u (1280 + k) 4 b) (1280 + k) 5 x, 0, 0) := by
        unfold bk_Fg_imported_44
        rw [bd1_eq hc.1.2.1, ck_eq (in_t hk (by decide)), bd1_eq (hc.2.2.1 k hk), bd1_eq (show rdR al (stI u (1280 + k) 4 b) 64 1 3 = some 192 from hc.1.2.1), ck_eq (in_t hk (by decide)), bd1_eq (show rdR al (stI u (1280 + k) 4 b) 192 (nI k) 20 = some (1280 + k) from hc.2.2.1 k hk)]
      by_cases h0 : s0 = 0
      · rw [if_pos h0]
        exact hl
      · rw [if_neg h0, e_slot, if_neg (by rw [hs0.resolve_left h0]; exact id), bd2_s, if_neg (by decide)]
        exact hl
    unfold fn_Lw_imported bk_Lw_imported_0 fn_Fg_imported bk_Fg_imported_0
    by_cases hb : b = -1
    · rw [if_pos hb, hset 0 (Or.inl rfl)]
      rfl
    · rw [if_neg hb, hset 1 (Or.inr (eq_false (fun z => hf ⟨hb, z⟩)))]
      rfl
  · have hgo : ∀ v : Mr, (∀ i T, rdR al v 2048 i T = rdR al u 2048 i T) → bk_Md_imported_41 F al v 2048 0 2048 (nI k) b x = some (stI (stI (stI v 2048 0 0) 2432 (nI k) (b + 1)) 2433 (nI k) O, 0) := by
      intro v hv
      unfold bk_Md_imported_41
      rw [e_fails (Or.inl rfl), bd2_s, if_pos rfl, if_pos rfl, bd1_eq (show rdR al (stI v 2048 0 0) 2048 12 38 = some 2432 from (hv _ _).trans hm.2.1.2.2.2.2.1), ck_eq (in_t hk (by decide)), bd1_eq (show rdR al (stI (stI v 2048 0 0) 2432 (nI k) (b + 1)) 2048 13 38 = some 2433 from (hv _ _).trans hm.2.1.2.2.2.2.2.1)]
      rw [← hO]
      by_cases h0 : 0 ≤ b
      · rw [if_pos h0, if_pos h0, ck_eq (in_t hk (by decide))]
      · rw [if_neg h0, if_neg h0, ck_eq (in_t hk (by decide))]
    have hv : ∀ i T, rdR al (stI (stI u (1280 + k) 4 b) (1280 + k) 5 x) 2048 i T = rdR al u 2048 i T := fun i T => rfl
    unfold fn_Md_imported bk_Md_imported_0
    rw [e_out, if_neg hs, bd2_s, if_pos rfl, e_out, bd2_s]
    rcases hbx with rfl | ⟨l, n, hl, hn, rfl, rfl⟩
    · rw [if_pos (Or.inl (by decide)), if_neg (by decide), if_pos rfl]
      unfold bk_Md_imported_23
      rw [if_pos (by decide)]
      exact hgo _ hv
    · rw [if_neg (show ¬ (nI l < 0 ∨ 4 ≤ nI l) from na_ns (n := 4) (by decide) hl), if_pos rfl]
      unfold bk_Md_imported_23
      rw [if_neg (na_neg (by omega)), e_out, if_neg (show ¬ (nI n < 0 ∨ 100 ≤ nI n) from na_ns (n := 100) (by decide) hn), bd2_s, if_pos rfl]
      exact hgo _ hv
  · obtain ⟨h1, h2, h3, h4, h5, h6, h7, h8, h9, h10, h11, h12, g, h13, h14⟩ := h
    generalize hw : stI (stI (stI (stI (stI u (1280 + k) 4 b) (1280 + k) 5 x) 2048 0 0) 2432 (nI k) (b + 1)) 2433 (nI k) O = w
    have f : Fr (fun q => (1280 ≤ q ∧ q < 1296) ∨ q = 2048 ∨ q = 2432 ∨ q = 2433) u w := by
      rw [← hw]
      exact Fr.trans (Fr.trans (Fr.trans (Fr.trans (Fr.st (by omega)) (Fr.st (by omega))) (Fr.st (by omega))) (Fr.st (by omega))) (Fr.st (by omega))
    have e : ∀ i : Int32, i ≠ 0 → w.1 2048 i = u.1 2048 i := fun i hi => by rw [← hw, stI_ne (by omega), stI_ne (by omega), stI_at, if_neg hi, stI_ne (by omega), stI_ne (by omega)]
    have en : ∀ q i, q < 16 → w.1 (1280 + q) i = if q = k ∧ i = 5 then x else if q = k ∧ i = 4 then b else u.1 (1280 + q) i := fun q i hq => by
      rw [← hw, stI_ne (by omega), stI_ne (by omega), stI_ne (by omega)]
      by_cases e1 : q = k
      · subst e1
        rw [stI_at, stI_at]
        simp
      · rw [stI_ne (by omega), stI_ne (by omega), if_neg (fun z => e1 z.1), if_neg (fun z => e1 z.1)]
    have el : ∀ q, q < 16 → w.1 2432 (nI q) = if q = k then b + 1 else u.1 2432 (nI q) := fun q hq => by
      rw [← hw, stI_ne (by omega), stI_at, stI_ne (by omega), stI_ne (by omega), stI_ne (by omega)]
      by_cases e1 : q = k
      · rw [if_pos (by rw [e1]), if_pos e1]
      · rw [if_neg (fun z => e1 (nI_inj (by omega) (by omega) z)), if_neg e1]
    have eo : ∀ q, q < 16 → w.1 2433 (nI q) = if q = k then O else u.1 2433 (nI q) := fun q hq => by
      rw [← hw, stI_at, stI_ne (by omega), stI_ne (by omega), stI_ne (by omega), stI_ne (by omega)]
      by_cases e1 : q = k
      · rw [if_pos (by rw [e1]), if_pos e1]
      · rw [if_neg (fun z => e1 (nI_inj (by omega) (by omega) z)), if_neg e1]
    have ee : ∀ q i, q < 16 → i ≠ 4 → i ≠ 5 → w.1 (1280 + q) i = u.1 (1280 + q) i := fun q i hq hi hi2 => by rw [en q i hq, if_neg (fun z => hi2 z.2), if_neg (fun z => hi z.2)]
    clear hw
    refine ⟨h1, h2.fr f, h3.fr f, h4.fr f, h5.fr f (fun o ho => by omega), h6.fr f (fun q hq => by omega) (by omega), h7.fr f (fun o ho => by omega) (fun q hq => ⟨ee q 0 hq (by decide) (by decide), ee q 1 hq (by decide) (by decide), ee q 2 hq (by decide) (by decide), ee q 3 hq (by decide) (by decide)⟩) (by omega), h8.fr f (fun o ho => by omega) (fun o ho => by omega) (fun o ho => by omega) (by omega), fun q hq => ?_, h10.fr f (fun l hl => by omega) (by omega), ?_, h12.fr f (by omega), g, h13.fr f, h14.fr f (by have := h13.1; omega) ⟨e _ (by decide), e _ (by decide), e _ (by decide), e _ (by decide), e _ (by decide)⟩⟩
    · obtain ⟨a1, a2, a3⟩ := h9 q hq
      rw [ee q 6 hq (by decide) (by decide), f.2 2496 (by omega), el q hq, eo q hq, en q 4 hq, en q 5 hq]
      refine ⟨?_, a2, a3⟩
      by_cases e1 : q = k
      · simp only [e1, true_and, if_true, show ((4 : Int32) = 5) = False from by decide, if_false]
        rcases hbx with rfl | ⟨l, n, hl, hn, rfl, rfl⟩
        · exact Or.inl ⟨rfl, by decide⟩
        · refine Or.inr ⟨l, n, hl, hn, rfl, ?_, rfl, ?_⟩
          · rw [show (1 : Int32) = nI 1 from rfl, na_add]
          · rw [← hO, if_pos (Int32.not_lt.mp (na_neg (by omega)))]
      · simp only [e1, false_and, if_false]
        exact a1
    · rw [e 16 (by decide)]
      exact RImg.fr (by rw [f.2 _ (by omega)]) (f.2 _ (by omega)) (f.2 _ (by omega)) h11
theorem i64_sub {x y : Int32} : (x.toInt64 - y.toInt64).toInt = x.toInt - y.toInt := by
  rw [Int64.toInt_sub, Int32.toInt_toInt64, Int32.toInt_toInt64]
  have h1 := Int32.le_toInt x
  have h2 := Int32.toInt_lt x
  have h3 := Int32.le_toInt y
  have h4 := Int32.toInt_lt y
  unfold Int.bmod
  simp only []
  split <;> omega
theorem lg_neg {x y : Int64} : lg_cmp x y < 0 ↔ x.toInt < y.toInt := by
  unfold lg_cmp
  by_cases h1 : x > y
  · rw [if_pos h1]
    have := Int64.lt_iff_toInt_lt.mp h1
    exact ⟨fun z => absurd z (by decide), fun z => by omega⟩
  · rw [if_neg h1]
    by_cases h2 : x = y
    · rw [if_pos h2, h2]
      exact ⟨fun z => absurd z (by decide), fun z => absurd z (by omega)⟩
    · rw [if_neg h2]
      refine ⟨fun _ => ?_, fun _ => by decide⟩
      have h3 : ¬ y.toInt < x.toInt := fun z => h1 (Int64.lt_iff_toInt_lt.mpr z)
      have h4 : x.toInt ≠ y.toInt := fun z => h2 (Int64.toInt_inj.mp z)
      omega
theorem m_at {F : Nat} {al : Nat → Bool} {u : Mr} (h : Inv al u) (a : Int32) : ∃ u1 r, fn_Fg_at F al u 64 a = some (u, r) ∧ fn_Md_at F al u 2048 a = some (u1, r) ∧ Inv al u1 := by
  obtain ⟨hc, hm⟩ := h.base
  obtain ⟨g, hg, hl⟩ := h.2.2.2.2.2.2.2.2.2.2.2.2
  have e : ∀ i : Int32, i ≠ 0 → (stI u 2048 0 0).1 2048 i = u.1 2048 i := fun i hi => by rw [stI_at, if_neg hi]
  obtain ⟨g2, g0, g1⟩ := hg
  obtain ⟨l0, hl⟩ := hl
  unfold fn_Fg_at bk_Fg_at_0 fn_Ld_byteAt bk_Ld_byteAt_0 fn_Md_at bk_Md_at_0 bk_Md_at_37
  rw [bd1_eq hc.1.2.2.2.2.2, e 24 (by decide), e 25 (by decide), e 26 (by decide)]
  rcases hl with ⟨z1, z2, z3, z4⟩ | ⟨z1, ⟨n, hn, i1, i2, i3⟩, ⟨ad, had, z3⟩, -⟩
  · refine ⟨stI u 2048 0 0, -1, ?_, by rw [if_pos z1], h.thr 0⟩
    rw [z3]
    by_cases h0 : a < 0
    · rw [if_pos h0]
      rfl
    · rw [if_neg h0, bd1_eq g0, z2, if_neg (by rw [Int32.sub_zero]; exact h0)]
      rfl
  · rw [if_neg (show ¬ u.1 2048 24 = 0 by rw [z1]; decide), ← l0, z3, i2]
    have hd := i64_sub (x := a) (y := nI ad)
    rw [nI_toInt (by omega)] at hd
    have e3 : (nI (64 * n)).toInt64.toInt = ((64 * n : Nat) : Int) := by rw [Int32.toInt_toInt64, nI_toInt (by omega)]
    by_cases h0 : a < nI ad
    · have h1 : a.toInt < ad := by have := Int32.lt_iff_toInt_lt.mp h0; rw [nI_toInt (by omega)] at this; exact this
      refine ⟨stI u 2048 0 0, -1, by rw [if_pos h0]; rfl, by rw [if_pos (lg_neg.mpr (by rw [hd]; show a.toInt - (ad : Int) < 0; omega))], h.thr 0⟩
    · have h1 : ¬ a.toInt < ad := fun z => h0 (by rw [Int32.lt_iff_toInt_lt, nI_toInt (by omega)]; exact z)
      have hb := Int32.toInt_lt a
      obtain ⟨m, hmz⟩ : ∃ m : Nat, a.toInt = (ad : Int) + m := ⟨(a.toInt - ad).toNat, by omega⟩
      have hm2 : m < 2 ^ 31 := by omega
      have ea : a - nI ad = nI m := by
        apply Int32.toInt_inj.mp
        rw [Int32.toInt_sub, nI_toInt (by omega), nI_toInt hm2, hmz]
        unfold Int.bmod
        simp only []
        split <;> omega
      have ed : (a.toInt64 - (nI ad).toInt64) = (nI m).toInt64 := by
        apply Int64.toInt_inj.mp
        rw [hd, Int32.toInt_toInt64, nI_toInt hm2]
        omega
      rw [if_neg h0, bd1_eq g0, i1, ea, if_neg (fun z => absurd (lg_neg.mp z) (by rw [hd]; show ¬ a.toInt - (ad : Int) < 0; omega)), ed]
      have e4 : (nI m).toInt64.toInt = (m : Int) := by rw [Int32.toInt_toInt64, nI_toInt hm2]
      by_cases h2 : m < 64 * n
      · refine ⟨stI u 2048 0 0, u.1 2626 (nI m), ?_, ?_, h.thr 0⟩
        · rw [if_pos ((na_lt hm2 (by omega)).mpr h2), bd1_eq g0]
          unfold fn_Im_byteAt bk_Im_byteAt_0
          rw [show 385 + g = 384 + (1 + g) by omega, bd1_eq (hc.2.2.2.2.1 (1 + g) (by omega)), ck_eq (in_t (by omega) (by decide)), bd2_s, bd2_s]
          have := i3 m h2
          rw [show 385 + g + 64 = 448 + (1 + g) by omega] at this
          rw [this]
        · rw [if_pos (lg_neg.mpr (by rw [e4, e3]; omega)), bd1_eq (show rdR al (stI u 2048 0 0) 2048 27 41 = some 2626 from hm.2.2.2.2.2.2.2.2.1), show (nI m).toInt64.toInt32 = nI m from Int32.toInt32_toInt64 _, ck_eq (in_t (by omega) (by decide)), stI_ne (by omega)]
      · refine ⟨stI u 2048 0 0, -1, ?_, ?_, h.thr 0⟩
        · rw [if_neg (fun z => h2 ((na_lt hm2 (by omega)).mp z))]
          rfl
        · rw [if_neg (fun z => h2 (by have := lg_neg.mp z; rw [e4, e3] at this; omega))]

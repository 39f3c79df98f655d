/-! define -/
theorem dcnt_cg {u v : Mr} {o k : Nat} : ∀ n, (∀ j, j < n → v.1 2304 (nI (6 * o + j)) = u.1 2304 (nI (6 * o + j))) → dcnt v o k n = dcnt u o k n
  | 0, _ => rfl
  | n + 1, h => by rw [dcnt, dcnt, dcnt_cg n (fun j hj => h j (by omega)), h n (by omega)]
theorem dcnt_pos {u : Mr} {o k : Nat} : ∀ n, (∃ j, j < n ∧ u.1 2304 (nI (6 * o + j)) = nI k) → 0 < dcnt u o k n
  | 0, h => by
    obtain ⟨j, hj, -⟩ := h
    omega
  | n + 1, h => by
    obtain ⟨j, hj, e⟩ := h
    rw [dcnt]
    by_cases h1 : j = n
    · subst h1
      rw [if_pos e]
      omega
    · have := dcnt_pos n ⟨j, by omega, e⟩
      omega
theorem dcnt_le {u : Mr} {o k : Nat} : ∀ n, dcnt u o k n ≤ n
  | 0 => Nat.le_refl _
  | n + 1 => by
    rw [dcnt]
    have := dcnt_le (u := u) (o := o) (k := k) n
    split <;> omega
set_option maxHeartbeats 1000000 in
theorem m_define {F : Nat} {al : Nat → Bool} {u : Mr} (h : Inv al u) (a x b y : Int32) : ∃ u1 k u2 r, fn_Lw_define F al u 64 a x b y = some (u1, k) ∧ fn_Md_define F al u1 2048 a x b y = some (u2, r) ∧ u2.1 2048 0 = k ∧ Inv al u2 := by
  obtain ⟨hc, hm⟩ := h.base
  have bad : ∀ w : Mr, bk_Md_define_26 F al w 2048 2048 a x b y = some (stI w 2048 0 1, 0) := fun w => by
    unfold bk_Md_define_26 bk_Md_define_31
    rw [e_fails (Or.inr rfl)]
    rfl
  have bad2 : ∀ w : Mr, bk_Md_define_60 F al w 2048 2048 a x b y = some (stI w 2048 0 1, 0) := fun w => by
    unfold bk_Md_define_60 bk_Md_define_65
    rw [e_fails (Or.inr rfl)]
    rfl
  by_cases hs : (a < 0 ∨ 4 ≤ a) ∨ (x < 0 ∨ 16 ≤ x) ∨ (b < 0 ∨ 2 ≤ b)
  · refine ⟨u, 1, stI u 2048 0 1, 0, ?_, ?_, stI_same, h.thr 1⟩
    · have e1 : fn_Fg_define F al u 64 a x b y = some (u, 1, 0) := by
        unfold fn_Fg_define bk_Fg_define_0 bk_Fg_define_25
        rw [e_below, bd2_s]
        by_cases h1 : a < 0 ∨ 4 ≤ a
        · rw [if_pos h1, if_pos rfl]
        · rw [if_neg h1, if_neg (by decide), e_below, bd2_s]
          by_cases h2 : x < 0 ∨ 16 ≤ x
          · rw [if_pos h2, if_pos rfl]
          · rw [if_neg h2, if_neg (by decide), e_below, bd2_s, if_pos ((hs.resolve_left h1).resolve_left h2), if_pos rfl]
      unfold fn_Lw_define bk_Lw_define_0
      rw [e1]
      rfl
    · unfold fn_Md_define bk_Md_define_0
      rw [e_out, bd2_s]
      by_cases h1 : a < 0 ∨ 4 ≤ a
      · rw [if_pos h1, if_neg (by decide)]
        exact bad u
      · rw [if_neg h1, if_pos rfl, e_out, bd2_s]
        by_cases h2 : x < 0 ∨ 16 ≤ x
        · rw [if_pos h2, if_neg (by decide)]
          exact bad u
        · rw [if_neg h2, if_pos rfl, e_out, bd2_s, if_pos ((hs.resolve_left h1).resolve_left h2), if_neg (by decide)]
          exact bad u
  · have n1 : ¬ (a < 0 ∨ 4 ≤ a) := fun z => hs (Or.inl z)
    have n2 : ¬ (x < 0 ∨ 16 ≤ x) := fun z => hs (Or.inr (Or.inl z))
    have n3 : ¬ (b < 0 ∨ 2 ≤ b) := fun z => hs (Or.inr (Or.inr z))
    obtain ⟨o, ho, rfl⟩ := na_sp (n := 4) (by decide) n1
    obtain ⟨k, hk, rfl⟩ := na_sp (n := 16) (by decide) n2
    obtain ⟨p, hp, rfl⟩ := na_sp (n := 2) (by decide) n3
    obtain ⟨s, hs40, p1, p2, -, -⟩ := h.2.2.2.2.2.1 (2 * o + p) (by omega)
    obtain ⟨d, d1, d2, d3⟩ := h.2.2.2.2.2.2.1
    obtain ⟨g1, g2, g3⟩ := d1 o ho
    have hix : ((2 : Int32) * nI o) + nI p = nI (2 * o + p) := by rw [show (2 : Int32) = nI 2 from rfl, na_mul, na_add]
    have ec : fn_Fg_define F al u 64 (nI o) (nI k) (nI p) y = if y < 0 then some (u, 1, 0) else if y ≤ nI s then (if nI (d o) < 6 then bd1 (rdR al (stI u (896 + o) 2 (nI (d o) + 1)) 64 1 3) (fun y14 => ck (inb (nI k) 16) (bd1 (rdR al (stI u (896 + o) 2 (nI (d o) + 1)) y14 (nI k) 20) fun y17 => (bd2 (fn_Nm_defineAt F al (stI u (896 + o) 2 (nI (d o) + 1)) y17 (nI o) (nI p) y) fun u19 v19 => (some (u19, 0, 0))))) else some (u, 2, 0)) else some (u, 1, 0) := by
      unfold fn_Fg_define bk_Fg_define_0 bk_Fg_define_63
      rw [e_below, bd2_s, if_neg n1, if_neg (by decide), e_below, bd2_s, if_neg n2, if_neg (by decide), e_below, bd2_s, if_neg n3, if_neg (by decide), bd1_eq hc.1.1, ck_eq (in_t ho (by decide)), bd1_eq (hc.2.1 o ho)]
      by_cases h0 : y < 0
      · rw [if_pos h0, if_pos h0]
      · rw [if_neg h0, if_neg h0, bd1_eq (hc.2.2.2.2.2.2.2.1 o ho).1, ck_eq (in_t hp (by decide)), bd1_eq (hc.2.2.2.2.2.2.2.2.1 o p ho hp), p1, g2]
    have em : ∀ w : Mr, Sm al w → w.1 2112 (nI (2 * o + p)) = nI s → w.1 2240 (nI o) = nI (d o) → fn_Md_define F al w 2048 (nI o) (nI k) (nI p) y = if y < 0 then some (stI (stI w 2048 0 0) 2048 0 1, 0) else if y ≤ nI s then (if nI (d o) = 6 then some (stI (stI (stI w 2048 0 0) 2048 0 0) 2048 0 2, 0) else bk_Md_define_89 F al (stI (stI w 2048 0 0) 2048 0 0) 2048 0 2048 (nI o) (nI k) (nI p) y) else some (stI (stI w 2048 0 0) 2048 0 1, 0) := fun w hw hw2 hw3 => by
      unfold fn_Md_define bk_Md_define_0
      rw [e_out, bd2_s, if_neg n1, if_pos rfl, e_out, bd2_s, if_neg n2, if_pos rfl, e_out, bd2_s, if_neg n3, if_pos rfl]
      unfold bk_Md_define_31
      rw [e_fails (Or.inl rfl), bd2_s, if_pos rfl, if_pos rfl]
      by_cases h0 : y < 0
      · rw [if_pos h0, if_pos h0]
        exact bad2 _
      · rw [if_neg h0, if_neg h0, bd1_eq (show rdR al (stI w 2048 0 0) 2048 1 33 = some 2112 from hw.1.1), hix, ck_eq (in_t (by omega) (by decide)), stI_ne (by omega), hw2]
        by_cases h1 : y ≤ nI s
        · rw [if_pos h1, if_pos h1]
          unfold bk_Md_define_65
          rw [e_fails (Or.inl rfl), bd2_s, if_pos rfl, if_pos rfl, bd1_eq (show rdR al (stI (stI w 2048 0 0) 2048 0 0) 2048 3 35 = some 2240 from hw.1.2.2.1), ck_eq (in_t ho (by decide)), stI_ne (by omega), stI_ne (by omega), hw3]
          by_cases h2 : nI (d o) = 6
          · rw [if_pos h2, if_pos h2]
            unfold bk_Md_define_89
            rw [e_fails (Or.inr rfl), bd2_s, if_neg (by decide)]
            rfl
          · rw [if_neg h2, if_neg h2]
        · rw [if_neg h1, if_neg h1]
          exact bad2 _
    by_cases h0 : y < 0
    · refine ⟨u, 1, stI (stI u 2048 0 0) 2048 0 1, 0, ?_, by rw [em u hm p2 g3, if_pos h0], stI_same, (h.thr 0).thr 1⟩
      unfold fn_Lw_define bk_Lw_define_0
      rw [ec, if_pos h0]
      rfl
    by_cases h1 : ¬ y ≤ nI s
    · refine ⟨u, 1, stI (stI u 2048 0 0) 2048 0 1, 0, ?_, by rw [em u hm p2 g3, if_neg h0, if_neg h1], stI_same, (h.thr 0).thr 1⟩
      unfold fn_Lw_define bk_Lw_define_0
      rw [ec, if_neg h0, if_neg h1]
      rfl
    replace h1 := Classical.byContradiction h1
    by_cases h2 : ¬ d o < 6
    · have e6 : nI (d o) = 6 := by rw [show d o = 6 by omega]; rfl
      refine ⟨u, 2, stI (stI (stI u 2048 0 0) 2048 0 0) 2048 0 2, 0, ?_, by rw [em u hm p2 g3, if_neg h0, if_pos h1, if_pos e6], stI_same, ((h.thr 0).thr 0).thr 2⟩
      unfold fn_Lw_define bk_Lw_define_0
      rw [ec, if_neg h0, if_pos h1, if_neg (by rw [e6]; decide)]
      rfl
    replace h2 := Classical.byContradiction h2
    obtain ⟨t, ht, rfl⟩ := na_of h0
    have hts : t ≤ s := (na_le ht (by omega)).mp h1
    obtain ⟨c1, c2, c3⟩ := d3 k hk
    generalize hcn : dcnt u 0 k (d 0) + dcnt u 1 k (d 1) + dcnt u 2 k (d 2) + dcnt u 3 k (d 3) = cn at c1
    have hlt6 : nI (d o) < (6 : Int32) := (na_lt (b := 6) (by omega) (by decide)).mpr h2
    have hne6 : ¬ nI (d o) = (6 : Int32) := fun z => by
      have := nI_inj (a := d o) (b := 6) (by omega) (by decide) z
      omega
    have e61 : ((6 : Int32) * nI o) + nI (d o) = nI (6 * o + d o) := by rw [show (6 : Int32) = nI 6 from rfl, na_mul, na_add]
    generalize hw1 : stI (stI (stI (stI (stI u (896 + o) 2 (nI (d o + 1))) (1280 + k) 0 (nI (cn + 1))) (1280 + k) 1 (nI o)) (1280 + k) 2 (nI p)) (1280 + k) 3 (nI t) = w1
    have f1 : Fr (fun q => q = 896 + o ∨ q = 1280 + k) u w1 := by
      rw [← hw1]
      exact Fr.trans (Fr.trans (Fr.trans (Fr.trans (Fr.st (by omega)) (Fr.st (by omega))) (Fr.st (by omega))) (Fr.st (by omega))) (Fr.st (by omega))
    generalize hw2 : stI (stI (stI (stI (stI (stI w1 2048 0 0) 2048 0 0) 2304 (nI (6 * o + d o)) (nI k)) 2305 (nI (6 * o + d o)) (nI p)) 2306 (nI (6 * o + d o)) (nI t)) 2240 (nI o) (nI (d o + 1)) = w2
    refine ⟨w1, 0, stI w2 2048 0 0, 0, ?_, ?_, stI_same, Inv.thr ?_ 0⟩
    · unfold fn_Lw_define bk_Lw_define_0
      rw [ec, if_neg h0, if_pos h1, if_pos hlt6, bd1_eq (show rdR al (stI u (896 + o) 2 (nI (d o) + 1)) 64 1 3 = some 192 from hc.1.2.1), ck_eq (in_t hk (by decide)), bd1_eq (show rdR al (stI u (896 + o) 2 (nI (d o) + 1)) 192 (nI k) 20 = some (1280 + k) from hc.2.2.1 k hk), show nI (d o) + (1 : Int32) = nI (d o + 1) from na_add _ 1]
      unfold fn_Nm_defineAt bk_Nm_defineAt_0
      rw [stI_ne (by omega), c1, show nI cn + (1 : Int32) = nI (cn + 1) from na_add _ 1, bd2_s, hw1]
      rfl
    · rw [em w1 (hm.fr f1) (by rw [f1.2 _ (by omega)]; exact p2) (by rw [f1.2 _ (by omega)]; exact g3), if_neg h0, if_pos h1, if_neg hne6]
      have hmw := hm.fr f1
      unfold bk_Md_define_89
      rw [e_fails (Or.inl rfl), bd2_s, if_pos rfl, if_pos rfl]
      have e0 : stI (stI (stI w1 2048 0 0) 2048 0 0) 2048 0 0 = stI (stI w1 2048 0 0) 2048 0 0 := by
        unfold stI
        refine Prod.ext ?_ rfl
        funext q i
        by_cases e1 : q = 2048 ∧ i = 0
        · simp [e1]
        · simp [e1]
      simp only [e0, rdR_I]
      rw [bd1_eq hmw.1.2.2.1, ck_eq (in_t ho (by decide)), bd1_eq hmw.1.2.2.2.1]
      have e2240 : (stI (stI w1 2048 0 0) 2048 0 0).1 2240 (nI o) = nI (d o) := by rw [stI_ne (by omega), stI_ne (by omega), f1.2 _ (by omega)]; exact g3
      rw [e2240, e61, ck_eq (in_t (by omega) (by decide)), bd1_eq hmw.1.2.2.2.2.1, ck_eq (in_t (by omega) (by decide)), bd1_eq hmw.1.2.2.2.2.2.1, ck_eq (in_t (by omega) (by decide)), bd1_eq hmw.1.2.2.1, ck_eq (in_t ho (by decide)), ck_eq (in_t ho (by decide)), stI_ne (show (2240 : Nat) ≠ 2306 by decide), stI_ne (show (2240 : Nat) ≠ 2305 by decide), stI_ne (show (2240 : Nat) ≠ 2304 by decide), e2240, show nI (d o) + (1 : Int32) = nI (d o + 1) from na_add _ 1, hw2]
      have e3 : stI w2 2048 0 0 = w2 := by
        have hz : w2.1 2048 0 = 0 := by rw [← hw2, stI_ne (by decide), stI_ne (by decide), stI_ne (by decide), stI_ne (by decide), stI_same]
        unfold stI
        refine Prod.ext ?_ rfl
        funext q i
        show (if q = 2048 ∧ i = 0 then 0 else w2.1 q i) = w2.1 q i
        by_cases e1 : q = 2048 ∧ i = 0
        · rw [if_pos e1, e1.1, e1.2, hz]
        · rw [if_neg e1]
      rw [e3]
    · obtain ⟨h1', h2', h3', h4', h5', h6', h7', h8', h9', h10', h11', h12', g', h13', h14'⟩ := h
      have f2 : Fr (fun q => q = 2048 ∨ q = 2240 ∨ q = 2304 ∨ q = 2305 ∨ q = 2306) w1 w2 := by
        rw [← hw2]
        exact Fr.trans (Fr.trans (Fr.trans (Fr.trans (Fr.trans (Fr.st (by omega)) (Fr.st (by omega))) (Fr.st (by omega))) (Fr.st (by omega))) (Fr.st (by omega))) (Fr.st (by omega))
      have f : Fr (fun q => q = 896 + o ∨ q = 1280 + k ∨ q = 2048 ∨ q = 2240 ∨ q = 2304 ∨ q = 2305 ∨ q = 2306) u w2 := Fr.trans (f1.mono (fun q hq => by omega)) (f2.mono (fun q hq => by omega))
      have e : ∀ i : Int32, i ≠ 0 → w2.1 2048 i = u.1 2048 i := fun i hi => by rw [← hw2, stI_ne (by decide), stI_ne (by decide), stI_ne (by decide), stI_ne (by decide), stI_at, if_neg hi, stI_at, if_neg hi, f1.2 _ (by omega)]
      have en : ∀ i, w2.1 (1280 + k) i = if i = 3 then nI t else if i = 2 then nI p else if i = 1 then nI o else if i = 0 then nI (cn + 1) else u.1 (1280 + k) i := fun i => by
        rw [f2.2 _ (by omega), ← hw1, stI_at, stI_at, stI_at, stI_at, stI_ne (by omega)]
      have eo : w2.1 (896 + o) 2 = nI (d o + 1) := by rw [f2.2 _ (by omega), ← hw1, stI_ne (by omega), stI_ne (by omega), stI_ne (by omega), stI_ne (by omega), stI_same]
      have e4 : ∀ j, j < 24 → w2.1 2304 (nI j) = if j = 6 * o + d o then nI k else u.1 2304 (nI j) := fun j hj => by
        rw [← hw2, stI_ne (by decide), stI_ne (by decide), stI_ne (by decide), stI_at, stI_ne (by decide), stI_ne (by decide), f1.2 _ (by omega)]
        by_cases e1 : j = 6 * o + d o
        · rw [if_pos (by rw [e1]), if_pos e1]
        · rw [if_neg (fun z => e1 (nI_inj (by omega) (by omega) z)), if_neg e1]
      have e5 : ∀ j, j < 24 → w2.1 2305 (nI j) = if j = 6 * o + d o then nI p else u.1 2305 (nI j) := fun j hj => by
        rw [← hw2, stI_ne (by decide), stI_ne (by decide), stI_at, stI_ne (by decide), stI_ne (by decide), stI_ne (by decide), f1.2 _ (by omega)]
        by_cases e1 : j = 6 * o + d o
        · rw [if_pos (by rw [e1]), if_pos e1]
        · rw [if_neg (fun z => e1 (nI_inj (by omega) (by omega) z)), if_neg e1]
      have e6 : ∀ j, j < 24 → w2.1 2306 (nI j) = if j = 6 * o + d o then nI t else u.1 2306 (nI j) := fun j hj => by
        rw [← hw2, stI_ne (by decide), stI_at, stI_ne (by decide), stI_ne (by decide), stI_ne (by decide), stI_ne (by decide), f1.2 _ (by omega)]
        by_cases e1 : j = 6 * o + d o
        · rw [if_pos (by rw [e1]), if_pos e1]
        · rw [if_neg (fun z => e1 (nI_inj (by omega) (by omega) z)), if_neg e1]
      have e7 : ∀ q, q < 4 → w2.1 2240 (nI q) = if q = o then nI (d o + 1) else u.1 2240 (nI q) := fun q hq => by
        rw [← hw2, stI_at, stI_ne (by decide), stI_ne (by decide), stI_ne (by decide), stI_ne (by decide), stI_ne (by decide), f1.2 _ (by omega)]
        by_cases e1 : q = o
        · rw [if_pos (by rw [e1]), if_pos e1]
        · rw [if_neg (fun z => e1 (nI_inj (by omega) (by omega) z)), if_neg e1]
      refine ⟨h1', h2'.fr f, h3'.fr f, h4'.fr f, h5'.fr f (fun q hq => by omega), h6'.fr f (fun q hq => by omega) (by omega), ?_, h8'.fr f (fun q hq => by omega) (fun q hq => by omega) (fun q hq => by omega) (by omega), h9'.fr f (fun q hq => ?_) (by omega), h10'.fr f (fun l hl => by omega) (by omega), ?_, h12'.fr f (by omega), g', h13'.fr f, h14'.fr f (by have := h13'.1; omega) ⟨e _ (by decide), e _ (by decide), e _ (by decide), e _ (by decide), e _ (by decide)⟩⟩
      · have ed : ∀ o' k' n', o' < 4 → n' ≤ d o' → dcnt w2 o' k' n' = dcnt u o' k' n' := fun o' k' n' ho' hn' => dcnt_cg n' (fun j hj => by
          have h9 := (d1 o' ho').1
          rw [e4 _ (by omega), if_neg (fun z => ?_)]
          by_cases e9 : o' = o
          · subst e9
            omega
          · omega)
        have hd6 : ∀ o', o' < 4 → d o' ≤ 6 := fun o' ho' => (d1 o' ho').1
        refine ⟨fun q => if q = o then d o + 1 else d q, fun o' ho' => ?_, fun o' j ho' hj => ?_, fun k' hk' => ?_⟩
        · by_cases e1 : o' = o
          · subst e1
            simp only [if_true]
            exact ⟨by omega, eo, by rw [e7 _ ho', if_pos rfl]⟩
          · simp only [e1, if_false]
            rw [f.2 (896 + o') (by omega), e7 _ ho', if_neg e1]
            exact d1 o' ho'
        · have hj6 : j < 6 := by
            have := hd6 o' ho'
            by_cases e1 : o' = o
            · simp only [e1, if_true] at hj; omega
            · simp only [e1, if_false] at hj; omega
          rw [e4 _ (by omega), e5 _ (by omega), e6 _ (by omega)]
          by_cases e1 : 6 * o' + j = 6 * o + d o
          · rw [if_pos e1, if_pos e1, if_pos e1]
            exact ⟨⟨k, hk, rfl⟩, ⟨p, hp, rfl⟩, t, by omega, rfl⟩
          · rw [if_neg e1, if_neg e1, if_neg e1]
            refine d2 o' j ho' ?_
            by_cases e2 : o' = o
            · subst e2
              simp only [if_true] at hj
              omega
            · simp only [e2, if_false] at hj
              exact hj
        · have cnt : ∀ o', o' < 4 → dcnt w2 o' k' (if o' = o then d o + 1 else d o') = dcnt u o' k' (d o') + if o' = o ∧ k = k' then 1 else 0 := fun o' ho' => by
            by_cases e1 : o' = o
            · subst e1
              rw [if_pos rfl, dcnt, ed o' k' (d o') ho' (Nat.le_refl _), e4 _ (by omega), if_pos rfl]
              by_cases e2 : k = k'
              · rw [if_pos (by rw [e2]), if_pos ⟨rfl, e2⟩]
              · rw [if_neg (fun z => e2 (nI_inj (by omega) (by omega) z)), if_neg (fun z => e2 z.2)]
            · rw [if_neg e1, ed o' k' (d o') ho' (Nat.le_refl _), if_neg (fun z => e1 z.1)]
              rfl
          have tot : dcnt w2 0 k' (if 0 = o then d o + 1 else d 0) + dcnt w2 1 k' (if 1 = o then d o + 1 else d 1) + dcnt w2 2 k' (if 2 = o then d o + 1 else d 2) + dcnt w2 3 k' (if 3 = o then d o + 1 else d 3) = dcnt u 0 k' (d 0) + dcnt u 1 k' (d 1) + dcnt u 2 k' (d 2) + dcnt u 3 k' (d 3) + if k = k' then 1 else 0 := by
            rw [cnt 0 (by omega), cnt 1 (by omega), cnt 2 (by omega), cnt 3 (by omega)]
            by_cases e2 : k = k'
            · simp only [e2, and_true, if_true]
              rcases (show o = 0 ∨ o = 1 ∨ o = 2 ∨ o = 3 by omega) with e3 | e3 | e3 | e3 <;> subst e3 <;> simp <;> omega
            · simp only [e2, and_false, if_false]
              omega
          show w2.1 (1280 + k') 0 = nI (dcnt w2 0 k' (if 0 = o then d o + 1 else d 0) + dcnt w2 1 k' (if 1 = o then d o + 1 else d 1) + dcnt w2 2 k' (if 2 = o then d o + 1 else d 2) + dcnt w2 3 k' (if 3 = o then d o + 1 else d 3)) ∧ _
          rw [tot]
          by_cases e2 : k = k'
          · subst e2
            rw [if_pos rfl, hcn, en, en, en, en]
            refine ⟨by simp, ⟨o, p, t, ho, hp, by omega, by simp, by simp, by simp⟩, fun o' j ho' hj hn hone => ?_⟩
            have hcn0 : cn = 0 := by
              have hb : nI (cn + 1) = nI 1 := by
                have h9 := hone
                simp at h9
                exact h9
              have hle : cn + 1 < 2 ^ 31 := by
                have := dcnt_le (u := u) (o := 0) (k := k) (d 0)
                have := dcnt_le (u := u) (o := 1) (k := k) (d 1)
                have := dcnt_le (u := u) (o := 2) (k := k) (d 2)
                have := dcnt_le (u := u) (o := 3) (k := k) (d 3)
                have := hd6 0 (by omega)
                have := hd6 1 (by omega)
                have := hd6 2 (by omega)
                have := hd6 3 (by omega)
                omega
              have := nI_inj hle (by decide) hb
              omega
            have hj6 : j < 6 := by
              have := hd6 o' ho'
              by_cases e1 : o' = o
              · simp only [e1, if_true] at hj; omega
              · simp only [e1, if_false] at hj; omega
            by_cases e1 : 6 * o' + j = 6 * o + d o
            · have : o' = o := by omega
              subst this
              rw [e5 _ (by omega), if_pos e1, e6 _ (by omega), if_pos e1]
              exact ⟨by simp, by simp, by simp⟩
            · exfalso
              rw [e4 _ (by omega), if_neg e1] at hn
              have hjd : j < d o' := by
                by_cases e3 : o' = o
                · subst e3
                  simp only [if_true] at hj
                  omega
                · simp only [e3, if_false] at hj
                  exact hj
              have hp0 := dcnt_pos (d o') ⟨j, hjd, hn⟩
              rcases (show o' = 0 ∨ o' = 1 ∨ o' = 2 ∨ o' = 3 by omega) with e3 | e3 | e3 | e3 <;> subst e3 <;> omega
          · rw [if_neg e2, Nat.add_zero, f.2 (1280 + k') (by omega)]
            obtain ⟨q1, q2, q3⟩ := d3 k' hk'
            refine ⟨q1, q2, fun o' j ho' hj hn hone => ?_⟩
            have hj6 : j < 6 := by
              have := hd6 o' ho'
              by_cases e1 : o' = o
              · simp only [e1, if_true] at hj; omega
              · simp only [e1, if_false] at hj; omega
            by_cases e1 : 6 * o' + j = 6 * o + d o
            · rw [e4 _ (by omega), if_pos e1] at hn
              exact absurd (nI_inj (by omega) (by omega) hn) e2
            · rw [e4 _ (by omega), if_neg e1] at hn
              rw [e5 _ (by omega), if_neg e1, e6 _ (by omega), if_neg e1]
              refine q3 o' j ho' ?_ hn hone
              by_cases e3 : o' = o
              · subst e3
                simp only [if_true] at hj
                omega
              · simp only [e3, if_false] at hj
                exact hj
      · by_cases e1 : q = k
        · subst e1
          rw [en, en, en]
          simp
        · rw [f.2 (1280 + q) (by omega)]
          exact ⟨rfl, rfl, rfl⟩
      · rw [e 16 (by decide)]
        exact RImg.fr (by rw [f.2 _ (by omega)]) (f.2 _ (by omega)) (f.2 _ (by omega)) h11'

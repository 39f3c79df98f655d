theorem cpk_t {u : Mr} {k0 n0 n1 s d q : Nat} (hs : s + q ≤ n0) (hd : d + q ≤ n1) (h0 : n0 < 2 ^ 31) (h1 : n1 < 2 ^ 31) (hb : ∀ i, byt (u.1 k0 i)) : cpk u k0 n0 (nI s) n1 (nI d) (nI q) = true := by
  unfold cpk
  rw [nI_clamp (by omega), nI_clamp (by omega), nI_clamp (by omega), decide_eq_true (na_neg (show s < 2 ^ 31 by omega)), decide_eq_true (na_neg (show d < 2 ^ 31 by omega)), decide_eq_true (na_neg (show q < 2 ^ 31 by omega)), decide_eq_true hs, decide_eq_true hd]
  simp only [Bool.true_and, List.all_eq_true]
  exact fun i _ => hb _
theorem cpI_wr {u : Mr} {k0 k s d q : Nat} (hd : d < 2 ^ 31) (hq : q < 2 ^ 31) (hs : s < 2 ^ 31) : cpI u k0 (nI s) k (nI d) (nI q) = wr u k d q (fun i => u.1 k0 (nI (s + i))) := by
  unfold cpI wr
  refine Prod.ext ?_ rfl
  funext a b
  show (if a = k ∧ (nI d).toInt ≤ b.toInt ∧ b.toInt < (nI d).toInt + (nI q).toInt then u.1 k0 (nI ((nI s).toNatClampNeg + (b.toNatClampNeg - (nI d).toNatClampNeg))) else u.1 a b) = if a = k ∧ ¬ b < 0 ∧ d ≤ b.toNatClampNeg ∧ b.toNatClampNeg < d + q then u.1 k0 (nI (s + (b.toNatClampNeg - d))) else u.1 a b
  rw [nI_clamp hs, nI_clamp hd, nI_toInt hd, nI_toInt hq]
  by_cases hb : b < 0
  · have : b.toInt < 0 := Int32.lt_iff_toInt_lt.mp hb
    rw [if_neg (fun z => by have := z.2.1; omega), if_neg (fun z => z.2.1 hb)]
  · obtain ⟨c, hc, rfl⟩ := na_of hb
    rw [nI_clamp hc, nI_toInt hc]
    by_cases h : a = k ∧ d ≤ c ∧ c < d + q
    · rw [if_pos ⟨h.1, by omega, by omega⟩, if_pos ⟨h.1, hb, h.2⟩]
    · rw [if_neg (fun z => h ⟨z.1, by omega, by omega⟩), if_neg (fun z => h ⟨z.1, z.2.2⟩)]
theorem stR_ne {u : Mr} {k a : Nat} {i : Int32} {x : Option Nat} (h : a ≠ k) : (stR u k i x).2.1 a = u.2.1 a := by
  funext b
  show (if a = k ∧ b = i then x else u.2.1 a b) = u.2.1 a b
  rw [if_neg (fun z => h z.1)]
theorem stR_at {u : Mr} {k : Nat} {i b : Int32} {x : Option Nat} : (stR u k i x).2.1 k b = if b = i then x else u.2.1 k b := by
  show (if k = k ∧ b = i then x else u.2.1 k b) = _
  by_cases h : b = i
  · rw [if_pos ⟨rfl, h⟩, if_pos h]
  · rw [if_neg (fun z => h z.2), if_neg h]
theorem Sm.row {al : Nat → Bool} {u v : Mr} (h : v.2.1 2048 = u.2.1 2048) (q : Sm al u) : Sm al v := by
  have e : ∀ i T, rdR al v 2048 i T = rdR al u 2048 i T := fun i T => by
    unfold rdR
    rw [h]
  unfold Sm at q ⊢
  simp only [e]
  exact q
theorem Sc.ne {al : Nat → Bool} {u w : Mr} (he : ∀ k i, k ≠ 832 → w.2.1 k i = u.2.1 k i) (h : Sc al u) : Sc al w := by
  obtain ⟨⟨a1, a2, a3, a4, a5, a6⟩, b, c, d, e, ⟨f1, f2, f3⟩, g, i, j, k⟩ := h
  have q : ∀ {k a T : Nat} {i : Int32}, k ≠ 832 → rdR al u k i T = some a → rdR al w k i T = some a := fun hk h => rd_up (fun _ z => z) (he _ _ hk) h
  exact ⟨⟨q (by omega) a1, q (by omega) a2, q (by omega) a3, q (by omega) a4, q (by omega) a5, q (by omega) a6⟩, fun o ho => q (by omega) (b o ho), fun o ho => q (by omega) (c o ho), fun o ho => q (by omega) (d o ho), fun o ho => q (by omega) (e o ho), ⟨q (by omega) f1, q (by omega) f2, q (by omega) f3⟩, fun o ho => q (by omega) (g o ho), fun o ho => ⟨q (by omega) (i o ho).1, q (by omega) (i o ho).2⟩, fun o p ho hp => q (by omega) (j o p ho hp), fun o ho => q (by omega) (k o ho)⟩
theorem Sr.ne {al : Nat → Bool} {u w : Mr} (he : ∀ k i, k ≠ 832 → w.2.1 k i = u.2.1 k i) (h1 : ∀ o, o < 4 → w.1 (1152 + o) = u.1 (1152 + o)) (h : Sr al u) : Sr al w := by
  intro o ho
  obtain ⟨n, b1, b2, b3, b4, b5⟩ := h o ho
  refine ⟨n, b1, by rw [h1 o ho]; exact b2, fun z => by rw [he _ _ (by omega)]; exact b3 z, fun z => ?_, b5⟩
  obtain ⟨c1, c2⟩ := b4 z
  exact ⟨rd_up (fun _ z => z) (he _ _ (by omega)) c1, fun r hr => rd_up (fun _ z => z) (he _ _ (by omega)) (c2 r hr)⟩
theorem m_load {f : Nat} {al : Nat → Bool} {u : Mr} (h : Inv al u) (x : Int32) : ∃ u1 k u2 r, fn_Lw_load (f + 4000) al u 64 x 1408 = some (u1, k) ∧ fn_Md_load (f + 4000) al u1 2048 x = some (u2, r) ∧ u2.1 2048 0 = k ∧ (k = 0 → u2.2.2 1408 0 = r.toInt64) ∧ Inv al u2 := by
  obtain ⟨hc, hm⟩ := h.base
  obtain ⟨n, hn, i1, i2, i3⟩ := h.2.2.2.2.2.2.2.2.2.2.1
  by_cases hx : x < 0 ∨ 1073741824 < x ∨ ¬ (x - x / 64 * 64 = 0)
  · have bad : bk_Md_load_18 (f + 4000) al u 2048 2048 x = some (stI u 2048 0 1, 0) := by
      unfold bk_Md_load_18 bk_Md_load_23
      rw [e_fails (Or.inr rfl), bd2_s, if_neg (by decide)]
      rfl
    refine ⟨u, 1, stI u 2048 0 1, 0, ?_, ?_, stI_same, fun z => absurd z (by decide), h.thr 1⟩
    · unfold fn_Lw_load bk_Lw_load_0 fn_Fg_load bk_Fg_load_0 bk_Fg_load_17
      by_cases x1 : x < 0
      · rw [if_pos x1]
        rfl
      rw [if_neg x1]
      by_cases x2 : 1073741824 < x
      · rw [if_pos x2]
        rfl
      rw [if_neg x2, if_neg ((hx.resolve_left x1).resolve_left x2)]
      rfl
    · unfold fn_Md_load bk_Md_load_0
      by_cases x1 : x < 0
      · rw [if_pos x1, bad]
      rw [if_neg x1]
      by_cases x2 : 1073741824 < x
      · rw [if_pos x2, bad]
      rw [if_neg x2, if_neg ((hx.resolve_left x1).resolve_left x2), bad]
  have x1 : ¬ x < 0 := fun z => hx (Or.inl z)
  have x2 : ¬ 1073741824 < x := fun z => hx (Or.inr (Or.inl z))
  have x3 : x - x / 64 * 64 = 0 := Classical.byContradiction fun z => hx (Or.inr (Or.inr z))
  by_cases hn0 : n = 0
  · have z16 : u.1 2048 16 = 0 := by rw [i2, hn0]; rfl
    have z384 : u.1 384 1 = 0 := by rw [i1, hn0]; rfl
    refine ⟨u, 2, stI u 2048 0 2, 0, ?_, ?_, stI_same, fun z => absurd z (by decide), h.thr 2⟩
    · unfold fn_Lw_load bk_Lw_load_0 fn_Fg_load bk_Fg_load_0
      rw [if_neg x1, if_neg x2, if_pos x3, bd1_eq hc.1.2.2.2.1]
      unfold fn_Im_isNone bk_Im_isNone_0
      rw [if_pos z384, bd2_s, if_neg (by decide)]
      rfl
    · unfold fn_Md_load bk_Md_load_0
      rw [if_neg x1, if_neg x2, if_pos x3]
      unfold bk_Md_load_23
      rw [e_fails (Or.inl rfl), bd2_s, if_pos rfl, if_pos rfl, stI_at, if_neg (show ¬ (16 : Int32) = 0 by decide), if_pos z16]
      unfold bk_Md_load_43
      rw [e_fails (Or.inr rfl), bd2_s, if_neg (by decide), if_neg (by decide), st_st]
  have hn1 : 0 < n ∧ n ≤ 14 := by omega
  have ne16 : ¬ nI (64 * n) = 0 := fun z => by
    have := nI_inj (b := 0) (by omega) (by decide) z
    omega
  obtain ⟨h1', h2', h3', h4', h5', h6', h7', h8', h9', h10', h11', h12', g, h13', h14'⟩ := h
  obtain ⟨hg, g0, g1⟩ := h13'
  obtain ⟨a, ha, ex⟩ := na_of x1
  have hab : a ≤ 1073741824 := by
    rw [ex] at x2
    rcases Nat.lt_or_ge 1073741824 a with z | z
    · exact absurd ((na_lt (a := 1073741824) (by decide) ha).mpr z) x2
    · exact z
  generalize hD : 386 - g = D at g1
  have hD2 : D = 385 ∨ D = 386 := by omega
  have hDb : rdR al u D 0 7 = some (D + 64) := by
    rcases hD2 with e | e
    · rw [e]
      exact hc.2.2.2.2.1 1 (by decide)
    · rw [e]
      exact hc.2.2.2.2.1 2 (by decide)
  generalize hA : stI (wr u (D + 64) 0 (64 * n) (fun i => u.1 448 (nI (0 + i)))) D 1 (nI (64 * n)) = uA
  have fA : Fr (fun k => k = D ∨ k = D + 64) u uA := by
    rw [← hA]
    exact Fr.trans (wr_fr (Or.inr rfl)) (Fr.st (Or.inl rfl))
  have dA : ∀ j, j < 64 * n → uA.1 (D + 64) (nI j) = uA.1 448 (nI j) := fun j hj => by
    rw [fA.2 448 (by omega), ← hA, stI_ne (by omega), wr_at (by omega), if_pos (by omega), Nat.zero_add, Nat.sub_zero]
  have bA : ∀ z, byt (uA.1 (D + 64) z) := fun z => by
    rw [← hA, stI_ne (by omega)]
    refine wr_byt ?_ (fun i => h12'.1 _) z
    rcases hD2 with e | e
    · rw [e]
      exact h12'.2.1
    · rw [e]
      exact h12'.2.2
  have sA : uA.1 D 1 = nI (64 * n) := by rw [← hA, stI_same]
  have base : ∀ w : Mr, Sm al w → w.1 2048 16 = nI (64 * n) → w.1 2624 = u.1 2624 → w.1 2560 = u.1 2560 → LdB al n D uA w := fun w w1 w2 w3 w4 => by
    refine ⟨hc.fr fA, hD2, fA.rd.trans g1, w1, hn1, by rw [fA.2 384 (by omega)]; exact i1, w2, ?_, ?_⟩
    · rw [fA.2 448 (by omega), w3]
      exact i3
    · intro l m hl hm'
      rw [fA.2 (320 + l) (by omega), w4]
      exact h10' l m hl hm'
  -- the class
  obtain ⟨uc, um0, v, p1, -, p3, -, p5, -⟩ := ld_prep (f := f) (x := x) (base (stI u 2048 31 0) (hm.any rfl) (by rw [stI_at, if_neg (by decide)]; exact i2) (stI_ne (by decide)) (stI_ne (by decide))) stI_same dA bA
  have fC : Fr (fun k => k = D ∨ k = D + 64) u uc := fA.trans (p3.1.mono (fun k hk => Or.inr hk))
  have bC := p3.2.2.2.2.1
  have sC : uc.1 D 1 = nI (64 * n) := by rw [p3.1.2 D (by omega)]; exact sA
  have w48 : wc u 448 48 = wm u 2624 48 := wc_wm (fun j h1 h2 => i3 j (by omega))
  have w52 : wc u 448 52 = wm u 2624 52 := wc_wm (fun j h1 h2 => i3 j (by omega))
  have pre : ∀ (uF : Mr) (r : Nat × Int32), fn_Ld_bring (f + 4000) al u 832 384 256 x = some (uF, r.2) → r.1 = 0 → fn_Lw_load (f + 4000) al u 64 x 1408 = some (stL uF 1408 0 r.2.toInt64, 0) := fun uF r hr h0 => by
    unfold fn_Lw_load bk_Lw_load_0 fn_Fg_load bk_Fg_load_0
    rw [if_neg x1, if_neg x2, if_pos x3, bd1_eq hc.1.2.2.2.1]
    unfold fn_Im_isNone bk_Im_isNone_0
    rw [i1, if_neg ne16, bd2_s, if_pos rfl, bd1_eq hc.1.2.2.2.2.2, bd1_eq hc.1.2.2.2.1, bd1_eq hc.1.2.2.1, hr, bd2_s, bd2_s]
    rfl
  have cpy : fn_Im_copyFrom (f + 4000) al u D 384 = some (uA, 0) := by
    unfold fn_Im_copyFrom bk_Im_copyFrom_0
    rw [bd1_eq (show rdR al u 384 0 7 = some 448 from hc.2.2.2.2.1 0 (by decide)), bd1_eq hDb, i1, ck_eq (show cpk u 448 896 (0 : Int32) 896 (0 : Int32) (nI (64 * n)) = true from cpk_t (s := 0) (d := 0) (q := 64 * n) (by omega) (by omega) (by decide) (by decide) h12'.1), show cpI u 448 (0 : Int32) (D + 64) (0 : Int32) (nI (64 * n)) = wr u (D + 64) 0 (64 * n) (fun i => u.1 448 (nI (0 + i))) from cpI_wr (s := 0) (d := 0) (by decide) (by omega) (by decide), wr_ne (by omega), i1, hA]
  have brg : fn_Ld_bring (f + 4000) al u 832 384 256 x = (if v = 0 then (bd1 (rdR al uc 832 0 6) fun y5 => (bd1 (rdR al uc 832 1 6) fun y7 => (bd2 (fn_Im_sectionBegin (f + 4000) al (stI (stR (stR uc 832 0 (some y7)) 832 1 (some y5)) 832 2 x) 384 (3 : Int32)) fun u9 v9 => (bd2 (fn_Im_sectionSize (f + 4000) al (stI u9 832 3 v9) 384 (3 : Int32)) fun u10 v10 => (some (stI u10 832 4 v10, v)))))) else (some (uc, v))) := by
    unfold fn_Ld_bring bk_Ld_bring_0
    rw [bd1_eq g1, cpy, bd2_s, p1, bd2_s]
  -- the reference
  have mdl : ∀ w : Mr, Sm al w → w.1 2048 16 = nI (64 * n) → w.1 2624 = u.1 2624 → w.1 2560 = u.1 2560 → ∃ um, fn_Md_load (f + 4000) al w 2048 x = bk_Md_load_122 (f + 4000) al um 2048 x ∧ LdR n D uA (stI (stI w 2048 0 0) 2048 31 0) uc um ∧ um.1 2048 31 = v ∧ (v = 0 → ∀ j, j < 5 → secOK n u j) := fun w w1 w2 w3 w4 => by
    obtain ⟨uc', um, v', q1, q2, q3, q4, -, q6⟩ := ld_prep (f := f) (x := x) (base (stI (stI w 2048 0 0) 2048 31 0) (w1.any rfl) (by rw [stI_at, if_neg (by decide), stI_at, if_neg (by decide)]; exact w2) (by rw [stI_ne (by decide), stI_ne (by decide)]; exact w3) (by rw [stI_ne (by decide), stI_ne (by decide)]; exact w4)) stI_same dA bA
    have e : (uc', v') = (uc, v) := Option.some.inj (q1.symm.trans p1)
    cases e
    refine ⟨um, ?_, q3, q4, fun z j hj => ?_⟩
    · unfold fn_Md_load bk_Md_load_0
      rw [if_neg x1, if_neg x2, if_pos x3]
      unfold bk_Md_load_23
      rw [e_fails (Or.inl rfl), bd2_s, if_pos rfl, if_pos rfl, stI_at, if_neg (show ¬ (16 : Int32) = 0 by decide), w2, if_neg ne16]
      unfold bk_Md_load_43
      rw [e_fails (Or.inl rfl), bd2_s, if_pos rfl, if_pos rfl, st_st, q2]
    · obtain ⟨b, s, z1, z2, z3⟩ := q6 z j hj
      have e : ∀ p, wm (stI (stI w 2048 0 0) 2048 31 0) 2624 p = wm u 2624 p := fun p => wm_cg (fun j _ _ => by rw [stI_ne (by decide), stI_ne (by decide), w3])
      rw [e] at z1 z2
      exact ⟨b, s, z1, z2, z3⟩
  by_cases v0 : v = 0
  rotate_left
  · -- refused
    have hF : fn_Ld_bring (f + 4000) al u 832 384 256 x = some (uc, v) := by rw [brg, if_neg v0]
    obtain ⟨um, q1, q2, q3, -⟩ := mdl (stL uc 1408 0 v.toInt64) ((hm.fr fC).any rfl) (by show uc.1 2048 16 = _; rw [fC.2 2048 (by omega)]; exact i2) (fC.2 2624 (by omega)) (fC.2 2560 (by omega))
    refine ⟨_, 0, um, v, pre uc (0, v) hF rfl, ?_, ?_, fun _ => ?_, ?_⟩
    · rw [q1]
      unfold bk_Md_load_122
      rw [q3, if_neg]
      rcases p5 with z | z | z | z | z
      · exact absurd z v0
      all_goals (rw [z]; decide)
    · rw [q2.2.2.1 0 (by decide), stI_at, if_neg (by decide), stI_same]
    · rw [q2.2.2.2.2.2]
      show (stL uc 1408 0 v.toInt64).2.2 1408 0 = _
      rw [stL_same]
    · have f : Fr (fun k => k = D ∨ k = D + 64 ∨ k = 2048 ∨ k = 2627) u um := by
        refine Fr.trans (fC.mono (fun k hk => by omega)) (Fr.trans (v := stI (stI (stL uc 1408 0 v.toInt64) 2048 0 0) 2048 31 0) ?_ (q2.2.1.mono (fun k hk => by omega)))
        exact Fr.trans (Fr.trans Fr.out (Fr.st (by omega))) (Fr.st (by omega))
      have e : ∀ i : Int32, i ≠ 0 → i ≠ 31 → um.1 2048 i = u.1 2048 i := fun i hi hi2 => by
        rw [q2.2.2.1 i hi2, stI_at, if_neg hi2, stI_at, if_neg hi]
        show uc.1 2048 i = _
        rw [fC.2 2048 (by omega)]
      have eb : um.1 (D + 64) = uc.1 (D + 64) := by
        rw [q2.2.1.2 (D + 64) (by omega), stI_ne (by omega), stI_ne (by omega)]
        rfl
      refine ⟨h1', h2'.fr f, h3'.fr f, h4'.fr f, h5'.fr f (fun o ho => by omega), h6'.fr f (fun q hq => by omega) (by omega), h7'.fr f (fun o ho => by omega) (fun k hk => by rw [f.2 (1280 + k) (by omega)]; exact ⟨rfl, rfl, rfl, rfl⟩) (by omega), h8'.fr f (fun o ho => by omega) (fun o ho => by omega) (fun o ho => by omega) (by omega), h9'.fr f (fun k hk => by rw [f.2 (1280 + k) (by omega)]; exact ⟨rfl, rfl, rfl⟩) (by omega), h10'.fr f (fun l hl => by omega) (by omega), ?_, ?_, g, Sg.fr f ⟨hg, g0, by rw [hD]; exact g1⟩, h14'.fr f (by omega) ⟨e _ (by decide) (by decide), e _ (by decide) (by decide), e _ (by decide) (by decide), e _ (by decide) (by decide), e _ (by decide) (by decide)⟩⟩
      · rw [e 16 (by decide) (by decide)]
        exact RImg.fr (by rw [f.2 _ (by omega)]) (f.2 _ (by omega)) (f.2 _ (by omega)) h11'
      · refine ⟨by rw [f.2 448 (by omega)]; exact h12'.1, ?_, ?_⟩
        · by_cases e5 : D = 385
          · rw [e5] at eb bC
            rw [show um.1 449 = uc.1 449 from eb]
            exact bC
          · rw [f.2 449 (by omega)]
            exact h12'.2.1
        · by_cases e5 : D = 386
          · rw [e5] at eb bC
            rw [show um.1 450 = uc.1 450 from eb]
            exact bC
          · rw [f.2 450 (by omega)]
            exact h12'.2.2
  · -- loaded
    have gC0 : rdR al uc 832 0 6 = some (385 + g) := fC.rd.trans g0
    have gC1 : rdR al uc 832 1 6 = some D := fC.rd.trans g1
    generalize hS : stI (stR (stR uc 832 0 (some D)) 832 1 (some (385 + g))) 832 2 x = uS
    have S1 : ∀ k, k ≠ 832 → uS.1 k = uc.1 k := fun k hk => by rw [← hS, stI_ne hk]; rfl
    have S2 : ∀ k i, k ≠ 832 → uS.2.1 k i = u.2.1 k i := fun k i hk => by
      rw [← hS]
      show (stR (stR uc 832 0 (some D)) 832 1 (some (385 + g))).2.1 k i = _
      rw [stR_ne hk, stR_ne hk, fC.1]
    have S3 : uS.2.1 832 0 = some D ∧ uS.2.1 832 1 = some (385 + g) := by
      rw [← hS]
      show (stR (stR uc 832 0 (some D)) 832 1 (some (385 + g))).2.1 832 0 = some D ∧ (stR (stR uc 832 0 (some D)) 832 1 (some (385 + g))).2.1 832 1 = some (385 + g)
      rw [stR_at, stR_at, stR_at, if_neg (by decide), if_pos rfl, if_pos rfl]
      exact ⟨rfl, rfl⟩
    have S4 : ∀ i : Int32, i ≠ 0 → i ≠ 1 → uS.2.1 832 i = u.2.1 832 i := fun i hi hi1 => by
      rw [← hS]
      show (stR (stR uc 832 0 (some D)) 832 1 (some (385 + g))).2.1 832 i = _
      rw [stR_at, stR_at, if_neg hi1, if_neg hi, fC.1]
    have rdS : rdR al uS 384 0 7 = some 448 := rd_up (fun _ z => z) (S2 _ _ (by decide)) (hc.2.2.2.2.1 0 (by decide))
    have c48 : fn_Im_sectionBegin (f + 4000) al uS 384 (3 : Int32) = some (uS, wm u 2624 48) := by
      unfold fn_Im_sectionBegin bk_Im_sectionBegin_0
      rw [show (24 : Int32) + (3 : Int32) * (8 : Int32) = nI 48 from rfl, e_word (i := 384) rdS (by decide), bd2_s, ← w48]
      unfold wc
      rw [show uS.1 (384 + 64) = u.1 448 from (S1 448 (by decide)).trans (fC.2 448 (by omega))]
    have c52 : fn_Im_sectionSize (f + 4000) al (stI uS 832 3 (wm u 2624 48)) 384 (3 : Int32) = some (stI uS 832 3 (wm u 2624 48), wm u 2624 52) := by
      unfold fn_Im_sectionSize bk_Im_sectionSize_0
      rw [show (24 : Int32) + (3 : Int32) * (8 : Int32) + (4 : Int32) = nI 52 from rfl, e_word (i := 384) (show rdR al (stI uS 832 3 (wm u 2624 48)) 384 0 7 = some (384 + 64) from rdS) (by decide), bd2_s, ← w52]
      unfold wc
      rw [show (stI uS 832 3 (wm u 2624 48)).1 (384 + 64) = u.1 448 from (stI_ne (by decide)).trans ((S1 448 (by decide)).trans (fC.2 448 (by omega)))]
    have hF : fn_Ld_bring (f + 4000) al u 832 384 256 x = some (stI (stI uS 832 3 (wm u 2624 48)) 832 4 (wm u 2624 52), 0) := by
      rw [brg, if_pos v0, bd1_eq gC0, bd1_eq gC1, hS, c48, bd2_s, c52, bd2_s, v0]
    generalize hUF : stI (stI uS 832 3 (wm u 2624 48)) 832 4 (wm u 2624 52) = uF at hF
    have F1 : ∀ k, ¬ (k = 832 ∨ k = D ∨ k = D + 64) → uF.1 k = u.1 k := fun k hk => by
      rw [← hUF, stI_ne (by omega), stI_ne (by omega), S1 k (by omega), fC.2 k (by omega)]
    have F2 : uF.2 = uS.2 := by rw [← hUF]; rfl
    have F3 : uF.1 832 2 = x ∧ uF.1 832 3 = wm u 2624 48 ∧ uF.1 832 4 = wm u 2624 52 := by
      rw [← hUF]
      refine ⟨?_, ?_, ?_⟩
      · rw [stI_at, if_neg (by decide), stI_at, if_neg (by decide), ← hS, stI_same]
      · rw [stI_at, if_neg (by decide), stI_same]
      · rw [stI_same]
    have F4 : ∀ k, k ≠ 832 → uF.1 k = uc.1 k := fun k hk => by rw [← hUF, stI_ne hk, stI_ne hk, S1 k hk]
    obtain ⟨um, q1, q2, q3, q4⟩ := mdl (stL uF 1408 0 (0 : Int32).toInt64) (hm.row (by show uF.2.1 2048 = _; rw [F2]; funext i; exact S2 _ _ (by decide))) (by show uF.1 2048 16 = _; rw [F1 2048 (by omega)]; exact i2) (F1 2624 (by omega)) (F1 2560 (by omega))
    have hmF : Sm al um := Sm.fr q2.2.1 (hm.row (by show uF.2.1 2048 = _; rw [F2]; funext i; exact S2 _ _ (by decide)))
    have u16 : um.1 2048 16 = nI (64 * n) := by
      rw [q2.2.2.1 16 (by decide), stI_at, if_neg (by decide), stI_at, if_neg (by decide)]
      show uF.1 2048 16 = _
      rw [F1 2048 (by omega)]
      exact i2
    have u24 : um.1 2624 = u.1 2624 := by
      rw [q2.2.1.2 2624 (by decide), stI_ne (by decide), stI_ne (by decide)]
      exact F1 2624 (by omega)
    generalize hV : stI (stI (stI (stI (stI um 2048 24 1) 2048 25 x) 2048 26 (nI (64 * n))) 2048 28 (wm u 2624 48)) 2048 29 (wm u 2624 52) = U5
    have V1 : ∀ k, k ≠ 2048 → U5.1 k = um.1 k := fun k hk => by rw [← hV, stI_ne hk, stI_ne hk, stI_ne hk, stI_ne hk, stI_ne hk]
    have V2 : U5.2 = um.2 := by rw [← hV]; rfl
    have V3 : ∀ i : Int32, U5.1 2048 i = if i = 29 then wm u 2624 52 else if i = 28 then wm u 2624 48 else if i = 26 then nI (64 * n) else if i = 25 then x else if i = 24 then 1 else um.1 2048 i := fun i => by rw [← hV, stI_at, stI_at, stI_at, stI_at, stI_at]
    have acc : bk_Md_load_122 (f + 4000) al um 2048 x = some (wr U5 2626 0 (64 * n) (fun j => U5.1 2627 (nI j)), 0) := by
      unfold bk_Md_load_122
      rw [q3, v0, if_pos (by decide), show (stI (stI um 2048 24 1) 2048 25 x).1 2048 16 = nI (64 * n) by rw [stI_at, if_neg (by decide), stI_at, if_neg (by decide)]; exact u16]
      simp only [rdR_I]
      have m48 : ∀ z : Mr, z.1 2624 = u.1 2624 → fn_Md_wordIn (f + 4000) al z 2624 (48 : Int32) = some (z, wm u 2624 48) := fun z hz => (e_wordIn (p := 48) 2624 (by decide)).trans (congrArg (fun q => some (z, q)) (wm_cg (fun j _ _ => by rw [hz])))
      have m52 : ∀ z : Mr, z.1 2624 = u.1 2624 → fn_Md_wordIn (f + 4000) al z 2624 (52 : Int32) = some (z, wm u 2624 52) := fun z hz => (e_wordIn (p := 52) 2624 (by decide)).trans (congrArg (fun q => some (z, q)) (wm_cg (fun j _ _ => by rw [hz])))
      rw [bd1_eq hmF.2.2.1, m48 _ (by rw [stI_ne (by decide), stI_ne (by decide), stI_ne (by decide)]; exact u24), bd2_s]
      rw [bd1_eq (show rdR al (stI (stI (stI um 2048 24 1) 2048 25 x) 2048 26 (nI (64 * n))) 2048 17 41 = some 2624 from hmF.2.2.1), m52 _ (by rw [stI_ne (by decide), stI_ne (by decide), stI_ne (by decide), stI_ne (by decide)]; exact u24), bd2_s, hV]
      have := ld_copy2 (F := f + 4000) (n := n) (um := U5) (hmF.any (by rw [V2])) (by rw [V3]; simp only [show ¬ (16 : Int32) = 29 by decide, show ¬ (16 : Int32) = 28 by decide, show ¬ (16 : Int32) = 26 by decide, show ¬ (16 : Int32) = 25 by decide, show ¬ (16 : Int32) = 24 by decide, if_false]; exact u16) hn (64 * n) (f + 4000) 0 (by omega) (by omega)
      rw [wr_0] at this
      exact this
    generalize hW : wr U5 2626 0 (64 * n) (fun j => U5.1 2627 (nI j)) = u2 at acc
    have W1 : ∀ k, ¬ (k = 832 ∨ k = D ∨ k = D + 64 ∨ k = 2048 ∨ k = 2626 ∨ k = 2627) → u2.1 k = u.1 k := fun k hk => by
      rw [← hW, wr_ne (by omega), V1 k (by omega), q2.2.1.2 k (by omega), stI_ne (by omega), stI_ne (by omega)]
      exact F1 k (by omega)
    have W2 : ∀ k, ¬ (k = 2048 ∨ k = 2626 ∨ k = 2627) → u2.1 k = uF.1 k := fun k hk => by
      rw [← hW, wr_ne (by omega), V1 k (by omega), q2.2.1.2 k (by omega), stI_ne (by omega), stI_ne (by omega)]
      rfl
    have W3 : u2.2.1 = uS.2.1 := by
      rw [← hW]
      show U5.2.1 = _
      rw [V2, q2.2.1.1]
      show uF.2.1 = _
      rw [F2]
    have W4 : u2.2.2 = (stL uF 1408 0 (0 : Int32).toInt64).2.2 := by
      rw [← hW]
      show U5.2.2 = _
      rw [V2, q2.2.2.2.2.2]
      rfl
    have W5 : ∀ i : Int32, u2.1 2048 i = if i = 29 then wm u 2624 52 else if i = 28 then wm u 2624 48 else if i = 26 then nI (64 * n) else if i = 25 then x else if i = 24 then 1 else um.1 2048 i := fun i => by
      rw [← hW, wr_ne (by decide)]
      exact V3 i
    have W6 : ∀ i : Int32, i ≠ 0 → i ≠ 31 → um.1 2048 i = u.1 2048 i := fun i hi hi2 => by
      rw [q2.2.2.1 i hi2, stI_at, if_neg hi2, stI_at, if_neg hi]
      show uF.1 2048 i = _
      rw [F1 2048 (by omega)]
    have bD : u2.1 (D + 64) = uc.1 (D + 64) := by rw [W2 (D + 64) (by omega), F4 _ (by omega)]
    refine ⟨_, 0, u2, 0, pre uF (0, 0) hF rfl, q1.trans acc, ?_, fun _ => ?_, ?_⟩
    · rw [W5]
      simp only [show ¬ (0 : Int32) = 29 by decide, show ¬ (0 : Int32) = 28 by decide, show ¬ (0 : Int32) = 26 by decide, show ¬ (0 : Int32) = 25 by decide, show ¬ (0 : Int32) = 24 by decide, if_false]
      rw [q2.2.2.1 0 (by decide), stI_at, if_neg (by decide), stI_same]
    · rw [W4, stL_same]
    have fr : Fr (fun k => k = 832 ∨ k = D ∨ k = D + 64 ∨ k = 2048 ∨ k = 2626 ∨ k = 2627) u (u2.1, u.2.1, u.2.2) := ⟨rfl, W1⟩
    have e1 : ∀ v : Mr, v = (u2.1, u.2.1, u.2.2) → u2.1 = v.1 := fun v hv => by rw [hv]
    have he : ∀ k i, k ≠ 832 → u2.2.1 k i = u.2.1 k i := fun k i hk => by rw [W3]; exact S2 k i hk
    have hok0 := (rdR_some g0).2
    have hok1 := (rdR_some g1).2
    refine ⟨h1', ?_, h3'.ne he, h4'.row (by funext i; exact he _ _ (by decide)), h5'.ne he (fun o ho => W1 _ (by omega)), RPart.of1 (e1 _ rfl) (h6'.fr fr (fun q hq => by omega) (by omega)), RDef.of1 (e1 _ rfl) (h7'.fr fr (fun o ho => by omega) (fun k hk => by rw [fr.2 (1280 + k) (by omega)]; exact ⟨rfl, rfl, rfl, rfl⟩) (by omega)), ?_, RNam.of1 (e1 _ rfl) (h9'.fr fr (fun k hk => by rw [fr.2 (1280 + k) (by omega)]; exact ⟨rfl, rfl, rfl⟩) (by omega)), ROff.of1 (e1 _ rfl) (h10'.fr fr (fun l hl => by omega) (by omega)), ?_, ?_, 1 - g, ?_, ?_⟩
    · intro k i z hz
      rw [W3] at hz
      by_cases k8 : k = 832
      · rw [k8] at hz
        by_cases i0 : i = 0
        · rw [i0, S3.1] at hz
          cases hz
          exact Or.inl (okk_al hok1)
        · by_cases i1 : i = 1
          · rw [i1, S3.2] at hz
            cases hz
            exact Or.inl (okk_al hok0)
          · rw [S4 i i0 i1] at hz
            exact h2' _ _ _ hz
      · rw [S2 k i k8] at hz
        exact h2' _ _ _ hz
    · have q := h8'.fr fr (fun o ho => by omega) (fun o ho => by omega) (fun o ho => by omega) (by omega)
      unfold RRef at q ⊢
      exact q
    · rw [show u2.1 2048 16 = u.1 2048 16 by rw [W5]; simp only [show ¬ (16 : Int32) = 29 by decide, show ¬ (16 : Int32) = 28 by decide, show ¬ (16 : Int32) = 26 by decide, show ¬ (16 : Int32) = 25 by decide, show ¬ (16 : Int32) = 24 by decide, if_false]; exact W6 _ (by decide) (by decide)]
      exact RImg.fr (by rw [W1 384 (by omega)]) (W1 448 (by omega)) (W1 2624 (by omega)) h11'
    · refine ⟨by rw [W1 448 (by omega)]; exact h12'.1, ?_, ?_⟩
      · by_cases e5 : D = 385
        · rw [e5] at bD bC
          rw [show u2.1 449 = uc.1 449 from bD]
          exact bC
        · rw [W1 449 (by omega)]
          exact h12'.2.1
      · by_cases e5 : D = 386
        · rw [e5] at bD bC
          rw [show u2.1 450 = uc.1 450 from bD]
          exact bC
        · rw [W1 450 (by omega)]
          exact h12'.2.2
    · refine ⟨by omega, rd_of (by rw [W3, S3.1, show 385 + (1 - g) = D by omega]) (by rw [show 385 + (1 - g) = D by omega]; exact hok1), rd_of (by rw [W3, S3.2, show 386 - (1 - g) = 385 + g by omega]) (by rw [show 386 - (1 - g) = 385 + g by omega]; exact hok0)⟩
    · have r2 : u2.1 832 2 = x := by rw [W2 832 (by omega)]; exact F3.1
      have r3 : u2.1 832 3 = wm u 2624 48 := by rw [W2 832 (by omega)]; exact F3.2.1
      have r4 : u2.1 832 4 = wm u 2624 52 := by rw [W2 832 (by omega)]; exact F3.2.2
      have rD : u2.1 D 1 = nI (64 * n) := by rw [W2 D (by omega), F4 D (by omega)]; exact sC
      have o24 : u2.1 2048 24 = 1 := by rw [W5]; simp
      have o25 : u2.1 2048 25 = x := by rw [W5]; simp
      have o26 : u2.1 2048 26 = nI (64 * n) := by rw [W5]; simp
      have o28 : u2.1 2048 28 = wm u 2624 48 := by rw [W5]; simp
      have o29 : u2.1 2048 29 = wm u 2624 52 := by rw [W5]; simp
      obtain ⟨b, s, z1, z2, z3⟩ := q4 v0 3 (by decide)
      refine ⟨r2.trans o25.symm, Or.inr ⟨o24, ⟨n, hn, by rw [show 385 + (1 - g) = D by omega]; exact rD, o26, fun j hj => ?_⟩, ⟨a, hab, r2.trans ex⟩, r3.trans o28.symm, r4.trans o29.symm, b, s, 64 * n, r3.trans z1, r4.trans z2, by rw [show 385 + (1 - g) = D by omega]; exact rD, z3, by omega⟩⟩
      rw [show 385 + (1 - g) + 64 = D + 64 by omega, bD, ← hW, wr_at (by omega), if_pos (by omega), Nat.sub_zero, V1 2627 (by decide)]
      exact q2.2.2.2.1 j hj

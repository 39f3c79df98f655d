/-! put -/
def pbyte (v : Int64) (m : Nat) : Int32 := (v >>> (((8 : Int32) * nI m).toInt64 &&& 63)).toInt32
theorem pt_loop {F : Nat} {al : Nat → Bool} {q s c : Nat} {v : Int64} (hq : q < 8) (hsc : s + c ≤ 40) : ∀ (d n i : Nat) (u : Mr), d + i = c → d < n → rdR al u (1024 + q) 0 17 = some (1088 + q) → u.1 (1024 + q) 1 = nI s →
    ∃ w, bk_Pt_append_3 F al n u (1024 + q) v (nI c) (nI i) = some (w, 0) ∧ Fr (fun k => k = 1024 + q ∨ k = 1088 + q) u w ∧ w.1 (1024 + q) 1 = nI (s + c) ∧ (∀ j, j < 40 → w.1 (1088 + q) (nI j) = if s + i ≤ j ∧ j < s + c then (pbyte v (j - s)).toInt8.toInt32 else u.1 (1088 + q) (nI j)) ∧ ((∀ z, byt (u.1 (1088 + q) z)) → ∀ z, byt (w.1 (1088 + q) z)) := by
  intro d
  induction d with
  | zero =>
    intro n i u hi hn hr hs
    obtain ⟨n, rfl⟩ : ∃ k, n = k + 1 := ⟨n - 1, by omega⟩
    obtain rfl : i = c := by omega
    rw [bk_Pt_append_3, if_pos ((na_le (by omega) (by omega)).mpr (Nat.le_refl _))]
    refine ⟨_, rfl, Fr.st (Or.inl rfl), by rw [stI_same, hs, na_add], fun j hj => ?_, fun h z => ?_⟩
    · rw [stI_ne (by omega), if_neg (by omega)]
    · rw [stI_ne (by omega)]
      exact h z
  | succ d ih =>
    intro n i u hi hn hr hs
    obtain ⟨n, rfl⟩ : ∃ k, n = k + 1 := ⟨n - 1, by omega⟩
    rw [bk_Pt_append_3, if_neg (fun z => absurd ((na_le (by omega) (by omega)).mp z) (by omega)), bd1_eq hr, hs, na_add, ck_eq (in_t (by omega) (by decide)), show nI i + (1 : Int32) = nI (i + 1) from na_add i 1]
    obtain ⟨w, h1, h2, h3, h4, h5⟩ := ih n (i + 1) (stI u (1088 + q) (nI (s + i)) (pbyte v i).toInt8.toInt32) (by omega) (by omega) hr (by rw [stI_ne (by omega)]; exact hs)
    refine ⟨w, h1, Fr.trans (Fr.st (Or.inr rfl)) h2, h3, fun j hj => ?_, fun h => h5 fun z => ?_⟩
    · rw [h4 j hj, stI_at]
      by_cases e1 : j = s + i
      · subst e1
        rw [if_neg (by omega), if_pos rfl, if_pos (by omega), show s + i - s = i by omega]
      · rw [if_neg (fun z => e1 (nI_inj (by omega) (by omega) z))]
        by_cases e2 : s + (i + 1) ≤ j ∧ j < s + c
        · rw [if_pos e2, if_pos (by omega)]
        · rw [if_neg e2, if_neg (by omega)]
    · rw [stI_at]
      by_cases e1 : z = nI (s + i)
      · rw [if_pos e1]
        exact byt_b _
      · rw [if_neg e1]
        exact h z
theorem mp_loop {F : Nat} {al : Nat → Bool} {q s c : Nat} {v : Int64} (hq : q < 8) (hsc : s + c ≤ 40) : ∀ (d n i : Nat) (u : Mr), d + i = c → d < n → Sm al u → u.1 2112 (nI q) = nI s →
    ∃ w, bk_Md_put_84 F al n u 2048 v (nI c) (nI q) (nI i) = some (w, nI (s + c)) ∧ Fr (fun k => k = 2112 ∨ k = 2176) u w ∧ (∀ j, j < 8 → w.1 2112 (nI j) = if j = q then nI (s + c) else u.1 2112 (nI j)) ∧ ∀ j, j < 320 → w.1 2176 (nI j) = if 40 * q + s + i ≤ j ∧ j < 40 * q + s + c then pbyte v (j - (40 * q + s)) &&& 255 else u.1 2176 (nI j) := by
  intro d
  induction d with
  | zero =>
    intro n i u hi hn hr hs
    obtain ⟨n, rfl⟩ : ∃ k, n = k + 1 := ⟨n - 1, by omega⟩
    obtain rfl : i = c := by omega
    rw [bk_Md_put_84, if_pos ((na_le (by omega) (by omega)).mpr (Nat.le_refl _)), bd1_eq hr.1.1, ck_eq (in_t hq (by decide)), ck_eq (in_t hq (by decide)), bd1_eq (show rdR al (stI u 2112 (nI q) _) 2048 1 33 = some 2112 from hr.1.1), ck_eq (in_t hq (by decide)), stI_same, hs, na_add]
    refine ⟨_, rfl, Fr.st (Or.inl rfl), fun j hj => ?_, fun j hj => ?_⟩
    · rw [stI_at]
      by_cases e1 : j = q
      · rw [if_pos (by rw [e1]), if_pos e1]
      · rw [if_neg (fun z => e1 (nI_inj (by omega) (by omega) z)), if_neg e1]
    · rw [stI_ne (by omega), if_neg (by omega)]
  | succ d ih =>
    intro n i u hi hn hr hs
    obtain ⟨n, rfl⟩ : ∃ k, n = k + 1 := ⟨n - 1, by omega⟩
    rw [bk_Md_put_84, if_neg (fun z => absurd ((na_le (by omega) (by omega)).mp z) (by omega)), bd1_eq hr.1.2.1, bd1_eq hr.1.1, ck_eq (in_t hq (by decide)), hs, show ((40 : Int32) * nI q) + nI s + nI i = nI (40 * q + s + i) by rw [show (40 : Int32) = nI 40 from rfl, na_mul, na_add, na_add], ck_eq (in_t (by omega) (by decide)), show nI i + (1 : Int32) = nI (i + 1) from na_add i 1]
    obtain ⟨w, h1, h2, h3, h4⟩ := ih n (i + 1) (stI u 2176 (nI (40 * q + s + i)) (((v >>> (((8 : Int32) * nI i).toInt64 &&& 63)) &&& (255 : Int64)).toInt32)) (by omega) (by omega) (hr.fr (Fr.st (S := fun _ => True) trivial)) (by rw [stI_ne (by omega)]; exact hs)
    refine ⟨w, h1, Fr.trans (Fr.st (Or.inr rfl)) h2, fun j hj => by rw [h3 j hj, stI_ne (by omega)], fun j hj => ?_⟩
    rw [h4 j hj, stI_at]
    by_cases e1 : j = 40 * q + s + i
    · subst e1
      rw [if_neg (by omega), if_pos rfl, if_pos (by omega), show 40 * q + s + i - (40 * q + s) = i by omega, Int64.toInt32_and]
      rfl
    · rw [if_neg (fun z => e1 (nI_inj (by omega) (by omega) z))]
      by_cases e2 : 40 * q + s + (i + 1) ≤ j ∧ j < 40 * q + s + c
      · rw [if_pos e2, if_pos (by omega)]
      · rw [if_neg e2, if_neg (by omega)]
theorem m_put {f : Nat} {al : Nat → Bool} {u : Mr} (h : Inv al u) (a b : Int32) (v : Int64) (x : Int32) : ∃ u1 k u2 r, fn_Lw_put (f + 4000) al u 64 a b v x 1408 = some (u1, k) ∧ fn_Md_put (f + 4000) al u1 2048 a b v x = some (u2, r) ∧ u2.1 2048 0 = k ∧ (k = 0 → u2.2.2 1408 0 = r.toInt64) ∧ Inv al u2 := by
  obtain ⟨hc, hm⟩ := h.base
  by_cases hs : (a < 0 ∨ 4 ≤ a) ∨ (b < 0 ∨ 2 ≤ b) ∨ x < 1 ∨ ¬ x ≤ 8
  · have e1 : fn_Fg_put (f + 4000) al u 64 a b v x = some (u, 1, 0) := by
      unfold fn_Fg_put bk_Fg_put_0 bk_Fg_put_29
      rw [e_below, bd2_s]
      by_cases h1 : a < 0 ∨ 4 ≤ a
      · rw [if_pos h1, if_pos rfl]
      · rw [if_neg h1, if_neg (by decide), e_below, bd2_s]
        by_cases h2 : b < 0 ∨ 2 ≤ b
        · rw [if_pos h2, if_pos rfl]
        · rw [if_neg h2, if_neg (by decide)]
          by_cases h3 : x < 1
          · rw [if_pos h3]
          · rw [if_neg h3, if_neg (((hs.resolve_left h1).resolve_left h2).resolve_left h3)]
    have e2 : fn_Md_put (f + 4000) al u 2048 a b v x = some (stI u 2048 0 1, 0) := by
      have hh : ∀ w : Mr, bk_Md_put_30 (f + 4000) al w 2048 2048 a b v x = some (stI w 2048 0 1, 0) := fun w => by
        unfold bk_Md_put_30 bk_Md_put_35
        rw [e_fails (Or.inr rfl)]
        rfl
      unfold fn_Md_put bk_Md_put_0
      rw [e_out, bd2_s]
      by_cases h1 : a < 0 ∨ 4 ≤ a
      · rw [if_pos h1, if_neg (by decide)]
        exact hh u
      · rw [if_neg h1, if_pos rfl, e_out, bd2_s]
        by_cases h2 : b < 0 ∨ 2 ≤ b
        · rw [if_pos h2, if_neg (by decide)]
          exact hh u
        · rw [if_neg h2, if_pos rfl]
          by_cases h3 : x < 1
          · rw [if_pos h3]
            exact hh u
          · rw [if_neg h3, if_neg (((hs.resolve_left h1).resolve_left h2).resolve_left h3)]
            exact hh u
    refine ⟨u, 1, stI u 2048 0 1, 0, ?_, e2, stI_same, fun z => absurd z (by decide), h.thr 1⟩
    unfold fn_Lw_put bk_Lw_put_0
    rw [e1]
    rfl
  · have n1 : ¬ (a < 0 ∨ 4 ≤ a) := fun z => hs (Or.inl z)
    have n2 : ¬ (b < 0 ∨ 2 ≤ b) := fun z => hs (Or.inr (Or.inl z))
    have n3 : ¬ x < 1 := fun z => hs (Or.inr (Or.inr (Or.inl z)))
    have n4 : x ≤ 8 := Classical.byContradiction fun z => hs (Or.inr (Or.inr (Or.inr z)))
    obtain ⟨o, ho, rfl⟩ := na_sp (n := 4) (by decide) n1
    obtain ⟨p, hp, rfl⟩ := na_sp (n := 2) (by decide) n2
    obtain ⟨c, hc9, rfl⟩ := na_of (x := x) (fun z => n3 (Int32.lt_trans z (by decide)))
    have c8 : c ≤ 8 := (na_le hc9 (by decide)).mp n4
    obtain ⟨s, hs40, p1, p2, p3, p4⟩ := h.2.2.2.2.2.1 (2 * o + p) (by omega)
    have hix : ((2 : Int32) * nI o) + nI p = nI (2 * o + p) := by rw [show (2 : Int32) = nI 2 from rfl, na_mul, na_add]
    have h40 : (nI (s + c) ≤ (40 : Int32)) ↔ s + c ≤ 40 := na_le (b := 40) (by omega) (by decide)
    have ec : fn_Fg_put (f + 4000) al u 64 (nI o) (nI p) v (nI c) = if s + c ≤ 40 then bd2 (fn_Pt_append (f + 4000) al u (1024 + (2 * o + p)) v (nI c)) (fun w _ => some (w, 0, w.1 (1024 + (2 * o + p)) 1)) else some (u, 2, 0) := by
      unfold fn_Fg_put bk_Fg_put_0
      rw [e_below, bd2_s, if_neg n1, if_neg (by decide), e_below, bd2_s, if_neg n2, if_neg (by decide), if_neg n3, if_pos n4, bd1_eq hc.1.1, ck_eq (in_t ho (by decide)), bd1_eq (hc.2.1 o ho), bd1_eq (hc.2.2.2.2.2.2.2.1 o ho).1, ck_eq (in_t hp (by decide)), bd1_eq (hc.2.2.2.2.2.2.2.2.1 o p ho hp), p1, na_add]
      by_cases hle : s + c ≤ 40
      · rw [if_pos (h40.mpr hle), if_pos hle]
      · rw [if_neg (fun z => hle (h40.mp z)), if_neg hle]
    have em : ∀ w : Mr, Sm al w → w.1 2112 (nI (2 * o + p)) = nI s → fn_Md_put (f + 4000) al w 2048 (nI o) (nI p) v (nI c) = if s + c ≤ 40 then bk_Md_put_84 (f + 4000) al (f + 4000) (stI (stI w 2048 0 0) 2048 0 0) 2048 v (nI c) (nI (2 * o + p)) 0 else some (stI (stI w 2048 0 0) 2048 0 2, 0) := fun w hw hw2 => by
      unfold fn_Md_put bk_Md_put_0
      rw [e_out, bd2_s, if_neg n1, if_pos rfl, e_out, bd2_s, if_neg n2, if_pos rfl, if_neg n3, if_pos n4]
      unfold bk_Md_put_35
      rw [e_fails (Or.inl rfl), bd2_s, if_pos rfl, if_pos rfl, bd1_eq (show rdR al (stI w 2048 0 0) 2048 1 33 = some 2112 from hw.1.1), hix, ck_eq (in_t (by omega) (by decide)), stI_ne (by omega), hw2, na_add]
      by_cases hle : s + c ≤ 40
      · rw [if_pos (h40.mpr hle), if_pos hle]
        unfold bk_Md_put_72
        rw [e_fails (Or.inl rfl), bd2_s, if_pos rfl, if_pos rfl]
      · rw [if_neg (fun z => hle (h40.mp z)), if_neg hle]
        unfold bk_Md_put_72
        rw [e_fails (Or.inr rfl), bd2_s, if_neg (by decide)]
        rfl
    by_cases hle : s + c ≤ 40
    · obtain ⟨w, a1, a2, a3, a4, a5⟩ := pt_loop (F := f + 4000) (al := al) (v := v) (show 2 * o + p < 8 by omega) hle c (f + 4000) 0 u (by omega) (by omega) (hc.2.2.2.2.2.2.2.2.2 _ (by omega)) p1
      have hsm : Sm al (stI (stI (stL w 1408 0 (nI (s + c)).toInt64) 2048 0 0) 2048 0 0) := (hm.fr a2).fr (Fr.trans (Fr.trans (Fr.out (S := fun _ => True)) (Fr.st trivial)) (Fr.st trivial))
      have hsw : Sm al (stL w 1408 0 (nI (s + c)).toInt64) := (hm.fr a2).fr (Fr.out (S := fun _ => True))
      obtain ⟨w2, b1, b2, b3, b4⟩ := mp_loop (F := f + 4000) (v := v) (show 2 * o + p < 8 by omega) hle c (f + 4000) 0 (stI (stI (stL w 1408 0 (nI (s + c)).toInt64) 2048 0 0) 2048 0 0) (by omega) (by omega) hsm (by rw [stI_ne (by omega), stI_ne (by omega), stL_1, a2.2 _ (by omega)]; exact p2)
      refine ⟨stL w 1408 0 (nI (s + c)).toInt64, 0, w2, nI (s + c), ?_, ?_, ?_, fun _ => ?_, ?_⟩
      · unfold fn_Lw_put bk_Lw_put_0
        rw [ec, if_pos hle]
        unfold fn_Pt_append bk_Pt_append_0
        rw [show (0 : Int32) = nI 0 from rfl, a1, bd2_s, bd2_s, if_pos rfl, a3]
      · rw [em _ hsw (by rw [stL_1, a2.2 _ (by omega)]; exact p2), if_pos hle]
        exact b1
      · rw [b2.2 _ (by omega), stI_same]
      · have hlong : ∀ (d n i : Nat) (z : Mr) (r : Mr × Int32), bk_Md_put_84 (f + 4000) al n z 2048 v (nI c) (nI (2 * o + p)) (nI i) = some r → r.1.2.2 = z.2.2 := by
          intro d n
          induction n with
          | zero => intro i z r hr; cases hr
          | succ n ih =>
            intro i z r hr
            rw [bk_Md_put_84] at hr
            by_cases h5 : nI c ≤ nI i
            · rw [if_pos h5] at hr
              obtain ⟨y, -, hr⟩ := bd1_some hr
              obtain ⟨-, hr⟩ := ck_some hr
              obtain ⟨-, hr⟩ := ck_some hr
              obtain ⟨y, -, hr⟩ := bd1_some hr
              obtain ⟨-, hr⟩ := ck_some hr
              rw [← Option.some.inj hr]
              rfl
            · rw [if_neg h5] at hr
              obtain ⟨y, -, hr⟩ := bd1_some hr
              obtain ⟨y, -, hr⟩ := bd1_some hr
              obtain ⟨-, hr⟩ := ck_some hr
              obtain ⟨-, hr⟩ := ck_some hr
              rw [show nI i + (1 : Int32) = nI (i + 1) from na_add i 1] at hr
              have h9 := ih (i + 1) _ r hr
              exact h9
        rw [hlong 0 _ 0 _ _ b1]
        show (stL w 1408 0 (nI (s + c)).toInt64).2.2 1408 0 = _
        exact stL_same
      · obtain ⟨h1, h2, h3, h4, h5, h6, h7, h8, h9, h10, h11, h12, g, h13, h14⟩ := h
        have fr : Fr (fun k => k = 1024 + (2 * o + p) ∨ k = 1088 + (2 * o + p) ∨ k = 2048 ∨ k = 2112 ∨ k = 2176) u w2 := Fr.trans (Fr.trans (Fr.trans (Fr.trans (a2.mono (fun k hk => by omega)) (Fr.out)) (Fr.st (by omega))) (Fr.st (by omega))) (b2.mono (fun k hk => by omega))
        have e : ∀ i : Int32, i ≠ 0 → w2.1 2048 i = u.1 2048 i := fun i hi => by rw [b2.2 _ (by omega), stI_at, if_neg hi, stI_at, if_neg hi, stL_1, a2.2 _ (by omega)]
        have ep : w2.1 (1024 + (2 * o + p)) = w.1 (1024 + (2 * o + p)) := by rw [b2.2 _ (by omega), stI_ne (by omega), stI_ne (by omega), stL_1]
        have eb : w2.1 (1088 + (2 * o + p)) = w.1 (1088 + (2 * o + p)) := by rw [b2.2 _ (by omega), stI_ne (by omega), stI_ne (by omega), stL_1]
        have e2112 : (stI (stI (stL w 1408 0 (nI (s + c)).toInt64) 2048 0 0) 2048 0 0).1 2112 = u.1 2112 := by rw [stI_ne (by omega), stI_ne (by omega), stL_1, a2.2 _ (by omega)]
        have e2176 : (stI (stI (stL w 1408 0 (nI (s + c)).toInt64) 2048 0 0) 2048 0 0).1 2176 = u.1 2176 := by rw [stI_ne (by omega), stI_ne (by omega), stL_1, a2.2 _ (by omega)]
        rw [e2112] at b3
        rw [e2176] at b4
        have en : ∀ q, q < 16 → w2.1 (1280 + q) = u.1 (1280 + q) := fun q hq => fr.2 _ (by omega)
        refine ⟨h1, h2.fr fr, h3.fr fr, h4.fr fr, h5.fr fr (fun o ho => by omega), fun q hq => ?_, h7.fr fr (fun o ho => by omega) (fun q hq => by rw [en q hq]; exact ⟨rfl, rfl, rfl, rfl⟩) (by omega), ?_, h9.fr fr (fun q hq => by rw [en q hq]; exact ⟨rfl, rfl, rfl⟩) (by omega), h10.fr fr (fun l hl => by omega) (by omega), ?_, h12.fr fr (by omega), g, h13.fr fr, h14.fr fr (by have := h13.1; omega) ⟨e _ (by decide), e _ (by decide), e _ (by decide), e _ (by decide), e _ (by decide)⟩⟩
        · by_cases eq : q = 2 * o + p
          · subst eq
            refine ⟨s + c, hle, by rw [ep]; exact a3, by rw [b3 _ hq, if_pos rfl], fun i hi => ?_, by rw [eb]; exact a5 p4⟩
            rw [eb, a4 i (by omega), b4 _ (by omega)]
            by_cases e1 : s ≤ i
            · rw [if_pos (by omega), if_pos (by omega), by_and, show 40 * (2 * o + p) + i - (40 * (2 * o + p) + s) = i - s by omega]
            · rw [if_neg (by omega), if_neg (by omega)]
              exact p3 i (by omega)
          · obtain ⟨n, q1, q2, q3, q4, q5⟩ := h6 q hq
            refine ⟨n, q1, by rw [fr.2 _ (by omega)]; exact q2, by rw [b3 _ hq, if_neg eq]; exact q3, fun i hi => ?_, by rw [fr.2 _ (by omega)]; exact q5⟩
            rw [fr.2 (1088 + q) (by omega), b4 _ (by omega), if_neg (by omega)]
            exact q4 i hi
        · intro o' ho'
          obtain ⟨n, r1, r2, r3, r4, r5⟩ := h8 o' ho'
          refine ⟨n, r1, by rw [fr.2 _ (by omega)]; exact r2, by rw [fr.2 _ (by omega)]; exact r3, fun r hr => ?_, by rw [fr.2 2368 (by omega), fr.2 2369 (by omega)]; exact r5⟩
          obtain ⟨p', w', t, k, m, b1', b2', b3', b4', b5', b6', b7'⟩ := r4 r hr
          by_cases eq : 2 * o' + p' = 2 * o + p
          · refine ⟨p', w', t, k, s + c, b1', b2', b3', ?_, hle, by rw [eq, ep]; exact a3, ?_⟩
            · rw [eq, p1] at b6'
              have := nI_inj (by omega) (by omega) b6'
              omega
            · rw [fr.2 (1344 + (8 * o' + r)) (by omega), fr.2 2368 (by omega), fr.2 2369 (by omega), fr.2 2370 (by omega), fr.2 2371 (by omega)]
              exact b7'
          · refine ⟨p', w', t, k, m, b1', b2', b3', b4', b5', by rw [fr.2 _ (by omega)]; exact b6', ?_⟩
            rw [fr.2 (1344 + (8 * o' + r)) (by omega), fr.2 2368 (by omega), fr.2 2369 (by omega), fr.2 2370 (by omega), fr.2 2371 (by omega)]
            exact b7'
        · rw [e 16 (by decide)]
          exact RImg.fr (by rw [fr.2 _ (by omega)]) (fr.2 _ (by omega)) (fr.2 _ (by omega)) h11
    · refine ⟨u, 2, stI (stI u 2048 0 0) 2048 0 2, 0, ?_, ?_, stI_same, fun z => absurd z (by decide), (h.thr 0).thr 2⟩
      · unfold fn_Lw_put bk_Lw_put_0
        rw [ec, if_neg hle]
        rfl
      · rw [em u hm p2, if_neg hle]

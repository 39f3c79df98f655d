/-! refer -/
theorem rd_up {al al' : Nat → Bool} {u w : Mr} {k a T : Nat} {i : Int32} (hm : ∀ z, al z = true → al' z = true) (he : w.2.1 k i = u.2.1 k i) (h : rdR al u k i T = some a) : rdR al' w k i T = some a := by
  obtain ⟨h1, h2⟩ := rdR_some h
  refine rd_of (he.trans h1) ?_
  unfold okk
  rw [Bool.and_eq_true, decide_eq_true_eq]
  exact ⟨hm a (okk_al h2), okk_t h2⟩
def far (k : Nat) : Prop := k < 1152 ∨ (1280 ≤ k ∧ k < 1344) ∨ 2048 ≤ k
theorem Sc.up {al al' : Nat → Bool} {u w : Mr} (hm : ∀ z, al z = true → al' z = true) (he : ∀ k i, far k → w.2.1 k i = u.2.1 k i) (h : Sc al u) : Sc al' w := by
  obtain ⟨⟨a1, a2, a3, a4, a5, a6⟩, b, c, d, e, ⟨f1, f2, f3⟩, g, i, j, k⟩ := h
  have q : ∀ {k a T : Nat} {i : Int32}, far k → rdR al u k i T = some a → rdR al' w k i T = some a := fun hk h => rd_up hm (he _ _ hk) h
  unfold far at q
  exact ⟨⟨q (by omega) a1, q (by omega) a2, q (by omega) a3, q (by omega) a4, q (by omega) a5, q (by omega) a6⟩, fun o ho => q (by omega) (b o ho), fun o ho => q (by omega) (c o ho), fun o ho => q (by omega) (d o ho), fun o ho => q (by omega) (e o ho), ⟨q (by omega) f1, q (by omega) f2, q (by omega) f3⟩, fun o ho => q (by omega) (g o ho), fun o ho => ⟨q (by omega) (i o ho).1, q (by omega) (i o ho).2⟩, fun o p ho hp => q (by omega) (j o p ho hp), fun o ho => q (by omega) (k o ho)⟩
theorem Sm.up {al al' : Nat → Bool} {u w : Mr} (hm : ∀ z, al z = true → al' z = true) (he : ∀ k i, far k → w.2.1 k i = u.2.1 k i) (h : Sm al u) : Sm al' w := by
  obtain ⟨⟨a1, a2, a3, a4, a5, a6, a7⟩, ⟨b1, b2, b3, b4, b5, b6, b7, b8⟩, c1, c2, c3, c4, c5, c6, c7, c8⟩ := h
  have q : ∀ {a T : Nat} {i : Int32}, rdR al u 2048 i T = some a → rdR al' w 2048 i T = some a := fun h => rd_up hm (he _ _ (Or.inr (Or.inr (Nat.le_refl _)))) h
  exact ⟨⟨q a1, q a2, q a3, q a4, q a5, q a6, q a7⟩, ⟨q b1, q b2, q b3, q b4, q b5, q b6, q b7, q b8⟩, q c1, q c2, q c3, q c4, q c5, q c6, q c7, q c8⟩
theorem e_get {F o n r : Nat} {al : Nat → Bool} {u : Mr} (h1 : u.1 (1152 + o) 2 = nI n) (hn : n ≤ 8) (hr : r < n) (h2 : rdR al u (1152 + o) 1 19 = some (1216 + o)) (h3 : rdR al u (1216 + o) (nI r) 21 = some (1344 + (8 * o + r))) : fn_Al_get F al u (1152 + o) (nI r) = some (u, 1344 + (8 * o + r)) ∧ okk al 21 (1344 + (8 * o + r)) = true := by
  have hk := (rdR_some h3).2
  refine ⟨?_, hk⟩
  unfold fn_Al_get bk_Al_get_0 fn_Os_checkIndex bk_Os_checkIndex_0 fn_Pc_checkIndex bk_Pc_checkIndex_0
  rw [h1, if_neg (na_neg (by omega)), if_pos ((na_lt (by omega) (by omega)).mpr hr), bd2_s, bd2_s]
  unfold fn_Al_elementData bk_Al_elementData_0
  rw [bd1_eq h2, ck_eq (in_t (by omega) (by decide)), bd1_eq h3, bd2_s, ck_eq hk]
/-- an old reference of the part overlaps a new word -/
def Ovl (u : Mr) (o p w r : Nat) : Prop := u.1 2368 (nI (8 * o + r)) = nI p ∧ ∀ v, v < 2 ^ 31 → u.1 2369 (nI (8 * o + r)) = nI v → v < w + 4 ∧ w < v + 4
theorem abs_4 {v w : Nat} (hv : v ≤ 40) (hw : w ≤ 40) : ((4 : Int32) ≤ (if 0 ≤ nI v - nI w then nI v - nI w else 0 - (nI v - nI w))) ↔ (v + 4 ≤ w ∨ w + 4 ≤ v) := by
  have e : (nI v - nI w).toInt = (v : Int) - w := by
    rw [Int32.toInt_sub, nI_toInt (by omega), nI_toInt (by omega)]
    unfold Int.bmod
    simp only []
    split <;> omega
  by_cases h : 0 ≤ nI v - nI w
  · rw [if_pos h, Int32.le_iff_toInt_le, e, show (4 : Int32).toInt = 4 from rfl]
    have := Int32.le_iff_toInt_le.mp h
    rw [e, show (0 : Int32).toInt = 0 from rfl] at this
    omega
  · rw [if_neg h, Int32.le_iff_toInt_le, Int32.toInt_sub, e, show (4 : Int32).toInt = 4 from rfl, show (0 : Int32).toInt = 0 from rfl]
    have : ¬ (0 : Int32).toInt ≤ (nI v - nI w).toInt := fun z => h (Int32.le_iff_toInt_le.mpr z)
    rw [e, show (0 : Int32).toInt = 0 from rfl] at this
    unfold Int.bmod
    simp only []
    split <;> omega
theorem ovc {F o p w n : Nat} {al : Nat → Bool} {u : Mr} (ho : o < 4) (hw : w ≤ 40) (hc : Sc al u) (hn : n ≤ 8) (h1 : u.1 (1152 + o) 2 = nI n) (h2 : 0 < n → rdR al u (1152 + o) 1 19 = some (1216 + o) ∧ ∀ r, r < n → rdR al u (1216 + o) (nI r) 21 = some (1344 + (8 * o + r)))
    (h3 : ∀ r, r < n → ∃ q v, q < 2 ∧ v ≤ 40 ∧ u.1 (1344 + (8 * o + r)) 0 = nI q ∧ u.1 (1344 + (8 * o + r)) 1 = nI v ∧ u.1 2368 (nI (8 * o + r)) = nI q ∧ u.1 2369 (nI (8 * o + r)) = nI v) (hp : p < 2) :
    ∀ d c i, d + i = n → d < c → ∃ v, bk_Ob_overlaps_2 F al c u (896 + o) (nI p) (nI w) (nI i) = some (u, v) ∧ (v = 0 ∨ v = 1) ∧ (v = 1 ↔ ∃ r, i ≤ r ∧ r < n ∧ Ovl u o p w r) := by
  intro d
  induction d with
  | zero =>
    intro c i hi hcc
    obtain ⟨c, rfl⟩ : ∃ q, c = q + 1 := ⟨c - 1, by omega⟩
    rw [bk_Ob_overlaps_2, bd1_eq (hc.2.2.2.2.2.2.2.1 o ho).2]
    unfold fn_Al_size bk_Al_size_0
    rw [bd2_s, h1, if_pos ((na_le (by omega) (by omega)).mpr (by omega))]
    refine ⟨0, rfl, Or.inl rfl, ⟨fun z => absurd z (by decide), fun ⟨r, r1, r2, _⟩ => by omega⟩⟩
  | succ d ih =>
    intro c i hi hcc
    obtain ⟨c, rfl⟩ : ∃ q, c = q + 1 := ⟨c - 1, by omega⟩
    obtain ⟨g1, g2⟩ := e_get (F := F) h1 hn (show i < n by omega) (h2 (by omega)).1 ((h2 (by omega)).2 i (by omega))
    obtain ⟨q, v, hq, hv, a1, a2, a3, a4⟩ := h3 i (by omega)
    rw [bk_Ob_overlaps_2, bd1_eq (hc.2.2.2.2.2.2.2.1 o ho).2]
    unfold fn_Al_size bk_Al_size_0
    rw [bd2_s, h1, if_neg (fun z => absurd ((na_le (by omega) (by omega)).mp z) (by omega)), bd1_eq (hc.2.2.2.2.2.2.2.1 o ho).2, g1, bd2_s, ck_eq g2]
    unfold fn_Rf_part bk_Rf_part_0
    rw [bd2_s, a1]
    have step : ∃ v, bk_Ob_overlaps_51 F al (bk_Ob_overlaps_2 F al c) u (896 + o) (nI p) (nI w) (nI i) = some (u, v) ∧ (v = 0 ∨ v = 1) ∧ (v = 1 ↔ ∃ r, i + 1 ≤ r ∧ r < n ∧ Ovl u o p w r) := by
      unfold bk_Ob_overlaps_51
      rw [show nI i + (1 : Int32) = nI (i + 1) from na_add _ 1]
      exact ih c (i + 1) (by omega) (by omega)
    have skip : ¬ Ovl u o p w i → ∃ v, bk_Ob_overlaps_51 F al (bk_Ob_overlaps_2 F al c) u (896 + o) (nI p) (nI w) (nI i) = some (u, v) ∧ (v = 0 ∨ v = 1) ∧ (v = 1 ↔ ∃ r, i ≤ r ∧ r < n ∧ Ovl u o p w r) := fun hno => by
      obtain ⟨v, s1, s2, s3⟩ := step
      refine ⟨v, s1, s2, s3.trans ⟨fun ⟨r, r1, r2, r3⟩ => ⟨r, by omega, r2, r3⟩, fun ⟨r, r1, r2, r3⟩ => ⟨r, ?_, r2, r3⟩⟩⟩
      rcases Nat.lt_or_ge i r with z | z
      · exact z
      · exact absurd (show r = i by omega ▸ r3) (fun e => hno (by have : r = i := by omega; subst this; exact r3))
    by_cases hqp : nI q = nI p
    · rw [if_pos hqp]
      unfold fn_Rf_place bk_Rf_place_0
      rw [bd2_s, a2]
      by_cases h4 : v + 4 ≤ w ∨ w + 4 ≤ v
      · rw [if_pos ((abs_4 hv hw).mpr h4)]
        exact skip (fun z => by
          have := z.2 v (by omega) a4
          omega)
      · rw [if_neg (fun z => h4 ((abs_4 hv hw).mp z))]
        refine ⟨1, rfl, Or.inr rfl, ⟨fun _ => ⟨i, Nat.le_refl _, by omega, a3.trans hqp, fun v' hv' e => ?_⟩, fun _ => rfl⟩⟩
        have : v' = v := nI_inj hv' (by omega) (e.symm.trans a4)
        omega
    · rw [if_neg hqp]
      exact skip (fun z => hqp (a3.symm.trans z.1))
theorem ovm {F o p w n : Nat} {al : Nat → Bool} {u : Mr} (ho : o < 4) (hw : w ≤ 40) (hm : Sm al u) (hn : n ≤ 8) (h1 : u.1 2241 (nI o) = nI n) (h3 : ∀ r, r < n → ∃ q v, q < 2 ∧ v ≤ 40 ∧ u.1 2368 (nI (8 * o + r)) = nI q ∧ u.1 2369 (nI (8 * o + r)) = nI v) (hp : p < 2) :
    ∀ d c i acc, (acc = 0 ∨ acc = 1) → d + i = n → d < c → ∃ v, bk_Md_overlaps_9 F al c u 2048 (nI o) (nI p) (nI w) acc (nI (8 * o + i)) = some (u, v) ∧ (v = 0 ∨ v = 1) ∧ (v = 1 ↔ acc = 1 ∨ ∃ r, i ≤ r ∧ r < n ∧ Ovl u o p w r) := by
  intro d
  induction d with
  | zero =>
    intro c i acc hacc hi hcc
    obtain ⟨c, rfl⟩ : ∃ q, c = q + 1 := ⟨c - 1, by omega⟩
    rw [bk_Md_overlaps_9, bd1_eq hm.1.2.2.2.2.2.2, ck_eq (in_t ho (by decide)), h1, show ((8 : Int32) * nI o) + nI n = nI (8 * o + n) by rw [show (8 : Int32) = nI 8 from rfl, na_mul, na_add], if_pos ((na_le (by omega) (by omega)).mpr (by omega)), ck_eq (decide_eq_true hacc)]
    exact ⟨acc, rfl, hacc, ⟨Or.inl, fun z => z.elim id (fun ⟨r, r1, r2, _⟩ => by omega)⟩⟩
  | succ d ih =>
    intro c i acc hacc hi hcc
    obtain ⟨c, rfl⟩ : ∃ q, c = q + 1 := ⟨c - 1, by omega⟩
    obtain ⟨q, v, hq, hv, a3, a4⟩ := h3 i (by omega)
    rw [bk_Md_overlaps_9, bd1_eq hm.1.2.2.2.2.2.2, ck_eq (in_t ho (by decide)), h1, show ((8 : Int32) * nI o) + nI n = nI (8 * o + n) by rw [show (8 : Int32) = nI 8 from rfl, na_mul, na_add], if_neg (fun z => absurd ((na_le (by omega) (by omega)).mp z) (by omega))]
    have st : ∀ a', (a' = 0 ∨ a' = 1) → ∃ v, bk_Md_overlaps_72 F al (bk_Md_overlaps_9 F al c) u a' 2048 (nI o) (nI p) (nI w) (nI (8 * o + i)) = some (u, v) ∧ (v = 0 ∨ v = 1) ∧ (v = 1 ↔ a' = 1 ∨ ∃ r, i + 1 ≤ r ∧ r < n ∧ Ovl u o p w r) := fun a' ha' => by
      unfold bk_Md_overlaps_72
      rw [show nI (8 * o + i) + (1 : Int32) = nI (8 * o + (i + 1)) from na_add _ 1]
      exact ih c (i + 1) a' ha' (by omega) (by omega)
    have no : ¬ Ovl u o p w i → acc = 0 → ∃ v, bk_Md_overlaps_71 F al (bk_Md_overlaps_9 F al c) u 2048 (nI o) (nI p) (nI w) (nI (8 * o + i)) = some (u, v) ∧ (v = 0 ∨ v = 1) ∧ (v = 1 ↔ acc = 1 ∨ ∃ r, i ≤ r ∧ r < n ∧ Ovl u o p w r) := fun hno h0 => by
      unfold bk_Md_overlaps_71
      obtain ⟨v, s1, s2, s3⟩ := st 0 (Or.inl rfl)
      refine ⟨v, s1, s2, s3.trans ⟨fun z => ?_, fun z => ?_⟩⟩
      · rcases z with z | ⟨r, r1, r2, r3⟩
        · exact absurd z (by decide)
        · exact Or.inr ⟨r, by omega, r2, r3⟩
      · rcases z with z | ⟨r, r1, r2, r3⟩
        · rw [h0] at z
          exact absurd z (by decide)
        · rcases Nat.lt_or_ge i r with y | y
          · exact Or.inr ⟨r, y, r2, r3⟩
          · have : r = i := by omega
            subst this
            exact absurd r3 hno
    have yes : (acc = 1 ∨ Ovl u o p w i) → ∃ v, bk_Md_overlaps_67 F al (bk_Md_overlaps_9 F al c) u 2048 (nI o) (nI p) (nI w) (nI (8 * o + i)) = some (u, v) ∧ (v = 0 ∨ v = 1) ∧ (v = 1 ↔ acc = 1 ∨ ∃ r, i ≤ r ∧ r < n ∧ Ovl u o p w r) := fun hy => by
      unfold bk_Md_overlaps_67
      obtain ⟨v, s1, s2, s3⟩ := st 1 (Or.inr rfl)
      refine ⟨v, s1, s2, ⟨fun _ => hy.imp id (fun z => ⟨i, Nat.le_refl _, by omega, z⟩), fun _ => s3.mpr (Or.inl rfl)⟩⟩
    by_cases h0 : acc = 0
    · rw [if_pos h0, bd1_eq hm.2.1.1, ck_eq (in_t (by omega) (by decide)), a3]
      by_cases hqp : nI q = nI p
      · rw [if_pos hqp, bd1_eq hm.2.1.2.1, ck_eq (in_t (by omega) (by decide)), a4, show nI v + (4 : Int32) = nI (v + 4) from na_add _ 4, show nI w + (4 : Int32) = nI (w + 4) from na_add _ 4]
        by_cases q1 : v + 4 ≤ w
        · rw [if_pos ((na_le (by omega) (by omega)).mpr q1)]
          exact no (fun z => by have := z.2 v (by omega) a4; omega) h0
        · rw [if_neg (fun z => q1 ((na_le (by omega) (by omega)).mp z)), bd1_eq hm.2.1.2.1, ck_eq (in_t (by omega) (by decide))]
          by_cases q2 : w + 4 ≤ v
          · rw [a4, if_pos ((na_le (by omega) (by omega)).mpr q2)]
            exact no (fun z => by have := z.2 v (by omega) a4; omega) h0
          · rw [a4, if_neg (fun z => q2 ((na_le (by omega) (by omega)).mp z))]
            refine yes (Or.inr ⟨a3.trans hqp, fun v' hv' e => ?_⟩)
            have : v' = v := nI_inj hv' (by omega) (e.symm.trans a4)
            omega
      · rw [if_neg hqp]
        exact no (fun z => hqp (a3.symm.trans z.1)) h0
    · rw [if_neg h0]
      exact yes (Or.inl (hacc.resolve_left h0))

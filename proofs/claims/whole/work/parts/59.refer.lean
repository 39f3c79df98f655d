/-! refer -/
theorem rd_up {al al' : Nat → Bool} {u w : Mr} {k a T : Nat} {i : Int32} (hm : ∀ z, al z = true → al' z = true) (he : w.2.1 k i = u.2.1 k i) (h : rdR al u k i T = some a) : rdR al' w k i T = some a := by
  obtain ⟨h1, h2⟩ := rdR_some h
  refine rd_of (he.trans h1) ?_
  unfold okk
  rw [Bool.and_eq_true, decide_eq_true_eq]
  exact ⟨hm a (okk_al h2), okk_t h2⟩
def far (k : Nat) : Prop := k < 1152 ∨ (1280 ≤ k ∧ k < 1344) ∨ 2048 ≤ k
theorem Sc.up {al al' : Nat → Bool} {u w : Mr} (hm : ∀ z, al z = true → al' z = true) (he : ∀ k i, far k → w.2.1 k i = u.2.1 k i) (h : Sc al u) : Sc al' w := by
  obtain ⟨⟨a1, a2, a3, a4, a5, a6⟩, b, c, d, e, ⟨f1, f2, f3⟩, g, i, j, k⟩ := h
  have q : ∀ {k a T : Nat} {i : Int32}, far k → rdR al u k i T = some a → rdR al' w k i T = some a := fun hk h => rd_up hm (he _ _ hk) h
  unfold far at q
  exact ⟨⟨q (by omega) a1, q (by omega) a2, q (by omega) a3, q (by omega) a4, q (by omega) a5, q (by omega) a6⟩, fun o ho => q (by omega) (b o ho), fun o ho => q (by omega) (c o ho), fun o ho => q (by omega) (d o ho), fun o ho => q (by omega) (e o ho), ⟨q (by omega) f1, q (by omega) f2, q (by omega) f3⟩, fun o ho => q (by omega) (g o ho), fun o ho => ⟨q (by omega) (i o ho).1, q (by omega) (i o ho).2⟩, fun o p ho hp => q (by omega) (j o p ho hp), fun o ho => q (by omega) (k o ho)⟩
theorem Sm.up {al al' : Nat → Bool} {u w : Mr} (hm : ∀ z, al z = true → al' z = true) (he : ∀ k i, far k → w.2.1 k i = u.2.1 k i) (h : Sm al u) : Sm al' w := by
  obtain ⟨⟨a1, a2, a3, a4, a5, a6, a7⟩, ⟨b1, b2, b3, b4, b5, b6, b7, b8⟩, c1, c2, c3, c4, c5, c6, c7, c8⟩ := h
  have q : ∀ {a T : Nat} {i : Int32}, rdR al u 2048 i T = some a → rdR al' w 2048 i T = some a := fun h => rd_up hm (he _ _ (Or.inr (Or.inr (Nat.le_refl _)))) h
  exact ⟨⟨q a1, q a2, q a3, q a4, q a5, q a6, q a7⟩, ⟨q b1, q b2, q b3, q b4, q b5, q b6, q b7, q b8⟩, q c1, q c2, q c3, q c4, q c5, q c6, q c7, q c8⟩
theorem e_get {F o n r : Nat} {al : Nat → Bool} {u : Mr} (h1 : u.1 (1152 + o) 2 = nI n) (hn : n ≤ 8) (hr : r < n) (h2 : rdR al u (1152 + o) 1 19 = some (1216 + o)) (h3 : rdR al u (1216 + o) (nI r) 21 = some (1344 + (8 * o + r))) : fn_Al_get F al u (1152 + o) (nI r) = some (u, 1344 + (8 * o + r)) ∧ okk al 21 (1344 + (8 * o + r)) = true := by
  have hk := (rdR_some h3).2
  refine ⟨?_, hk⟩
  unfold fn_Al_get bk_Al_get_0 fn_Os_checkIndex bk_Os_checkIndex_0 fn_Pc_checkIndex bk_Pc_checkIndex_0
  rw [h1, if_neg (na_neg (by omega)), if_pos ((na_lt (by omega) (by omega)).mpr hr), bd2_s, bd2_s]
  unfold fn_Al_elementData bk_Al_elementData_0
  rw [bd1_eq h2, ck_eq (in_t (by omega) (by decide)), bd1_eq h3, bd2_s, ck_eq hk]
/-- an old reference of the part overlaps a new word -/
def Ovl (u : Mr) (o p w r : Nat) : Prop := u.1 2368 (nI (8 * o + r)) = nI p ∧ ∀ v, v < 2 ^ 31 → u.1 2369 (nI (8 * o + r)) = nI v → v < w + 4 ∧ w < v + 4
theorem abs_4 {v w : Nat} (hv : v ≤ 40) (hw : w ≤ 40) : ((4 : Int32) ≤ (if 0 ≤ nI v - nI w then nI v - nI w else 0 - (nI v - nI w))) ↔ (v + 4 ≤ w ∨ w + 4 ≤ v) := by
  have e : (nI v - nI w).toInt = (v : Int) - w := by
    rw [Int32.toInt_sub, nI_toInt (by omega), nI_toInt (by omega)]
    unfold Int.bmod
    simp only []
    split <;> omega
  by_cases h : 0 ≤ nI v - nI w
  · rw [if_pos h, Int32.le_iff_toInt_le, e, show (4 : Int32).toInt = 4 from rfl]
    have := Int32.le_iff_toInt_le.mp h
    rw [e, show (0 : Int32).toInt = 0 from rfl] at this
    omega
  · rw [if_neg h, Int32.le_iff_toInt_le, Int32.toInt_sub, e, show (4 : Int32).toInt = 4 from rfl, show (0 : Int32).toInt = 0 from rfl]
    have : ¬ (0 : Int32).toInt ≤ (nI v - nI w).toInt := fun z => h (Int32.le_iff_toInt_le.mpr z)
    rw [e, show (0 : Int32).toInt = 0 from rfl] at this
    unfold Int.bmod
    simp only []
    split <;> omega
theorem ovc {F o p w n : Nat} {al : Nat → Bool} {u : Mr} (ho : o < 4) (hw : w ≤ 40) (hc : Sc al u) (hn : n ≤ 8) (h1 : u.1 (1152 + o) 2 = nI n) (h2 : 0 < n → rdR al u (1152 + o) 1 19 = some (1216 + o) ∧ ∀ r, r < n → rdR al u (1216 + o) (nI r) 21 = some (1344 + (8 * o + r)))
    (h3 : ∀ r, r < n → ∃ q v, q < 2 ∧ v ≤ 40 ∧ u.1 (1344 + (8 * o + r)) 0 = nI q ∧ u.1 (1344 + (8 * o + r)) 1 = nI v ∧ u.1 2368 (nI (8 * o + r)) = nI q ∧ u.1 2369 (nI (8 * o + r)) = nI v) (hp : p < 2) :
    ∀ d c i, d + i = n → d < c → ∃ v, bk_Ob_overlaps_2 F al c u (896 + o) (nI p) (nI w) (nI i) = some (u, v) ∧ (v = 0 ∨ v = 1) ∧ (v = 1 ↔ ∃ r, i ≤ r ∧ r < n ∧ Ovl u o p w r) := by
  intro d
  induction d with
  | zero =>
    intro c i hi hcc
    obtain ⟨c, rfl⟩ : ∃ q, c = q + 1 := ⟨c - 1, by omega⟩
    rw [bk_Ob_overlaps_2, bd1_eq (hc.2.2.2.2.2.2.2.1 o ho).2]
    unfold fn_Al_size bk_Al_size_0
    rw [bd2_s, h1, if_pos ((na_le (by omega) (by omega)).mpr (by omega))]
    refine ⟨0, rfl, Or.inl rfl, ⟨fun z => absurd z (by decide), fun ⟨r, r1, r2, _⟩ => by omega⟩⟩
  | succ d ih =>
    intro c i hi hcc
    obtain ⟨c, rfl⟩ : ∃ q, c = q + 1 := ⟨c - 1, by omega⟩
    obtain ⟨g1, g2⟩ := e_get (F := F) h1 hn (show i < n by omega) (h2 (by omega)).1 ((h2 (by omega)).2 i (by omega))
    obtain ⟨q, v, hq, hv, a1, a2, a3, a4⟩ := h3 i (by omega)
    rw [bk_Ob_overlaps_2, bd1_eq (hc.2.2.2.2.2.2.2.1 o ho).2]
    unfold fn_Al_size bk_Al_size_0
    rw [bd2_s, h1, if_neg (fun z => absurd ((na_le (by omega) (by omega)).mp z) (by omega)), bd1_eq (hc.2.2.2.2.2.2.2.1 o ho).2, g1, bd2_s, ck_eq g2]
    unfold fn_Rf_part bk_Rf_part_0
    rw [bd2_s, a1]
    have step : ∃ v, bk_Ob_overlaps_51 F al (bk_Ob_overlaps_2 F al c) u (896 + o) (nI p) (nI w) (nI i) = some (u, v) ∧ (v = 0 ∨ v = 1) ∧ (v = 1 ↔ ∃ r, i + 1 ≤ r ∧ r < n ∧ Ovl u o p w r) := by
      unfold bk_Ob_overlaps_51
      rw [show nI i + (1 : Int32) = nI (i + 1) from na_add _ 1]
      exact ih c (i + 1) (by omega) (by omega)
    have skip : ¬ Ovl u o p w i → ∃ v, bk_Ob_overlaps_51 F al (bk_Ob_overlaps_2 F al c) u (896 + o) (nI p) (nI w) (nI i) = some (u, v) ∧ (v = 0 ∨ v = 1) ∧ (v = 1 ↔ ∃ r, i ≤ r ∧ r < n ∧ Ovl u o p w r) := fun hno => by
      obtain ⟨v, s1, s2, s3⟩ := step
      refine ⟨v, s1, s2, s3.trans ⟨fun ⟨r, r1, r2, r3⟩ => ⟨r, by omega, r2, r3⟩, fun ⟨r, r1, r2, r3⟩ => ⟨r, ?_, r2, r3⟩⟩⟩
      rcases Nat.lt_or_ge i r with z | z
      · exact z
      · have e9 : r = i := by omega
        rw [e9] at r3
        exact absurd r3 hno
    by_cases hqp : nI q = nI p
    · rw [if_pos hqp]
      unfold fn_Rf_place bk_Rf_place_0
      rw [bd2_s, a2]
      by_cases h4 : v + 4 ≤ w ∨ w + 4 ≤ v
      · rw [if_pos ((abs_4 hv hw).mpr h4)]
        exact skip (fun z => by
          have := z.2 v (by omega) a4
          omega)
      · rw [if_neg (fun z => h4 ((abs_4 hv hw).mp z))]
        refine ⟨1, rfl, Or.inr rfl, ⟨fun _ => ⟨i, Nat.le_refl _, by omega, a3.trans hqp, fun v' hv' e => ?_⟩, fun _ => rfl⟩⟩
        have : v' = v := nI_inj hv' (by omega) (e.symm.trans a4)
        omega
    · rw [if_neg hqp]
      exact skip (fun z => hqp (a3.symm.trans z.1))
theorem ovm {F o p w n : Nat} {al : Nat → Bool} {u : Mr} (ho : o < 4) (hw : w ≤ 40) (hm : Sm al u) (hn : n ≤ 8) (h1 : u.1 2241 (nI o) = nI n) (h3 : ∀ r, r < n → ∃ q v, q < 2 ∧ v ≤ 40 ∧ u.1 2368 (nI (8 * o + r)) = nI q ∧ u.1 2369 (nI (8 * o + r)) = nI v) (hp : p < 2) :
    ∀ d c i acc, (acc = 0 ∨ acc = 1) → d + i = n → d < c → ∃ v, bk_Md_overlaps_9 F al c u 2048 (nI o) (nI p) (nI w) acc (nI (8 * o + i)) = some (u, v) ∧ (v = 0 ∨ v = 1) ∧ (v = 1 ↔ acc = 1 ∨ ∃ r, i ≤ r ∧ r < n ∧ Ovl u o p w r) := by
  intro d
  induction d with
  | zero =>
    intro c i acc hacc hi hcc
    obtain ⟨c, rfl⟩ : ∃ q, c = q + 1 := ⟨c - 1, by omega⟩
    rw [bk_Md_overlaps_9, bd1_eq hm.1.2.2.2.2.2.2, ck_eq (in_t ho (by decide)), h1, show ((8 : Int32) * nI o) + nI n = nI (8 * o + n) by rw [show (8 : Int32) = nI 8 from rfl, na_mul, na_add], if_pos ((na_le (by omega) (by omega)).mpr (by omega)), ck_eq (show isz acc = true from decide_eq_true hacc)]
    exact ⟨acc, rfl, hacc, ⟨Or.inl, fun z => z.elim id (fun ⟨r, r1, r2, _⟩ => by omega)⟩⟩
  | succ d ih =>
    intro c i acc hacc hi hcc
    obtain ⟨c, rfl⟩ : ∃ q, c = q + 1 := ⟨c - 1, by omega⟩
    obtain ⟨q, v, hq, hv, a3, a4⟩ := h3 i (by omega)
    rw [bk_Md_overlaps_9, bd1_eq hm.1.2.2.2.2.2.2, ck_eq (in_t ho (by decide)), h1, show ((8 : Int32) * nI o) + nI n = nI (8 * o + n) by rw [show (8 : Int32) = nI 8 from rfl, na_mul, na_add], if_neg (fun z => absurd ((na_le (by omega) (by omega)).mp z) (by omega))]
    have st : ∀ a', (a' = 0 ∨ a' = 1) → ∃ v, bk_Md_overlaps_72 F al (bk_Md_overlaps_9 F al c) u a' 2048 (nI o) (nI p) (nI w) (nI (8 * o + i)) = some (u, v) ∧ (v = 0 ∨ v = 1) ∧ (v = 1 ↔ a' = 1 ∨ ∃ r, i + 1 ≤ r ∧ r < n ∧ Ovl u o p w r) := fun a' ha' => by
      unfold bk_Md_overlaps_72
      rw [show nI (8 * o + i) + (1 : Int32) = nI (8 * o + (i + 1)) from na_add _ 1]
      exact ih c (i + 1) a' ha' (by omega) (by omega)
    have no : ¬ Ovl u o p w i → acc = 0 → ∃ v, bk_Md_overlaps_71 F al (bk_Md_overlaps_9 F al c) u 2048 (nI o) (nI p) (nI w) (nI (8 * o + i)) = some (u, v) ∧ (v = 0 ∨ v = 1) ∧ (v = 1 ↔ acc = 1 ∨ ∃ r, i ≤ r ∧ r < n ∧ Ovl u o p w r) := fun hno h0 => by
      unfold bk_Md_overlaps_71
      obtain ⟨v, s1, s2, s3⟩ := st 0 (Or.inl rfl)
      refine ⟨v, s1, s2, s3.trans ⟨fun z => ?_, fun z => ?_⟩⟩
      · rcases z with z | ⟨r, r1, r2, r3⟩
        · exact absurd z (by decide)
        · exact Or.inr ⟨r, by omega, r2, r3⟩
      · rcases z with z | ⟨r, r1, r2, r3⟩
        · rw [h0] at z
          exact absurd z (by decide)
        · rcases Nat.lt_or_ge i r with y | y
          · exact Or.inr ⟨r, y, r2, r3⟩
          · have : r = i := by omega
            subst this
            exact absurd r3 hno
    have yes : (acc = 1 ∨ Ovl u o p w i) → ∃ v, bk_Md_overlaps_67 F al (bk_Md_overlaps_9 F al c) u 2048 (nI o) (nI p) (nI w) (nI (8 * o + i)) = some (u, v) ∧ (v = 0 ∨ v = 1) ∧ (v = 1 ↔ acc = 1 ∨ ∃ r, i ≤ r ∧ r < n ∧ Ovl u o p w r) := fun hy => by
      unfold bk_Md_overlaps_67
      obtain ⟨v, s1, s2, s3⟩ := st 1 (Or.inr rfl)
      refine ⟨v, s1, s2, ⟨fun _ => hy.imp id (fun z => ⟨i, Nat.le_refl _, by omega, z⟩), fun _ => s3.mpr (Or.inl rfl)⟩⟩
    by_cases h0 : acc = 0
    · rw [if_pos h0, bd1_eq hm.2.1.1, ck_eq (in_t (by omega) (by decide)), a3]
      by_cases hqp : nI q = nI p
      · rw [if_pos hqp, bd1_eq hm.2.1.2.1, ck_eq (in_t (by omega) (by decide)), a4, show nI v + (4 : Int32) = nI (v + 4) from na_add _ 4, show nI w + (4 : Int32) = nI (w + 4) from na_add _ 4]
        by_cases q1 : v + 4 ≤ w
        · rw [if_pos ((na_le (by omega) (by omega)).mpr q1)]
          exact no (fun z => by have := z.2 v (by omega) a4; omega) h0
        · rw [if_neg (fun z => q1 ((na_le (by omega) (by omega)).mp z)), bd1_eq hm.2.1.2.1, ck_eq (in_t (by omega) (by decide))]
          by_cases q2 : w + 4 ≤ v
          · rw [a4, if_pos ((na_le (by omega) (by omega)).mpr q2)]
            exact no (fun z => by have := z.2 v (by omega) a4; omega) h0
          · rw [a4, if_neg (fun z => q2 ((na_le (by omega) (by omega)).mp z))]
            refine yes (Or.inr ⟨a3.trans hqp, fun v' hv' e => ?_⟩)
            have : v' = v := nI_inj hv' (by omega) (e.symm.trans a4)
            omega
      · rw [if_neg hqp]
        exact no (fun z => hqp (a3.symm.trans z.1)) h0
    · rw [if_neg h0]
      exact yes (Or.inl (hacc.resolve_left h0))
theorem Sg.up {al al' : Nat → Bool} {u w : Mr} {g : Nat} (hm : ∀ z, al z = true → al' z = true) (he : ∀ k i, far k → w.2.1 k i = u.2.1 k i) (h : Sg al u g) : Sg al' w g := ⟨h.1, rd_up hm (he _ _ (Or.inl (by decide))) h.2.1, rd_up hm (he _ _ (Or.inl (by decide))) h.2.2⟩
theorem okk_up {al al' : Nat → Bool} {T k : Nat} (hm : ∀ z, al z = true → al' z = true) (h : okk al T k = true) : okk al' T k = true := by
  unfold okk
  rw [Bool.and_eq_true, decide_eq_true_eq]
  exact ⟨hm k (okk_al h), okk_t h⟩
theorem RPart.of1 {v w : Mr} (h : w.1 = v.1) (q : RPart v) : RPart w := by
  unfold RPart at q ⊢
  rw [h]
  exact q
theorem RNam.of1 {v w : Mr} (h : w.1 = v.1) (q : RNam v) : RNam w := by
  unfold RNam at q ⊢
  rw [h]
  exact q
theorem ROff.of1 {v w : Mr} (h : w.1 = v.1) (q : ROff v) : ROff w := by
  unfold ROff at q ⊢
  rw [h]
  exact q
theorem RByt.of1 {v w : Mr} (h : w.1 = v.1) (q : RByt v) : RByt w := by
  unfold RByt at q ⊢
  rw [h]
  exact q
theorem RImg.of1 {v w : Mr} {i row : Nat} {len : Int32} (h : w.1 = v.1) (q : RImg v i row len) : RImg w i row len := by
  unfold RImg at q ⊢
  rw [h]
  exact q
theorem RLd.of1 {v w : Mr} {g : Nat} (h : w.1 = v.1) (q : RLd v g) : RLd w g := by
  unfold RLd RImg at q ⊢
  rw [h]
  exact q
theorem RDef.of1 {v w : Mr} (h : w.1 = v.1) (q : RDef v) : RDef w := by
  obtain ⟨d, a1, a2, a3⟩ := q
  have e := dcnt_fr (u := v) (v := w) (by rw [h])
  refine ⟨d, ?_, ?_, ?_⟩
  · rw [h]
    exact a1
  · rw [h]
    exact a2
  · simp only [e]
    rw [h]
    exact a3
theorem refer_new {al al' : Nat → Bool} {u w2 : Mr} {o p w t k m n : Nat} (h : Inv al u) (ho : o < 4) (hp : p < 2) (ht : t < 3) (hk : k < 16) (hn : n < 8) (hw : w + 4 ≤ m) (hm : u.1 (1024 + (2 * o + p)) 1 = nI m) (hmm : m ≤ 40)
    (hln : u.1 (1152 + o) 2 = nI n) (hno : ∀ r, r < n → ¬ Ovl u o p w r)
    (a1 : ∀ z, al z = true → al' z = true) (a2 : ∀ z, ¬ (z = 1344 + (8 * o + n) ∨ z = 1216 + o) → al' z = al z)
    (g1 : ∀ j, ¬ (j = 1344 + (8 * o + n) ∨ j = 1152 + o ∨ j = 1216 + o ∨ j = 2048 ∨ j = 2241 ∨ j = 2368 ∨ j = 2369 ∨ j = 2370 ∨ j = 2371) → w2.1 j = u.1 j)
    (g2 : w2.1 (1344 + (8 * o + n)) 0 = nI p ∧ w2.1 (1344 + (8 * o + n)) 1 = nI w ∧ w2.1 (1344 + (8 * o + n)) 2 = nI t ∧ w2.1 (1344 + (8 * o + n)) 3 = nI k)
    (g3 : w2.1 (1152 + o) 2 = nI (n + 1)) (g4 : ∀ j i, ¬ (j = 1344 + (8 * o + n) ∨ j = 1152 + o ∨ j = 1216 + o) → w2.2.1 j i = u.2.1 j i)
    (g4' : ∀ i, i ≠ 1 → w2.2.1 (1152 + o) i = u.2.1 (1152 + o) i)
    (g5 : rdR al' w2 (1152 + o) 1 19 = some (1216 + o) ∧ ∀ r, r < n + 1 → rdR al' w2 (1216 + o) (nI r) 21 = some (1344 + (8 * o + r))) (g6 : Cls al' w2)
    (m1 : ∀ i : Int32, i ≠ 0 → w2.1 2048 i = u.1 2048 i) (m2 : ∀ j, j < 32 → w2.1 2368 (nI j) = if j = 8 * o + n then nI p else u.1 2368 (nI j)) (m3 : ∀ j, j < 32 → w2.1 2369 (nI j) = if j = 8 * o + n then nI w else u.1 2369 (nI j))
    (m4 : ∀ j, j < 32 → w2.1 2370 (nI j) = if j = 8 * o + n then nI t else u.1 2370 (nI j)) (m5 : ∀ j, j < 32 → w2.1 2371 (nI j) = if j = 8 * o + n then nI k else u.1 2371 (nI j)) (m6 : ∀ j, j < 4 → w2.1 2241 (nI j) = if j = o then nI (n + 1) else u.1 2241 (nI j)) : Inv al' w2 := by
  obtain ⟨⟨h1, h1a, h1b, h1c⟩, h2, h3, h4, h5, h6, h7, h8, h9, h10, h11, h12, g, h13, h14⟩ := h
  have f : Fr (fun j => j = 1344 + (8 * o + n) ∨ j = 1152 + o ∨ j = 1216 + o ∨ j = 2048 ∨ j = 2241 ∨ j = 2368 ∨ j = 2369 ∨ j = 2370 ∨ j = 2371) u (w2.1, u.2.1, u.2.2) := ⟨rfl, g1⟩
  have hfar : ∀ j i, far j → w2.2.1 j i = u.2.1 j i := fun j i hj => g4 j i (by unfold far at hj; omega)
  have e1 : ∀ v : Mr, v = (w2.1, u.2.1, u.2.2) → w2.1 = v.1 := fun v hv => by rw [hv]
  refine ⟨⟨okk_up a1 h1, okk_up a1 h1a, okk_up a1 h1b, by rw [a2 0 (by omega)]; exact h1c⟩, g6, h3.up a1 hfar, h4.up a1 hfar, ?_, RPart.of1 (e1 _ rfl) (h6.fr f (fun q hq => by omega) (by omega)), RDef.of1 (e1 _ rfl) (h7.fr f (fun o ho => by omega) (fun k hk => by rw [f.2 (1280 + k) (by omega)]; exact ⟨rfl, rfl, rfl, rfl⟩) (by omega)), ?_, RNam.of1 (e1 _ rfl) (h9.fr f (fun k hk => by rw [f.2 (1280 + k) (by omega)]; exact ⟨rfl, rfl, rfl⟩) (by omega)), ROff.of1 (e1 _ rfl) (h10.fr f (fun l hl => by omega) (by omega)), ?_, RByt.of1 (e1 _ rfl) (h12.fr f (by omega)), g, h13.up a1 hfar, RLd.of1 (e1 _ rfl) (h14.fr f (by have := h13.1; omega) ⟨m1 _ (by decide), m1 _ (by decide), m1 _ (by decide), m1 _ (by decide), m1 _ (by decide)⟩)⟩
  · intro o' ho'
    obtain ⟨n', b1, b2, b3, b4, b5⟩ := h5 o' ho'
    by_cases q1 : o' = o
    · rw [q1] at b2 b5 ⊢
      have q2 : n' = n := nI_inj (by omega) (by omega) (b2.symm.trans hln)
      rw [q2] at b5
      refine ⟨n + 1, by omega, g3, fun z => by omega, fun _ => g5, fun r hr1 hr2 => ?_⟩
      rw [a2 _ (by omega)]
      exact b5 r (by omega) hr2
    · refine ⟨n', b1, by rw [g1 (1152 + o') (by omega)]; exact b2, fun z => ?_, fun z => ?_, fun r hr1 hr2 => ?_⟩
      · rw [g4 _ _ (by omega), a2 _ (by omega)]
        exact b3 z
      · obtain ⟨c1, c2⟩ := b4 z
        exact ⟨rd_up a1 (g4 _ _ (by omega)) c1, fun r hr => rd_up a1 (g4 _ _ (by omega)) (c2 r hr)⟩
      · rw [a2 _ (by omega)]
        exact b5 r hr1 hr2
  · intro o' ho'
    obtain ⟨n', b1, b2, b3, b4, b5⟩ := h8 o' ho'
    by_cases q1 : o' = o
    · rw [q1] at b2 b3 b4 b5 ⊢
      have q2 : n' = n := nI_inj (by omega) (by omega) (b2.symm.trans hln)
      rw [q2] at b4 b5
      refine ⟨n + 1, by omega, g3, by rw [m6 _ ho, if_pos rfl], fun r hr => ?_, fun r r' q v v' hr hr' hne hv hv' => ?_⟩
      · rw [m2 _ (by omega), m3 _ (by omega), m4 _ (by omega), m5 _ (by omega)]
        by_cases e2 : r = n
        · rw [e2, if_pos rfl, if_pos rfl, if_pos rfl, if_pos rfl]
          exact ⟨p, w, t, k, m, hp, ht, hk, hw, hmm, by rw [g1 (1024 + (2 * o + p)) (by omega)]; exact hm, g2.1, g2.2.1, g2.2.2.1, g2.2.2.2, rfl, rfl, rfl, rfl⟩
        · rw [if_neg (by omega), if_neg (by omega), if_neg (by omega), if_neg (by omega)]
          obtain ⟨p', w', t', k', m', c1, c2, c3, c4, c5, c6, c⟩ := b4 r (by omega)
          refine ⟨p', w', t', k', m', c1, c2, c3, c4, c5, ?_, ?_⟩
          · rw [g1 (1024 + (2 * o + p')) (by omega)]
            exact c6
          · rw [g1 (1344 + (8 * o + r)) (by omega)]
            exact c
      · rw [m2 (8 * o + r) (by omega), m2 (8 * o + r') (by omega), m3 (8 * o + r) (by omega), m3 (8 * o + r') (by omega)]
        intro z1 z2 z3 z4
        by_cases e2 : r = n
        · rw [if_pos (by omega)] at z1 z3
          rw [if_neg (by omega)] at z2 z4
          have hwv : w = v := nI_inj (by omega) hv z3
          refine Classical.byContradiction fun hc => hno r' (by omega) ⟨z2.trans z1.symm, fun v2 hv2 e3 => ?_⟩
          have : v2 = v' := nI_inj hv2 hv' (e3.symm.trans z4)
          omega
        · rw [if_neg (by omega)] at z1 z3
          by_cases e3 : r' = n
          · rw [if_pos (by omega)] at z2 z4
            have hwv : w = v' := nI_inj (by omega) hv' z4
            refine Classical.byContradiction fun hc => hno r (by omega) ⟨z1.trans z2.symm, fun v2 hv2 e3 => ?_⟩
            have : v2 = v := nI_inj hv2 hv (e3.symm.trans z3)
            omega
          · rw [if_neg (by omega)] at z2 z4
            exact b5 r r' q v v' (by omega) (by omega) hne hv hv' z1 z2 z3 z4
    · refine ⟨n', b1, by rw [g1 (1152 + o') (by omega)]; exact b2, by rw [m6 _ ho', if_neg q1]; exact b3, fun r hr => ?_, fun r r' q v v' hr hr' => ?_⟩
      · rw [m2 _ (by omega), m3 _ (by omega), m4 _ (by omega), m5 _ (by omega), if_neg (by omega), if_neg (by omega), if_neg (by omega), if_neg (by omega)]
        obtain ⟨p', w', t', k', m', c1, c2, c3, c4, c5, c6, c⟩ := b4 r hr
        refine ⟨p', w', t', k', m', c1, c2, c3, c4, c5, ?_, ?_⟩
        · rw [g1 (1024 + (2 * o' + p')) (by omega)]
          exact c6
        · rw [g1 (1344 + (8 * o' + r)) (by omega)]
          exact c
      · rw [m2 (8 * o' + r) (by omega), m2 (8 * o' + r') (by omega), m3 (8 * o' + r) (by omega), m3 (8 * o' + r') (by omega), if_neg (by omega), if_neg (by omega), if_neg (by omega), if_neg (by omega)]
        exact b5 r r' q v v' hr hr'
  · rw [m1 16 (by decide)]
    exact RImg.fr (by rw [g1 384 (by omega)]) (g1 448 (by omega)) (g1 2624 (by omega)) h11
theorem st_st {u : Mr} {k : Nat} {i x y : Int32} : stI (stI u k i x) k i y = stI u k i y := by
  unfold stI
  refine Prod.ext ?_ rfl
  funext a b
  show (if a = k ∧ b = i then y else if a = k ∧ b = i then x else u.1 a b) = if a = k ∧ b = i then y else u.1 a b
  by_cases h : a = k ∧ b = i
  · rw [if_pos h, if_pos h]
  · rw [if_neg h, if_neg h, if_neg h]
theorem le_m4 {w m : Nat} (hw : w < 2 ^ 31) (hm : m ≤ 40) : (nI w ≤ nI m - 4) ↔ w + 4 ≤ m := by
  rw [Int32.le_iff_toInt_le, Int32.toInt_sub, nI_toInt hw, nI_toInt (by omega), show (4 : Int32).toInt = 4 from rfl]
  unfold Int.bmod
  simp only []
  split <;> omega
theorem alo_0 {al : Nat → Bool} {sl : Nat → Option Nat} {k T : Nat} (h : sl 0 = some k) (h1 : al k = false) (h2 : k / 64 = T) : alo al sl 0 T = some k := by
  unfold alo
  rw [h]
  show (if aln al sl 0 k = false ∧ k / 64 = T then some k else none) = some k
  rw [aln0, if_pos ⟨h1, h2⟩]
theorem aln_A {al : Nat → Bool} {k z : Nat} : aln al (slA k) 1 z = (al z || decide (z = k)) := by
  unfold aln
  rw [show Bn (slA k) 1 = [k] from rfl]
  simp
theorem aln_B1 {al : Nat → Bool} {k k' z : Nat} : aln al (slB k k') 1 z = (al z || decide (z = k)) := by
  unfold aln
  rw [show Bn (slB k k') 1 = [k] from rfl]
  simp
theorem aln_B {al : Nat → Bool} {k k' z : Nat} : aln al (slB k k') 2 z = (al z || (decide (z = k') || decide (z = k))) := by
  unfold aln
  rw [show Bn (slB k k') 2 = [k', k] from rfl]
  simp
/-- the reference's part, up to the overlaps -/
theorem refer_m {F o p t k m : Nat} {al : Nat → Bool} {v : Mr} {y : Int32} (ho : o < 4) (hp : p < 2) (ht : t < 3) (hk : k < 16) (hm : Sm al v) (p2 : v.1 2112 (nI (2 * o + p)) = nI m) :
    fn_Md_refer F al v 2048 (nI o) (nI p) y (nI t) (nI k) = if y < 0 ∨ ¬ y ≤ nI m - 4 then some (stI v 2048 0 1, 0) else bd2 (fn_Md_overlaps F al (stI v 2048 0 0) 2048 (nI o) (nI p) y) fun u2 v2 => (bd2 (fn_Md_fails F al u2 2048 v2 (1 : Int32)) fun u3 v3 => (if v3 = 0 then (bd1 (rdR al u3 2048 7 35) fun y4 => (ck (inb (nI o) 4) (if (u3.1 y4 (nI o)) = (8 : Int32) then (bk_Md_refer_115 F al u3 2048 (1 : Int32) 2048 (nI o) (nI p) y (nI t) (nI k)) else (bk_Md_refer_115 F al u3 2048 (0 : Int32) 2048 (nI o) (nI p) y (nI t) (nI k))))) else (some (u3, 0)))) := by
  have bad : ∀ u : Mr, bk_Md_refer_70 F al u 2048 2048 (nI o) (nI p) y (nI t) (nI k) = some (stI u 2048 0 1, 0) := fun u => by
    unfold bk_Md_refer_70 bk_Md_refer_75
    rw [e_fails (Or.inr rfl), bd2_s, if_neg (by decide)]
    rfl
  unfold fn_Md_refer bk_Md_refer_0
  rw [e_out, if_neg (show ¬ (nI o < 0 ∨ (4 : Int32) ≤ nI o) from na_ns (n := 4) (by decide) ho), bd2_s, if_pos rfl, e_out, if_neg (show ¬ (nI p < 0 ∨ (2 : Int32) ≤ nI p) from na_ns (n := 2) (by decide) hp), bd2_s, if_pos rfl, e_out, if_neg (show ¬ (nI t < 0 ∨ (3 : Int32) ≤ nI t) from na_ns (n := 3) (by decide) ht), bd2_s, if_pos rfl, e_out, if_neg (show ¬ (nI k < 0 ∨ (16 : Int32) ≤ nI k) from na_ns (n := 16) (by decide) hk), bd2_s, if_pos rfl]
  unfold bk_Md_refer_41
  rw [e_fails (Or.inl rfl), bd2_s, if_pos rfl, if_pos rfl]
  by_cases h0 : y < 0
  · rw [if_pos h0, if_pos (Or.inl h0), bad, st_st]
  · rw [if_neg h0, bd1_eq (show rdR al (stI v 2048 0 0) 2048 1 33 = some 2112 from hm.1.1), show ((2 : Int32) * nI o) + nI p = nI (2 * o + p) by rw [show (2 : Int32) = nI 2 from rfl, na_mul, na_add], ck_eq (in_t (by omega) (by decide)), stI_ne (by decide), p2]
    by_cases h1 : y ≤ nI m - 4
    · rw [if_pos h1, if_neg (fun z => z.elim h0 (fun z => z h1))]
      unfold bk_Md_refer_75
      rw [e_fails (Or.inl rfl), bd2_s, if_pos rfl, if_pos rfl, st_st]
    · rw [if_neg h1, if_pos (Or.inr h1), bad, st_st]
/-- the reference's writes -/
theorem refer_w {F o p w t k n : Nat} {al : Nat → Bool} {v : Mr} (ho : o < 4) (hn : n < 8) (hm : Sm al v) (p3 : v.1 2241 (nI o) = nI n) :
    bk_Md_refer_115 F al (stI v 2048 0 0) 2048 0 2048 (nI o) (nI p) (nI w) (nI t) (nI k) = some (stI (stI (stI (stI (stI (stI v 2048 0 0) 2368 (nI (8 * o + n)) (nI p)) 2369 (nI (8 * o + n)) (nI w)) 2370 (nI (8 * o + n)) (nI t)) 2371 (nI (8 * o + n)) (nI k)) 2241 (nI o) (nI (n + 1)), 0) := by
  have e8 : ((8 : Int32) * nI o) + nI n = nI (8 * o + n) := by rw [show (8 : Int32) = nI 8 from rfl, na_mul, na_add]
  have hv : (stI v 2048 0 0).1 2241 (nI o) = nI n := by rw [stI_ne (by decide)]; exact p3
  unfold bk_Md_refer_115
  rw [e_fails (Or.inl rfl), bd2_s, if_pos rfl, if_pos rfl, st_st]
  generalize hz : stI v 2048 0 0 = z at hv
  have hzm : Sm al z := by
    rw [← hz]
    exact hm
  simp only [rdR_I]
  rw [bd1_eq hzm.1.2.2.2.2.2.2, ck_eq (in_t ho (by decide)), bd1_eq hzm.2.1.1, hv, e8, ck_eq (in_t (by omega) (by decide)), bd1_eq hzm.2.1.2.1, ck_eq (in_t (by omega) (by decide)), bd1_eq hzm.2.1.2.2.1, ck_eq (in_t (by omega) (by decide)), bd1_eq hzm.2.1.2.2.2.1, ck_eq (in_t (by omega) (by decide)), bd1_eq hzm.1.2.2.2.2.2.2, ck_eq (in_t ho (by decide)), ck_eq (in_t ho (by decide)), stI_ne (show (2241 : Nat) ≠ 2371 by decide), stI_ne (show (2241 : Nat) ≠ 2370 by decide), stI_ne (show (2241 : Nat) ≠ 2369 by decide), stI_ne (show (2241 : Nat) ≠ 2368 by decide), hv, show nI n + (1 : Int32) = nI (n + 1) from na_add _ 1]
def RefA (F : Nat) (al : Nat → Bool) (u : Mr) (a b y t n : Int32) : Prop := ∃ k1 u1 k u2 r, al k1 = false ∧ k1 ≠ 1472 ∧ fn_Lw_refer F al (slA k1) u 64 a b y t n = some (u1, k) ∧ fn_Md_refer F al u1 2048 a b y t n = some (u2, r) ∧ u2.1 2048 0 = k ∧ (k = 0 → Inv (aln al (slA k1) 1) u2) ∧ (k ≠ 0 → Inv al u2)
def RefB (F : Nat) (al : Nat → Bool) (u : Mr) (a b y t n : Int32) : Prop := ∃ k1 k2 u1 k u2 r, al k1 = false ∧ k1 ≠ 1472 ∧ al k2 = false ∧ k2 ≠ 1472 ∧ k1 ≠ k2 ∧ fn_Lw_referB F al (slB k1 k2) u 64 a b y t n = some (u1, k) ∧ fn_Md_refer F al u1 2048 a b y t n = some (u2, r) ∧ u2.1 2048 0 = k ∧ (k = 0 → Inv (aln al (slB k1 k2) 2) u2) ∧ (k ≠ 0 → Inv al u2)
theorem refer_out {F : Nat} {al : Nat → Bool} {u : Mr} (h : Inv al u) (a b y t n : Int32) (hs : (a < 0 ∨ 4 ≤ a) ∨ (b < 0 ∨ 2 ≤ b) ∨ (t < 0 ∨ 3 ≤ t) ∨ (n < 0 ∨ 16 ≤ n)) : RefA F al u a b y t n := by
  have bad : bk_Md_refer_36 F al u 2048 2048 a b y t n = some (stI u 2048 0 1, 0) := by
    unfold bk_Md_refer_36 bk_Md_refer_41
    rw [e_fails (Or.inr rfl), bd2_s, if_neg (by decide)]
    rfl
  refine ⟨0, u, 1, stI u 2048 0 1, 0, h.1.2.2.2, by decide, ?_, ?_, stI_same, fun z => absurd z (by decide), fun _ => h.thr 1⟩
  · unfold fn_Lw_refer bk_Lw_refer_0 fn_Fg_refer bk_Fg_refer_0
    rw [e_below, bd2_s]
    by_cases h1 : a < 0 ∨ 4 ≤ a
    · rw [if_pos h1, if_pos rfl]
      rfl
    rw [if_neg h1, if_neg (by decide), e_below, bd2_s]
    by_cases h2 : b < 0 ∨ 2 ≤ b
    · rw [if_pos h2, if_pos rfl]
      rfl
    rw [if_neg h2, if_neg (by decide), e_below, bd2_s]
    by_cases h3 : t < 0 ∨ 3 ≤ t
    · rw [if_pos h3, if_pos rfl]
      rfl
    rw [if_neg h3, if_neg (by decide), e_below, bd2_s, if_pos (((hs.resolve_left h1).resolve_left h2).resolve_left h3), if_pos rfl]
    rfl
  · unfold fn_Md_refer bk_Md_refer_0
    rw [e_out, bd2_s]
    by_cases h1 : a < 0 ∨ 4 ≤ a
    · rw [if_pos h1, if_neg (by decide), bad]
    rw [if_neg h1, if_pos rfl, e_out, bd2_s]
    by_cases h2 : b < 0 ∨ 2 ≤ b
    · rw [if_pos h2, if_neg (by decide), bad]
    rw [if_neg h2, if_pos rfl, e_out, bd2_s]
    by_cases h3 : t < 0 ∨ 3 ≤ t
    · rw [if_pos h3, if_neg (by decide), bad]
    rw [if_neg h3, if_pos rfl, e_out, bd2_s, if_pos (((hs.resolve_left h1).resolve_left h2).resolve_left h3), if_neg (by decide), bad]
theorem m_refer {f : Nat} {al : Nat → Bool} {u : Mr} (h : Inv al u) (a b y tt nn : Int32) : RefA (f + 4000) al u a b y tt nn ∨ RefB (f + 4000) al u a b y tt nn := by
  by_cases hs : (a < 0 ∨ 4 ≤ a) ∨ (b < 0 ∨ 2 ≤ b) ∨ (tt < 0 ∨ 3 ≤ tt) ∨ (nn < 0 ∨ 16 ≤ nn)
  · exact Or.inl (refer_out h a b y tt nn hs)
  have n1 : ¬ (a < 0 ∨ 4 ≤ a) := fun z => hs (Or.inl z)
  have n2 : ¬ (b < 0 ∨ 2 ≤ b) := fun z => hs (Or.inr (Or.inl z))
  have n3 : ¬ (tt < 0 ∨ 3 ≤ tt) := fun z => hs (Or.inr (Or.inr (Or.inl z)))
  have n4 : ¬ (nn < 0 ∨ 16 ≤ nn) := fun z => hs (Or.inr (Or.inr (Or.inr z)))
  obtain ⟨o, ho, rfl⟩ := na_sp (n := 4) (by decide) n1
  obtain ⟨p, hp, rfl⟩ := na_sp (n := 2) (by decide) n2
  obtain ⟨t, ht, rfl⟩ := na_sp (n := 3) (by decide) n3
  obtain ⟨k, hk, rfl⟩ := na_sp (n := 16) (by decide) n4
  obtain ⟨hc, hm⟩ := h.base
  obtain ⟨m, hmm, p1, p2, -, -⟩ := h.2.2.2.2.2.1 (2 * o + p) (by omega)
  obtain ⟨n, s1, s2, s3, s4, s5⟩ := h.2.2.2.2.1 o ho
  obtain ⟨n', r1, r2, r3, r4, r5⟩ := h.2.2.2.2.2.2.2.1 o ho
  have hnn : n' = n := nI_inj (by omega) (by omega) (r2.symm.trans s2)
  rw [hnn] at r3 r4
  by_cases hy : y < 0 ∨ ¬ y ≤ nI m - 4
  · refine Or.inl ⟨0, u, 1, stI u 2048 0 1, 0, h.1.2.2.2, by decide, ?_, by rw [refer_m ho hp ht hk hm p2, if_pos hy], stI_same, fun z => absurd z (by decide), fun _ => h.thr 1⟩
    unfold fn_Lw_refer bk_Lw_refer_0 fn_Fg_refer bk_Fg_refer_0
    rw [aln0, e_below, if_neg n1, bd2_s, if_neg (by decide), e_below, if_neg n2, bd2_s, if_neg (by decide), e_below, if_neg n3, bd2_s, if_neg (by decide), e_below, if_neg n4, bd2_s, if_neg (by decide), bd1_eq hc.1.1, ck_eq (in_t ho (by decide)), bd1_eq (hc.2.1 o ho), bd1_eq (hc.2.2.2.2.2.2.2.1 o ho).1, ck_eq (in_t hp (by decide)), bd1_eq (hc.2.2.2.2.2.2.2.2.1 o p ho hp)]
    unfold fn_Pt_holdsWord bk_Pt_holdsWord_0
    rw [p1]
    by_cases h0 : y < 0
    · rw [if_pos h0, bd2_s, if_pos rfl]
      rfl
    · rw [if_neg h0, if_pos (Int32.not_le.mp (hy.resolve_left h0)), bd2_s, if_pos rfl]
      rfl
  have h0 : ¬ y < 0 := fun z => hy (Or.inl z)
  have h1 : y ≤ nI m - 4 := Classical.byContradiction fun z => hy (Or.inr z)
  obtain ⟨w, hw31, rfl⟩ := na_of h0
  have hw : w + 4 ≤ m := (le_m4 hw31 hmm).mp h1
  have hpw : ∀ r, r < n → ∃ q v, q < 2 ∧ v ≤ 40 ∧ u.1 (1344 + (8 * o + r)) 0 = nI q ∧ u.1 (1344 + (8 * o + r)) 1 = nI v ∧ u.1 2368 (nI (8 * o + r)) = nI q ∧ u.1 2369 (nI (8 * o + r)) = nI v := fun r hr => by
    obtain ⟨q, v, t', k', m', c1, c2, c3, c4, c5, c6, c7, c8, c9, c10, c11, c12, c13, c14⟩ := r4 r hr
    exact ⟨q, v, c1, by omega, c7, c8, c11, c12⟩
  obtain ⟨vc, v1, v2, v3⟩ := ovc (F := f + 4000) ho (show w ≤ 40 by omega) hc s1 s2 s4 hpw hp n (f + 4000) 0 (by omega) (by omega)
  have ov : fn_Ob_overlaps (f + 4000) al u (896 + o) (nI p) (nI w) = some (u, vc) := v1
  -- the reference, on any memory that has the same tables
  have em : ∀ v : Mr, Sm al v → v.1 2112 = u.1 2112 → v.1 2241 = u.1 2241 → v.1 2368 = u.1 2368 → v.1 2369 = u.1 2369 → fn_Md_refer (f + 4000) al v 2048 (nI o) (nI p) (nI w) (nI t) (nI k) = if vc = 0 then (if nI n = (8 : Int32) then some (stI v 2048 0 2, 0) else bk_Md_refer_115 (f + 4000) al (stI v 2048 0 0) 2048 0 2048 (nI o) (nI p) (nI w) (nI t) (nI k)) else some (stI v 2048 0 1, 0) := by
    intro v hv e1 e2 e3 e4
    have hz : Sm al (stI v 2048 0 0) := hv
    obtain ⟨vm, w1, w2, w3⟩ := ovm (F := f + 4000) (w := w) (u := stI v 2048 0 0) ho (by omega) hz s1 (by rw [stI_ne (by decide), e2]; exact r3) (fun r hr => by
      obtain ⟨q, v', c1, c2, -, -, c3, c4⟩ := hpw r hr
      exact ⟨q, v', c1, c2, by rw [stI_ne (by decide), e3]; exact c3, by rw [stI_ne (by decide), e4]; exact c4⟩) hp n (f + 4000) 0 0 (Or.inl rfl) (by omega) (by omega)
    have om : fn_Md_overlaps (f + 4000) al (stI v 2048 0 0) 2048 (nI o) (nI p) (nI w) = some (stI v 2048 0 0, vm) := by
      unfold fn_Md_overlaps bk_Md_overlaps_0
      rw [show (8 : Int32) * nI o = nI (8 * o + 0) by rw [show (8 : Int32) = nI 8 from rfl, na_mul, Nat.add_zero]]
      exact w1
    have hO : ∀ r, Ovl (stI v 2048 0 0) o p w r ↔ Ovl u o p w r := fun r => by
      unfold Ovl
      rw [stI_ne (by decide), stI_ne (by decide), e3, e4]
    have same : vm = vc := by
      rcases v2 with z | z
      · rcases w2 with y | y
        · rw [y, z]
        · obtain ⟨r, y1, y2, y3⟩ := (w3.mp y).resolve_left (by decide)
          have := v3.mpr ⟨r, y1, y2, (hO r).mp y3⟩
          rw [z] at this
          exact absurd this (by decide)
      · obtain ⟨r, y1, y2, y3⟩ := v3.mp z
        rw [z]
        exact w3.mpr (Or.inr ⟨r, y1, y2, (hO r).mpr y3⟩)
    rw [refer_m ho hp ht hk hv (by rw [e1]; exact p2), if_neg hy, om, bd2_s, same]
    rcases v2 with z | z
    · rw [z, e_fails (Or.inl rfl), bd2_s, if_pos rfl, if_pos rfl, if_pos rfl, st_st, bd1_eq (show rdR al (stI v 2048 0 0) 2048 7 35 = some 2241 from hv.1.2.2.2.2.2.2), ck_eq (in_t ho (by decide)), stI_ne (by decide), e2, r3]
      by_cases h8 : nI n = (8 : Int32)
      · rw [if_pos h8, if_pos h8]
        unfold bk_Md_refer_115
        rw [e_fails (Or.inr rfl), bd2_s, if_neg (by decide), if_neg (by decide), st_st]
      · rw [if_neg h8, if_neg h8]
    · rw [z, e_fails (Or.inr rfl), bd2_s, if_neg (by decide), if_neg (by decide), if_neg (by decide), st_st]
  have nle : ¬ nI m - 4 < nI w := Int32.not_lt.mpr h1
  by_cases hov : vc = 0
  rotate_left
  · refine Or.inl ⟨0, u, 1, stI u 2048 0 1, 0, h.1.2.2.2, by decide, ?_, by rw [em u hm rfl rfl rfl rfl, if_neg hov], stI_same, fun z => absurd z (by decide), fun _ => h.thr 1⟩
    unfold fn_Lw_refer bk_Lw_refer_0 fn_Fg_refer bk_Fg_refer_0
    rw [aln0, e_below, if_neg n1, bd2_s, if_neg (by decide), e_below, if_neg n2, bd2_s, if_neg (by decide), e_below, if_neg n3, bd2_s, if_neg (by decide), e_below, if_neg n4, bd2_s, if_neg (by decide), bd1_eq hc.1.1, ck_eq (in_t ho (by decide)), bd1_eq (hc.2.1 o ho), bd1_eq (hc.2.2.2.2.2.2.2.1 o ho).1, ck_eq (in_t hp (by decide)), bd1_eq (hc.2.2.2.2.2.2.2.2.1 o p ho hp)]
    unfold fn_Pt_holdsWord bk_Pt_holdsWord_0
    rw [p1, if_neg h0, if_neg nle, bd2_s, if_neg (by decide), ov, bd2_s, if_neg hov]
    rfl
  have hno : ∀ r, r < n → ¬ Ovl u o p w r := fun r hr z => by
    have := v3.mpr ⟨r, Nat.zero_le _, hr, z⟩
    rw [hov] at this
    exact absurd this (by decide)
  by_cases hn8 : n = 8
  · have e8 : nI n = (8 : Int32) := by rw [hn8]; rfl
    refine Or.inl ⟨0, u, 2, stI u 2048 0 2, 0, h.1.2.2.2, by decide, ?_, by rw [em u hm rfl rfl rfl rfl, if_pos hov, if_pos e8], stI_same, fun z => absurd z (by decide), fun _ => h.thr 2⟩
    unfold fn_Lw_refer bk_Lw_refer_0 fn_Fg_refer bk_Fg_refer_0
    rw [aln0, e_below, if_neg n1, bd2_s, if_neg (by decide), e_below, if_neg n2, bd2_s, if_neg (by decide), e_below, if_neg n3, bd2_s, if_neg (by decide), e_below, if_neg n4, bd2_s, if_neg (by decide), bd1_eq hc.1.1, ck_eq (in_t ho (by decide)), bd1_eq (hc.2.1 o ho), bd1_eq (hc.2.2.2.2.2.2.2.1 o ho).1, ck_eq (in_t hp (by decide)), bd1_eq (hc.2.2.2.2.2.2.2.2.1 o p ho hp)]
    unfold fn_Pt_holdsWord bk_Pt_holdsWord_0
    rw [p1, if_neg h0, if_neg nle, bd2_s, if_neg (by decide), ov, bd2_s, if_pos hov, bd1_eq (hc.2.2.2.2.2.2.2.1 o ho).2]
    unfold fn_Al_size bk_Al_size_0
    rw [bd2_s, s2, e8, if_neg (by decide)]
    rfl
  have hn : n < 8 := by omega
  have ne8 : ¬ nI n = (8 : Int32) := fun z => hn8 (nI_inj (b := 8) (by omega) (by decide) z)
  have lt8 : nI n < (8 : Int32) := (na_lt (b := 8) (by omega) (by decide)).mpr hn
  have hk1 : al (1344 + (8 * o + n)) = false := s5 n (Nat.le_refl _) hn
  -- the reference's writes on the class's new memory
  have fin : ∀ (al' : Nat → Bool) (w1 : Mr), (∀ z, al z = true → al' z = true) → (∀ z, ¬ (z = 1344 + (8 * o + n) ∨ z = 1216 + o) → al' z = al z) → (∀ j, ¬ (j = 1344 + (8 * o + n) ∨ j = 1152 + o ∨ j = 1216 + o) → w1.1 j = u.1 j) →
      (w1.1 (1344 + (8 * o + n)) 0 = nI p ∧ w1.1 (1344 + (8 * o + n)) 1 = nI w ∧ w1.1 (1344 + (8 * o + n)) 2 = nI t ∧ w1.1 (1344 + (8 * o + n)) 3 = nI k) → w1.1 (1152 + o) 2 = nI (n + 1) → (∀ j i, ¬ (j = 1344 + (8 * o + n) ∨ j = 1152 + o ∨ j = 1216 + o) → w1.2.1 j i = u.2.1 j i) → (∀ i, i ≠ 1 → w1.2.1 (1152 + o) i = u.2.1 (1152 + o) i) →
      (rdR al' w1 (1152 + o) 1 19 = some (1216 + o) ∧ ∀ r, r < n + 1 → rdR al' w1 (1216 + o) (nI r) 21 = some (1344 + (8 * o + r))) → Cls al' w1 → ∃ u2 r, fn_Md_refer (f + 4000) al w1 2048 (nI o) (nI p) (nI w) (nI t) (nI k) = some (u2, r) ∧ u2.1 2048 0 = 0 ∧ Inv al' u2 := by
    intro al' w1 a1 a2 g1 g2 g3 g4 g4' g5 g6
    have hm1 : Sm al w1 := hm.up (fun _ z => z) (fun j i hj => g4 j i (by unfold far at hj; omega))
    refine ⟨_, 0, (em w1 hm1 (g1 _ (by omega)) (g1 _ (by omega)) (g1 _ (by omega)) (g1 _ (by omega))).trans (by rw [if_pos hov, if_neg ne8]; exact refer_w ho hn hm1 (by rw [g1 2241 (by omega)]; exact r3)), by rw [stI_ne (by decide), stI_ne (by decide), stI_ne (by decide), stI_ne (by decide), stI_ne (by decide), stI_same], ?_⟩
    have cell : ∀ (v : Mr) (c : Nat) (x : Int32) (j : Nat), j < 32 → (stI v c (nI (8 * o + n)) x).1 c (nI j) = if j = 8 * o + n then x else v.1 c (nI j) := fun v c x j hj => by
      rw [stI_at]
      by_cases e1 : j = 8 * o + n
      · rw [if_pos (by rw [e1]), if_pos e1]
      · rw [if_neg (fun z => e1 (nI_inj (by omega) (by omega) z)), if_neg e1]
    refine refer_new h ho hp ht hk hn hw p1 hmm s2 hno a1 a2 (fun j hj => ?_) ?_ ?_ g4 g4' g5 g6 (fun i hi => ?_) (fun j hj => ?_) (fun j hj => ?_) (fun j hj => ?_) (fun j hj => ?_) (fun j hj => ?_)
    · rw [stI_ne (by omega), stI_ne (by omega), stI_ne (by omega), stI_ne (by omega), stI_ne (by omega), stI_ne (by omega), g1 _ (by omega)]
    · rw [stI_ne (by omega), stI_ne (by omega), stI_ne (by omega), stI_ne (by omega), stI_ne (by omega), stI_ne (by omega)]
      exact g2
    · rw [stI_ne (by omega), stI_ne (by omega), stI_ne (by omega), stI_ne (by omega), stI_ne (by omega), stI_ne (by omega)]
      exact g3
    · rw [stI_ne (by omega), stI_ne (by omega), stI_ne (by omega), stI_ne (by omega), stI_ne (by omega), stI_at, if_neg hi, g1 2048 (by omega)]
    · rw [stI_ne (by omega), stI_ne (by omega), stI_ne (by omega), stI_ne (by omega), cell _ _ _ _ hj, stI_ne (by omega), g1 2368 (by omega)]
    · rw [stI_ne (by omega), stI_ne (by omega), stI_ne (by omega), cell _ _ _ _ hj, stI_ne (by omega), stI_ne (by omega), g1 2369 (by omega)]
    · rw [stI_ne (by omega), stI_ne (by omega), cell _ _ _ _ hj, stI_ne (by omega), stI_ne (by omega), stI_ne (by omega), g1 2370 (by omega)]
    · rw [stI_ne (by omega), cell _ _ _ _ hj, stI_ne (by omega), stI_ne (by omega), stI_ne (by omega), stI_ne (by omega), g1 2371 (by omega)]
    · rw [stI_at, stI_ne (by omega), stI_ne (by omega), stI_ne (by omega), stI_ne (by omega), stI_ne (by omega), g1 2241 (by omega)]
      by_cases e1 : j = o
      · rw [if_pos (by rw [e1]), if_pos e1]
      · rw [if_neg (fun z => e1 (nI_inj (by omega) (by omega) z)), if_neg e1]
  have hdiv : (1344 + (8 * o + n)) / 64 = 21 := by omega
  by_cases hn0 : 0 < n
  · -- the list has its array
    obtain ⟨c1, c2⟩ := s4 hn0
    generalize hK : 1344 + (8 * o + n) = K at fin hk1 hdiv
    generalize hW : stI (stR (stI (stI (stI (stI (stI (clr u K) K 0 (nI p)) K 1 (nI w)) K 2 (nI t)) K 3 (nI k)) (1152 + o) 0 (u.1 (1152 + o) 0 + 1)) (1216 + o) (nI n) (some K)) (1152 + o) 2 (nI (n + 1)) = W1
    have aK : ∀ z, aln al (slA K) 1 z = (al z || decide (z = K)) := fun z => aln_A
    have a1 : ∀ z, al z = true → aln al (slA K) 1 z = true := fun z hz => by rw [aK, hz]; rfl
    have a2 : ∀ z, ¬ (z = K ∨ z = 1216 + o) → aln al (slA K) 1 z = al z := fun z hz => by rw [aK, decide_eq_false (fun e => hz (Or.inl e)), Bool.or_false]
    have aKK : aln al (slA K) 1 K = true := by rw [aK, decide_eq_true rfl, Bool.or_true]
    have x1 : ∀ j, ¬ (j = K ∨ j = 1152 + o ∨ j = 1216 + o) → W1.1 j = u.1 j := fun j hj => by
      rw [← hW, stI_ne (by omega)]
      show (stI (stI (stI (stI (stI (clr u K) K 0 (nI p)) K 1 (nI w)) K 2 (nI t)) K 3 (nI k)) (1152 + o) 0 (u.1 (1152 + o) 0 + 1)).1 j = u.1 j
      rw [stI_ne (by omega), stI_ne (by omega), stI_ne (by omega), stI_ne (by omega), stI_ne (by omega)]
      funext i
      show (if j = K then 0 else u.1 j i) = u.1 j i
      rw [if_neg (by omega)]
    have x2 : W1.1 K 0 = nI p ∧ W1.1 K 1 = nI w ∧ W1.1 K 2 = nI t ∧ W1.1 K 3 = nI k := by
      have e : ∀ i, W1.1 K i = if i = 3 then nI k else if i = 2 then nI t else if i = 1 then nI w else if i = 0 then nI p else 0 := fun i => by
        rw [← hW, stI_ne (by omega)]
        show (stI (stI (stI (stI (stI (clr u K) K 0 (nI p)) K 1 (nI w)) K 2 (nI t)) K 3 (nI k)) (1152 + o) 0 (u.1 (1152 + o) 0 + 1)).1 K i = _
        rw [stI_ne (by omega), stI_at, stI_at, stI_at, stI_at]
        show (if i = 3 then nI k else if i = 2 then nI t else if i = 1 then nI w else if i = 0 then nI p else if K = K then 0 else u.1 K i) = _
        rw [if_pos (rfl : K = K)]
      rw [e, e, e, e]
      exact ⟨by simp, by simp, by simp, by simp⟩
    have x3 : W1.1 (1152 + o) 2 = nI (n + 1) := by rw [← hW, stI_same]
    have x4 : ∀ j i, W1.2.1 j i = if j = 1216 + o ∧ i = nI n then some K else if j = K then none else u.2.1 j i := fun j i => by
      rw [← hW]
      rfl
    have ho16 : okk al 19 (1216 + o) = true := (rdR_some c1).2
    obtain ⟨u2, r, y1, y2, y3⟩ := fin (aln al (slA K) 1) W1 a1 a2 x1 x2 x3 (fun j i hj => by rw [x4, if_neg (by omega), if_neg (by omega)]) (fun i _ => by rw [x4, if_neg (by omega), if_neg (by omega)])
      ⟨rd_up a1 (by rw [x4, if_neg (by omega), if_neg (by omega)]) c1, fun r hr => by
        by_cases e1 : r = n
        · rw [e1, hK]
          refine rd_of (by rw [x4, if_pos ⟨rfl, rfl⟩]) ?_
          unfold okk
          rw [aKK, decide_eq_true hdiv]
          rfl
        · exact rd_up a1 (by rw [x4, if_neg (fun z => e1 (nI_inj (by omega) (by omega) z.2)), if_neg (by omega)]) (c2 r (by omega))⟩
      (fun j i z hz => by
        rw [x4] at hz
        by_cases e1 : j = 1216 + o ∧ i = nI n
        · rw [if_pos e1] at hz
          cases hz
          exact Or.inl aKK
        · rw [if_neg e1] at hz
          by_cases e2 : j = K
          · rw [if_pos e2] at hz
            cases hz
          · rw [if_neg e2] at hz
            exact (h.2.1 j i z hz).imp (a1 z) id)
    refine Or.inl ⟨K, W1, 0, u2, r, hk1, by omega, ?_, y1, y2, fun _ => y3, fun z => absurd rfl z⟩
    unfold fn_Lw_refer bk_Lw_refer_0 fn_Fg_refer bk_Fg_refer_0
    rw [aln0, e_below, if_neg n1, bd2_s, if_neg (by decide), e_below, if_neg n2, bd2_s, if_neg (by decide), e_below, if_neg n3, bd2_s, if_neg (by decide), e_below, if_neg n4, bd2_s, if_neg (by decide), bd1_eq hc.1.1, ck_eq (in_t ho (by decide)), bd1_eq (hc.2.1 o ho), bd1_eq (hc.2.2.2.2.2.2.2.1 o ho).1, ck_eq (in_t hp (by decide)), bd1_eq (hc.2.2.2.2.2.2.2.2.1 o p ho hp)]
    unfold fn_Pt_holdsWord bk_Pt_holdsWord_0
    rw [p1, if_neg h0, if_neg nle, bd2_s, if_neg (by decide), ov, bd2_s, if_pos hov, bd1_eq (hc.2.2.2.2.2.2.2.1 o ho).2]
    unfold fn_Al_size bk_Al_size_0
    rw [bd2_s, s2, if_pos lt8, bd1_eq (hc.2.2.2.2.2.2.2.1 o ho).2, bd1_eq (alo_0 (k := K) rfl hk1 hdiv)]
    unfold fn_Rf_init bk_Rf_init_0 fn_Rc_init bk_Rc_init_0
    rw [bd2_s, bd2_s]
    unfold fn_Al_add bk_Al_add_0
    rw [bd1_eq (show rdR (aln al (slA K) (0 + 1)) (stI (stI (stI (stI (stI (clr u K) K 0 (nI p)) K 1 (nI w)) K 2 (nI t)) K 3 (nI k)) (1152 + o) 0 _) (1152 + o) 1 19 = some (1216 + o) from rd_up a1 (show (if 1152 + o = K then none else u.2.1 (1152 + o) 1) = u.2.1 (1152 + o) 1 from if_neg (by omega)) c1)]
    have q0 : (stI (stI (stI (stI (clr u K) K 0 (nI p)) K 1 (nI w)) K 2 (nI t)) K 3 (nI k)).1 (1152 + o) = u.1 (1152 + o) := by
      rw [stI_ne (by omega), stI_ne (by omega), stI_ne (by omega), stI_ne (by omega)]
      funext i
      show (if 1152 + o = K then 0 else u.1 (1152 + o) i) = _
      rw [if_neg (by omega)]
    rw [stI_at, if_neg (by decide), q0, s2]
    unfold fn_Al_add2 bk_Al_add2_0 bk_Al_add2_11
    rw [if_neg (show ¬ nI n = (10 : Int32) from fun z => absurd (nI_inj (b := 10) (by omega) (by decide) z) (by omega)), ck_eq (in_t (by omega) (by decide)), bd2_s, bd2_s, show nI n + (1 : Int32) = nI (n + 1) from na_add _ 1, hW]
    rfl
  · -- the list makes its array
    have hz0 : n = 0 := by omega
    obtain ⟨c1, c2⟩ := s3 hz0
    have hn0 : nI n = 0 := by rw [hz0]; rfl
    have hkk : 1344 + (8 * o + n) ≠ 1216 + o := by omega
    generalize hK : 1344 + (8 * o + n) = K at fin hk1 hdiv hkk
    generalize hG : stI (stI (stI (stI (stI (clr u K) K 0 (nI p)) K 1 (nI w)) K 2 (nI t)) K 3 (nI k)) (1152 + o) 0 (u.1 (1152 + o) 0 + 1) = G
    generalize hW : stI (stR (stR (clr G (1216 + o)) (1152 + o) 1 (some (1216 + o))) (1216 + o) 0 (some K)) (1152 + o) 2 (nI (n + 1)) = W1
    have aK : ∀ z, aln al (slB K (1216 + o)) 2 z = (al z || (decide (z = 1216 + o) || decide (z = K))) := fun z => aln_B
    have a1 : ∀ z, al z = true → aln al (slB K (1216 + o)) 2 z = true := fun z hz => by rw [aK, hz]; rfl
    have a2 : ∀ z, ¬ (z = K ∨ z = 1216 + o) → aln al (slB K (1216 + o)) 2 z = al z := fun z hz => by rw [aK, decide_eq_false (fun e => hz (Or.inl e)), decide_eq_false (fun e => hz (Or.inr e)), Bool.or_false, Bool.or_false]
    have aKK : aln al (slB K (1216 + o)) 2 K = true := by rw [aK, decide_eq_true (rfl : K = K), Bool.or_true, Bool.or_true]
    have aKo : aln al (slB K (1216 + o)) 2 (1216 + o) = true := by rw [aK, decide_eq_true (rfl : 1216 + o = 1216 + o), Bool.true_or, Bool.or_true]
    have gx : ∀ j, ¬ (j = K ∨ j = 1152 + o) → G.1 j = u.1 j := fun j hj => by
      rw [← hG, stI_ne (by omega), stI_ne (by omega), stI_ne (by omega), stI_ne (by omega), stI_ne (by omega)]
      funext i
      show (if j = K then 0 else u.1 j i) = u.1 j i
      rw [if_neg (by omega)]
    have g2 : ∀ i, G.1 K i = if i = 3 then nI k else if i = 2 then nI t else if i = 1 then nI w else if i = 0 then nI p else 0 := fun i => by
      rw [← hG, stI_ne (by omega), stI_at, stI_at, stI_at, stI_at]
      show (if i = 3 then nI k else if i = 2 then nI t else if i = 1 then nI w else if i = 0 then nI p else if K = K then 0 else u.1 K i) = _
      rw [if_pos (rfl : K = K)]
    have gr : ∀ j i, G.2.1 j i = if j = K then none else u.2.1 j i := fun j i => by
      rw [← hG]
      rfl
    have q0 : (stI (stI (stI (stI (clr u K) K 0 (nI p)) K 1 (nI w)) K 2 (nI t)) K 3 (nI k)).1 (1152 + o) = u.1 (1152 + o) := by
      rw [stI_ne (by omega), stI_ne (by omega), stI_ne (by omega), stI_ne (by omega)]
      funext i
      show (if 1152 + o = K then 0 else u.1 (1152 + o) i) = _
      rw [if_neg (by omega)]
    have g3 : G.1 (1152 + o) 2 = 0 := by
      rw [← hG, stI_at, if_neg (by decide), q0, s2, hn0]
    have x1 : ∀ j, ¬ (j = K ∨ j = 1152 + o ∨ j = 1216 + o) → W1.1 j = u.1 j := fun j hj => by
      rw [← hW, stI_ne (by omega)]
      funext i
      show (if j = 1216 + o then 0 else G.1 j i) = u.1 j i
      rw [if_neg (by omega), gx j (by omega)]
    have x2 : W1.1 K 0 = nI p ∧ W1.1 K 1 = nI w ∧ W1.1 K 2 = nI t ∧ W1.1 K 3 = nI k := by
      have e : ∀ i, W1.1 K i = if i = 3 then nI k else if i = 2 then nI t else if i = 1 then nI w else if i = 0 then nI p else 0 := fun i => by
        rw [← hW, stI_ne (by omega)]
        show (if K = 1216 + o then 0 else G.1 K i) = _
        rw [if_neg hkk, g2]
      rw [e, e, e, e]
      exact ⟨by simp, by simp, by simp, by simp⟩
    have x3 : W1.1 (1152 + o) 2 = nI (n + 1) := by rw [← hW, stI_same]
    have x4 : ∀ j i, W1.2.1 j i = if j = 1216 + o ∧ i = 0 then some K else if j = 1152 + o ∧ i = 1 then some (1216 + o) else if j = 1216 + o then none else if j = K then none else u.2.1 j i := fun j i => by
      rw [← hW, ← gr]
      rfl
    obtain ⟨u2, r, y1, y2, y3⟩ := fin (aln al (slB K (1216 + o)) 2) W1 a1 a2 x1 x2 x3 (fun j i hj => by rw [x4, if_neg (by omega), if_neg (by omega), if_neg (by omega), if_neg (by omega)]) (fun i hi => by rw [x4, if_neg (by omega), if_neg (fun z => hi z.2), if_neg (by omega), if_neg (by omega)])
      ⟨by
        refine rd_of (by rw [x4, if_neg (by omega), if_pos ⟨rfl, rfl⟩]) ?_
        unfold okk
        rw [aKo, decide_eq_true (show (1216 + o) / 64 = 19 by omega)]
        rfl, fun r hr => by
        have e1 : r = n := by omega
        rw [e1, hK]
        refine rd_of (by rw [x4, if_pos ⟨rfl, hn0⟩]) ?_
        unfold okk
        rw [aKK, decide_eq_true hdiv]
        rfl⟩
      (fun j i z hz => by
        rw [x4] at hz
        by_cases e1 : j = 1216 + o ∧ i = 0
        · rw [if_pos e1] at hz
          cases hz
          exact Or.inl aKK
        · rw [if_neg e1] at hz
          by_cases e2 : j = 1152 + o ∧ i = 1
          · rw [if_pos e2] at hz
            cases hz
            exact Or.inl aKo
          · rw [if_neg e2] at hz
            by_cases e3 : j = 1216 + o
            · rw [if_pos e3] at hz
              cases hz
            · rw [if_neg e3] at hz
              by_cases e4 : j = K
              · rw [if_pos e4] at hz
                cases hz
              · rw [if_neg e4] at hz
                exact (h.2.1 j i z hz).imp (a1 z) id)
    refine Or.inr ⟨K, 1216 + o, W1, 0, u2, r, hk1, by omega, c2, by omega, hkk, ?_, y1, y2, fun _ => y3, fun z => absurd rfl z⟩
    unfold fn_Lw_referB bk_Lw_referB_0 fn_Fg_referB bk_Fg_referB_0
    rw [aln0, e_below, if_neg n1, bd2_s, if_neg (by decide), e_below, if_neg n2, bd2_s, if_neg (by decide), e_below, if_neg n3, bd2_s, if_neg (by decide), e_below, if_neg n4, bd2_s, if_neg (by decide), bd1_eq hc.1.1, ck_eq (in_t ho (by decide)), bd1_eq (hc.2.1 o ho), bd1_eq (hc.2.2.2.2.2.2.2.1 o ho).1, ck_eq (in_t hp (by decide)), bd1_eq (hc.2.2.2.2.2.2.2.2.1 o p ho hp)]
    unfold fn_Pt_holdsWord bk_Pt_holdsWord_0
    rw [p1, if_neg h0, if_neg nle, bd2_s, if_neg (by decide), ov, bd2_s, if_pos hov, bd1_eq (hc.2.2.2.2.2.2.2.1 o ho).2]
    unfold fn_Al_size bk_Al_size_0
    rw [bd2_s, s2, if_pos lt8, bd1_eq (hc.2.2.2.2.2.2.2.1 o ho).2, bd1_eq (alo_0 (k := K) rfl hk1 hdiv)]
    unfold fn_Rf_init bk_Rf_init_0 fn_Rc_init bk_Rc_init_0
    rw [bd2_s, bd2_s]
    unfold fn_Al_addB bk_Al_addB_0
    rw [q0, hG, g3, ck_eq (decide_eq_true (by rw [gr, if_neg (by omega)]; exact c1))]
    unfold fn_Al_add2B bk_Al_add2B_0
    rw [if_pos rfl]
    unfold fn_Al_growB bk_Al_growB_0 fn_Al_grow2B bk_Al_grow2B_0
    have hal1 : alo al (slB K (1216 + o)) (0 + 1) 19 = some (1216 + o) := by
      unfold alo
      show (if aln al (slB K (1216 + o)) 1 (1216 + o) = false ∧ (1216 + o) / 64 = 19 then some (1216 + o) else none) = some (1216 + o)
      rw [if_pos ⟨by rw [aln_B1, c2, decide_eq_false (fun e => hkk e.symm)]; rfl, by omega⟩]
    have hss : (slB K (1216 + o) (0 + 1)).isSome = true := rfl
    have ok19 : okk (aln al (slB K (1216 + o)) (0 + 1 + 1)) 19 (1216 + o) = true := by
      unfold okk
      rw [show aln al (slB K (1216 + o)) (0 + 1 + 1) (1216 + o) = true from aKo, decide_eq_true (show (1216 + o) / 64 = 19 by omega)]
      rfl
    rw [g3, ck_eq (decide_eq_true (by rw [gr, if_neg (by omega)]; exact c1)), ck_eq (decide_eq_true (by rw [gr, if_neg (by omega)]; exact c1)), ck_eq (by decide), bd1_eq hal1, bd2_s, ck_eq hss, ck_eq ok19, bd2_s, ck_eq hss, ck_eq ok19, ck_eq (by decide), bd2_s, ck_eq hss, bd2_s, ck_eq hss, show (0 : Int32) + 1 = nI (n + 1) by rw [hz0]; rfl, hW]
    rfl

/-! link: what both sides count, and the checks -/
/-- how many definitions a name has -/
def dtot (u : Mr) (d : Nat → Nat) (k : Nat) : Nat := dcnt u 0 k (d 0) + dcnt u 1 k (d 1) + dcnt u 2 k (d 2) + dcnt u 3 k (d 3)
section
variable {f F : Nat} {al : Nat → Bool} {u um : Mr} {d : Nat → Nat} {k : Nat}
theorem dcnt_le6 (hd : ∀ o, o < 4 → d o ≤ 6) : dtot u d k ≤ 24 := by
  unfold dtot
  have := dcnt_le (u := u) (o := 0) (k := k) (d 0)
  have := dcnt_le (u := u) (o := 1) (k := k) (d 1)
  have := dcnt_le (u := u) (o := 2) (k := k) (d 2)
  have := dcnt_le (u := u) (o := 3) (k := k) (d 3)
  have := hd 0 (by omega)
  have := hd 1 (by omega)
  have := hd 2 (by omega)
  have := hd 3 (by omega)
  omega
theorem e_defined (hm : Sm al um) (hd : ∀ o, o < 4 → d o ≤ 6 ∧ um.1 2240 (nI o) = nI (d o)) : fn_Md_defined (f + 4000) al um 2048 (nI k) = some (um, nI (dtot um d k)) := by
  have inner : ∀ (k4 : Mr → Nat → Int32 → Int32 → Int32 → Option (Mr × Int32)) o, o < 4 → ∀ n c j a, n + j = d o → n < c → bk_Md_defined_15 (f + 4000) al k4 c um 2048 (nI k) (nI (a + dcnt um o k j)) (nI o) (nI (6 * o + j)) = k4 um 2048 (nI k) (nI (a + dcnt um o k (d o))) (nI (o + 1)) := by
    intro k4 o ho n
    have h6 := (hd o ho).1
    induction n with
    | zero =>
      intro c j a hj hc
      obtain ⟨c, rfl⟩ : ∃ q, c = q + 1 := ⟨c - 1, by omega⟩
      rw [bk_Md_defined_15, bd1_eq hm.1.2.2.1, ck_eq (in_t ho (by decide)), (hd o ho).2, show ((6 : Int32) * nI o) + nI (d o) = nI (6 * o + d o) by rw [show (6 : Int32) = nI 6 from rfl, na_mul, na_add], if_pos ((na_le (by omega) (by omega)).mpr (by omega)), show nI o + (1 : Int32) = nI (o + 1) from na_add _ 1, show j = d o by omega]
    | succ n ih =>
      intro c j a hj hc
      obtain ⟨c, rfl⟩ : ∃ q, c = q + 1 := ⟨c - 1, by omega⟩
      rw [bk_Md_defined_15, bd1_eq hm.1.2.2.1, ck_eq (in_t ho (by decide)), (hd o ho).2, show ((6 : Int32) * nI o) + nI (d o) = nI (6 * o + d o) by rw [show (6 : Int32) = nI 6 from rfl, na_mul, na_add], if_neg (fun z => absurd ((na_le (by omega) (by omega)).mp z) (by omega)), bd1_eq hm.1.2.2.2.1, ck_eq (in_t (by omega) (by decide))]
      have := ih c (j + 1) a (by omega) (by omega)
      unfold bk_Md_defined_48
      rw [show nI (6 * o + j) + (1 : Int32) = nI (6 * o + (j + 1)) from na_add _ 1]
      by_cases e : um.1 2304 (nI (6 * o + j)) = nI k
      · rw [if_pos e, show nI (a + dcnt um o k j) + (1 : Int32) = nI (a + dcnt um o k (j + 1)) by rw [dcnt, if_pos e, ← Nat.add_assoc]; exact na_add _ 1]
        exact this
      · rw [if_neg e, show nI (a + dcnt um o k j) + (0 : Int32) = nI (a + dcnt um o k (j + 1)) by rw [dcnt, if_neg e, Nat.add_zero]; exact Int32.add_zero _]
        exact this
  have outer : ∀ o c a, o < 4 → bk_Md_defined_4 (f + 4000) al (c + 1) um 2048 (nI k) (nI a) (nI o) = bk_Md_defined_4 (f + 4000) al c um 2048 (nI k) (nI (a + dcnt um o k (d o))) (nI (o + 1)) := fun o c a ho => by
    have h6 := (hd o ho).1
    rw [bk_Md_defined_4, if_neg (show ¬ (4 : Int32) ≤ nI o from fun z => absurd ((na_le (a := 4) (by decide) (by omega)).mp z) (by omega)), show (6 : Int32) * nI o = nI (6 * o + 0) by rw [show (6 : Int32) = nI 6 from rfl, na_mul, Nat.add_zero]]
    have := inner (bk_Md_defined_4 (f + 4000) al c) o ho (d o) (f + 4000) 0 a (by omega) (by omega)
    rw [dcnt, Nat.add_zero] at this
    exact this
  unfold fn_Md_defined bk_Md_defined_0
  have s0 := outer 0 (f + 3999) 0 (by omega)
  have s1 := outer 1 (f + 3998) (0 + dcnt um 0 k (d 0)) (by omega)
  have s2 := outer 2 (f + 3997) (0 + dcnt um 0 k (d 0) + dcnt um 1 k (d 1)) (by omega)
  have s3 := outer 3 (f + 3996) (0 + dcnt um 0 k (d 0) + dcnt um 1 k (d 1) + dcnt um 2 k (d 2)) (by omega)
  refine Eq.trans s0 (Eq.trans s1 (Eq.trans s2 (Eq.trans s3 ?_)))
  rw [bk_Md_defined_4, if_pos (by decide)]
  unfold dtot
  rw [Nat.zero_add]
/-- a reference of the first n of the object o is of the name k -/
def Mnt (u : Mr) (n : Nat → Nat) (k : Nat) : Prop := ∃ o r, o < 4 ∧ r < n o ∧ u.1 2371 (nI (8 * o + r)) = nI k
theorem e_meant {n : Nat → Nat} (hm : Sm al um) (hn : ∀ o, o < 4 → n o ≤ 8 ∧ um.1 2241 (nI o) = nI (n o)) : ∃ v, fn_Md_isMeant (f + 4000) al um 2048 (nI k) = some (um, v) ∧ (v = 0 ∨ v = 1) ∧ (v = 1 ↔ Mnt um n k) := by
  have inner : ∀ (k4 : Mr → Nat → Int32 → Int32 → Int32 → Option (Mr × Int32)) o, o < 4 → ∀ m c j a, (a = 0 ∨ a = 1) → m + j = n o → m < c → ∃ v, bk_Md_isMeant_15 (f + 4000) al k4 c um 2048 (nI k) a (nI o) (nI (8 * o + j)) = k4 um 2048 (nI k) v (nI (o + 1)) ∧ (v = 0 ∨ v = 1) ∧ (v = 1 ↔ a = 1 ∨ ∃ r, j ≤ r ∧ r < n o ∧ um.1 2371 (nI (8 * o + r)) = nI k) := by
    intro k4 o ho m
    have h8 := (hn o ho).1
    induction m with
    | zero =>
      intro c j a ha hj hc
      obtain ⟨c, rfl⟩ : ∃ q, c = q + 1 := ⟨c - 1, by omega⟩
      refine ⟨a, ?_, ha, ⟨Or.inl, fun z => z.elim id (fun ⟨r, r1, r2, _⟩ => by omega)⟩⟩
      rw [bk_Md_isMeant_15, bd1_eq hm.1.2.2.2.2.2.2, ck_eq (in_t ho (by decide)), (hn o ho).2, show ((8 : Int32) * nI o) + nI (n o) = nI (8 * o + n o) by rw [show (8 : Int32) = nI 8 from rfl, na_mul, na_add], if_pos ((na_le (by omega) (by omega)).mpr (by omega)), show nI o + (1 : Int32) = nI (o + 1) from na_add _ 1]
    | succ m ih =>
      intro c j a ha hj hc
      obtain ⟨c, rfl⟩ : ∃ q, c = q + 1 := ⟨c - 1, by omega⟩
      rw [bk_Md_isMeant_15, bd1_eq hm.1.2.2.2.2.2.2, ck_eq (in_t ho (by decide)), (hn o ho).2, show ((8 : Int32) * nI o) + nI (n o) = nI (8 * o + n o) by rw [show (8 : Int32) = nI 8 from rfl, na_mul, na_add], if_neg (fun z => absurd ((na_le (by omega) (by omega)).mp z) (by omega))]
      unfold bk_Md_isMeant_46 bk_Md_isMeant_51
      rw [show nI (8 * o + j) + (1 : Int32) = nI (8 * o + (j + 1)) from na_add _ 1]
      have yes : (a = 1 ∨ um.1 2371 (nI (8 * o + j)) = nI k) → ∃ v, bk_Md_isMeant_15 (f + 4000) al k4 c um 2048 (nI k) 1 (nI o) (nI (8 * o + (j + 1))) = k4 um 2048 (nI k) v (nI (o + 1)) ∧ (v = 0 ∨ v = 1) ∧ (v = 1 ↔ a = 1 ∨ ∃ r, j ≤ r ∧ r < n o ∧ um.1 2371 (nI (8 * o + r)) = nI k) := fun hy => by
        obtain ⟨v, v1, v2, v3⟩ := ih c (j + 1) 1 (Or.inr rfl) (by omega) (by omega)
        exact ⟨v, v1, v2, ⟨fun _ => hy.imp id (fun z => ⟨j, Nat.le_refl _, by omega, z⟩), fun _ => v3.mpr (Or.inl rfl)⟩⟩
      by_cases h0 : a = 0
      · rw [if_pos h0, bd1_eq hm.2.1.2.2.2.1, ck_eq (in_t (by omega) (by decide))]
        by_cases e : um.1 2371 (nI (8 * o + j)) = nI k
        · rw [if_pos e]
          exact yes (Or.inr e)
        · rw [if_neg e]
          obtain ⟨v, v1, v2, v3⟩ := ih c (j + 1) 0 (Or.inl rfl) (by omega) (by omega)
          refine ⟨v, v1, v2, v3.trans ⟨fun z => ?_, fun z => ?_⟩⟩
          · rcases z with z | ⟨r, r1, r2, r3⟩
            · exact absurd z (by decide)
            · exact Or.inr ⟨r, by omega, r2, r3⟩
          · rcases z with z | ⟨r, r1, r2, r3⟩
            · rw [h0] at z
              exact absurd z (by decide)
            · refine Or.inr ⟨r, ?_, r2, r3⟩
              rcases Nat.lt_or_ge j r with y | y
              · exact y
              · have e9 : r = j := by omega
                rw [e9] at r3
                exact absurd r3 e
      · rw [if_neg h0]
        exact yes (Or.inl (ha.resolve_left h0))
  have outer : ∀ o c a, o < 4 → (a = 0 ∨ a = 1) → ∃ v, bk_Md_isMeant_4 (f + 4000) al (c + 1) um 2048 (nI k) a (nI o) = bk_Md_isMeant_4 (f + 4000) al c um 2048 (nI k) v (nI (o + 1)) ∧ (v = 0 ∨ v = 1) ∧ (v = 1 ↔ a = 1 ∨ ∃ r, r < n o ∧ um.1 2371 (nI (8 * o + r)) = nI k) := fun o c a ho ha => by
    have h8 := (hn o ho).1
    obtain ⟨v, v1, v2, v3⟩ := inner (bk_Md_isMeant_4 (f + 4000) al c) o ho (n o) (f + 4000) 0 a ha (by omega) (by omega)
    refine ⟨v, ?_, v2, v3.trans ⟨fun z => z.imp id (fun ⟨r, _, r2, r3⟩ => ⟨r, r2, r3⟩), fun z => z.imp id (fun ⟨r, r2, r3⟩ => ⟨r, Nat.zero_le _, r2, r3⟩)⟩⟩
    rw [bk_Md_isMeant_4, if_neg (show ¬ (4 : Int32) ≤ nI o from fun z => absurd ((na_le (a := 4) (by decide) (by omega)).mp z) (by omega)), show (8 : Int32) * nI o = nI (8 * o + 0) by rw [show (8 : Int32) = nI 8 from rfl, na_mul, Nat.add_zero]]
    exact v1
  obtain ⟨a1, b1, c1, d1⟩ := outer 0 (f + 3999) 0 (by omega) (Or.inl rfl)
  obtain ⟨a2, b2, c2, d2⟩ := outer 1 (f + 3998) a1 (by omega) c1
  obtain ⟨a3, b3, c3, d3⟩ := outer 2 (f + 3997) a2 (by omega) c2
  obtain ⟨a4, b4, c4, d4⟩ := outer 3 (f + 3996) a3 (by omega) c3
  refine ⟨a4, ?_, c4, ?_⟩
  · unfold fn_Md_isMeant bk_Md_isMeant_0
    refine Eq.trans b1 (Eq.trans b2 (Eq.trans b3 (Eq.trans b4 ?_)))
    rw [bk_Md_isMeant_4, if_pos (by decide), ck_eq (show isz a4 = true from decide_eq_true c4)]
  · rw [d4, d3, d2, d1]
    constructor
    · rintro ((((z | ⟨r, r1, r2⟩) | ⟨r, r1, r2⟩) | ⟨r, r1, r2⟩) | ⟨r, r1, r2⟩)
      · exact absurd z (by decide)
      · exact ⟨0, r, by omega, r1, r2⟩
      · exact ⟨1, r, by omega, r1, r2⟩
      · exact ⟨2, r, by omega, r1, r2⟩
      · exact ⟨3, r, by omega, r1, r2⟩
    · rintro ⟨o, r, ho, r1, r2⟩
      rcases (show o = 0 ∨ o = 1 ∨ o = 2 ∨ o = 3 by omega) with e | e | e | e <;> subst e
      · exact Or.inl (Or.inl (Or.inl (Or.inr ⟨r, r1, r2⟩)))
      · exact Or.inl (Or.inl (Or.inr ⟨r, r1, r2⟩))
      · exact Or.inl (Or.inr ⟨r, r1, r2⟩)
      · exact Or.inr ⟨r, r1, r2⟩
end

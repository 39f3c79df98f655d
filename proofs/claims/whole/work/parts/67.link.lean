/-! link: the places of the definitions -/
def gvC (uc : Mr) (k : Nat) : Int32 := uc.1 (704 + (uc.1 (1280 + k) 2).toNatClampNeg) (uc.1 (1280 + k) 1) + uc.1 (1280 + k) 3
section
variable {f F : Nat} {al : Nat → Bool} {u wB uc um : Mr}
theorem lk_defsC (hc : Sc al uc) (h : ∀ k, k < 16 → ∃ o p w, o < 4 ∧ p < 2 ∧ w ≤ 40 ∧ uc.1 (1280 + k) 1 = nI o ∧ uc.1 (1280 + k) 2 = nI p ∧ uc.1 (1280 + k) 3 = nI w) : fn_Lk_placeDefinitions (f + 4000) al uc 512 192 = some (wr uc 576 0 16 (gvC uc), 0) := by
  have loop : ∀ m c k, m + k = 16 → m < c → bk_Lk_placeDefinitions_2 (f + 4000) al c (wr uc 576 0 k (gvC uc)) 512 192 (nI k) = some (wr uc 576 0 16 (gvC uc), 0) := by
    intro m
    induction m with
    | zero =>
      intro c k hk hcc
      obtain ⟨c, rfl⟩ : ∃ q, c = q + 1 := ⟨c - 1, by omega⟩
      have e : k = 16 := by omega
      rw [e, bk_Lk_placeDefinitions_2, if_pos (by decide)]
    | succ m ih =>
      intro c k hk hcc
      obtain ⟨c, rfl⟩ : ∃ q, c = q + 1 := ⟨c - 1, by omega⟩
      have hk6 : k < 16 := by omega
      obtain ⟨o, p, w, ho, hp, hw, e1, e2, e3⟩ := h k hk6
      have hs : Sc al (wr uc 576 0 k (gvC uc)) := hc.any rfl
      have e := wr_s (u := uc) (k := 576) (p := 0) (n := k) (g := gvC uc) (by omega)
      rw [Nat.zero_add] at e
      have eg : uc.1 (704 + p) (nI o) + nI w = gvC uc k := by
        unfold gvC
        rw [e1, e2, e3, nI_clamp (by omega)]
      rw [bk_Lk_placeDefinitions_2, if_neg (show ¬ (16 : Int32) ≤ nI k from fun z => absurd ((na_le (a := 16) (by decide) (by omega)).mp z) (by omega)), ck_eq (in_t hk6 (by decide)), bd1_eq (hs.2.2.1 k hk6), bd1_eq hs.2.2.2.2.2.1.1, bd1_eq hs.2.2.2.2.2.1.2.1, wr_ne (show 1280 + k ≠ 576 by omega), e1, e2, e3, ck_eq (in_t hp (by decide)), bd1_eq (hs.2.2.2.2.2.2.1 p hp), ck_eq (in_t ho (by decide)), ck_eq (in_t hk6 (by decide)), wr_ne (show 704 + p ≠ 576 by omega), eg, e, show nI k + (1 : Int32) = nI (k + 1) from na_add _ 1]
      exact ih c (k + 1) (by omega) (by omega)
  have := loop 16 (f + 4000) 0 (by omega) (by omega)
  rw [wr_0] at this
  exact this
theorem lk_defsM {d : Nat → Nat} {VV : Nat → Int32} (hm : Sm al um) (hd : ∀ o, o < 4 → d o ≤ 6 ∧ um.1 2240 (nI o) = nI (d o)) (hn : ∀ o j, o < 4 → j < d o → ∃ k p, k < 16 ∧ p < 2 ∧ um.1 2304 (nI (6 * o + j)) = nI k ∧ um.1 2305 (nI (6 * o + j)) = nI p ∧ um.1 2113 (nI (2 * o + p)) + um.1 2306 (nI (6 * o + j)) = VV k) :
    ∃ um', fn_Md_findPlaces (f + 4000) al um 2048 = some (um', 0) ∧ um'.2 = um.2 ∧ (∀ k, k ≠ 2434 → um'.1 k = um.1 k) ∧ ∀ o j k, o < 4 → j < d o → k < 16 → um.1 2304 (nI (6 * o + j)) = nI k → um'.1 2434 (nI k) = VV k := by
  let ok : Mr → Nat → Nat → Prop := fun v o j => v.2 = um.2 ∧ (∀ k, k ≠ 2434 → v.1 k = um.1 k) ∧ ∀ o' j' k, o' < 4 → j' < d o' → k < 16 → (o' < o ∨ (o' = o ∧ j' < j)) → um.1 2304 (nI (6 * o' + j')) = nI k → v.1 2434 (nI k) = VV k
  have smv : ∀ v o j, ok v o j → Sm al v := fun v o j h => hm.any (by rw [h.1])
  have inner : ∀ (k23 : Mr → Nat → Int32 → Option (Mr × Int32)) o, o < 4 → ∀ n c j v, n + j = d o → n < c → ok v o j → ∃ v', bk_Md_findPlaces_33 (f + 4000) al k23 c v 2048 (nI o) (nI (6 * o + j)) = k23 v' 2048 (nI (o + 1)) ∧ ok v' (o + 1) 0 := by
    intro k23 o ho n
    obtain ⟨h6, h40⟩ := hd o ho
    induction n with
    | zero =>
      intro c j v hj hc h
      obtain ⟨c, rfl⟩ : ∃ q, c = q + 1 := ⟨c - 1, by omega⟩
      have hs := smv v o j h
      refine ⟨v, ?_, h.1, h.2.1, fun o' j' k z1 z2 z3 z4 z5 => h.2.2 o' j' k z1 z2 z3 ?_ z5⟩
      · rw [bk_Md_findPlaces_33, bd1_eq hs.1.2.2.1, ck_eq (in_t ho (by decide)), h.2.1 2240 (by decide), h40, show ((6 : Int32) * nI o) + nI (d o) = nI (6 * o + d o) by rw [show (6 : Int32) = nI 6 from rfl, na_mul, na_add], if_pos ((na_le (by omega) (by omega)).mpr (by omega)), show nI o + (1 : Int32) = nI (o + 1) from na_add _ 1]
      · rcases z4 with z4 | z4
        · by_cases e : o' = o
          · rw [e] at z2
            exact Or.inr ⟨e, by omega⟩
          · exact Or.inl (by omega)
        · omega
    | succ n ih =>
      intro c j v hj hc h
      obtain ⟨c, rfl⟩ : ∃ q, c = q + 1 := ⟨c - 1, by omega⟩
      have hs := smv v o j h
      obtain ⟨k, p, hk, hp, e1, e2, e3⟩ := hn o j ho (by omega)
      rw [bk_Md_findPlaces_33, bd1_eq hs.1.2.2.1, ck_eq (in_t ho (by decide)), h.2.1 2240 (by decide), h40, show ((6 : Int32) * nI o) + nI (d o) = nI (6 * o + d o) by rw [show (6 : Int32) = nI 6 from rfl, na_mul, na_add], if_neg (fun z => absurd ((na_le (by omega) (by omega)).mp z) (by omega)), bd1_eq hs.2.2.2.2.2.2.2.1, bd1_eq hs.1.2.2.2.1, ck_eq (in_t (by omega) (by decide)), bd1_eq hs.2.2.2.2.2.2.1, bd1_eq hs.1.2.2.2.2.1, ck_eq (in_t (by omega) (by decide)), h.2.1 2305 (by decide), e2, show ((2 : Int32) * nI o) + nI p = nI (2 * o + p) by rw [show (2 : Int32) = nI 2 from rfl, na_mul, na_add], ck_eq (in_t (by omega) (by decide)), bd1_eq hs.1.2.2.2.2.2.1, ck_eq (in_t (by omega) (by decide)), h.2.1 2304 (by decide), e1, ck_eq (in_t hk (by decide)), h.2.1 2113 (by decide), h.2.1 2306 (by decide), e3, show nI (6 * o + j) + (1 : Int32) = nI (6 * o + (j + 1)) from na_add _ 1]
      refine ih c (j + 1) (stI v 2434 (nI k) (VV k)) (by omega) (by omega) ⟨h.1, fun q hq => by rw [stI_ne hq]; exact h.2.1 q hq, fun o' j' k' z1 z2 z3 z4 z5 => ?_⟩
      rw [stI_at]
      by_cases e : k' = k
      · rw [if_pos (by rw [e]), e]
      · rw [if_neg (fun z => e (nI_inj (by omega) (by omega) z))]
        refine h.2.2 o' j' k' z1 z2 z3 ?_ z5
        rcases z4 with z4 | ⟨z4, z6⟩
        · exact Or.inl z4
        · refine Or.inr ⟨z4, ?_⟩
          by_cases e9 : j' = j
          · rw [z4, e9] at z5
            exact absurd (nI_inj (by omega) (by omega) (z5.symm.trans e1)) e
          · omega
  have outer : ∀ o c v, o < 4 → ok v o 0 → ∃ v', bk_Md_findPlaces_23 (f + 4000) al (c + 1) v 2048 (nI o) = bk_Md_findPlaces_23 (f + 4000) al c v' 2048 (nI (o + 1)) ∧ ok v' (o + 1) 0 := fun o c v ho h => by
    have h6 := (hd o ho).1
    obtain ⟨v', q1, q2⟩ := inner (bk_Md_findPlaces_23 (f + 4000) al c) o ho (d o) (f + 4000) 0 v (by omega) (by omega) h
    refine ⟨v', ?_, q2⟩
    rw [bk_Md_findPlaces_23, if_neg (show ¬ (4 : Int32) ≤ nI o from fun z => absurd ((na_le (a := 4) (by decide) (by omega)).mp z) (by omega)), show (6 : Int32) * nI o = nI (6 * o + 0) by rw [show (6 : Int32) = nI 6 from rfl, na_mul, Nat.add_zero]]
    exact q1
  have zero : ∀ m c k, m + k = 16 → m < c → bk_Md_findPlaces_2 (f + 4000) al c (wr um 2434 0 k (fun _ => 0)) 2048 (nI k) = bk_Md_findPlaces_23 (f + 4000) al (f + 4000) (wr um 2434 0 16 (fun _ => 0)) 2048 0 := by
    intro m
    induction m with
    | zero =>
      intro c k hk hcc
      obtain ⟨c, rfl⟩ : ∃ q, c = q + 1 := ⟨c - 1, by omega⟩
      have e : k = 16 := by omega
      rw [e, bk_Md_findPlaces_2, if_pos (by decide)]
    | succ m ih =>
      intro c k hk hcc
      obtain ⟨c, rfl⟩ : ∃ q, c = q + 1 := ⟨c - 1, by omega⟩
      have hs : Sm al (wr um 2434 0 k (fun _ => 0)) := hm.any rfl
      have e := wr_s (u := um) (k := 2434) (p := 0) (n := k) (g := fun _ => 0) (by omega)
      rw [Nat.zero_add] at e
      rw [bk_Md_findPlaces_2, if_neg (show ¬ (16 : Int32) ≤ nI k from fun z => absurd ((na_le (a := 16) (by decide) (by omega)).mp z) (by omega)), bd1_eq hs.2.2.2.2.2.2.2.1, ck_eq (in_t (by omega) (by decide)), e, show nI k + (1 : Int32) = nI (k + 1) from na_add _ 1]
      exact ih c (k + 1) (by omega) (by omega)
  have z := zero 16 (f + 4000) 0 (by omega) (by omega)
  rw [wr_0] at z
  obtain ⟨v1, a1, b1⟩ := outer 0 (f + 3999) (wr um 2434 0 16 (fun _ => 0)) (by omega) ⟨rfl, fun k hk => wr_ne hk, fun o' j' k z1 z2 z3 z4 _ => by omega⟩
  obtain ⟨v2, a2, b2⟩ := outer 1 (f + 3998) v1 (by omega) b1
  obtain ⟨v3, a3, b3⟩ := outer 2 (f + 3997) v2 (by omega) b2
  obtain ⟨v4, a4, b4⟩ := outer 3 (f + 3996) v3 (by omega) b3
  refine ⟨v4, ?_, b4.1, b4.2.1, fun o j k z1 z2 z3 z5 => b4.2.2 o j k z1 z2 z3 (Or.inl z1) z5⟩
  unfold fn_Md_findPlaces bk_Md_findPlaces_0
  refine Eq.trans z (Eq.trans a1 (Eq.trans a2 (Eq.trans a3 (Eq.trans a4 ?_))))
  rw [bk_Md_findPlaces_23, if_pos (by decide)]
end
/-! link: the imports -/
def lcnt (u : Mr) (l : Nat) : Nat → Nat
  | 0 => 0
  | k + 1 => lcnt u l k + if u.1 2432 (nI k) = nI (l + 1) then 1 else 0
def lbit (u : Mr) (l k : Nat) : Nat := if lcnt u l k = 0 then 0 else 1
theorem lcnt_cg {u v : Mr} {l : Nat} (h : v.1 2432 = u.1 2432) : ∀ k, lcnt v l k = lcnt u l k
  | 0 => rfl
  | k + 1 => by rw [lcnt, lcnt, lcnt_cg h k, h]
theorem lcnt_le {u : Mr} {l : Nat} : ∀ k, lcnt u l k ≤ k
  | 0 => Nat.le_refl _
  | k + 1 => by
    have := lcnt_le (u := u) (l := l) k
    rw [lcnt]
    split <;> omega
theorem lcnt_sum {u : Mr} : ∀ k, lcnt u 0 k + lcnt u 1 k + lcnt u 2 k + lcnt u 3 k ≤ k
  | 0 => Nat.le_refl _
  | k + 1 => by
    have h := lcnt_sum (u := u) k
    have no : ∀ a b : Nat, a < 4 → b < 4 → a ≠ b → u.1 2432 (nI k) = nI (a + 1) → ¬ u.1 2432 (nI k) = nI (b + 1) := fun a b ha hb hne e1 e2 => by
      have := nI_inj (a := a + 1) (b := b + 1) (by omega) (by omega) (e1.symm.trans e2)
      omega
    rw [lcnt, lcnt, lcnt, lcnt]
    by_cases h0 : u.1 2432 (nI k) = nI (0 + 1)
    · rw [if_pos h0, if_neg (no 0 1 (by omega) (by omega) (by omega) h0), if_neg (no 0 2 (by omega) (by omega) (by omega) h0), if_neg (no 0 3 (by omega) (by omega) (by omega) h0)]
      omega
    by_cases h1 : u.1 2432 (nI k) = nI (1 + 1)
    · rw [if_pos h1, if_neg h0, if_neg (no 1 2 (by omega) (by omega) (by omega) h1), if_neg (no 1 3 (by omega) (by omega) (by omega) h1)]
      omega
    by_cases h2 : u.1 2432 (nI k) = nI (2 + 1)
    · rw [if_pos h2, if_neg h0, if_neg h1, if_neg (no 2 3 (by omega) (by omega) (by omega) h2)]
      omega
    rw [if_neg h0, if_neg h1, if_neg h2]
    split <;> omega
theorem or_tab : ∀ b0 b1 b2 b3 : Fin 2, ∀ l : Fin 4, nI (b0.val + 2 * b1.val + 4 * b2.val + 8 * b3.val) ||| ((1 : Int32) <<< (nI l.val &&& 31)) = nI ((if l.val = 0 then 1 else b0.val) + 2 * (if l.val = 1 then 1 else b1.val) + 4 * (if l.val = 2 then 1 else b2.val) + 8 * (if l.val = 3 then 1 else b3.val)) := by decide +kernel
theorem bc_tab {F : Nat} {al : Nat → Bool} {u : Mr} : ∀ b0 b1 b2 b3 : Nat, b0 < 2 → b1 < 2 → b2 < 2 → b3 < 2 → fn_In_bitCount F al u (nI (b0 + 2 * b1 + 4 * b2 + 8 * b3)) = some (u, nI (b0 + b1 + b2 + b3)) := by
  intro b0 b1 b2 b3 h0 h1 h2 h3
  unfold fn_In_bitCount bk_In_bitCount_0
  refine congrArg (fun z => some (u, z)) ?_
  rcases (show b0 = 0 ∨ b0 = 1 by omega) with e0 | e0 <;> rcases (show b1 = 0 ∨ b1 = 1 by omega) with e1 | e1 <;> rcases (show b2 = 0 ∨ b2 = 1 by omega) with e2 | e2 <;> rcases (show b3 = 0 ∨ b3 = 1 by omega) with e3 | e3 <;> subst e0 <;> subst e1 <;> subst e2 <;> subst e3 <;> decide +kernel
section
variable {f F : Nat} {al : Nat → Bool} {u wB uc um : Mr}
theorem lbit_lt {l k : Nat} : lbit u l k < 2 := by
  unfold lbit
  split <;> omega
theorem lbit_s {l k : Nat} : lbit u l (k + 1) = if u.1 2432 (nI k) = nI (l + 1) then 1 else lbit u l k := by
  unfold lbit
  rw [lcnt]
  by_cases h : u.1 2432 (nI k) = nI (l + 1)
  · rw [if_pos h, if_pos h, if_neg (by omega)]
  · rw [if_neg h, if_neg h, Nat.add_zero]
/-- the two views of a name's library -/
def LibOK (u : Mr) : Prop := ∀ k, k < 16 → (u.1 (1280 + k) 4 = -1 ∧ u.1 2432 (nI k) = 0) ∨ ∃ l, l < 4 ∧ u.1 (1280 + k) 4 = nI l ∧ u.1 2432 (nI k) = nI (l + 1) ∧ u.1 (1280 + k) 5 = u.1 2433 (nI k)
theorem LibOK.of (h : RNam u) : LibOK u := fun k hk => by
  obtain ⟨h1, -⟩ := h k hk
  rcases h1 with z | ⟨l, n, z1, z2, z3, z4, z5, z6⟩
  · exact Or.inl z
  · exact Or.inr ⟨l, z1, z3, z4, z5.trans z6.symm⟩
theorem LibOK.iff (h : LibOK u) {k l : Nat} (hk : k < 16) (hl : l < 4) : u.1 (1280 + k) 4 = nI l ↔ u.1 2432 (nI k) = nI (l + 1) := by
  rcases h k hk with ⟨z1, z2⟩ | ⟨l', z1, z2, z3, -⟩
  · rw [z1, z2]
    constructor
    · intro z
      have := congrArg Int32.toInt z
      rw [nI_toInt (by omega), show (-1 : Int32).toInt = -1 from rfl] at this
      omega
    · intro z
      have := nI_inj (a := 0) (by decide) (by omega) z
      omega
  · rw [z2, z3]
    constructor
    · intro z
      rw [nI_inj (by omega) (by omega) z]
    · intro z
      have := nI_inj (by omega) (by omega) z
      rw [show l' = l by omega]
theorem e_countC (hc : Sc al uc) (hr : ∀ k, k < 16 → uc.1 (1280 + k) = u.1 (1280 + k)) (h : LibOK u) : fn_Lk_countLibraries (f + 4000) al uc 512 192 = some (uc, nI (lbit u 0 16 + lbit u 1 16 + lbit u 2 16 + lbit u 3 16)) := by
  have loop : ∀ m c k, m + k = 16 → m < c → bk_Lk_countLibraries_11 (f + 4000) al c uc (nI (lbit u 0 k + 2 * lbit u 1 k + 4 * lbit u 2 k + 8 * lbit u 3 k)) 192 16 (nI k) = some (uc, nI (lbit u 0 16 + lbit u 1 16 + lbit u 2 16 + lbit u 3 16)) := by
    intro m
    induction m with
    | zero =>
      intro c k hk hcc
      obtain ⟨c, rfl⟩ : ∃ q, c = q + 1 := ⟨c - 1, by omega⟩
      have e : k = 16 := by omega
      rw [e, bk_Lk_countLibraries_11, if_pos (by decide), bc_tab _ _ _ _ lbit_lt lbit_lt lbit_lt lbit_lt, bd2_s]
    | succ m ih =>
      intro c k hk hcc
      obtain ⟨c, rfl⟩ : ∃ q, c = q + 1 := ⟨c - 1, by omega⟩
      have hk6 : k < 16 := by omega
      have hi := ih c (k + 1) (by omega) (by omega)
      rw [lbit_s, lbit_s, lbit_s, lbit_s] at hi
      rw [bk_Lk_countLibraries_11, if_neg (show ¬ (16 : Int32) ≤ nI k from fun z => absurd ((na_le (a := 16) (by decide) (by omega)).mp z) (by omega)), ck_eq (in_t hk6 (by decide)), bd1_eq (hc.2.2.1 k hk6)]
      unfold fn_Nm_isImported bk_Nm_isImported_0 bk_Lk_countLibraries_42
      rw [hr k hk6, show nI k + (1 : Int32) = nI (k + 1) from na_add _ 1]
      rcases h k hk6 with ⟨z1, z2⟩ | ⟨l, z1, z2, z3, -⟩
      · have no : ∀ b, b < 4 → ¬ u.1 2432 (nI k) = nI (b + 1) := fun b hb z => by
          have := nI_inj (a := 0) (by decide) (by omega) (z2.symm.trans z)
          omega
        rw [if_neg (no 0 (by omega)), if_neg (no 1 (by omega)), if_neg (no 2 (by omega)), if_neg (no 3 (by omega))] at hi
        rw [if_pos z1, bd2_s, if_pos rfl]
        exact hi
      · have e1 : ¬ u.1 (1280 + k) 4 = -1 := fun z => by
          have := congrArg Int32.toInt (z2.symm.trans z)
          rw [nI_toInt (by omega), show (-1 : Int32).toInt = -1 from rfl] at this
          omega
        rw [if_neg e1, bd2_s, if_neg (show ¬ (1 : Int32) = 0 by decide), hr k hk6, z2]
        have t := or_tab ⟨lbit u 0 k, lbit_lt⟩ ⟨lbit u 1 k, lbit_lt⟩ ⟨lbit u 2 k, lbit_lt⟩ ⟨lbit u 3 k, lbit_lt⟩ ⟨l, z1⟩
        simp only [] at t
        rw [t]
        have eqv : ∀ b, b < 4 → ((u.1 2432 (nI k) = nI (b + 1)) ↔ l = b) := fun b hb => by
          rw [z3]
          exact ⟨fun z => by have := nI_inj (by omega) (by omega) z; omega, fun z => by rw [z]⟩
        simp only [eqv 0 (by omega), eqv 1 (by omega), eqv 2 (by omega), eqv 3 (by omega)] at hi
        exact hi
  unfold fn_Lk_countLibraries bk_Lk_countLibraries_0
  have := loop 16 (f + 4000) 0 (by omega) (by omega)
  exact this
theorem e_namesOf (hm : Sm al um) {l : Nat} (hl : l < 4) : fn_Md_namesOf (f + 4000) al um 2048 (nI l) = some (um, nI (lcnt um l 16)) := by
  have loop : ∀ m c k, m + k = 16 → m < c → bk_Md_namesOf_4 (f + 4000) al c um 2048 (nI l) (nI (lcnt um l k)) (nI k) = some (um, nI (lcnt um l 16)) := by
    intro m
    induction m with
    | zero =>
      intro c k hk hcc
      obtain ⟨c, rfl⟩ : ∃ q, c = q + 1 := ⟨c - 1, by omega⟩
      have e : k = 16 := by omega
      rw [e, bk_Md_namesOf_4, if_pos (by decide)]
    | succ m ih =>
      intro c k hk hcc
      obtain ⟨c, rfl⟩ : ∃ q, c = q + 1 := ⟨c - 1, by omega⟩
      have hi := ih c (k + 1) (by omega) (by omega)
      rw [bk_Md_namesOf_4, if_neg (show ¬ (16 : Int32) ≤ nI k from fun z => absurd ((na_le (a := 16) (by decide) (by omega)).mp z) (by omega)), bd1_eq hm.2.1.2.2.2.2.1, ck_eq (in_t (by omega) (by decide)), show nI l + (1 : Int32) = nI (l + 1) from na_add _ 1]
      unfold bk_Md_namesOf_28
      rw [show nI k + (1 : Int32) = nI (k + 1) from na_add _ 1]
      by_cases e : um.1 2432 (nI k) = nI (l + 1)
      · rw [if_pos e, show nI (lcnt um l k) + (1 : Int32) = nI (lcnt um l (k + 1)) by rw [lcnt, if_pos e]; exact na_add _ 1]
        exact hi
      · rw [if_neg e, show nI (lcnt um l k) + (0 : Int32) = nI (lcnt um l (k + 1)) by rw [lcnt, if_neg e]; exact Int32.add_zero _]
        exact hi
  exact loop 16 (f + 4000) 0 (by omega) (by omega)
end

def Clash (u : Mr) (d : Nat → Nat) (k : Nat) : Prop := 1 < dtot u d k ∨ (dtot u d k = 1 ∧ u.1 2432 (nI k) ≠ 0)
def Lack (u : Mr) (d n : Nat → Nat) (k : Nat) : Prop := (u.1 2496 (nI k) ≠ 0 ∧ dtot u d k = 0) ∨ (Mnt u n k ∧ dtot u d k = 0 ∧ u.1 2432 (nI k) = 0)
def LEND (F : Nat) (al : Nat → Bool) (um : Mr) (a b : Int32) : Option (Mr × Int32) := bd2 (fn_Md_fails F al um 2048 a (1 : Int32)) fun u1 v1 => (if v1 = 0 then (bd2 (fn_Md_fails F al u1 2048 b (2 : Int32)) fun u2 v2 => (if v2 = 0 then (bk_Md_link_124 F al F u2 2048 (0 : Int32)) else (some (u2, (0 : Int32))))) else (some (u1, (0 : Int32))))
section
variable {f F : Nat} {al : Nat → Bool} {u um : Mr} {d n : Nat → Nat}
theorem e_checkM (hm : Sm al um) (hd : ∀ o, o < 4 → d o ≤ 6 ∧ um.1 2240 (nI o) = nI (d o)) (hn : ∀ o, o < 4 → n o ≤ 8 ∧ um.1 2241 (nI o) = nI (n o)) (hi : ∀ k, k < 16 → (um.1 2432 (nI k) ≤ 0 ↔ um.1 2432 (nI k) = 0)) :
    ∃ a b, bk_Md_link_6 (f + 4000) al (f + 4000) um 2048 0 0 0 = LEND (f + 4000) al um a b ∧ (a = 0 ∨ a = 1) ∧ (b = 0 ∨ b = 1) ∧ (a = 1 ↔ ∃ k, k < 16 ∧ Clash um d k) ∧ (b = 1 ↔ ∃ k, k < 16 ∧ Lack um d n k) := by
  have h24 : ∀ k, dtot um d k ≤ 24 := fun k => dcnt_le6 (fun o ho => (hd o ho).1)
  have pb : ∀ (k6 : Mr → Nat → Int32 → Int32 → Int32 → Option (Mr × Int32)) (s0 b : Int32) k, k < 16 → (b = 0 ∨ b = 1) → ∃ b1, bk_Md_link_49 (f + 4000) al k6 um s0 2048 b (nI k) (nI (dtot um d k)) = k6 um 2048 s0 b1 (nI (k + 1)) ∧ (b1 = 0 ∨ b1 = 1) ∧ (b1 = 1 ↔ b = 1 ∨ Lack um d n k) := by
    intro k6 s0 b k hk hb
    obtain ⟨v, v1, v2, v3⟩ := e_meant (f := f) (k := k) hm hn
    have z0 : (nI (dtot um d k) = 0) ↔ dtot um d k = 0 := ⟨fun z => nI_inj (b := 0) (by have := h24 k; omega) (by decide) z, fun z => by rw [z]; rfl⟩
    unfold bk_Md_link_49 bk_Md_link_68 bk_Md_link_90 bk_Md_link_94 bk_Md_link_95
    rw [show nI k + (1 : Int32) = nI (k + 1) from na_add _ 1]
    by_cases b0 : b = 0
    rotate_left
    · rw [if_neg b0]
      exact ⟨1, rfl, Or.inr rfl, ⟨fun _ => Or.inl (hb.resolve_left b0), fun _ => rfl⟩⟩
    have nb1 : ¬ b = 1 := by rw [b0]; decide
    rw [if_pos b0, bd1_eq hm.2.1.2.2.2.2.2.2.1, ck_eq (in_t hk (by decide)), v1, bd2_s]
    have mid : (um.1 2496 (nI k) = 0 ∨ dtot um d k ≠ 0) → ∃ b1, (if v = 0 then k6 um 2048 s0 0 (nI (k + 1)) else if nI (dtot um d k) = 0 then (bd1 (rdR al um 2048 12 38) fun y2 => (ck (inb (nI k) 16) (if (um.1 y2 (nI k)) = 0 then k6 um 2048 s0 1 (nI (k + 1)) else k6 um 2048 s0 0 (nI (k + 1))))) else k6 um 2048 s0 0 (nI (k + 1))) = k6 um 2048 s0 b1 (nI (k + 1)) ∧ (b1 = 0 ∨ b1 = 1) ∧ (b1 = 1 ↔ b = 1 ∨ Lack um d n k) := fun hne => by
      have nl : ∀ q : Prop, (q → um.1 2432 (nI k) = 0 ∧ Mnt um n k ∧ dtot um d k = 0) → (¬ q → ¬ (um.1 2432 (nI k) = 0 ∧ Mnt um n k ∧ dtot um d k = 0)) → (Lack um d n k ↔ q) := fun q h1 h2 => by
        constructor
        · rintro (⟨z1, z2⟩ | ⟨z1, z2, z3⟩)
          · rcases hne with y | y
            · exact absurd y z1
            · exact absurd z2 y
          · exact Classical.byContradiction fun y => h2 y ⟨z3, z1, z2⟩
        · intro z
          obtain ⟨y1, y2, y3⟩ := h1 z
          exact Or.inr ⟨y2, y3, y1⟩
      by_cases e1 : v = 0
      · rw [if_pos e1]
        refine ⟨0, rfl, Or.inl rfl, ?_⟩
        rw [nl False (fun z => z.elim) (fun _ z => by
          have := v3.mpr z.2.1
          rw [e1] at this
          exact absurd this (by decide))]
        exact ⟨fun z => absurd z (by decide), fun z => z.elim (fun y => absurd y nb1) False.elim⟩
      rw [if_neg e1]
      have e1' : Mnt um n k := v3.mp (v2.resolve_left e1)
      by_cases e2 : dtot um d k = 0
      · rw [if_pos (z0.mpr e2), bd1_eq hm.2.1.2.2.2.2.1, ck_eq (in_t hk (by decide))]
        by_cases e3 : um.1 2432 (nI k) = 0
        · rw [if_pos e3]
          exact ⟨1, rfl, Or.inr rfl, ⟨fun _ => Or.inr (Or.inr ⟨e1', e2, e3⟩), fun _ => rfl⟩⟩
        · rw [if_neg e3]
          refine ⟨0, rfl, Or.inl rfl, ?_⟩
          rw [nl False (fun z => z.elim) (fun _ z => e3 z.1)]
          exact ⟨fun z => absurd z (by decide), fun z => z.elim (fun y => absurd y nb1) False.elim⟩
      · rw [if_neg (fun z => e2 (z0.mp z))]
        refine ⟨0, rfl, Or.inl rfl, ?_⟩
        rw [nl False (fun z => z.elim) (fun _ z => e2 z.2.2)]
        exact ⟨fun z => absurd z (by decide), fun z => z.elim (fun y => absurd y nb1) False.elim⟩
    by_cases e4 : um.1 2496 (nI k) = 0
    · rw [if_pos e4]
      exact mid (Or.inl e4)
    · rw [if_neg e4]
      by_cases e2 : dtot um d k = 0
      · rw [if_pos (z0.mpr e2)]
        exact ⟨1, rfl, Or.inr rfl, ⟨fun _ => Or.inr (Or.inl ⟨e4, e2⟩), fun _ => rfl⟩⟩
      · rw [if_neg (fun z => e2 (z0.mp z))]
        exact mid (Or.inr e2)
  have step : ∀ c k a b, k < 16 → (a = 0 ∨ a = 1) → (b = 0 ∨ b = 1) → ∃ a1 b1, bk_Md_link_6 (f + 4000) al (c + 1) um 2048 a b (nI k) = bk_Md_link_6 (f + 4000) al c um 2048 a1 b1 (nI (k + 1)) ∧ (a1 = 0 ∨ a1 = 1) ∧ (b1 = 0 ∨ b1 = 1) ∧ (a1 = 1 ↔ a = 1 ∨ Clash um d k) ∧ (b1 = 1 ↔ b = 1 ∨ Lack um d n k) := by
    intro c k a b hk ha hb
    rw [bk_Md_link_6, if_neg (show ¬ (16 : Int32) ≤ nI k from fun z => absurd ((na_le (a := 16) (by decide) (by omega)).mp z) (by omega)), e_defined hm hd, bd2_s]
    have h9 := h24 k
    have c1 : ((1 : Int32) < nI (dtot um d k)) ↔ 1 < dtot um d k := na_lt (a := 1) (by decide) (by omega)
    have c2 : (nI (dtot um d k) = (1 : Int32)) ↔ dtot um d k = 1 := ⟨fun z => nI_inj (b := 1) (by omega) (by decide) z, fun z => by rw [z]; rfl⟩
    unfold bk_Md_link_44 bk_Md_link_48
    have go : ∀ a1, (a1 = 0 ∨ a1 = 1) → (a1 = 1 ↔ a = 1 ∨ Clash um d k) → ∃ a2 b1, bk_Md_link_49 (f + 4000) al (bk_Md_link_6 (f + 4000) al c) um a1 2048 b (nI k) (nI (dtot um d k)) = bk_Md_link_6 (f + 4000) al c um 2048 a2 b1 (nI (k + 1)) ∧ (a2 = 0 ∨ a2 = 1) ∧ (b1 = 0 ∨ b1 = 1) ∧ (a2 = 1 ↔ a = 1 ∨ Clash um d k) ∧ (b1 = 1 ↔ b = 1 ∨ Lack um d n k) := fun a1 h1 h2 => by
      obtain ⟨b1, q1, q2, q3⟩ := pb (bk_Md_link_6 (f + 4000) al c) a1 b k hk hb
      exact ⟨a1, b1, q1, h1, q2, h2, q3⟩
    by_cases a0 : a = 0
    rotate_left
    · rw [if_neg a0]
      exact go 1 (Or.inr rfl) ⟨fun _ => Or.inl (ha.resolve_left a0), fun _ => rfl⟩
    have na1 : ¬ a = 1 := by rw [a0]; decide
    rw [if_pos a0]
    by_cases e1 : 1 < dtot um d k
    · rw [if_pos (c1.mpr e1)]
      exact go 1 (Or.inr rfl) ⟨fun _ => Or.inr (Or.inl e1), fun _ => rfl⟩
    rw [if_neg (fun z => e1 (c1.mp z))]
    by_cases e2 : dtot um d k = 1
    · rw [if_pos (c2.mpr e2), bd1_eq hm.2.1.2.2.2.2.1, ck_eq (in_t hk (by decide))]
      by_cases e3 : um.1 2432 (nI k) = 0
      · rw [if_pos ((hi k hk).mpr e3)]
        exact go 0 (Or.inl rfl) ⟨fun z => absurd z (by decide), fun z => z.elim (fun y => absurd y na1) (fun y => y.elim (fun x => absurd x e1) (fun x => absurd e3 x.2))⟩
      · rw [if_neg (fun z => e3 ((hi k hk).mp z))]
        exact go 1 (Or.inr rfl) ⟨fun _ => Or.inr (Or.inr ⟨e2, e3⟩), fun _ => rfl⟩
    · rw [if_neg (fun z => e2 (c2.mp z))]
      exact go 0 (Or.inl rfl) ⟨fun z => absurd z (by decide), fun z => z.elim (fun y => absurd y na1) (fun y => y.elim (fun x => absurd x e1) (fun x => absurd x.1 e2))⟩
  have loop : ∀ m c k a b, m + k = 16 → m < c → (a = 0 ∨ a = 1) → (b = 0 ∨ b = 1) → ∃ a1 b1, bk_Md_link_6 (f + 4000) al c um 2048 a b (nI k) = LEND (f + 4000) al um a1 b1 ∧ (a1 = 0 ∨ a1 = 1) ∧ (b1 = 0 ∨ b1 = 1) ∧ (a1 = 1 ↔ a = 1 ∨ ∃ q, k ≤ q ∧ q < 16 ∧ Clash um d q) ∧ (b1 = 1 ↔ b = 1 ∨ ∃ q, k ≤ q ∧ q < 16 ∧ Lack um d n q) := by
    intro m
    induction m with
    | zero =>
      intro c k a b hk hc ha hb
      obtain ⟨c, rfl⟩ : ∃ q, c = q + 1 := ⟨c - 1, by omega⟩
      refine ⟨a, b, ?_, ha, hb, ⟨Or.inl, fun z => z.elim id (fun ⟨q, q1, q2, _⟩ => by omega)⟩, ⟨Or.inl, fun z => z.elim id (fun ⟨q, q1, q2, _⟩ => by omega)⟩⟩
      rw [bk_Md_link_6, if_pos (show (16 : Int32) ≤ nI k from (na_le (a := 16) (by decide) (by omega)).mpr (by omega))]
      rfl
    | succ m ih =>
      intro c k a b hk hc ha hb
      obtain ⟨c, rfl⟩ : ∃ q, c = q + 1 := ⟨c - 1, by omega⟩
      obtain ⟨a1, b1, s1, s2, s3, s4, s5⟩ := step c k a b (by omega) ha hb
      obtain ⟨a2, b2, t1, t2, t3, t4, t5⟩ := ih c (k + 1) a1 b1 (by omega) (by omega) s2 s3
      have ext : ∀ P : Nat → Prop, ∀ q0 : Prop, ((q0 ∨ P k) ∨ ∃ q, k + 1 ≤ q ∧ q < 16 ∧ P q) ↔ (q0 ∨ ∃ q, k ≤ q ∧ q < 16 ∧ P q) := fun P q0 => by
        constructor
        · rintro ((z | z) | ⟨q, z1, z2, z3⟩)
          · exact Or.inl z
          · exact Or.inr ⟨k, Nat.le_refl _, by omega, z⟩
          · exact Or.inr ⟨q, by omega, z2, z3⟩
        · rintro (z | ⟨q, z1, z2, z3⟩)
          · exact Or.inl (Or.inl z)
          · by_cases e : q = k
            · rw [e] at z3
              exact Or.inl (Or.inr z3)
            · exact Or.inr ⟨q, by omega, z2, z3⟩
      refine ⟨a2, b2, s1.trans t1, t2, t3, ?_, ?_⟩
      · rw [t4, s4]
        exact ext _ _
      · rw [t5, s5]
        exact ext _ _
  obtain ⟨a, b, q1, q2, q3, q4, q5⟩ := loop 16 (f + 4000) 0 0 0 (by omega) (by omega) (Or.inl rfl) (Or.inl rfl)
  refine ⟨a, b, q1, q2, q3, q4.trans ⟨fun z => ?_, fun ⟨q, z1, z2⟩ => Or.inr ⟨q, Nat.zero_le _, z1, z2⟩⟩, q5.trans ⟨fun z => ?_, fun ⟨q, z1, z2⟩ => Or.inr ⟨q, Nat.zero_le _, z1, z2⟩⟩⟩
  · rcases z with z | ⟨q, -, z1, z2⟩
    · exact absurd z (by decide)
    · exact ⟨q, z1, z2⟩
  · rcases z with z | ⟨q, -, z1, z2⟩
    · exact absurd z (by decide)
    · exact ⟨q, z1, z2⟩
/-- the class's three looks -/
theorem e_clashes (hc : Sc al u) (h24 : ∀ k, dtot u d k ≤ 24) (h0 : ∀ k, k < 16 → u.1 (1280 + k) 0 = nI (dtot u d k)) (hi : ∀ k, k < 16 → (u.1 (1280 + k) 4 = -1 ↔ u.1 2432 (nI k) = 0)) : ∃ v, fn_Fg_someNameClashes (f + 4000) al u 64 = some (u, v) ∧ (v = 0 ∨ v = 1) ∧ (v = 1 ↔ ∃ k, k < 16 ∧ Clash u d k) := by
  have loop : ∀ m c k, m + k = 16 → m < c → ∃ v, bk_Fg_someNameClashes_10 (f + 4000) al c u 192 16 (nI k) = some (u, v) ∧ (v = 0 ∨ v = 1) ∧ (v = 1 ↔ ∃ q, k ≤ q ∧ q < 16 ∧ Clash u d q) := by
    intro m
    induction m with
    | zero =>
      intro c k hk hcc
      obtain ⟨c, rfl⟩ : ∃ q, c = q + 1 := ⟨c - 1, by omega⟩
      rw [bk_Fg_someNameClashes_10, if_pos (show (16 : Int32) ≤ nI k from (na_le (a := 16) (by decide) (by omega)).mpr (by omega))]
      exact ⟨0, rfl, Or.inl rfl, ⟨fun z => absurd z (by decide), fun ⟨q, q1, q2, _⟩ => by omega⟩⟩
    | succ m ih =>
      intro c k hk hcc
      obtain ⟨c, rfl⟩ : ∃ q, c = q + 1 := ⟨c - 1, by omega⟩
      have h9 := h24 k
      have hk6 : k < 16 := by omega
      have c1 : ((1 : Int32) < nI (dtot u d k)) ↔ 1 < dtot u d k := na_lt (a := 1) (by decide) (by omega)
      have c0 : (nI (dtot u d k) ≤ (0 : Int32)) ↔ dtot u d k ≤ 0 := na_le (b := 0) (by omega) (by decide)
      obtain ⟨v, v1, v2, v3⟩ := ih c (k + 1) (by omega) (by omega)
      have next : ¬ Clash u d k → ∃ v, bk_Fg_someNameClashes_47 (f + 4000) al (bk_Fg_someNameClashes_10 (f + 4000) al c) u 192 16 (nI k) = some (u, v) ∧ (v = 0 ∨ v = 1) ∧ (v = 1 ↔ ∃ q, k ≤ q ∧ q < 16 ∧ Clash u d q) := fun hno => by
        unfold bk_Fg_someNameClashes_47
        rw [show nI k + (1 : Int32) = nI (k + 1) from na_add _ 1]
        refine ⟨v, v1, v2, v3.trans ⟨fun ⟨q, z1, z2, z3⟩ => ⟨q, by omega, z2, z3⟩, fun ⟨q, z1, z2, z3⟩ => ⟨q, ?_, z2, z3⟩⟩⟩
        by_cases e : q = k
        · rw [e] at z3
          exact absurd z3 hno
        · omega
      rw [bk_Fg_someNameClashes_10, if_neg (show ¬ (16 : Int32) ≤ nI k from fun z => absurd ((na_le (a := 16) (by decide) (by omega)).mp z) (by omega)), ck_eq (in_t hk6 (by decide)), bd1_eq (hc.2.2.1 k hk6), h0 k hk6]
      by_cases e1 : 1 < dtot u d k
      · rw [if_pos (c1.mpr e1)]
        exact ⟨1, rfl, Or.inr rfl, ⟨fun _ => ⟨k, Nat.le_refl _, hk6, Or.inl e1⟩, fun _ => rfl⟩⟩
      rw [if_neg (fun z => e1 (c1.mp z))]
      unfold fn_Nm_isDefined bk_Nm_isDefined_0
      rw [h0 k hk6]
      by_cases e2 : dtot u d k = 0
      · rw [if_pos (c0.mpr (by omega)), bd2_s, if_pos rfl]
        exact next (fun z => by
          rcases z with z | z
          · exact e1 z
          · omega)
      rw [if_neg (fun z => e2 (by have := c0.mp z; omega)), bd2_s, if_neg (show ¬ (1 : Int32) = 0 by decide)]
      unfold fn_Nm_isImported bk_Nm_isImported_0
      by_cases e3 : u.1 (1280 + k) 4 = -1
      · rw [if_pos e3, bd2_s, if_pos rfl]
        exact next (fun z => by
          rcases z with z | z
          · exact e1 z
          · exact z.2 ((hi k hk6).mp e3))
      · rw [if_neg e3, bd2_s, if_neg (show ¬ (1 : Int32) = 0 by decide)]
        exact ⟨1, rfl, Or.inr rfl, ⟨fun _ => ⟨k, Nat.le_refl _, hk6, Or.inr ⟨by omega, fun z => e3 ((hi k hk6).mpr z)⟩⟩, fun _ => rfl⟩⟩
  obtain ⟨v, v1, v2, v3⟩ := loop 16 (f + 4000) 0 (by omega) (by omega)
  refine ⟨v, ?_, v2, v3.trans ⟨fun ⟨q, _, z2, z3⟩ => ⟨q, z2, z3⟩, fun ⟨q, z2, z3⟩ => ⟨q, Nat.zero_le _, z2, z3⟩⟩⟩
  unfold fn_Fg_someNameClashes bk_Fg_someNameClashes_0
  rw [bd1_eq hc.1.2.1]
  exact v1
theorem e_expLacks (hc : Sc al u) (h24 : ∀ k, dtot u d k ≤ 24) (h0 : ∀ k, k < 16 → u.1 (1280 + k) 0 = nI (dtot u d k)) (hx : ∀ k, k < 16 → u.1 (1280 + k) 6 = u.1 2496 (nI k)) : ∃ v, fn_Fg_someExportLacks (f + 4000) al u 64 = some (u, v) ∧ (v = 0 ∨ v = 1) ∧ (v = 1 ↔ ∃ k, k < 16 ∧ u.1 2496 (nI k) ≠ 0 ∧ dtot u d k = 0) := by
  have loop : ∀ m c k, m + k = 16 → m < c → ∃ v, bk_Fg_someExportLacks_10 (f + 4000) al c u 192 16 (nI k) = some (u, v) ∧ (v = 0 ∨ v = 1) ∧ (v = 1 ↔ ∃ q, k ≤ q ∧ q < 16 ∧ u.1 2496 (nI q) ≠ 0 ∧ dtot u d q = 0) := by
    intro m
    induction m with
    | zero =>
      intro c k hk hcc
      obtain ⟨c, rfl⟩ : ∃ q, c = q + 1 := ⟨c - 1, by omega⟩
      rw [bk_Fg_someExportLacks_10, if_pos (show (16 : Int32) ≤ nI k from (na_le (a := 16) (by decide) (by omega)).mpr (by omega))]
      exact ⟨0, rfl, Or.inl rfl, ⟨fun z => absurd z (by decide), fun ⟨q, q1, q2, _⟩ => by omega⟩⟩
    | succ m ih =>
      intro c k hk hcc
      obtain ⟨c, rfl⟩ : ∃ q, c = q + 1 := ⟨c - 1, by omega⟩
      have h9 := h24 k
      have hk6 : k < 16 := by omega
      have c0 : (nI (dtot u d k) ≤ (0 : Int32)) ↔ dtot u d k ≤ 0 := na_le (b := 0) (by omega) (by decide)
      obtain ⟨v, v1, v2, v3⟩ := ih c (k + 1) (by omega) (by omega)
      have next : ¬ (u.1 2496 (nI k) ≠ 0 ∧ dtot u d k = 0) → ∃ v, bk_Fg_someExportLacks_38 (f + 4000) al (bk_Fg_someExportLacks_10 (f + 4000) al c) u 192 16 (nI k) = some (u, v) ∧ (v = 0 ∨ v = 1) ∧ (v = 1 ↔ ∃ q, k ≤ q ∧ q < 16 ∧ u.1 2496 (nI q) ≠ 0 ∧ dtot u d q = 0) := fun hno => by
        unfold bk_Fg_someExportLacks_38
        rw [show nI k + (1 : Int32) = nI (k + 1) from na_add _ 1]
        refine ⟨v, v1, v2, v3.trans ⟨fun ⟨q, z1, z2, z3⟩ => ⟨q, by omega, z2, z3⟩, fun ⟨q, z1, z2, z3⟩ => ⟨q, ?_, z2, z3⟩⟩⟩
        by_cases e : q = k
        · rw [e] at z3
          exact absurd z3 hno
        · omega
      rw [bk_Fg_someExportLacks_10, if_neg (show ¬ (16 : Int32) ≤ nI k from fun z => absurd ((na_le (a := 16) (by decide) (by omega)).mp z) (by omega)), ck_eq (in_t hk6 (by decide)), bd1_eq (hc.2.2.1 k hk6), hx k hk6]
      by_cases e1 : u.1 2496 (nI k) = 0
      · rw [if_pos e1]
        exact next (fun z => z.1 e1)
      rw [if_neg e1]
      unfold fn_Nm_isDefined bk_Nm_isDefined_0
      rw [h0 k hk6]
      by_cases e2 : dtot u d k = 0
      · rw [if_pos (c0.mpr (by omega)), bd2_s, if_pos rfl]
        exact ⟨1, rfl, Or.inr rfl, ⟨fun _ => ⟨k, Nat.le_refl _, hk6, e1, e2⟩, fun _ => rfl⟩⟩
      · rw [if_neg (fun z => e2 (by have := c0.mp z; omega)), bd2_s, if_neg (show ¬ (1 : Int32) = 0 by decide)]
        exact next (fun z => e2 z.2)
  obtain ⟨v, v1, v2, v3⟩ := loop 16 (f + 4000) 0 (by omega) (by omega)
  refine ⟨v, ?_, v2, v3.trans ⟨fun ⟨q, _, z2, z3⟩ => ⟨q, z2, z3⟩, fun ⟨q, z2, z3⟩ => ⟨q, Nat.zero_le _, z2, z3⟩⟩⟩
  unfold fn_Fg_someExportLacks bk_Fg_someExportLacks_0
  rw [bd1_eq hc.1.2.1]
  exact v1
theorem e_refLacks (hc : Sc al u) (h24 : ∀ k, dtot u d k ≤ 24) (h0 : ∀ k, k < 16 → u.1 (1280 + k) 0 = nI (dtot u d k)) (hi : ∀ k, k < 16 → (u.1 (1280 + k) 4 = -1 ↔ u.1 2432 (nI k) = 0)) (hs : Sr al u)
    (hn : ∀ o, o < 4 → n o ≤ 8 ∧ u.1 (1152 + o) 2 = nI (n o) ∧ ∀ r, r < n o → ∃ k, k < 16 ∧ u.1 (1344 + (8 * o + r)) 3 = nI k ∧ u.1 2371 (nI (8 * o + r)) = nI k) :
    ∃ v, fn_Fg_someReferenceLacks (f + 4000) al u 64 = some (u, v) ∧ (v = 0 ∨ v = 1) ∧ (v = 1 ↔ ∃ k, k < 16 ∧ Mnt u n k ∧ dtot u d k = 0 ∧ u.1 2432 (nI k) = 0) := by
  -- the r-th reference of o lacks its name
  let L : Nat → Nat → Prop := fun o r => ∃ k, k < 16 ∧ u.1 2371 (nI (8 * o + r)) = nI k ∧ dtot u d k = 0 ∧ u.1 2432 (nI k) = 0
  have inner : ∀ (k10 : Mr → Nat → Nat → Int32 → Int32 → Option (Mr × Int32)) o, o < 4 → ∀ m c r, m + r = n o → m < c → (bk_Fg_someReferenceLacks_23 (f + 4000) al k10 c u 64 128 4 (nI o) (896 + o) (nI r) = some (u, 1) ∧ ∃ q, r ≤ q ∧ q < n o ∧ L o q) ∨ (bk_Fg_someReferenceLacks_23 (f + 4000) al k10 c u 64 128 4 (nI o) (896 + o) (nI r) = k10 u 64 128 4 (nI (o + 1)) ∧ ¬ ∃ q, r ≤ q ∧ q < n o ∧ L o q) := by
    intro k10 o ho m
    obtain ⟨n', b1, b2, b3, b4, b5⟩ := hs o ho
    obtain ⟨g1, g2, g3⟩ := hn o ho
    have en : n' = n o := nI_inj (by omega) (by omega) (b2.symm.trans g2)
    rw [en] at b4
    induction m with
    | zero =>
      intro c r hr hcc
      obtain ⟨c, rfl⟩ : ∃ q, c = q + 1 := ⟨c - 1, by omega⟩
      refine Or.inr ⟨?_, fun ⟨q, q1, q2, _⟩ => by omega⟩
      rw [bk_Fg_someReferenceLacks_23, bd1_eq (hc.2.2.2.2.2.2.2.1 o ho).2]
      unfold fn_Al_size bk_Al_size_0
      rw [bd2_s, g2, if_pos ((na_le (by omega) (by omega)).mpr (by omega)), show nI o + (1 : Int32) = nI (o + 1) from na_add _ 1]
    | succ m ih =>
      intro c r hr hcc
      obtain ⟨c, rfl⟩ : ∃ q, c = q + 1 := ⟨c - 1, by omega⟩
      obtain ⟨k, hk, k1, k2⟩ := g3 r (by omega)
      have h9 := h24 k
      have c0 : (nI (dtot u d k) ≤ (0 : Int32)) ↔ dtot u d k ≤ 0 := na_le (b := 0) (by omega) (by decide)
      obtain ⟨y1, y2⟩ := e_get (F := f + 4000) g2 g1 (show r < n o by omega) (b4 (by omega)).1 ((b4 (by omega)).2 r (by omega))
      have next : ¬ L o r → (bk_Fg_someReferenceLacks_77 (f + 4000) al k10 (bk_Fg_someReferenceLacks_23 (f + 4000) al k10 c) u 64 128 4 (nI o) (896 + o) (nI r) = some (u, 1) ∧ ∃ q, r ≤ q ∧ q < n o ∧ L o q) ∨ (bk_Fg_someReferenceLacks_77 (f + 4000) al k10 (bk_Fg_someReferenceLacks_23 (f + 4000) al k10 c) u 64 128 4 (nI o) (896 + o) (nI r) = k10 u 64 128 4 (nI (o + 1)) ∧ ¬ ∃ q, r ≤ q ∧ q < n o ∧ L o q) := fun hno => by
        unfold bk_Fg_someReferenceLacks_77
        rw [show nI r + (1 : Int32) = nI (r + 1) from na_add _ 1]
        rcases ih c (r + 1) (by omega) (by omega) with ⟨z1, q, q1, q2, q3⟩ | ⟨z1, z2⟩
        · exact Or.inl ⟨z1, q, by omega, q2, q3⟩
        · refine Or.inr ⟨z1, fun ⟨q, q1, q2, q3⟩ => ?_⟩
          by_cases e : q = r
          · rw [e] at q3
            exact hno q3
          · exact z2 ⟨q, by omega, q2, q3⟩
      rw [bk_Fg_someReferenceLacks_23, bd1_eq (hc.2.2.2.2.2.2.2.1 o ho).2]
      unfold fn_Al_size bk_Al_size_0
      rw [bd2_s, g2, if_neg (fun z => absurd ((na_le (by omega) (by omega)).mp z) (by omega)), bd1_eq hc.1.2.1, bd1_eq (hc.2.2.2.2.2.2.2.1 o ho).2, y1, bd2_s, ck_eq y2]
      unfold fn_Rf_name bk_Rf_name_0
      rw [bd2_s, k1, ck_eq (in_t hk (by decide)), bd1_eq (hc.2.2.1 k hk)]
      unfold fn_Nm_isDefined bk_Nm_isDefined_0 fn_Nm_isImported bk_Nm_isImported_0
      rw [h0 k hk]
      have uniq : L o r → dtot u d k = 0 ∧ u.1 2432 (nI k) = 0 := fun ⟨k', hk', z1, z2, z3⟩ => by
        have : k' = k := nI_inj (by omega) (by omega) (z1.symm.trans k2)
        rw [this] at z2 z3
        exact ⟨z2, z3⟩
      by_cases e2 : dtot u d k = 0
      · rw [if_pos (c0.mpr (by omega)), bd2_s, if_pos rfl]
        by_cases e3 : u.1 (1280 + k) 4 = -1
        · rw [if_pos e3, bd2_s, if_pos rfl]
          exact Or.inl ⟨rfl, r, Nat.le_refl _, by omega, k, hk, k2, e2, (hi k hk).mp e3⟩
        · rw [if_neg e3, bd2_s, if_neg (show ¬ (1 : Int32) = 0 by decide)]
          exact next (fun z => e3 ((hi k hk).mpr (uniq z).2))
      · rw [if_neg (fun z => e2 (by have := c0.mp z; omega)), bd2_s, if_neg (show ¬ (1 : Int32) = 0 by decide)]
        exact next (fun z => e2 (uniq z).1)
  have loop : ∀ m c o, m + o = 4 → m < c → ∃ v, bk_Fg_someReferenceLacks_10 (f + 4000) al c u 64 128 4 (nI o) = some (u, v) ∧ (v = 0 ∨ v = 1) ∧ (v = 1 ↔ ∃ q r, o ≤ q ∧ q < 4 ∧ r < n q ∧ L q r) := by
    intro m
    induction m with
    | zero =>
      intro c o hk hcc
      obtain ⟨c, rfl⟩ : ∃ q, c = q + 1 := ⟨c - 1, by omega⟩
      rw [bk_Fg_someReferenceLacks_10, if_pos (show (4 : Int32) ≤ nI o from (na_le (a := 4) (by decide) (by omega)).mpr (by omega))]
      exact ⟨0, rfl, Or.inl rfl, ⟨fun z => absurd z (by decide), fun ⟨q, r, q1, q2, _⟩ => by omega⟩⟩
    | succ m ih =>
      intro c o hk hcc
      obtain ⟨c, rfl⟩ : ∃ q, c = q + 1 := ⟨c - 1, by omega⟩
      have ho : o < 4 := by omega
      have h8 := (hn o ho).1
      rw [bk_Fg_someReferenceLacks_10, if_neg (show ¬ (4 : Int32) ≤ nI o from fun z => absurd ((na_le (a := 4) (by decide) (by omega)).mp z) (by omega)), ck_eq (in_t ho (by decide)), bd1_eq (hc.2.1 o ho)]
      rcases inner (bk_Fg_someReferenceLacks_10 (f + 4000) al c) o ho (n o) (f + 4000) 0 (by omega) (by omega) with ⟨z1, q, -, q2, q3⟩ | ⟨z1, z2⟩
      · exact ⟨1, z1, Or.inr rfl, ⟨fun _ => ⟨o, q, Nat.le_refl _, ho, q2, q3⟩, fun _ => rfl⟩⟩
      · obtain ⟨v, v1, v2, v3⟩ := ih c (o + 1) (by omega) (by omega)
        refine ⟨v, Eq.trans z1 v1, v2, v3.trans ⟨fun ⟨q, r, q1, q2, q3⟩ => ⟨q, r, by omega, q2, q3⟩, fun ⟨q, r, q1, q2, q3, q4⟩ => ⟨q, r, ?_, q2, q3, q4⟩⟩⟩
        by_cases e : q = o
        · rw [e] at q3 q4
          exact absurd ⟨r, Nat.zero_le _, q3, q4⟩ z2
        · omega
  obtain ⟨v, v1, v2, v3⟩ := loop 4 (f + 4000) 0 (by omega) (by omega)
  refine ⟨v, ?_, v2, v3.trans ⟨fun ⟨o, r, _, ho, hr, k, hk, z1, z2, z3⟩ => ⟨k, hk, ⟨o, r, ho, hr, z1⟩, z2, z3⟩, fun ⟨k, hk, ⟨o, r, ho, hr, z1⟩, z2, z3⟩ => ⟨o, r, Nat.zero_le _, ho, hr, k, hk, z1, z2, z3⟩⟩⟩
  unfold fn_Fg_someReferenceLacks bk_Fg_someReferenceLacks_0
  rw [bd1_eq hc.1.1]
  exact v1
end

/-! link: the relocations -/
theorem sb_0 (v : Int32) : sb v 0 = v := by
  unfold sb
  rw [show ((8 : Int32) * nI 0) &&& 31 = 0 from rfl]
  simp
theorem sb_1 (v : Int32) : sb v 1 = v >>> ((8 : Int32) &&& 31) := rfl
theorem en_tab : ∀ i : Fin 64, nI i.val ||| (12288 : Int32) = (12288 : Int32) + nI i.val := by decide +kernel
theorem wr_2s {u : Mr} {k p : Nat} {g : Nat → Int32} (h : p + 2 < 2 ^ 31) : stI (stI u k (nI p) (g 0)) k (nI (p + 1)) (g 1) = wr u k p 2 g := by
  have e0 := wr_s (u := u) (k := k) (p := p) (n := 0) (g := g) (by omega)
  rw [wr_0, Nat.add_zero] at e0
  rw [e0]
  exact wr_s (by omega)
theorem acnt_mono {fl : Int32 → Int32} {k : Nat} : ∀ d, acnt fl k ≤ acnt fl (k + d) ∧ acnt fl (k + d) ≤ acnt fl k + d
  | 0 => ⟨Nat.le_refl _, Nat.le_refl _⟩
  | d + 1 => by
    have := acnt_mono (fl := fl) (k := k) d
    rw [← Nat.add_assoc, acnt]
    split <;> omega
theorem acnt_same {fl : Int32 → Int32} {k : Nat} : ∀ d, (∀ j, k ≤ j → j < k + d → fl (nI j) = 0) → acnt fl (k + d) = acnt fl k
  | 0, _ => rfl
  | d + 1, h => by rw [← Nat.add_assoc, acnt, acnt_same d (fun j h1 h2 => h j h1 (by omega)), if_pos (h (k + d) (by omega) (by omega)), Nat.add_zero]
section
variable {f F : Nat} {al : Nat → Bool} {u wB uc um : Mr}
theorem e_setHalf {p : Nat} {v : Int32} (hc : Sc al uc) (hp : p + 2 ≤ 896) : fn_Im_setHalf F al uc 384 (nI p) v = some (wr uc 448 p 2 (fun j => (sb v j).toInt8.toInt32), 0) := by
  unfold fn_Im_setHalf bk_Im_setHalf_0
  rw [bd1_eq (show rdR al uc 384 0 7 = some 448 from hc.2.2.2.2.1 0 (by decide)), ck_eq (in_t (by omega) (by decide)), bd1_eq (show rdR al (stI uc 448 (nI p) v.toInt8.toInt32) 384 0 7 = some 448 from hc.2.2.2.2.1 0 (by decide)), show nI p + (1 : Int32) = nI (p + 1) from na_add _ 1, ck_eq (in_t (by omega) (by decide)), ← wr_2s (u := uc) (k := 448) (g := fun j => (sb v j).toInt8.toInt32) (by omega)]
  simp only [sb_0, sb_1]
theorem e_addPair {p : Nat} {v : Int32} (hm : Sm al um) (h : um.1 2048 18 = nI p) (hp : p + 2 ≤ 2048) : fn_Md_addPair F al um 2048 v = some (stI (wr um 2625 p 2 (fun j => sb v j &&& 255)) 2048 18 (nI (p + 2)), 0) := by
  unfold fn_Md_addPair bk_Md_addPair_0
  rw [bd1_eq hm.2.2.2.1, h, ck_eq (in_t (by omega) (by decide)), bd1_eq (show rdR al (stI um 2625 (nI p) (v &&& 255)) 2048 19 41 = some 2625 from hm.2.2.2.1), stI_ne (show (2048 : Nat) ≠ 2625 by decide), h, show nI p + (1 : Int32) = nI (p + 1) from na_add _ 1, ck_eq (in_t (by omega) (by decide)), stI_ne (show (2048 : Nat) ≠ 2625 by decide), stI_ne (show (2048 : Nat) ≠ 2625 by decide), h, show nI p + (2 : Int32) = nI (p + 2) from na_add _ 2, ← wr_2s (u := um) (k := 2625) (g := fun j => sb v j &&& 255) (by omega)]
  simp only [sb_0, sb_1]
theorem e_isAbs {n : Nat → Nat} {pl : Nat → Nat → Nat} {R : Nat} (hR : RfB u n pl R) (hb : LkB al u wB) (h : LkR u wB uc um) (hp : ∀ p o, p < 2 → o < 4 → um.1 2113 (nI (2 * o + p)) = nI (pl p o)) {j : Nat} (hj : j < 896) : ∃ v, fn_Md_isAbsolute (f + 4000) al um 2048 (nI j) = some (um, v) ∧ (v = 0 ∨ v = 1) ∧ (v = 1 ↔ ∃ o r, o < 4 ∧ r < n o ∧ PL u pl o r = j ∧ u.1 2370 (nI (8 * o + r)) = 0) := by
  have hm := LkR.sm hb h
  have mRow : ∀ z, 2048 < z → ¬ SM z → um.1 z = u.1 z := fun z h1 h2 => LkR.mr hb h h1 h2
  have inner : ∀ (k4 : Mr → Nat → Int32 → Int32 → Int32 → Option (Mr × Int32)) o, o < 4 → ∀ m c r a, (a = 0 ∨ a = 1) → m + r = n o → m < c → ∃ v, bk_Md_isAbsolute_15 (f + 4000) al k4 c um 2048 (nI j) a (nI o) (nI (8 * o + r)) = k4 um 2048 (nI j) v (nI (o + 1)) ∧ (v = 0 ∨ v = 1) ∧ (v = 1 ↔ a = 1 ∨ ∃ q, r ≤ q ∧ q < n o ∧ PL u pl o q = j ∧ u.1 2370 (nI (8 * o + q)) = 0) := by
    intro k4 o ho m
    obtain ⟨h8, nc, nm, nr⟩ := hR.1 o ho
    induction m with
    | zero =>
      intro c r a ha hr hc
      obtain ⟨c, rfl⟩ : ∃ q, c = q + 1 := ⟨c - 1, by omega⟩
      refine ⟨a, ?_, ha, ⟨Or.inl, fun z => z.elim id (fun ⟨q, r1, r2, _⟩ => by omega)⟩⟩
      rw [bk_Md_isAbsolute_15, bd1_eq hm.1.2.2.2.2.2.2, ck_eq (in_t ho (by decide)), mRow 2241 (by decide) (by omega), nm, show ((8 : Int32) * nI o) + nI (n o) = nI (8 * o + n o) by rw [show (8 : Int32) = nI 8 from rfl, na_mul, na_add], if_pos ((na_le (by omega) (by omega)).mpr (by omega)), show nI o + (1 : Int32) = nI (o + 1) from na_add _ 1]
    | succ m ih =>
      intro c r a ha hr hc
      obtain ⟨c, rfl⟩ : ∃ q, c = q + 1 := ⟨c - 1, by omega⟩
      obtain ⟨p, w, t, k, hp2, ht, hk16, hw, c0, c1, c2, c3, m0, m1, m2, m3⟩ := nr r (by omega)
      have ePL : PL u pl o r = pl p o + w := by
        unfold PL
        rw [m0, m1, nI_clamp (by omega), nI_clamp (by omega)]
      have hpp := hR.2.2.2.1 p o hp2 ho
      rw [bk_Md_isAbsolute_15, bd1_eq hm.1.2.2.2.2.2.2, ck_eq (in_t ho (by decide)), mRow 2241 (by decide) (by omega), nm, show ((8 : Int32) * nI o) + nI (n o) = nI (8 * o + n o) by rw [show (8 : Int32) = nI 8 from rfl, na_mul, na_add], if_neg (fun z => absurd ((na_le (by omega) (by omega)).mp z) (by omega))]
      unfold bk_Md_isAbsolute_73 bk_Md_isAbsolute_77 bk_Md_isAbsolute_78
      rw [show nI (8 * o + r) + (1 : Int32) = nI (8 * o + (r + 1)) from na_add _ 1]
      have yes : (a = 1 ∨ (PL u pl o r = j ∧ u.1 2370 (nI (8 * o + r)) = 0)) → ∃ v, bk_Md_isAbsolute_15 (f + 4000) al k4 c um 2048 (nI j) 1 (nI o) (nI (8 * o + (r + 1))) = k4 um 2048 (nI j) v (nI (o + 1)) ∧ (v = 0 ∨ v = 1) ∧ (v = 1 ↔ a = 1 ∨ ∃ q, r ≤ q ∧ q < n o ∧ PL u pl o q = j ∧ u.1 2370 (nI (8 * o + q)) = 0) := fun hy => by
        obtain ⟨v, v1, v2, v3⟩ := ih c (r + 1) 1 (Or.inr rfl) (by omega) (by omega)
        exact ⟨v, v1, v2, ⟨fun _ => hy.imp id (fun z => ⟨r, Nat.le_refl _, by omega, z⟩), fun _ => v3.mpr (Or.inl rfl)⟩⟩
      have no : a = 0 → ¬ (PL u pl o r = j ∧ u.1 2370 (nI (8 * o + r)) = 0) → ∃ v, bk_Md_isAbsolute_15 (f + 4000) al k4 c um 2048 (nI j) 0 (nI o) (nI (8 * o + (r + 1))) = k4 um 2048 (nI j) v (nI (o + 1)) ∧ (v = 0 ∨ v = 1) ∧ (v = 1 ↔ a = 1 ∨ ∃ q, r ≤ q ∧ q < n o ∧ PL u pl o q = j ∧ u.1 2370 (nI (8 * o + q)) = 0) := fun h0 hno => by
        obtain ⟨v, v1, v2, v3⟩ := ih c (r + 1) 0 (Or.inl rfl) (by omega) (by omega)
        refine ⟨v, v1, v2, v3.trans ⟨fun z => ?_, fun z => ?_⟩⟩
        · rcases z with z | ⟨q, r1, r2, r3⟩
          · exact absurd z (by decide)
          · exact Or.inr ⟨q, by omega, r2, r3⟩
        · rcases z with z | ⟨q, r1, r2, r3⟩
          · rw [h0] at z
            exact absurd z (by decide)
          · refine Or.inr ⟨q, ?_, r2, r3⟩
            by_cases e : q = r
            · rw [e] at r3
              exact absurd r3 hno
            · omega
      by_cases h0 : a = 0
      · rw [if_pos h0, bd1_eq hm.2.1.2.2.1, ck_eq (in_t (by omega) (by decide)), mRow 2370 (by decide) (by omega)]
        by_cases e : u.1 2370 (nI (8 * o + r)) = 0
        · rw [if_pos e, bd1_eq hm.2.2.2.2.2.2.1, bd1_eq hm.2.1.1, ck_eq (in_t (by omega) (by decide)), mRow 2368 (by decide) (by omega), m0, show ((2 : Int32) * nI o) + nI p = nI (2 * o + p) by rw [show (2 : Int32) = nI 2 from rfl, na_mul, na_add], ck_eq (in_t (by omega) (by decide)), bd1_eq hm.2.1.2.1, ck_eq (in_t (by omega) (by decide)), mRow 2369 (by decide) (by omega), m1, hp p o hp2 ho, na_add]
          by_cases e2 : pl p o + w = j
          · rw [if_pos (by rw [e2])]
            exact yes (Or.inr ⟨ePL.trans e2, e⟩)
          · rw [if_neg (fun z => e2 (nI_inj (by omega) (by omega) z))]
            exact no h0 (fun z => e2 (ePL.symm.trans z.1))
        · rw [if_neg e]
          exact no h0 (fun z => e z.2)
      · rw [if_neg h0]
        exact yes (Or.inl (ha.resolve_left h0))
  have outer : ∀ o c a, o < 4 → (a = 0 ∨ a = 1) → ∃ v, bk_Md_isAbsolute_4 (f + 4000) al (c + 1) um 2048 (nI j) a (nI o) = bk_Md_isAbsolute_4 (f + 4000) al c um 2048 (nI j) v (nI (o + 1)) ∧ (v = 0 ∨ v = 1) ∧ (v = 1 ↔ a = 1 ∨ ∃ q, q < n o ∧ PL u pl o q = j ∧ u.1 2370 (nI (8 * o + q)) = 0) := fun o c a ho ha => by
    have h8 := (hR.1 o ho).1
    obtain ⟨v, v1, v2, v3⟩ := inner (bk_Md_isAbsolute_4 (f + 4000) al c) o ho (n o) (f + 4000) 0 a ha (by omega) (by omega)
    refine ⟨v, ?_, v2, v3.trans ⟨fun z => z.imp id (fun ⟨r, _, r2, r3⟩ => ⟨r, r2, r3⟩), fun z => z.imp id (fun ⟨r, r2, r3⟩ => ⟨r, Nat.zero_le _, r2, r3⟩)⟩⟩
    rw [bk_Md_isAbsolute_4, if_neg (show ¬ (4 : Int32) ≤ nI o from fun z => absurd ((na_le (a := 4) (by decide) (by omega)).mp z) (by omega)), show (8 : Int32) * nI o = nI (8 * o + 0) by rw [show (8 : Int32) = nI 8 from rfl, na_mul, Nat.add_zero]]
    exact v1
  obtain ⟨a1, b1, c1, d1⟩ := outer 0 (f + 3999) 0 (by omega) (Or.inl rfl)
  obtain ⟨a2, b2, c2, d2⟩ := outer 1 (f + 3998) a1 (by omega) c1
  obtain ⟨a3, b3, c3, d3⟩ := outer 2 (f + 3997) a2 (by omega) c2
  obtain ⟨a4, b4, c4, d4⟩ := outer 3 (f + 3996) a3 (by omega) c3
  refine ⟨a4, ?_, c4, ?_⟩
  · unfold fn_Md_isAbsolute bk_Md_isAbsolute_0
    refine Eq.trans b1 (Eq.trans b2 (Eq.trans b3 (Eq.trans b4 ?_)))
    rw [bk_Md_isAbsolute_4, if_pos (by decide), ck_eq (show isz a4 = true from decide_eq_true c4)]
  · rw [d4, d3, d2, d1]
    constructor
    · rintro ((((z | ⟨r, r1, r2⟩) | ⟨r, r1, r2⟩) | ⟨r, r1, r2⟩) | ⟨r, r1, r2⟩)
      · exact absurd z (by decide)
      · exact ⟨0, r, by omega, r1, r2⟩
      · exact ⟨1, r, by omega, r1, r2⟩
      · exact ⟨2, r, by omega, r1, r2⟩
      · exact ⟨3, r, by omega, r1, r2⟩
    · rintro ⟨o, r, ho, r1, r2⟩
      rcases (show o = 0 ∨ o = 1 ∨ o = 2 ∨ o = 3 by omega) with e | e | e | e <;> subst e
      · exact Or.inl (Or.inl (Or.inl (Or.inr ⟨r, r1, r2⟩)))
      · exact Or.inl (Or.inl (Or.inr ⟨r, r1, r2⟩))
      · exact Or.inl (Or.inr ⟨r, r1, r2⟩)
      · exact Or.inr ⟨r, r1, r2⟩
/-- the entries of a block, in step -/
theorem lk_entries (hb : LkB al u wB) {Q : Nat → Prop} {fl : Int32 → Int32} {M s N : Nat} (hM : M + 64 ≤ 896) (hN : N = acnt fl (M + 64) - acnt fl M) (hs : s + 8 + 2 * N ≤ 894) (k7 : Mr → Nat → Int32 → Option (Mr × Int32)) :
    ∀ d c i uc um, d + i = 64 → d < c → LkR u wB uc um → EQ Q uc um → uc.1 768 = fl → (∀ um', LkR u wB uc um' → um'.1 2113 = um.1 2113 → ∀ j, j < 896 → fn_Md_isAbsolute (f + 4000) al um' 2048 (nI j) = some (um', fl (nI j))) → um.1 2048 18 = nI (s + 8 + 2 * (acnt fl (M + i) - acnt fl M)) →
    ∃ uc' um', bk_Lk_writeBlock_12 (f + 4000) al c uc 512 384 (nI M) (nI s) (nI (s + 8 + 2 * (acnt fl (M + i) - acnt fl M))) (nI (acnt fl (M + i) - acnt fl M)) (nI i) = (if nI N = (0 : Int32) then (some (uc', nI s)) else (bd2 (fn_Im_setWord (f + 4000) al uc' 384 (nI s) (nI M)) fun u1 v1 => (bd2 (fn_Im_setWord (f + 4000) al u1 384 (nI (s + 4)) (nI (8 + 2 * N + 2 * (N % 2)))) fun u2 v2 => (some (u2, nI (s + (8 + 2 * N + 2 * (N % 2)))))))) ∧
      bk_Md_layRelocations_79 (f + 4000) al k7 c um 2048 (nI M) (nI N) (nI i) = (if nI (N % 2) = (1 : Int32) then (bd2 (fn_Md_addPair (f + 4000) al um' 2048 (0 : Int32)) fun u1 v1 => (k7 u1 2048 (nI (M + 64)))) else (k7 um' 2048 (nI (M + 64)))) ∧ LkR u wB uc' um' ∧ EQ Q uc' um' ∧ um'.1 2048 18 = nI (s + 8 + 2 * N) ∧ (∀ q, q ≠ 448 → uc'.1 q = uc.1 q) ∧ (∀ q, q ≠ 2625 → q ≠ 2048 → um'.1 q = um.1 q) ∧ StB (s + 8) (s + 8 + 2 * N) uc um uc' um' := by
  have aM := (acnt_mono (fl := fl) (k := M) 64)
  intro d
  induction d with
  | zero =>
    intro c i uc um hd hc h hE hf hA h18
    obtain ⟨c, rfl⟩ : ∃ q, c = q + 1 := ⟨c - 1, by omega⟩
    have e : i = 64 := by omega
    rw [e, ← hN] at h18 ⊢
    have rem : nI N - nI N / (2 : Int32) * (2 : Int32) = nI (N % 2) := na_rem (b := 2) (by omega) (by decide) (by decide)
    refine ⟨uc, um, ?_, ?_, h, hE, h18, fun q _ => rfl, fun q _ _ => rfl, StB.refl⟩
    · rw [bk_Lk_writeBlock_12, if_pos (by decide), rem, show nI (N % 2) * (2 : Int32) = nI (2 * (N % 2)) by rw [show (2 : Int32) = nI 2 from rfl, na_mul, Nat.mul_comm], na_add, na_sub (show s ≤ s + 8 + 2 * N + 2 * (N % 2) by omega), show s + 8 + 2 * N + 2 * (N % 2) - s = 8 + 2 * N + 2 * (N % 2) by omega, show s + 8 + 2 * N + 2 * (N % 2) = s + (8 + 2 * N + 2 * (N % 2)) by omega, show nI s + (4 : Int32) = nI (s + 4) from na_add _ 4]
    · rw [bk_Md_layRelocations_79, if_pos (by decide), rem]
      unfold bk_Md_layRelocations_122
      rw [show nI M + (64 : Int32) = nI (M + 64) from na_add _ 64]
  | succ d ih =>
    intro c i uc um hd hc h hE hf hA h18
    obtain ⟨c, rfl⟩ : ∃ q, c = q + 1 := ⟨c - 1, by omega⟩
    have hi : i < 64 := by omega
    have hsc := LkR.sc hb h
    have hsm := LkR.sm hb h
    have a1 := acnt_mono (fl := fl) (k := M) i
    have a2 := acnt_mono (fl := fl) (k := M + (i + 1)) (64 - (i + 1))
    rw [show M + (i + 1) + (64 - (i + 1)) = M + 64 by omega] at a2
    have as : acnt fl (M + (i + 1)) = acnt fl (M + i) + if fl (nI (M + i)) = 0 then 0 else 1 := rfl
    have e64 : ¬ (64 : Int32) ≤ nI i := fun z => absurd ((na_le (a := 64) (by decide) (by omega)).mp z) (by omega)
    rw [bk_Lk_writeBlock_12, if_neg e64, bd1_eq hsc.2.2.2.2.2.1.2.2, na_add, ck_eq (in_t (by omega) (by decide)), hf]
    rw [bk_Md_layRelocations_79, if_neg e64, na_add, hA um h rfl (M + i) (by omega), bd2_s]
    unfold bk_Lk_writeBlock_49 bk_Md_layRelocations_104
    rw [show nI i + (1 : Int32) = nI (i + 1) from na_add _ 1]
    by_cases e : fl (nI (M + i)) = 0
    · rw [if_pos e, Nat.add_zero] at as
      rw [if_pos e, if_pos e]
      obtain ⟨uc', um', r⟩ := ih c (i + 1) uc um (by omega) (by omega) h hE hf hA (by rw [as]; exact h18)
      rw [as] at r
      exact ⟨uc', um', r⟩
    · rw [if_neg e] at as
      rw [if_neg e, if_neg e, show nI i ||| (12288 : Int32) = (12288 : Int32) + nI i from en_tab ⟨i, hi⟩]
      generalize hp : s + 8 + 2 * (acnt fl (M + i) - acnt fl M) = p at h18 ⊢
      have ep : s + 8 + 2 * (acnt fl (M + (i + 1)) - acnt fl M) = p + 2 := by omega
      have hp2 : p + 2 ≤ 894 := by omega
      have hC := e_setHalf (F := f + 4000) (p := p) (v := nI i ||| (12288 : Int32)) hsc (by omega)
      have hPr := e_addPair (F := f + 4000) (p := p) (v := (12288 : Int32) + nI i) hsm h18 (by omega)
      rw [show nI i ||| (12288 : Int32) = (12288 : Int32) + nI i from en_tab ⟨i, hi⟩] at hC
      generalize (12288 : Int32) + nI i = v at hC hPr ⊢
      generalize hU : wr uc 448 p 2 (fun j => (sb v j).toInt8.toInt32) = U at hC
      generalize hV : stI (wr um 2625 p 2 (fun j => sb v j &&& 255)) 2048 18 (nI (p + 2)) = V at hPr
      have R1 : LkR u wB U V := by
        rw [← hU, ← hV]
        exact LkR.m18 (LkR.mwr (LkR.cwr h (fun i => byt_b _)) (by omega) (by decide))
      have E1 : EQ Q U V := by
        rw [← hU, ← hV]
        refine EQ.cg (um := wr um 2625 p 2 (fun j => sb v j &&& 255)) ?_ rfl (stI_ne (by decide))
        exact (EQ.both hE (fun i _ => by_and _)).mono (fun j _ hj => Or.inl hj)
      have Uo : ∀ q, q ≠ 448 → U.1 q = uc.1 q := fun q hq => by rw [← hU, wr_ne hq]
      have Vo : ∀ q, q ≠ 2625 → q ≠ 2048 → V.1 q = um.1 q := fun q h1 h2 => by rw [← hV, stI_ne h2, wr_ne h1]
      have hA' : ∀ um', LkR u wB U um' → um'.1 2113 = V.1 2113 → ∀ j, j < 896 → fn_Md_isAbsolute (f + 4000) al um' 2048 (nI j) = some (um', fl (nI j)) := fun um' h1 h2 => hA um' ⟨h.1, h1.2.1, h1.2.2.1, h1.2.2.2.1, h.2.2.2.2⟩ (h2.trans (Vo _ (by decide) (by decide)))
      obtain ⟨uc', um', r1, r2, r3, r4, r5, r6, r7, r8⟩ := ih c (i + 1) U V (by omega) (by omega) R1 E1 (by rw [Uo _ (by decide)]; exact hf) hA' (by rw [ep, ← hV, stI_same])
      refine ⟨uc', um', ?_, ?_, r3, r4, r5, fun q hq => by rw [r6 q hq, Uo q hq], fun q h1 h2 => by rw [r7 q h1 h2, Vo q h1 h2], StB.trans (b := U) (b' := V) ?_ r8⟩
      · rw [ep, show acnt fl (M + (i + 1)) - acnt fl M = acnt fl (M + i) - acnt fl M + 1 by omega] at r1
        rw [hC, bd2_s, show nI p + (2 : Int32) = nI (p + 2) from na_add _ 2, show nI (acnt fl (M + i) - acnt fl M) + (1 : Int32) = nI (acnt fl (M + i) - acnt fl M + 1) from na_add _ 1]
        exact r1
      · rw [hPr, bd2_s]
        exact r2
      · rw [← hU, ← hV]
        exact StB.trans (StB.trans (StB.c (by omega) (by omega)) (StB.m (by omega) (by omega))) (StB.cg rfl (stI_ne (by decide)))
end
section
variable {f F : Nat} {al : Nat → Bool} {u wB uc um : Mr}
/-- one page, in step -/
theorem lk_page (hb : LkB al u wB) {Q : Nat → Prop} {fl : Int32 → Int32} {M s N : Nat} (hM : M + 64 ≤ 896) (hN : N = acnt fl (M + 64) - acnt fl M) (hs : s + 10 + 2 * N ≤ 894) (k7 : Mr → Nat → Int32 → Option (Mr × Int32)) (h : LkR u wB uc um) (hQ : ∀ j, s ≤ j → j < 896 → Q j) (hE : EQ Q uc um) (hf : uc.1 768 = fl) (h01 : ∀ j, j < 896 → fl (nI j) = 0 ∨ fl (nI j) = 1)
    (hA : ∀ um', LkR u wB uc um' → um'.1 2113 = um.1 2113 → ∀ j, j < 896 → fn_Md_isAbsolute (f + 4000) al um' 2048 (nI j) = some (um', fl (nI j))) (h18 : um.1 2048 18 = nI s) (hZ : ∀ j, s ≤ j → j < 896 → um.1 2625 (nI j) = 0) :
    ∃ uc' um', fn_Lk_writeBlock (f + 4000) al uc 512 384 (nI M) (nI s) = some (uc', nI (if N = 0 then s else s + (8 + 2 * N + 2 * (N % 2)))) ∧ bk_Md_layRelocations_21 (f + 4000) al k7 (f + 4000) um 2048 (nI M) 0 (nI M) = k7 um' 2048 (nI (M + 64)) ∧ LkR u wB uc' um' ∧ EQ Q uc' um' ∧ um'.1 2048 18 = nI (if N = 0 then s else s + (8 + 2 * N + 2 * (N % 2))) ∧ (∀ q, q ≠ 448 → uc'.1 q = uc.1 q) ∧ (∀ q, q ≠ 2625 → q ≠ 2048 → um'.1 q = um.1 q) ∧ StB s (if N = 0 then s else s + (8 + 2 * N + 2 * (N % 2))) uc um uc' um' := by
  have aM := (acnt_mono (fl := fl) (k := M) 64)
  -- the reference's count
  have cnt : ∀ d c i, d + i = 64 → d < c → bk_Md_layRelocations_21 (f + 4000) al k7 c um 2048 (nI M) (nI (acnt fl (M + i) - acnt fl M)) (nI (M + i)) = (if nI N = 0 then (bk_Md_layRelocations_122 (f + 4000) al k7 um 2048 (nI M)) else (bd2 (fn_Md_add (f + 4000) al um 2048 (nI M)) fun u1 v1 => (bd2 (fn_Md_add (f + 4000) al u1 2048 (nI (8 + 2 * N + 2 * (N % 2)))) fun u2 v2 => (bk_Md_layRelocations_79 (f + 4000) al k7 (f + 4000) u2 2048 (nI M) (nI N) (0 : Int32))))) := by
    intro d
    induction d with
    | zero =>
      intro c i hd hc
      obtain ⟨c, rfl⟩ : ∃ q, c = q + 1 := ⟨c - 1, by omega⟩
      have e : i = 64 := by omega
      rw [e, ← hN, bk_Md_layRelocations_21, show nI M + (64 : Int32) = nI (M + 64) from na_add _ 64, if_pos (Int32.le_refl _), show nI N - nI N / (2 : Int32) * (2 : Int32) = nI (N % 2) from na_rem (b := 2) (by omega) (by decide) (by decide), na_add, show (2 : Int32) * nI (N + N % 2) = nI (2 * (N + N % 2)) by rw [show (2 : Int32) = nI 2 from rfl, na_mul], show (8 : Int32) + nI (2 * (N + N % 2)) = nI (8 + 2 * N + 2 * (N % 2)) by rw [show (8 : Int32) = nI 8 from rfl, na_add]; congr 1; omega]
    | succ d ih =>
      intro c i hd hc
      obtain ⟨c, rfl⟩ : ∃ q, c = q + 1 := ⟨c - 1, by omega⟩
      have a1 := acnt_mono (fl := fl) (k := M) i
      have as : acnt fl (M + (i + 1)) = acnt fl (M + i) + if fl (nI (M + i)) = 0 then 0 else 1 := rfl
      rw [bk_Md_layRelocations_21, show nI M + (64 : Int32) = nI (M + 64) from na_add _ 64, if_neg (fun z => absurd ((na_le (by omega) (by omega)).mp z) (by omega)), hA um h rfl (M + i) (by omega), bd2_s]
      unfold bk_Md_layRelocations_43
      rw [show nI (M + i) + (1 : Int32) = nI (M + (i + 1)) from na_add _ 1]
      by_cases e : fl (nI (M + i)) = 0
      · rw [if_pos e] at as
        rw [if_pos e, show nI (acnt fl (M + i) - acnt fl M) + (0 : Int32) = nI (acnt fl (M + (i + 1)) - acnt fl M) by rw [as]; exact Int32.add_zero _]
        exact ih c (i + 1) (by omega) (by omega)
      · rw [if_neg e] at as
        rw [if_neg e, show nI (acnt fl (M + i) - acnt fl M) + (1 : Int32) = nI (acnt fl (M + (i + 1)) - acnt fl M) by rw [as, show acnt fl (M + i) + 1 - acnt fl M = acnt fl (M + i) - acnt fl M + 1 by omega]; exact na_add _ 1]
        exact ih c (i + 1) (by omega) (by omega)
  have c0 := cnt 64 (f + 4000) 0 (by omega) (by omega)
  rw [show M + 0 = M from rfl, Nat.sub_self] at c0
  rw [show bk_Md_layRelocations_21 (f + 4000) al k7 (f + 4000) um 2048 (nI M) (0 : Int32) (nI M) = _ from c0]
  unfold fn_Lk_writeBlock bk_Lk_writeBlock_0
  have st8 : nI s + (8 : Int32) = nI (s + 8 + 2 * (acnt fl (M + 0) - acnt fl M)) := by
    rw [show M + 0 = M from rfl, Nat.sub_self]
    exact na_add _ 8
  have st0 : (0 : Int32) = nI (acnt fl (M + 0) - acnt fl M) := by
    rw [show M + 0 = M from rfl, Nat.sub_self]
    rfl
  by_cases n0 : N = 0
  · rw [if_pos n0, if_pos (show nI N = (0 : Int32) by rw [n0]; rfl)]
    unfold bk_Md_layRelocations_122
    rw [show nI M + (64 : Int32) = nI (M + 64) from na_add _ 64]
    -- nothing is flagged
    have nf : ∀ i, i < 64 → fl (nI (M + i)) = 0 := fun i hi => by
      refine Classical.byContradiction fun z => ?_
      have a1 := acnt_mono (fl := fl) (k := M) i
      have a2 := acnt_mono (fl := fl) (k := M + (i + 1)) (64 - (i + 1))
      rw [show M + (i + 1) + (64 - (i + 1)) = M + 64 by omega] at a2
      have as : acnt fl (M + (i + 1)) = acnt fl (M + i) + if fl (nI (M + i)) = 0 then 0 else 1 := rfl
      rw [if_neg z] at as
      omega
    have lc : ∀ d c i, d + i = 64 → d < c → bk_Lk_writeBlock_12 (f + 4000) al c uc 512 384 (nI M) (nI s) (nI s + (8 : Int32)) (0 : Int32) (nI i) = some (uc, nI s) := by
      intro d
      induction d with
      | zero =>
        intro c i hd hc
        obtain ⟨c, rfl⟩ : ∃ q, c = q + 1 := ⟨c - 1, by omega⟩
        have e : i = 64 := by omega
        rw [e, bk_Lk_writeBlock_12, if_pos (by decide), if_pos rfl]
      | succ d ih =>
        intro c i hd hc
        obtain ⟨c, rfl⟩ : ∃ q, c = q + 1 := ⟨c - 1, by omega⟩
        rw [bk_Lk_writeBlock_12, if_neg (show ¬ (64 : Int32) ≤ nI i from fun z => absurd ((na_le (a := 64) (by decide) (by omega)).mp z) (by omega)), bd1_eq (LkR.sc hb h).2.2.2.2.2.1.2.2, na_add, ck_eq (in_t (by omega) (by decide)), hf, if_pos (nf i (by omega))]
        unfold bk_Lk_writeBlock_49
        rw [show nI i + (1 : Int32) = nI (i + 1) from na_add _ 1]
        exact ih c (i + 1) (by omega) (by omega)
    exact ⟨uc, um, lc 64 (f + 4000) 0 (by omega) (by omega), rfl, h, hE, h18, fun q _ => rfl, fun q _ _ => rfl, StB.refl⟩
  · have nz : ¬ nI N = (0 : Int32) := fun z => n0 (nI_inj (b := 0) (by omega) (by decide) z)
    rw [if_neg n0, if_neg nz]
    have hsm := LkR.sm hb h
    generalize hlen : 8 + 2 * N + 2 * (N % 2) = len
    have hA1 := e_add (f := f) (v := nI M) hsm h18 (by omega)
    generalize hV1 : stI (wr um 2625 s 4 (fun j => sb (nI M) j &&& 255)) 2048 18 (nI (s + 4)) = V1 at hA1
    have V1r : LkR u wB uc V1 := by rw [← hV1]; exact LkR.m18 (LkR.mwr h (by omega) (by decide))
    have hA2 := e_add (f := f) (um := V1) (p := s + 4) (v := nI len) (LkR.sm hb V1r) (by rw [← hV1, stI_same]) (by omega)
    generalize hV2 : stI (wr V1 2625 (s + 4) 4 (fun j => sb (nI len) j &&& 255)) 2048 18 (nI (s + 4 + 4)) = V2 at hA2
    have V2r : LkR u wB uc V2 := by rw [← hV2]; exact LkR.m18 (LkR.mwr V1r (by omega) (by decide))
    have V2b : ∀ j, j < 896 → V2.1 2625 (nI j) = if s + 4 ≤ j ∧ j < s + 4 + 4 then sb (nI len) (j - (s + 4)) &&& 255 else if s ≤ j ∧ j < s + 4 then sb (nI M) (j - s) &&& 255 else um.1 2625 (nI j) := fun j hj => by
      rw [← hV2, stI_ne (by decide), wr_at (by omega), ← hV1, stI_ne (by decide), wr_at (by omega)]
    have V2o : ∀ q, q ≠ 2625 → q ≠ 2048 → V2.1 q = um.1 q := fun q h1 h2 => by
      rw [← hV2, stI_ne h2, wr_ne h1, ← hV1, stI_ne h2, wr_ne h1]
    have hE2 : EQ (fun j => Q j ∧ ¬ (s ≤ j ∧ j < s + 8)) uc V2 := fun j hj h8 => by
      rw [V2b j h8, if_neg (by omega), if_neg (by omega)]
      exact hE j hj.1 h8
    obtain ⟨uc1, um1, r1, r2, r3, r4, r5, r6, r7, r8⟩ := lk_entries (f := f) hb hM hN (show s + 8 + 2 * N ≤ 894 by omega) k7 64 (f + 4000) 0 uc V2 (by omega) (by omega) V2r hE2 hf (fun um' h1 h2 => hA um' h1 (h2.trans (V2o _ (by decide) (by decide)))) (by rw [show M + 0 = M from rfl, Nat.sub_self, ← hV2, stI_same])
    rw [hlen, if_neg nz] at r1
    have hsc1 := LkR.sc hb r3
    have hC1 := e_setWord (f := f) (i := 384) (p := s) (v := nI M) (hsc1.2.2.2.2.1 0 (by decide)) (by omega)
    have hC2 := e_setWord (f := f) (i := 384) (p := s + 4) (v := nI len) (show rdR al (wr uc1 448 s 4 (fun j => (sb (nI M) j).toInt8.toInt32)) 384 0 7 = some (384 + 64) from hsc1.2.2.2.2.1 0 (by decide)) (by omega)
    rw [show (384 : Nat) + 64 = 448 from rfl] at hC1 hC2
    generalize hU : wr (wr uc1 448 s 4 (fun j => (sb (nI M) j).toInt8.toInt32)) 448 (s + 4) 4 (fun j => (sb (nI len) j).toInt8.toInt32) = U2 at hC2
    have U2b : ∀ j, j < 896 → U2.1 448 (nI j) = if s + 4 ≤ j ∧ j < s + 4 + 4 then (sb (nI len) (j - (s + 4))).toInt8.toInt32 else if s ≤ j ∧ j < s + 4 then (sb (nI M) (j - s)).toInt8.toInt32 else uc1.1 448 (nI j) := fun j hj => by
      rw [← hU, wr_at (by omega), wr_at (by omega)]
    have U2o : ∀ q, q ≠ 448 → U2.1 q = uc1.1 q := fun q h1 => by rw [← hU, wr_ne h1, wr_ne h1]
    have R2 : LkR u wB U2 um1 := by
      rw [← hU]
      exact LkR.cwr (LkR.cwr r3 (fun i => byt_b _)) (fun i => byt_b _)
    have E2 : EQ Q U2 um1 := by
      intro j hj h8
      have kp : (s ≤ j ∧ j < s + 8) → um1.1 2625 (nI j) = V2.1 2625 (nI j) := fun z => (r8 j h8 (Or.inl (by omega))).2
      rw [U2b j h8]
      by_cases c1 : s + 4 ≤ j ∧ j < s + 4 + 4
      · rw [if_pos c1, kp (by omega), V2b j h8, if_pos c1, by_and]
      rw [if_neg c1]
      by_cases c2 : s ≤ j ∧ j < s + 4
      · rw [if_pos c2, kp (by omega), V2b j h8, if_neg c1, if_pos c2, by_and]
      · rw [if_neg c2]
        exact r4 j ⟨hj, by omega⟩ h8
    have S2 : StB s (s + 8 + 2 * N) uc um U2 um1 := by
      intro j h8 hj
      have z := r8 j h8 (by omega)
      rw [U2b j h8, if_neg (by omega), if_neg (by omega), z.1, z.2, V2b j h8, if_neg (by omega), if_neg (by omega)]
      exact ⟨rfl, rfl⟩
    have rowM : ∀ q, q ≠ 2625 → q ≠ 2048 → um1.1 q = um.1 q := fun q h1 h2 => by rw [r7 q h1 h2, V2o q h1 h2]
    have eC : bk_Lk_writeBlock_12 (f + 4000) al (f + 4000) uc 512 384 (nI M) (nI s) (nI s + (8 : Int32)) (0 : Int32) (0 : Int32) = some (U2, nI (s + len)) := by
      have := r1
      rw [← st8, ← st0] at this
      refine Eq.trans this ?_
      rw [hC1, bd2_s, hC2, bd2_s]
    have eM : bk_Md_layRelocations_79 (f + 4000) al k7 (f + 4000) V2 2048 (nI M) (nI N) (0 : Int32) = _ := r2
    rw [hA1, bd2_s, hA2, bd2_s, eM]
    by_cases n1 : N % 2 = 1
    · have hP := e_addPair (F := f + 4000) (v := (0 : Int32)) (LkR.sm hb r3) r5 (by omega)
      have zz : ∀ j, sb (0 : Int32) j &&& 255 = 0 := fun j => by
        unfold sb
        simp
      rw [if_pos (show nI (N % 2) = (1 : Int32) by rw [n1]; rfl), hP, bd2_s]
      have um0 : ∀ j, s + 8 + 2 * N ≤ j → j < 896 → um1.1 2625 (nI j) = 0 := fun j h1 h2 => by
        rw [(S2 j h2 (Or.inr h1)).2]
        exact hZ j (by omega) h2
      have pz : ∀ j, j < 896 → (stI (wr um1 2625 (s + 8 + 2 * N) 2 (fun j => sb (0 : Int32) j &&& 255)) 2048 18 (nI (s + 8 + 2 * N + 2))).1 2625 (nI j) = um1.1 2625 (nI j) := fun j hj => by
        rw [stI_ne (by decide), wr_at (by omega)]
        by_cases c1 : s + 8 + 2 * N ≤ j ∧ j < s + 8 + 2 * N + 2
        · rw [if_pos c1, zz, um0 j c1.1 hj]
        · rw [if_neg c1]
      refine ⟨U2, _, eC, rfl, LkR.m18 (LkR.mwr R2 (by omega) (by decide)), fun j hj h8 => ?_, ?_, fun q hq => by rw [U2o q hq, r6 q hq], fun q h1 h2 => by rw [stI_ne h2, wr_ne h1, rowM q h1 h2], fun j h8 hj => ?_⟩
      · rw [pz j h8]
        exact E2 j hj h8
      · rw [stI_same]
        congr 1
        omega
      · rw [pz j h8]
        exact S2 j h8 (by omega)
    · rw [if_neg (show ¬ nI (N % 2) = (1 : Int32) from fun z => n1 (nI_inj (b := 1) (by omega) (by decide) z))]
      refine ⟨U2, um1, eC, rfl, R2, E2, ?_, fun q hq => by rw [U2o q hq, r6 q hq], fun q h1 h2 => rowM q h1 h2, S2.mono (Nat.le_refl _) (by omega)⟩
      rw [r5]
      congr 1
      omega
end
section
variable {f F : Nat} {al : Nat → Bool} {u wB uc um : Mr}
def pot (g : Nat) : Nat := if g = 0 then 60 else 10 * (7 - g)
theorem lk_relocs (hb : LkB al u wB) {n : Nat → Nat} {pl : Nat → Nat → Nat} {e R b2 : Nat} {Q : Nat → Prop} (hRf : RfB u n pl b2) (he : e ≤ 768) (hRe : R = upn 64 e) (hb64 : b2 % 64 = 0) (hb4 : b2 ≤ 448) (hbR : b2 ≤ R) (hQ : ∀ j, Q j ↔ R ≤ j) (h : LkR u wB uc um) (hE : EQ Q uc um) (hfl : Flg u n pl (fun _ _ => True) uc) (hc32 : acnt (uc.1 768) 896 ≤ 32)
    (hp : ∀ p o, p < 2 → o < 4 → um.1 2113 (nI (2 * o + p)) = nI (pl p o)) (h18 : um.1 2048 18 = nI e) (hst : um.1 2688 (nI 2) = nI b2) (hZ : ∀ j, R ≤ j → j < 896 → um.1 2625 (nI j) = 0) :
    ∃ uc' um' e', fn_Lk_writeRelocations (f + 4000) al uc 512 384 (nI R) = some (uc', nI e') ∧ fn_Md_layRelocations (f + 4000) al um 2048 = some (um', 0) ∧ LkR u wB uc' um' ∧ EQ Q uc' um' ∧ um'.1 2048 18 = nI e' ∧ um'.1 2688 (nI 4) = nI R ∧ um'.1 2689 (nI 4) = nI e' ∧ R ≤ e' ∧ e' ≤ 896 ∧
      (∀ q, q ≠ 448 → uc'.1 q = uc.1 q) ∧ (∀ q, ¬ (q = 2048 ∨ q = 2625 ∨ q = 2688 ∨ q = 2689) → um'.1 q = um.1 q) ∧ (∀ i, i < 5 → i ≠ 4 → um'.1 2688 (nI i) = um.1 2688 (nI i) ∧ um'.1 2689 (nI i) = um.1 2689 (nI i)) ∧ StB R e' uc um uc' um' := by
  have hsm := LkR.sm hb h
  have hR8 : R ≤ 768 ∧ R % 64 = 0 := by
    rw [hRe]
    unfold upn
    omega
  generalize hfl' : uc.1 768 = fl at hc32
  have h01 : ∀ j, j < 896 → fl (nI j) = 0 ∨ fl (nI j) = 1 := fun j hj => by rw [← hfl']; exact (hfl j hj).1
  have hin : ∀ j, j < 896 → fl (nI j) ≠ 0 → 64 ≤ j ∧ j < b2 := fun j hj hz => by
    have h1 : uc.1 768 (nI j) = 1 := by rw [hfl']; exact (h01 j hj).resolve_left hz
    obtain ⟨o, r, z1, z2, -, z4, -⟩ := (hfl j hj).2.mp h1
    have := hRf.2.1 o r z1 z2
    omega
  -- the reference sees the class's flags
  have hA : ∀ (um' : Mr) (uc' : Mr), LkR u wB uc' um' → um'.1 2113 = um.1 2113 → ∀ j, j < 896 → fn_Md_isAbsolute (f + 4000) al um' 2048 (nI j) = some (um', fl (nI j)) := fun um' uc' h1 h2 j hj => by
    obtain ⟨v, v1, v2, v3⟩ := e_isAbs (f := f) hRf hb h1 (fun p o hp2 ho => by rw [h2]; exact hp p o hp2 ho) hj
    have e9 : v = fl (nI j) := by
      have h3 : (uc.1 768 (nI j) = 1) ↔ (v = 1) := (hfl j hj).2.trans ⟨fun ⟨o, r, z1, z2, _, z4⟩ => v3.mpr ⟨o, r, z1, z2, z4⟩, fun z => by
        obtain ⟨o, r, z1, z2, z4⟩ := v3.mp z
        exact ⟨o, r, z1, z2, trivial, z4⟩⟩
      rw [hfl'] at h3
      rcases h01 j hj with y | y
      · rw [y]
        refine v2.resolve_right (fun z => ?_)
        rw [h3.mpr z] at y
        exact absurd y (by decide)
      · rw [y]
        exact h3.mp y
    rw [v1, e9]
  -- both loops
  have loop : ∀ d c g s uc1 um1, 64 * g + 64 * d = R → d < c → LkR u wB uc1 um1 → EQ Q uc1 um1 → uc1.1 768 = fl → um1.1 2113 = um.1 2113 → um1.1 2688 (nI 2) = nI b2 → um1.1 2048 18 = nI s → R ≤ s → s + pot g + 2 * (acnt fl 896 - acnt fl (64 * g)) ≤ 894 → (∀ j, s ≤ j → j < 896 → um1.1 2625 (nI j) = 0) →
      ∃ uc' um' e', bk_Lk_writeRelocations_5 (f + 4000) al c uc1 512 384 (nI R) (nI s) (nI (64 * g)) = some (uc', nI e') ∧ bk_Md_layRelocations_7 (f + 4000) al c um1 2048 (nI (64 * g)) = some (stI um' 2689 (nI 4) (nI e'), 0) ∧ LkR u wB uc' um' ∧ EQ Q uc' um' ∧ um'.1 2048 18 = nI e' ∧ s ≤ e' ∧ e' ≤ 896 ∧ (∀ q, q ≠ 448 → uc'.1 q = uc1.1 q) ∧ (∀ q, q ≠ 2625 → q ≠ 2048 → um'.1 q = um1.1 q) ∧ StB R e' uc1 um1 uc' um' := by
    intro d
    induction d with
    | zero =>
      intro c g s uc1 um1 hd hc h1 h2 h3 h4 h5 h6 h7 h8 h9
      obtain ⟨c, rfl⟩ : ∃ q, c = q + 1 := ⟨c - 1, by omega⟩
      refine ⟨uc1, um1, s, ?_, ?_, h1, h2, h6, Nat.le_refl _, by omega, fun q _ => rfl, fun q _ _ => rfl, StB.refl⟩
      · rw [bk_Lk_writeRelocations_5, if_pos ((na_le (by omega) (by omega)).mpr (by omega))]
      · rw [bk_Md_layRelocations_7, bd1_eq (LkR.sm hb h1).2.2.2.2.1, show um1.1 2688 (2 : Int32) = nI b2 from h5, if_pos ((na_le (by omega) (by omega)).mpr (by omega)), bd1_eq (LkR.sm hb h1).2.2.2.2.2.1, h6]
        rfl
    | succ d ih =>
      intro c g s uc1 um1 hd hc h1 h2 h3 h4 h5 h6 h7 h8 h9
      obtain ⟨c, rfl⟩ : ∃ q, c = q + 1 := ⟨c - 1, by omega⟩
      have hg : 64 * g + 64 ≤ 768 := by omega
      have am := acnt_mono (fl := fl) (k := 64 * g) 64
      have am2 := acnt_mono (fl := fl) (k := 64 * g + 64) (896 - (64 * g + 64))
      rw [show 64 * g + 64 + (896 - (64 * g + 64)) = 896 by omega] at am2
      generalize hN : acnt fl (64 * g + 64) - acnt fl (64 * g) = N
      have hgN : 0 < N → 1 ≤ g ∧ g ≤ 6 := fun hz => by
        refine Classical.byContradiction fun y => ?_
        have := acnt_same (fl := fl) (k := 64 * g) 64 (fun j j1 j2 => Classical.byContradiction fun z => by
          have := hin j (by omega) z
          omega)
        omega
      by_cases hb2 : 64 * g < b2
      · -- both
        have hs10 : s + 10 + 2 * N ≤ 894 := by
          by_cases n0 : N = 0
          · unfold pot at h8
            split at h8 <;> omega
          · have := hgN (by omega)
            unfold pot at h8
            rw [if_neg (by omega)] at h8
            omega
        obtain ⟨uc2, um2, r1, r2, r3, r4, r5, r6, r7, r8⟩ := lk_page (f := f) hb (show 64 * g + 64 ≤ 896 by omega) hN.symm hs10 (bk_Md_layRelocations_7 (f + 4000) al c) h1 (fun j j1 j2 => (hQ j).mpr (by omega)) h2 h3 h01 (fun um' z1 z2 => hA um' uc1 z1 (z2.trans h4)) h6 h9
        generalize hs' : (if N = 0 then s else s + (8 + 2 * N + 2 * (N % 2))) = s' at r1 r5 r8
        have ss : s ≤ s' := by
          rw [← hs']
          split <;> omega
        have e1 : 64 * (g + 1) = 64 * g + 64 := by omega
        obtain ⟨uc', um', e', t1, t2, t3, t4, t5, t6, t7, t8, t9, t10⟩ := ih c (g + 1) s' uc2 um2 (by omega) (by omega) r3 r4 ((r6 _ (by decide)).trans h3) ((r7 _ (by decide) (by decide)).trans h4) (by rw [r7 _ (by decide) (by decide)]; exact h5) r5 (by omega) (by
          rw [e1, ← hs']
          by_cases n0 : N = 0
          · rw [if_pos n0]
            unfold pot at h8 ⊢
            split at h8 <;> split <;> omega
          · have := hgN (by omega)
            rw [if_neg n0]
            unfold pot at h8 ⊢
            rw [if_neg (by omega)] at h8 ⊢
            omega) (fun j j1 j2 => by rw [(r8 j j2 (Or.inr j1)).2]; exact h9 j (by omega) j2)
        refine ⟨uc', um', e', ?_, ?_, t3, t4, t5, by omega, t7, fun q hq => by rw [t8 q hq, r6 q hq], fun q q1 q2 => by rw [t9 q q1 q2, r7 q q1 q2], StB.trans (b := uc2) (b' := um2) (r8.mono h7 t6) t10⟩
        · rw [bk_Lk_writeRelocations_5, if_neg (fun z => absurd ((na_le (by omega) (by omega)).mp z) (by omega)), r1, bd2_s, show nI (64 * g) + (64 : Int32) = nI (64 * (g + 1)) by rw [e1]; exact na_add _ 64]
          exact t1
        · rw [bk_Md_layRelocations_7, bd1_eq (LkR.sm hb h1).2.2.2.2.1, show um1.1 2688 (2 : Int32) = nI b2 from h5, if_neg (fun z => absurd ((na_le (by omega) (by omega)).mp z) (by omega)), r2, ← e1]
          exact t2
      · -- the class alone: no flag from here on
        have tail : ∀ d c g, 64 * g + 64 * d = R → d < c → b2 ≤ 64 * g → bk_Lk_writeRelocations_5 (f + 4000) al c uc1 512 384 (nI R) (nI s) (nI (64 * g)) = some (uc1, nI s) := by
          intro d
          induction d with
          | zero =>
            intro c g hd hc hg
            obtain ⟨c, rfl⟩ : ∃ q, c = q + 1 := ⟨c - 1, by omega⟩
            rw [bk_Lk_writeRelocations_5, if_pos ((na_le (by omega) (by omega)).mpr (by omega))]
          | succ d ih =>
            intro c g hd hc hg
            obtain ⟨c, rfl⟩ : ∃ q, c = q + 1 := ⟨c - 1, by omega⟩
            have nf : ∀ i, i < 64 → fl (nI (64 * g + i)) = 0 := fun i hi => Classical.byContradiction fun z => by
              have := hin (64 * g + i) (by omega) z
              omega
            have lc : ∀ d c i, d + i = 64 → d < c → bk_Lk_writeBlock_12 (f + 4000) al c uc1 512 384 (nI (64 * g)) (nI s) (nI s + (8 : Int32)) (0 : Int32) (nI i) = some (uc1, nI s) := by
              intro d
              induction d with
              | zero =>
                intro c i hd hc
                obtain ⟨c, rfl⟩ : ∃ q, c = q + 1 := ⟨c - 1, by omega⟩
                have e : i = 64 := by omega
                rw [e, bk_Lk_writeBlock_12, if_pos (by decide), if_pos rfl]
              | succ d ih =>
                intro c i hd hc
                obtain ⟨c, rfl⟩ : ∃ q, c = q + 1 := ⟨c - 1, by omega⟩
                rw [bk_Lk_writeBlock_12, if_neg (show ¬ (64 : Int32) ≤ nI i from fun z => absurd ((na_le (a := 64) (by decide) (by omega)).mp z) (by omega)), bd1_eq (LkR.sc hb h1).2.2.2.2.2.1.2.2, na_add, ck_eq (in_t (by omega) (by decide)), h3, if_pos (nf i (by omega))]
                unfold bk_Lk_writeBlock_49
                rw [show nI i + (1 : Int32) = nI (i + 1) from na_add _ 1]
                exact ih c (i + 1) (by omega) (by omega)
            have wb : fn_Lk_writeBlock (f + 4000) al uc1 512 384 (nI (64 * g)) (nI s) = some (uc1, nI s) := lc 64 (f + 4000) 0 (by omega) (by omega)
            rw [bk_Lk_writeRelocations_5, if_neg (fun z => absurd ((na_le (by omega) (by omega)).mp z) (by omega)), wb, bd2_s, show nI (64 * g) + (64 : Int32) = nI (64 * (g + 1)) by rw [show 64 * (g + 1) = 64 * g + 64 by omega]; exact na_add _ 64]
            exact ih c (g + 1) (by omega) (by omega) (by omega)
        refine ⟨uc1, um1, s, tail (d + 1) (c + 1) g hd (by omega) (by omega), ?_, h1, h2, h6, Nat.le_refl _, by omega, fun q _ => rfl, fun q _ _ => rfl, StB.refl⟩
        rw [bk_Md_layRelocations_7, bd1_eq (LkR.sm hb h1).2.2.2.2.1, show um1.1 2688 (2 : Int32) = nI b2 from h5, if_pos ((na_le (by omega) (by omega)).mpr (by omega)), bd1_eq (LkR.sm hb h1).2.2.2.2.2.1, h6]
        rfl
  generalize hW : stI (stI um 2048 18 (nI R)) 2688 (nI 4) (nI R) = W
  have hBg : fn_Md_begin (f + 4000) al um 2048 (4 : Int32) = some (W, 0) := by
    have := e_begin (F := f + 4000) (i := 4) hsm h18 (by omega) (by decide)
    rw [← hRe, hW] at this
    exact this
  have W18 : W.1 2048 18 = nI R := by rw [← hW, stI_ne (by decide), stI_same]
  have Wo : ∀ q, q ≠ 2048 → q ≠ 2688 → W.1 q = um.1 q := fun q h1 h2 => by rw [← hW, stI_ne h2, stI_ne h1]
  have W88 : ∀ i, i < 5 → W.1 2688 (nI i) = if i = 4 then nI R else um.1 2688 (nI i) := fun i hi => by
    rw [← hW, stI_at, stI_ne (by decide)]
    by_cases z : i = 4
    · rw [if_pos (by rw [z]), if_pos z]
    · rw [if_neg (fun y => z (nI_inj (by omega) (by omega) y)), if_neg z]
  have WR : LkR u wB uc W := by rw [← hW]; exact LkR.m (LkR.m18 h) (by omega) (by decide)
  have WE : EQ Q uc W := hE.cg rfl (Wo _ (by decide) (by decide))
  have p0 : pot 0 = 60 := rfl
  have z0 : acnt fl (64 * 0) = 0 := rfl
  obtain ⟨uc', um', e', t1, t2, t3, t4, t5, t6, t7, t8, t9, t10⟩ := loop (R / 64) (f + 4000) 0 R uc W (by omega) (by omega) WR WE hfl' (Wo _ (by decide) (by decide)) (by rw [W88 2 (by decide), if_neg (by decide)]; exact hst) W18 (Nat.le_refl _) (by omega) (fun j j1 j2 => by rw [Wo _ (by decide) (by decide)]; exact hZ j j1 j2)
  refine ⟨uc', stI um' 2689 (nI 4) (nI e'), e', t1, ?_, LkR.m t3 (by omega) (by decide), t4.cg rfl (stI_ne (by decide)), by rw [stI_ne (by decide)]; exact t5, ?_, stI_same, t6, t7, t8, fun q hq => ?_, fun i hi h2 => ?_, ?_⟩
  · unfold fn_Md_layRelocations bk_Md_layRelocations_0
    rw [hBg, bd2_s]
    exact t2
  · rw [stI_ne (by decide), t9 _ (by decide) (by decide), W88 4 (by decide), if_pos rfl]
  · rw [stI_ne (by omega), t9 q (by omega) (by omega), Wo q (by omega) (by omega)]
  · refine ⟨?_, ?_⟩
    · rw [stI_ne (by decide), t9 _ (by decide) (by decide), W88 i hi, if_neg h2]
    · rw [stI_at, if_neg (fun y => h2 (nI_inj (by omega) (by omega) y)), t9 _ (by decide) (by decide), Wo _ (by decide) (by decide)]
  · refine StB.trans (b := uc) (b' := W) (StB.cg rfl (Wo _ (by decide) (by decide))) ?_
    exact t10.trans (StB.cg rfl (stI_ne (by decide)))
end

section
variable {f F : Nat} {al : Nat → Bool} {u w : Mr} {d n : Nat → Nat} {k : Nat}
theorem dtot_cg (h : ∀ q, 2048 < q → w.1 q = u.1 q) : dtot w d k = dtot u d k := by
  unfold dtot
  have eq := dcnt_fr (u := u) (v := w) (h 2304 (by decide))
  simp only [eq]
theorem Clash_cg (h : ∀ q, 2048 < q → w.1 q = u.1 q) : Clash w d k ↔ Clash u d k := by
  unfold Clash
  rw [dtot_cg h, h 2432 (by decide)]
theorem Lack_cg (h : ∀ q, 2048 < q → w.1 q = u.1 q) : Lack w d n k ↔ Lack u d n k := by
  unfold Lack Mnt
  rw [dtot_cg h, h 2432 (by decide), h 2496 (by decide), h 2371 (by decide)]
theorem lk_copy {N : Nat} (hm : Sm al w) (hs : w.1 2048 16 = nI (64 * N)) (hN : N ≤ 14) : bk_Md_link_207 (f + 4000) al (f + 4000) w 2048 0 = some (wr w 2624 0 (64 * N) (fun j => w.1 2625 (nI j)), nI (64 * N)) := by
  have loop : ∀ d c j, d + j = 64 * N → d < c → bk_Md_link_207 (f + 4000) al c (wr w 2624 0 j (fun j => w.1 2625 (nI j))) 2048 (nI j) = some (wr w 2624 0 (64 * N) (fun j => w.1 2625 (nI j)), nI (64 * N)) := by
    intro d
    induction d with
    | zero =>
      intro c j hd hc
      obtain ⟨c, rfl⟩ : ∃ q, c = q + 1 := ⟨c - 1, by omega⟩
      have e : j = 64 * N := by omega
      rw [e, bk_Md_link_207, wr_ne (show (2048 : Nat) ≠ 2624 by decide), hs, if_pos (Int32.le_refl _)]
    | succ d ih =>
      intro c j hd hc
      obtain ⟨c, rfl⟩ : ∃ q, c = q + 1 := ⟨c - 1, by omega⟩
      have hs' : Sm al (wr w 2624 0 j (fun j => w.1 2625 (nI j))) := hm.any rfl
      have e := wr_s (u := w) (k := 2624) (p := 0) (n := j) (g := fun j => w.1 2625 (nI j)) (by omega)
      rw [Nat.zero_add] at e
      rw [bk_Md_link_207, wr_ne (show (2048 : Nat) ≠ 2624 by decide), hs, if_neg (fun z => absurd ((na_le (by omega) (by omega)).mp z) (by omega)), bd1_eq hs'.2.2.1, bd1_eq hs'.2.2.2.1, ck_eq (in_t (by omega) (by decide)), ck_eq (in_t (by omega) (by decide)), wr_ne (show (2625 : Nat) ≠ 2624 by decide), e, show nI j + (1 : Int32) = nI (j + 1) from na_add _ 1]
      exact ih c (j + 1) (by omega) (by omega)
  have := loop (64 * N) (f + 4000) 0 (by omega) (by omega)
  rw [wr_0] at this
  exact this
theorem m_link (h : Inv al u) : ∃ u1 k u2 r, fn_Lw_link (f + 4000) al u 64 1408 = some (u1, k) ∧ fn_Md_link (f + 4000) al u1 2048 = some (u2, r) ∧ u2.1 2048 0 = k ∧ (k = 0 → u2.2.2 1408 0 = r.toInt64) ∧ Inv al u2 := by
  obtain ⟨hc, hm⟩ := h.base
  obtain ⟨d, D1, D2, D3⟩ := h.2.2.2.2.2.2.1
  have hNam := h.2.2.2.2.2.2.2.2.1
  have hRf := lk_rfb h.2.2.2.2.2.1 h.2.2.2.2.2.2.2.1
  have hL := LibOK.of hNam
  have hD1 : ∀ o, o < 4 → d o ≤ 6 ∧ u.1 2240 (nI o) = nI (d o) := fun o ho => ⟨(D1 o ho).1, (D1 o ho).2.2⟩
  have d24 : ∀ k, dtot u d k ≤ 24 := fun k => dcnt_le6 (fun o ho => (D1 o ho).1)
  have f0 : ∀ k, k < 16 → u.1 (1280 + k) 0 = nI (dtot u d k) := fun k hk => (D3 k hk).1
  have i32 : ∀ k, k < 16 → (u.1 2432 (nI k) ≤ 0 ↔ u.1 2432 (nI k) = 0) := fun k hk => by
    rcases hL k hk with ⟨-, z⟩ | ⟨l, hl, -, z, -⟩
    · rw [z]
      exact ⟨fun _ => rfl, fun _ => by decide⟩
    · rw [z]
      exact ⟨fun y => absurd ((na_le (b := 0) (by omega) (by decide)).mp y) (by omega), fun y => absurd (nI_inj (b := 0) (by omega) (by decide) y) (by omega)⟩
  have i4 : ∀ k, k < 16 → (u.1 (1280 + k) 4 = -1 ↔ u.1 2432 (nI k) = 0) := fun k hk => by
    rcases hL k hk with ⟨z1, z2⟩ | ⟨l, hl, z1, z2, -⟩
    · exact ⟨fun _ => z2, fun _ => z1⟩
    · rw [z1, z2]
      refine ⟨fun y => ?_, fun y => absurd (nI_inj (b := 0) (by omega) (by decide) y) (by omega)⟩
      have := congrArg Int32.toInt y
      rw [nI_toInt (by omega), show (-1 : Int32).toInt = -1 from rfl] at this
      omega
  obtain ⟨v1, a1, a2, a3⟩ := e_clashes (f := f) hc d24 f0 i4
  obtain ⟨v2, b1, b2, b3⟩ := e_expLacks (f := f) hc d24 f0 (fun k hk => (hNam k hk).2.1)
  obtain ⟨v3, c1, c2, c3⟩ := e_refLacks (f := f) (n := nrf u) hc d24 f0 i4 h.2.2.2.2.1 (fun o ho => ⟨(hRf.1 o ho).1, (hRf.1 o ho).2.1, fun r hr => by
    obtain ⟨p, w, t, k, e1, e2, e3, e4, e5, e6, e7, e8, e9, e10, e11, e12⟩ := (hRf.1 o ho).2.2.2 r hr
    exact ⟨k, e3, e8, e12⟩⟩)
  -- the reference's two findings, on any memory with the same tables
  have mchk : ∀ w : Mr, Sm al w → (∀ q, 2048 < q → w.1 q = u.1 q) → ∃ a b, fn_Md_link (f + 4000) al w 2048 = LEND (f + 4000) al w a b ∧ (a = 0 ∨ a = 1) ∧ (b = 0 ∨ b = 1) ∧ (a = 1 ↔ ∃ k, k < 16 ∧ Clash u d k) ∧ (b = 1 ↔ ∃ k, k < 16 ∧ Lack u d (nrf u) k) := fun w hw hr => by
    obtain ⟨a, b, e1, e2, e3, e4, e5⟩ := e_checkM (f := f) (d := d) (n := nrf u) hw (fun o ho => ⟨(hD1 o ho).1, by rw [hr _ (by decide)]; exact (hD1 o ho).2⟩) (fun o ho => ⟨(hRf.1 o ho).1, by rw [hr _ (by decide)]; exact (hRf.1 o ho).2.2.1⟩) (fun k hk => by rw [hr _ (by decide)]; exact i32 k hk)
    refine ⟨a, b, e1, e2, e3, ?_, ?_⟩
    · rw [e4]
      exact ⟨fun ⟨k, hk, z⟩ => ⟨k, hk, (Clash_cg hr).mp z⟩, fun ⟨k, hk, z⟩ => ⟨k, hk, (Clash_cg hr).mpr z⟩⟩
    · rw [e5]
      exact ⟨fun ⟨k, hk, z⟩ => ⟨k, hk, (Lack_cg hr).mp z⟩, fun ⟨k, hk, z⟩ => ⟨k, hk, (Lack_cg hr).mpr z⟩⟩
  by_cases hcl : ∃ k, k < 16 ∧ Clash u d k
  · obtain ⟨a, b, e1, e2, e3, e4, e5⟩ := mchk u hm (fun _ _ => rfl)
    refine ⟨u, 1, stI u 2048 0 1, 0, ?_, ?_, stI_same, fun z => absurd z (by decide), h.thr 1⟩
    · unfold fn_Lw_link bk_Lw_link_0 fn_Fg_link bk_Fg_link_0
      rw [a1, bd2_s, a3.mpr hcl, if_neg (by decide)]
      rfl
    · rw [e1, e4.mpr hcl]
      unfold LEND
      rw [e_fails (Or.inr rfl), bd2_s, if_neg (by decide)]
      rfl
  have v10 : v1 = 0 := a2.resolve_right (fun z => hcl (a3.mp z))
  by_cases hlk : ∃ k, k < 16 ∧ Lack u d (nrf u) k
  · obtain ⟨a, b, e1, e2, e3, e4, e5⟩ := mchk u hm (fun _ _ => rfl)
    have a0 : a = 0 := e2.resolve_right (fun z => hcl (e4.mp z))
    refine ⟨u, 2, stI u 2048 0 2, 0, ?_, ?_, stI_same, fun z => absurd z (by decide), h.thr 2⟩
    · unfold fn_Lw_link bk_Lw_link_0 fn_Fg_link bk_Fg_link_0 bk_Fg_link_31
      rw [a1, bd2_s, v10, if_pos rfl, b1, bd2_s]
      by_cases z : v2 = 0
      · rw [if_pos z, c1, bd2_s, c3.mpr (by
          obtain ⟨k, hk, y⟩ := hlk
          rcases y with y | y
          · have := b3.mpr ⟨k, hk, y⟩
            rw [z] at this
            exact absurd this (by decide)
          · exact ⟨k, hk, y⟩), if_neg (by decide)]
        rfl
      · rw [if_neg z]
        rfl
    · rw [e1, e5.mpr hlk, a0]
      unfold LEND
      rw [e_fails (Or.inl rfl), bd2_s, if_pos rfl, if_pos rfl, e_fails (Or.inr rfl), bd2_s, if_neg (by decide), if_neg (by decide), st_st]
  have v20 : v2 = 0 := b2.resolve_right (fun z => by
    obtain ⟨k, hk, y⟩ := b3.mp z
    exact hlk ⟨k, hk, Or.inl y⟩)
  have v30 : v3 = 0 := c2.resolve_right (fun z => by
    obtain ⟨k, hk, y⟩ := c3.mp z
    exact hlk ⟨k, hk, Or.inr y⟩)
  have ncl : ∀ k, k < 16 → ¬ Clash u d k := fun k hk z => hcl ⟨k, hk, z⟩
  have nlk : ∀ k, k < 16 → ¬ Lack u d (nrf u) k := fun k hk z => hlk ⟨k, hk, z⟩
  -- the class's image
  obtain ⟨uF, mF0, N0, l1, -, l3, -, -, l6, l7⟩ := lk_build (f := f) (wB := u) ⟨h, hm, fun _ _ => rfl⟩ hD1 D2 D3 ncl nlk
  have hF : ∀ q, 2048 < q → uF.1 q = u.1 q := fun q hq => l3.1.2 q (by omega)
  generalize hw : stL uF 1408 0 (nI (64 * N0)).toInt64 = w
  have wm : Sm al w := by rw [← hw]; exact hm.fr l3.1
  have wr1 : w.1 = uF.1 := by rw [← hw]; rfl
  have wr2 : ∀ q, 2048 < q → w.1 q = u.1 q := fun q hq => by rw [wr1]; exact hF q hq
  obtain ⟨a, b, e1, e2, e3, e4, e5⟩ := mchk w wm wr2
  have a0 : a = 0 := e2.resolve_right (fun z => hcl (e4.mp z))
  have b0 : b = 0 := e3.resolve_right (fun z => hlk (e5.mp z))
  obtain ⟨uF', um, N, m1, m2, m3, m4, m5, m6, m7⟩ := lk_build (f := f) (wB := stI w 2048 0 0) ⟨h, wm, fun q hq => by rw [stI_ne (by omega)]; exact wr2 q hq⟩ hD1 D2 D3 ncl nlk
  have eF : uF' = uF := (Prod.mk.inj (Option.some.inj (m1.symm.trans l1))).1
  subst eF
  have eN : N = N0 := by
    have := nI_inj (by omega) (by omega) (m6.symm.trans l6)
    omega
  subst eN
  have cpy := lk_copy (f := f) (w := stI um 2048 16 (nI (64 * N))) (N := N) (Sm.any rfl (wm.fr (S := SM) (v := um) ⟨m3.2.1.1, m3.2.1.2⟩)) stI_same m7
  generalize hu2 : wr (stI um 2048 16 (nI (64 * N))) 2624 0 (64 * N) (fun j => (stI um 2048 16 (nI (64 * N))).1 2625 (nI j)) = u2 at cpy
  have U1 : ∀ q, ¬ (SC q ∨ SM q ∨ q = 2624) → u2.1 q = u.1 q := fun q hq => by
    rw [← hu2, wr_ne (by omega), stI_ne (by omega), m3.2.1.2 q (by omega), stI_ne (by omega), wr1, m3.1.2 q (by omega)]
  have UC : ∀ q, SC q → u2.1 q = uF'.1 q := fun q hq => by
    rw [← hu2, wr_ne (by omega), stI_ne (by omega), m3.2.1.2 q (by omega), stI_ne (by omega), wr1]
  have U21 : u2.2.1 = u.2.1 := by
    rw [← hu2]
    show um.2.1 = _
    rw [m3.2.1.1]
    show w.2.1 = _
    rw [← hw]
    exact m3.1.1
  have U8 : ∀ i : Int32, u2.1 2048 i = if i = 16 then nI (64 * N) else um.1 2048 i := fun i => by rw [← hu2, wr_ne (by decide), stI_at]
  have U8' : ∀ i : Int32, i ≠ 0 → i ≠ 16 → i ≠ 18 → u2.1 2048 i = u.1 2048 i := fun i h1 h2 h3 => by rw [U8, if_neg h2, m3.2.2.1 i h3, stI_at, if_neg h1, wr1, m3.1.2 2048 (by decide)]
  refine ⟨w, 0, u2, nI (64 * N), ?_, ?_, ?_, fun _ => ?_, ?_⟩
  · unfold fn_Lw_link bk_Lw_link_0 fn_Fg_link bk_Fg_link_0
    have hcF := hc.fr m3.1
    rw [a1, bd2_s, v10, if_pos rfl, b1, bd2_s, v20, if_pos rfl, c1, bd2_s, v30, if_pos rfl, bd1_eq hc.1.2.2.2.2.1, bd1_eq hc.1.1, bd1_eq hc.1.2.1, bd1_eq hc.1.2.2.2.1, l1, bd2_s, bd1_eq hcF.1.2.2.2.1, bd2_s, l6]
    exact congrArg (fun z => some (z, (0 : Int32))) hw
  · rw [e1, a0, b0]
    unfold LEND
    rw [e_fails (Or.inl rfl), bd2_s, if_pos rfl, if_pos rfl, e_fails (Or.inl rfl), bd2_s, if_pos rfl, if_pos rfl, st_st, m2]
    exact cpy
  · rw [U8, if_neg (by decide), m3.2.2.1 0 (by decide), stI_same]
  · rw [← hu2]
    show um.2.2 1408 0 = _
    rw [m3.2.2.2.1]
    show w.2.2 1408 0 = _
    rw [← hw, stL_same]
  · have fr : Fr (fun q => SC q ∨ SM q ∨ q = 2624) u u2 := ⟨U21, U1⟩
    obtain ⟨h1, h2, h3, h4, h5, h6, h7, h8, h9, h10, h11, h12, g, h13, h14⟩ := h
    refine ⟨h1, h2.fr fr, h3.fr fr, h4.fr fr, h5.fr fr (fun o ho => by omega), h6.fr fr (fun q hq => by omega) (by omega), h7.fr fr (fun o ho => by omega) (fun k hk => by rw [fr.2 (1280 + k) (by omega)]; exact ⟨rfl, rfl, rfl, rfl⟩) (by omega), h8.fr fr (fun o ho => by omega) (fun o ho => by omega) (fun o ho => by omega) (by omega), h9.fr fr (fun k hk => by rw [fr.2 (1280 + k) (by omega)]; exact ⟨rfl, rfl, rfl⟩) (by omega), h10.fr fr (fun l hl => by omega) (by omega), ?_, ?_, g, h13.fr fr, h14.fr fr (by have := h13.1; omega) ⟨U8' _ (by decide) (by decide) (by decide), U8' _ (by decide) (by decide) (by decide), U8' _ (by decide) (by decide) (by decide), U8' _ (by decide) (by decide) (by decide), U8' _ (by decide) (by decide) (by decide)⟩⟩
    · rw [U8, if_pos rfl]
      refine ⟨N, m7, by rw [UC 384 (by omega)]; exact l6, rfl, fun j hj => ?_⟩
      rw [show (384 : Nat) + 64 = 448 from rfl, UC 448 (by omega), m4 j trivial (by omega), ← hu2, wr_at (by omega), if_pos (by omega), Nat.sub_zero, stI_ne (by decide)]
    · refine ⟨by rw [UC 448 (by omega)]; exact m3.2.2.2.2, by rw [U1 449 (by omega)]; exact h12.2.1, by rw [U1 450 (by omega)]; exact h12.2.2⟩
end

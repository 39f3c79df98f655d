section
variable {f F : Nat} {al : Nat → Bool} {u wB : Mr} {d : Nat → Nat}
theorem lk_build (hb : LkB al u wB) (hD1 : ∀ o, o < 4 → d o ≤ 6 ∧ u.1 2240 (nI o) = nI (d o))
    (hD2 : ∀ o j, o < 4 → j < d o → (∃ k, k < 16 ∧ u.1 2304 (nI (6 * o + j)) = nI k) ∧ (∃ p, p < 2 ∧ u.1 2305 (nI (6 * o + j)) = nI p) ∧ ∃ w, w ≤ 40 ∧ u.1 2306 (nI (6 * o + j)) = nI w)
    (hD3 : ∀ k, k < 16 → u.1 (1280 + k) 0 = nI (dtot u d k) ∧ (∃ o p w, o < 4 ∧ p < 2 ∧ w ≤ 40 ∧ u.1 (1280 + k) 1 = nI o ∧ u.1 (1280 + k) 2 = nI p ∧ u.1 (1280 + k) 3 = nI w) ∧ ∀ o j, o < 4 → j < d o → u.1 2304 (nI (6 * o + j)) = nI k → u.1 (1280 + k) 0 = 1 → u.1 (1280 + k) 1 = nI o ∧ u.1 (1280 + k) 2 = u.1 2305 (nI (6 * o + j)) ∧ u.1 (1280 + k) 3 = u.1 2306 (nI (6 * o + j)))
    (hcl : ∀ k, k < 16 → ¬ Clash u d k) (hlk : ∀ k, k < 16 → ¬ Lack u d (nrf u) k) :
    ∃ uc' um' N, fn_Lk_build (f + 4000) al u 512 128 192 384 = some (uc', 0) ∧ bk_Md_link_124 (f + 4000) al (f + 4000) wB 2048 0 = bk_Md_link_207 (f + 4000) al (f + 4000) (stI um' 2048 16 (nI (64 * N))) 2048 0 ∧ LkR u wB uc' um' ∧ EQ (fun _ => True) uc' um' ∧ um'.1 2048 18 = nI (64 * N) ∧ uc'.1 384 1 = nI (64 * N) ∧ N ≤ 14 := by
  obtain ⟨hI, hmB, hrB⟩ := id hb
  have hP := hI.2.2.2.2.2.1
  have hRf := lk_rfb hP hI.2.2.2.2.2.2.2.1
  have hNam := hI.2.2.2.2.2.2.2.2.1
  have hL := LibOK.of hNam
  have hx6 : ∀ k, k < 16 → u.1 (1280 + k) 6 = u.1 2496 (nI k) := fun k hk => (hNam k hk).2.1
  obtain ⟨hc, -⟩ := hI.base
  obtain ⟨q1, q2, q3, q4, q5, q6, q7, q8, q9, q10⟩ := bb_le hP
  have m40 : ∀ p o, mm u p o ≤ 40 := fun p o => (mm_of hP).1
  have d24 : ∀ k, dtot u d k ≤ 24 := fun k => dcnt_le6 (fun o ho => (hD1 o ho).1)
  -- clearing
  generalize hU0 : wr u 448 0 896 (fun _ => (0 : Int32).toInt8.toInt32) = c0
  generalize hV0 : stI (wr wB 2625 0 2048 (fun _ => 0)) 2048 18 64 = m0
  have C0b : ∀ j, j < 896 → c0.1 448 (nI j) &&& 255 = 0 := fun j hj => by
    rw [← hU0, wr_at (by omega), if_pos (by omega)]
    rfl
  have M0b : ∀ j, j < 896 → m0.1 2625 (nI j) = 0 := fun j hj => by rw [← hV0, stI_ne (by decide), wr_at (by omega), if_pos (by omega)]
  have C0o : ∀ q, q ≠ 448 → c0.1 q = u.1 q := fun q hq => by rw [← hU0, wr_ne hq]
  have R0 : LkR u wB c0 m0 := by
    rw [← hU0, ← hV0]
    refine LkR.m18 ⟨wr_fr (by omega), wr_fr (by omega), fun i _ => by rw [wr_ne (by decide)], rfl, wr_byt hI.2.2.2.2.2.2.2.2.2.2.2.1.1 (fun _ => byt_b _)⟩
  have E0 : EQ (fun j => 64 ≤ j) c0 m0 := fun j _ h8 => by rw [C0b j h8, M0b j h8]
  have M18 : m0.1 2048 18 = nI 64 := by rw [← hV0, stI_same]; rfl
  -- code
  obtain ⟨c1, m1, a1, b1, R1, E1, x1, y1, z1, p1, o1, w1, t1, s1, k1⟩ := lk_partsF (f := f) (p := 0) (e := 64) (b := 64) (m := mm u 0) hb (by decide) (m40 0) (fun o ho => (mm_of hP).2 ho (by decide)) rfl (by decide) R0 E0 M18
  obtain ⟨c1', a1', R1', E1', o1', g1', S0, -, Z1⟩ := lk_end (f := f) (i := 0) (b := 64) (e := endp (mm u 0) 64 4) hb R1 E1 (by decide) (by omega)
  -- data
  obtain ⟨c2, m2, a2, b2, R2, E2, x2, y2, z2, p2, o2, w2, t2, s2, k2⟩ := lk_partsF (f := f) (p := 1) (e := endp (mm u 0) 64 4) (b := bb1 u) (m := mm u 1) hb (by decide) (m40 1) (fun o ho => (mm_of hP).2 ho (by decide)) rfl (by omega) R1' E1' x1
  obtain ⟨c2', a2', R2', E2', o2', g2', S1, T1, Z2⟩ := lk_end (f := f) (i := 1) (b := bb1 u) (e := endp (mm u 1) (bb1 u) 4) hb R2 E2 (by decide) (by omega)
  generalize he0 : endp (mm u 0) 64 4 = e0 at *
  generalize he1 : endp (mm u 1) (bb1 u) 4 = e1 at *
  have lowC2 : ∀ j, j < 64 → c2.1 448 (nI j) = c1'.1 448 (nI j) := fun j hj => (k2 j (by omega) (Or.inl (by omega))).1
  have S0b : SecC c2' 0 64 e0 := T1 0 64 e0 (by decide) (by decide) (S0.keep (by decide) (fun j h1 _ => lowC2 j h1))
  have Z24a : Z24 c2' := Z2 (fun j hj => by
    rw [lowC2 j (by omega)]
    exact Z1 (fun j hj => by rw [(k1 j (by omega) (Or.inl (by omega))).1]; exact C0b j (by omega)) j hj)
  -- places of parts
  have pl2 : ∀ p o, p < 2 → o < 4 → c2'.1 (704 + p) (nI o) = nI (ppl u p o) ∧ m2.1 2113 (nI (2 * o + p)) = nI (ppl u p o) := fun p o hp ho => by
    unfold ppl
    by_cases e : p = 0
    · rw [e, if_pos rfl, o2' _ (by decide), o2 _ (by decide) (by decide), o1' _ (by decide)]
      refine ⟨(p1 o ho).1, ?_⟩
      have := t2 o ho
      rw [show 2 * o + (1 - 1) = 2 * o + 0 by omega] at this
      rw [this]
      exact (p1 o ho).2
    · rw [show p = 1 by omega, if_neg (by decide), o2' _ (by decide)]
      exact p2 o ho
  -- places of definitions
  have fld : ∀ q, ¬ SC q → c2'.1 q = u.1 q := fun q hq => LkR.cr R2' hq
  have hC3 := lk_defsC (f := f) (uc := c2') (LkR.sc hb R2') (fun k hk => by
    rw [fld _ (by omega)]
    exact (hD3 k hk).2.1)
  have one : ∀ k, k < 16 → dtot u d k ≠ 0 → dtot u d k = 1 ∧ u.1 2432 (nI k) = 0 := fun k hk hz => by
    have n1 : ¬ 1 < dtot u d k := fun z => hcl k hk (Or.inl z)
    have e : dtot u d k = 1 := by omega
    exact ⟨e, Classical.byContradiction fun z => hcl k hk (Or.inr ⟨e, z⟩)⟩
  have rowM2 : ∀ q, 2048 < q → ¬ SM q → m2.1 q = u.1 q := fun q h1 h2 => LkR.mr hb R2' h1 h2
  have cpos : ∀ o j k, o < 4 → j < d o → u.1 2304 (nI (6 * o + j)) = nI k → dtot u d k ≠ 0 := fun o j k ho hj hk hz => by
    have := dcnt_pos (u := u) (o := o) (k := k) (d o) ⟨j, hj, hk⟩
    unfold dtot at hz
    rcases (show o = 0 ∨ o = 1 ∨ o = 2 ∨ o = 3 by omega) with e | e | e | e <;> subst e <;> omega
  obtain ⟨m3, b3, M32, M3o, M3v⟩ := lk_defsM (f := f) (um := m2) (d := d) (VV := gvC c2') (LkR.sm hb R2') (fun o ho => ⟨(hD1 o ho).1, by rw [rowM2 _ (by decide) (by omega)]; exact (hD1 o ho).2⟩) (fun o j ho hj => by
    obtain ⟨⟨k, hk, e1⟩, ⟨p, hp, e2⟩, w, hw, e3⟩ := hD2 o j ho hj
    have hone := one k hk (cpos o j k ho hj e1)
    obtain ⟨f1, f2, f3⟩ := (hD3 k hk).2.2 o j ho hj e1 (by rw [(hD3 k hk).1, hone.1]; rfl)
    refine ⟨k, p, hk, hp, by rw [rowM2 _ (by decide) (by omega)]; exact e1, by rw [rowM2 _ (by decide) (by omega)]; exact e2, ?_⟩
    unfold gvC
    rw [fld (1280 + k) (by omega), f1, f2, f3, e2, nI_clamp (by omega), (pl2 p o hp ho).1, (pl2 p o hp ho).2, rowM2 2306 (by decide) (by omega)])
  generalize hc3 : wr c2' 576 0 16 (gvC c2') = c3 at hC3
  have C3o : ∀ q, q ≠ 576 → c3.1 q = c2'.1 q := fun q hq => by rw [← hc3, wr_ne hq]
  have R3 : LkR u wB c3 m3 := by
    refine ⟨?_, ?_, fun i hi => by rw [M3o _ (by decide)]; exact R2'.2.2.1 i hi, by rw [M32]; exact R2'.2.2.2.1, by rw [C3o _ (by decide)]; exact R2'.2.2.2.2⟩
    · rw [← hc3]
      exact R2'.1.trans (wr_fr (by omega))
    · refine R2'.2.1.trans ⟨by rw [M32], fun q hq => M3o q (by omega)⟩
  have E3 : EQ (fun j => 64 ≤ j) c3 m3 := E2'.cg (C3o _ (by decide)) (M3o _ (by decide))
  have def3 : ∀ k, k < 16 → dtot u d k ≠ 0 → c3.1 576 (nI k) = m3.1 2434 (nI k) := fun k hk hz => by
    have ex : ∃ o j, o < 4 ∧ j < d o ∧ u.1 2304 (nI (6 * o + j)) = nI k := Classical.byContradiction fun hno => by
      have z : ∀ o, o < 4 → ∀ n, n ≤ d o → dcnt u o k n = 0 := fun o ho n => by
        induction n with
        | zero => intro _; rfl
        | succ n ih =>
          intro hn
          rw [dcnt, ih (by omega), if_neg (fun y => hno ⟨o, n, ho, by omega, y⟩)]
      apply hz
      unfold dtot
      rw [z 0 (by omega) _ (Nat.le_refl _), z 1 (by omega) _ (Nat.le_refl _), z 2 (by omega) _ (Nat.le_refl _), z 3 (by omega) _ (Nat.le_refl _)]
    obtain ⟨o, j, ho, hj, e⟩ := ex
    rw [M3v o j k ho hj hk (by rw [rowM2 _ (by decide) (by omega)]; exact e), ← hc3, wr_at (by omega), if_pos (by omega), Nat.sub_zero]
  have x3 : m3.1 2048 18 = nI e1 := by rw [M3o _ (by decide)]; exact x2
  -- imports
  obtain ⟨c4, m4, e2, a4, b4, R4, E4, x4, y4, z4, l4, l4', i4, j4, o4, w4, s4, k4⟩ := lk_imports (f := f) (e := e1) (b := bb2 u) hb hL (by omega) (by rw [← he1]; rfl) R3 E3 x3
  obtain ⟨c4', a4', R4', E4', o4', g4', S2, T2, Z4⟩ := lk_end (f := f) (i := 2) (b := bb2 u) (e := e2) hb R4 E4 (by decide) (by omega)
  have nm4 : ∀ k, k < 16 → (dtot u d k ≠ 0 ∨ u.1 2432 (nI k) ≠ 0) → c4'.1 576 (nI k) = m4.1 2434 (nI k) := fun k hk hz => by
    rw [o4' _ (by decide)]
    by_cases c : u.1 2432 (nI k) = 0
    · rw [(j4 k hk c).1, (j4 k hk c).2]
      exact def3 k hk (hz.resolve_right (fun y => y c))
    · exact i4 k hk c
  -- exports
  generalize hb3 : upn 64 e2 = b3'
  have b3e : e2 ≤ b3' ∧ b3' ≤ 576 := by
    rw [← hb3]
    unfold upn
    omega
  obtain ⟨c5, m5, e3, a5, b5, R5, E5, x5, y5, z5, l5, l5', o5, w5, s5, k5⟩ := lk_exports (f := f) (e := e2) (b := b3') hb hx6 (by omega) hb3.symm R4' E4' x4 (fun k hk hz => nm4 k hk (Or.inl (fun y => hlk k hk (Or.inl ⟨hz, y⟩))))
  obtain ⟨c5', a5', R5', E5', o5', g5', S3, T3, Z5⟩ := lk_end (f := f) (i := 3) (b := b3') (e := e3) hb R5 E5 (by decide) (by omega)
  generalize hRR : upn 64 e3 = R
  have Re : e3 ≤ R ∧ R ≤ 768 := by
    rw [← hRR]
    unfold upn
    omega
  -- what the references need
  have pl5 : ∀ p o, p < 2 → o < 4 → c5'.1 (704 + p) (nI o) = nI (ppl u p o) ∧ m5.1 2113 (nI (2 * o + p)) = nI (ppl u p o) := fun p o hp ho => by
    rw [o5' _ (by omega), o5 _ (by omega), o4' _ (by omega), o4 _ (by omega) (by omega), C3o _ (by omega), w5 _ (by decide), w4 _ (by decide), M3o _ (by decide)]
    exact pl2 p o hp ho
  have nm5 : ∀ k, k < 16 → Mnt u (nrf u) k → c5'.1 576 (nI k) = m5.1 2434 (nI k) := fun k hk hz => by
    rw [o5' _ (by decide), o5 _ (by decide), w5 _ (by decide)]
    refine nm4 k hk ?_
    by_cases c : dtot u d k = 0
    · exact Or.inr (fun y => hlk k hk (Or.inr ⟨hz, c, y⟩))
    · exact Or.inl c
  obtain ⟨c6, m6x, a6, -, R6, -, F6, A6, o6, -, k6⟩ := lk_refs (f := f) hb hRf R5' (E5'.mono (fun j _ hj => hj.1)) pl5 nm5
  have low6 : ∀ j, j < 896 → (j < 64 ∨ bb2 u ≤ j) → c6.1 448 (nI j) = c5'.1 448 (nI j) := fun j h1 h2 => (k6 j h1 h2).1
  have zero5 : ∀ j, j < 896 → (j < 64 ∨ R ≤ j) → m5.1 2625 (nI j) = 0 := fun j h8 hj => by
    rw [(k5 j h8 (by omega)).2, (k4 j h8 (by omega)).2, M3o _ (by decide), (k2 j h8 (by omega)).2, (k1 j h8 (by omega)).2]
    exact M0b j h8
  -- relocations: the class behind its references, the reference before its own
  have R65 : LkR u wB c6 m5 := ⟨R6.1, R5'.2.1, R5'.2.2.1, R5'.2.2.2.1, R6.2.2.2.2⟩
  obtain ⟨c7, m6, e4, a7, b7, R7, E7, x7, y7, z7, l7, l7', o7, w7, s7, k7⟩ := lk_relocs (f := f) (e := e3) (R := R) (b2 := bb2 u) (Q := fun j => R ≤ j) hb hRf (by omega) hRR.symm q10 q9 (by omega) (fun j => Iff.rfl) R65 (fun j hj h8 => by
    rw [low6 j h8 (Or.inr (by omega))]
    exact E5' j (by omega) h8) F6 A6 (fun p o hp ho => (pl5 p o hp ho).2) x5 (by rw [(s5 2 (by decide) (by decide)).1]; exact y4) (fun j h1 h2 => zero5 j h2 (Or.inr h1))
  generalize hS : upn 64 e4 = S
  have Se : S ≤ 896 ∧ S % 64 = 0 := by
    rw [← hS]
    unfold upn
    omega
  -- the reference's own references
  have R57 : LkR u wB c5' (stI m6 2048 18 (nI S)) := LkR.m18 ⟨R5'.1, R7.2.1, R7.2.2.1, R7.2.2.2.1, R5'.2.2.2.2⟩
  have E57 : EQ (fun j => 64 ≤ j ∧ j < bb2 u) c5' (stI m6 2048 18 (nI S)) := fun j hj h8 => by
    rw [stI_ne (by decide), (k7 j h8 (Or.inl (by omega))).2]
    exact E5' j hj.1 h8
  obtain ⟨c6x, m7, a8, b8, R8, E8, -, -, o8, w8, k8⟩ := lk_refs (f := f) hb hRf R57 E57 (fun p o hp ho => ⟨(pl5 p o hp ho).1, by rw [stI_ne (by decide), w7 _ (by decide)]; exact (pl5 p o hp ho).2⟩) (fun k hk hz => by rw [stI_ne (by decide), w7 _ (by decide)]; exact nm5 k hk hz)
  have ex : c6x = c6 := (Prod.mk.inj (Option.some.inj (a8.symm.trans a6))).1
  subst ex
  have R9 : LkR u wB c7 m7 := ⟨R7.1, R8.2.1, R8.2.2.1, R8.2.2.2.1, R7.2.2.2.2⟩
  have E9 : EQ (fun j => 64 ≤ j) c7 m7 := fun j hj h8 => by
    by_cases ca : R ≤ j
    · rw [(k8 j h8 (Or.inr (by omega))).2, stI_ne (by decide)]
      exact E7 j ca h8
    · rw [(k7 j h8 (Or.inl (by omega))).1]
      by_cases cb : j < bb2 u
      · exact E8 j ⟨hj, cb⟩ h8
      · rw [low6 j h8 (Or.inr (by omega)), (k8 j h8 (Or.inr (by omega))).2, stI_ne (by decide), (k7 j h8 (Or.inl (by omega))).2]
        exact E5' j hj h8
  obtain ⟨c8, a9, R10, E10, o9, g9, S4, T4, Z9⟩ := lk_end (f := f) (i := 4) (b := R) (e := e4) hb R9 E9 (by decide) (by omega)
  rw [hS] at a9
  -- the class's header so far
  have low4 : ∀ j, j < 64 → c4.1 448 (nI j) = c2'.1 448 (nI j) := fun j hj => by rw [(k4 j (by omega) (Or.inl (by omega))).1, C3o _ (by decide)]
  have low5 : ∀ j, j < 64 → c5.1 448 (nI j) = c4'.1 448 (nI j) := fun j hj => (k5 j (by omega) (Or.inl (by omega))).1
  have low7 : ∀ j, j < 64 → c7.1 448 (nI j) = c5'.1 448 (nI j) := fun j hj => by rw [(k7 j (by omega) (Or.inl (by omega))).1, low6 j (by omega) (Or.inl hj)]
  have up4 : ∀ i b e, i < 5 → i ≠ 2 → SecC c2' i b e → SecC c4' i b e := fun i b e hi hne hs => T2 i b e hi hne (hs.keep hi (fun j h1 _ => low4 j h1))
  have up5 : ∀ i b e, i < 5 → i ≠ 3 → SecC c4' i b e → SecC c5' i b e := fun i b e hi hne hs => T3 i b e hi hne (hs.keep hi (fun j h1 _ => low5 j h1))
  have up8 : ∀ i b e, i < 5 → i ≠ 4 → SecC c5' i b e → SecC c8 i b e := fun i b e hi hne hs => T4 i b e hi hne (hs.keep hi (fun j h1 _ => low7 j h1))
  have Zf : Z24 c8 := Z9 (fun j hj => by
    rw [low7 j (by omega)]
    exact Z5 (fun j hj => by
      rw [low5 j (by omega)]
      exact Z4 (fun j hj => by rw [low4 j (by omega)]; exact Z24a j hj) j hj) j hj)
  generalize hc9 : stI c8 384 1 (nI S) = c9
  have C9b : c9.1 448 = c8.1 448 := by rw [← hc9, stI_ne (by decide)]
  have R11 : LkR u wB c9 m7 := by rw [← hc9]; exact LkR.c R10 (by omega) (by decide)
  have E11 : EQ (fun j => 64 ≤ j) c9 m7 := E10.cg C9b rfl
  have kp9 : ∀ i b e, i < 5 → SecC c8 i b e → SecC c9 i b e := fun i b e hi hs => hs.keep hi (fun j _ _ => by rw [C9b])
  let st : Nat → Nat := fun i => if i = 0 then 64 else if i = 1 then bb1 u else if i = 2 then bb2 u else if i = 3 then b3' else R
  let en : Nat → Nat := fun i => if i = 0 then e0 else if i = 1 then e1 else if i = 2 then e2 else if i = 3 then e3 else e4
  have arr : ∀ i, i < 5 → i ≠ 4 → m7.1 2688 (nI i) = m5.1 2688 (nI i) ∧ m7.1 2689 (nI i) = m5.1 2689 (nI i) := fun i hi hne => by
    rw [w8 _ (by decide), w8 _ (by decide), stI_ne (by decide), stI_ne (by decide)]
    exact s7 i hi hne
  have arr3 : ∀ i, i < 2 → m5.1 2688 (nI i) = m2.1 2688 (nI i) ∧ m5.1 2689 (nI i) = m2.1 2689 (nI i) := fun i hi => by
    rw [(s5 i (by omega) (by omega)).1, (s5 i (by omega) (by omega)).2, (s4 i (by omega) (by omega)).1, (s4 i (by omega) (by omega)).2, M3o _ (by decide), M3o _ (by decide)]
    exact ⟨rfl, rfl⟩
  have secs : ∀ i, i < 5 → SecC c9 i (st i) (en i) ∧ m7.1 2688 (nI i) = nI (st i) ∧ m7.1 2689 (nI i) = nI (en i) := fun i hi => by
    rcases (show i = 0 ∨ i = 1 ∨ i = 2 ∨ i = 3 ∨ i = 4 by omega) with e | e | e | e | e <;> subst e
    · refine ⟨kp9 0 64 e0 (by decide) (up8 0 64 e0 (by decide) (by decide) (up5 0 64 e0 (by decide) (by decide) (up4 0 64 e0 (by decide) (by decide) S0b))), ?_, ?_⟩
      · rw [(arr 0 (by decide) (by decide)).1, (arr3 0 (by decide)).1, (s2 0 (by decide) (by decide)).1]
        exact y1
      · rw [(arr 0 (by decide) (by decide)).2, (arr3 0 (by decide)).2, (s2 0 (by decide) (by decide)).2]
        exact z1
    · refine ⟨kp9 1 (bb1 u) e1 (by decide) (up8 1 _ e1 (by decide) (by decide) (up5 1 _ e1 (by decide) (by decide) (up4 1 _ e1 (by decide) (by decide) S1))), ?_, ?_⟩
      · rw [(arr 1 (by decide) (by decide)).1, (arr3 1 (by decide)).1]
        exact y2
      · rw [(arr 1 (by decide) (by decide)).2, (arr3 1 (by decide)).2]
        exact z2
    · refine ⟨kp9 2 (bb2 u) e2 (by decide) (up8 2 _ e2 (by decide) (by decide) (up5 2 _ e2 (by decide) (by decide) S2)), ?_, ?_⟩
      · rw [(arr 2 (by decide) (by decide)).1, (s5 2 (by decide) (by decide)).1]
        exact y4
      · rw [(arr 2 (by decide) (by decide)).2, (s5 2 (by decide) (by decide)).2]
        exact z4
    · refine ⟨kp9 3 b3' e3 (by decide) (up8 3 _ e3 (by decide) (by decide) S3), ?_, ?_⟩
      · rw [(arr 3 (by decide) (by decide)).1]
        exact y5
      · rw [(arr 3 (by decide) (by decide)).2]
        exact z5
    · refine ⟨kp9 4 R e4 (by decide) S4, ?_, ?_⟩
      · rw [w8 _ (by decide), stI_ne (by decide)]
        exact y7
      · rw [w8 _ (by decide), stI_ne (by decide)]
        exact z7
  have eS : S = 64 * (S / 64) := by omega
  have m718 : m7.1 2048 18 = nI S := by rw [w8 _ (by decide), stI_same]
  obtain ⟨c10, m8, a10, b10, R12, E12, o10, w10⟩ := lk_header (f := f) (d := d) (N := S / 64) (st := st) (en := en) hb R11 E11 (by omega) (by rw [← eS, ← hc9, stI_same]) (by rw [← eS]; exact m718) (fun j hj => by rw [C9b]; exact Zf j hj) (fun j hj => by
    rw [(k8 j (by omega) (Or.inl hj)).2, stI_ne (by decide), (k7 j (by omega) (Or.inl (by omega))).2]
    exact zero5 j (by omega) (Or.inl hj)) secs hD1 (hD3 0 (by decide)).1 (fun hz => by
    rw [← hc9, stI_ne (by decide), o9 _ (by decide), o7 _ (by decide), o6 _ (by decide) (by decide), o5' _ (by decide), o5 _ (by decide), w8 _ (by decide), stI_ne (by decide), w7 _ (by decide), w5 _ (by decide)]
    exact nm4 0 (by decide) (Or.inl hz))
  refine ⟨c10, m8, S / 64, ?_, ?_, R12, E12, ?_, ?_, by omega⟩
  · unfold fn_Lk_build bk_Lk_build_0
    have zC := lk_zeroC (f := f) hc
    rw [hU0] at zC
    rw [zC, bd2_s, show fn_Lk_writeParts (f + 4000) al c0 512 128 (0 : Int32) 384 (64 : Int32) = some (c1, nI e0) from a1, bd2_s, show fn_Lk_endSection (f + 4000) al c1 512 384 (0 : Int32) (64 : Int32) (nI e0) = some (c1', nI (bb1 u)) by rw [show bb1 u = upn 64 e0 by rw [← he0]; rfl]; exact a1', bd2_s, show fn_Lk_writeParts (f + 4000) al c1' 512 128 (1 : Int32) 384 (nI (bb1 u)) = some (c2, nI e1) from a2, bd2_s, show fn_Lk_endSection (f + 4000) al c2 512 384 (1 : Int32) (nI (bb1 u)) (nI e1) = some (c2', nI (bb2 u)) by rw [show bb2 u = upn 64 e1 by rw [← he1]; rfl]; exact a2', bd2_s, hC3, bd2_s, a4, bd2_s, show fn_Lk_endSection (f + 4000) al c4 512 384 (2 : Int32) (nI (bb2 u)) (nI e2) = some (c4', nI b3') by rw [← hb3]; exact a4', bd2_s, a5, bd2_s, show fn_Lk_endSection (f + 4000) al c5 512 384 (3 : Int32) (nI b3') (nI e3) = some (c5', nI R) by rw [← hRR]; exact a5', bd2_s, a6, bd2_s, a7, bd2_s, show fn_Lk_endSection (f + 4000) al c7 512 384 (4 : Int32) (nI R) (nI e4) = some (c8, nI S) from a9, bd2_s, hc9, a10, bd2_s]
  · rw [lk_zeroM hmB]
    unfold LREST
    rw [hV0, show fn_Md_layParts (f + 4000) al m0 2048 (0 : Int32) = some (m1, 0) from b1, bd2_s, show fn_Md_layParts (f + 4000) al m1 2048 (1 : Int32) = some (m2, 0) from b2, bd2_s, b3, bd2_s, b4, bd2_s, b5, bd2_s, b7, bd2_s, x7, show fn_Md_up (f + 4000) al m6 (nI e4) (64 : Int32) = some (m6, nI S) by rw [← hS]; exact (e_up (uc := m6) (a := 64) (by decide) (by decide) (by omega)).2, bd2_s, b8, bd2_s, b10, bd2_s, w10 _ (by decide), m718, ← eS]
  · rw [w10 _ (by decide), ← eS]
    exact m718
  · rw [o10 _ (by decide), ← eS, ← hc9, stI_same]
end

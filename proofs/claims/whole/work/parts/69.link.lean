/-! link: exports -/
def xcnt (u : Mr) : Nat → Nat
  | 0 => 0
  | k + 1 => xcnt u k + if u.1 2496 (nI k) = 0 then 0 else 1
theorem xcnt_mono {u : Mr} {k : Nat} : ∀ d, xcnt u k ≤ xcnt u (k + d) ∧ xcnt u (k + d) ≤ xcnt u k + d
  | 0 => ⟨Nat.le_refl _, Nat.le_refl _⟩
  | d + 1 => by
    have := xcnt_mono (u := u) (k := k) d
    rw [← Nat.add_assoc, xcnt]
    split <;> omega
theorem xcnt_none {u : Mr} : ∀ n, xcnt u n = 0 → ∀ k, k < n → u.1 2496 (nI k) = 0
  | 0, _, k, hk => by omega
  | n + 1, h, k, hk => by
    rw [xcnt] at h
    by_cases e : k = n
    · rw [e]
      refine Classical.byContradiction fun z => ?_
      rw [if_neg z] at h
      omega
    · exact xcnt_none n (by omega) k (by omega)
section
variable {f F : Nat} {al : Nat → Bool} {u wB uc um : Mr}
theorem lk_exp (hb : LkB al u wB) (hx6 : ∀ k, k < 16 → u.1 (1280 + k) 6 = u.1 2496 (nI k)) {Q : Nat → Prop} {b : Nat} (hb5 : b ≤ 704) (hN : 0 < xcnt u 16) :
    ∀ d c k uc um, d + k = 16 → d < c → LkR u wB uc um → EQ Q uc um → um.1 2048 18 = nI (b + 4 + 8 * xcnt u k) → (∀ k, k < 16 → u.1 2496 (nI k) ≠ 0 → uc.1 576 (nI k) = um.1 2434 (nI k)) →
    ∃ uc' um', bk_Lk_writeExports_11 (f + 4000) al c uc 512 192 384 (nI b) (nI (xcnt u k)) (nI (b + 4 + 8 * xcnt u k)) (nI k) = (bd2 (fn_Im_setWord (f + 4000) al uc' 384 (nI b) (nI (xcnt u 16))) fun u1 v1 => (some (u1, nI (b + 4 + 8 * xcnt u 16)))) ∧ bk_Md_layExports_49 (f + 4000) al c um 2048 (nI k) = some (stI um' 2689 (nI 3) (nI (b + 4 + 8 * xcnt u 16)), 0) ∧ LkR u wB uc' um' ∧ EQ Q uc' um' ∧ um'.1 2048 18 = nI (b + 4 + 8 * xcnt u 16) ∧
      (∀ q, q ≠ 448 → uc'.1 q = uc.1 q) ∧ (∀ q, q ≠ 2625 → q ≠ 2048 → um'.1 q = um.1 q) ∧ StB (b + 4) (b + 4 + 8 * xcnt u 16) uc um uc' um' := by
  intro d
  induction d with
  | zero =>
    intro c k uc um hd hc h hE h18 hx
    obtain ⟨c, rfl⟩ : ∃ q, c = q + 1 := ⟨c - 1, by omega⟩
    have e : k = 16 := by omega
    rw [e] at h18 ⊢
    have := (xcnt_mono (u := u) (k := 0) 16).2
    rw [Nat.zero_add, show xcnt u 0 = 0 from rfl] at this
    refine ⟨uc, um, ?_, ?_, h, hE, h18, fun q _ => rfl, fun q _ _ => rfl, StB.refl⟩
    · rw [bk_Lk_writeExports_11, if_pos (by decide), if_neg (show ¬ nI (xcnt u 16) = (0 : Int32) from fun z => absurd (nI_inj (b := 0) (by omega) (by decide) z) (by omega))]
    · rw [bk_Md_layExports_49, if_pos (by decide), bd1_eq (LkR.sm hb h).2.2.2.2.2.1, h18]
      rfl
  | succ d ih =>
    intro c k uc um hd hc h hE h18 hx
    obtain ⟨c, rfl⟩ : ∃ q, c = q + 1 := ⟨c - 1, by omega⟩
    have hk6 : k < 16 := by omega
    have hsc := LkR.sc hb h
    have hsm := LkR.sm hb h
    have mm := xcnt_mono (u := u) (k := k + 1) (16 - (k + 1))
    rw [show k + 1 + (16 - (k + 1)) = 16 by omega] at mm
    have m0 := (xcnt_mono (u := u) (k := 0) k).2
    rw [Nat.zero_add, show xcnt u 0 = 0 from rfl] at m0
    have xs : xcnt u (k + 1) = xcnt u k + if u.1 2496 (nI k) = 0 then 0 else 1 := rfl
    rw [bk_Lk_writeExports_11, if_neg (show ¬ (16 : Int32) ≤ nI k from fun z => absurd ((na_le (a := 16) (by decide) (by omega)).mp z) (by omega)), ck_eq (in_t hk6 (by decide)), bd1_eq (hsc.2.2.1 k hk6), LkR.cr h (show ¬ SC (1280 + k) by omega), hx6 k hk6]
    rw [bk_Md_layExports_49, if_neg (show ¬ (16 : Int32) ≤ nI k from fun z => absurd ((na_le (a := 16) (by decide) (by omega)).mp z) (by omega)), bd1_eq hsm.2.1.2.2.2.2.2.2.1, LkR.mr hb h (show (2048 : Nat) < 2496 by decide) (by omega)]
    unfold bk_Lk_writeExports_57 bk_Md_layExports_82
    rw [show nI k + (1 : Int32) = nI (k + 1) from na_add _ 1]
    by_cases e : u.1 2496 (nI k) = 0
    · rw [if_pos e, Nat.add_zero] at xs
      rw [if_pos e, if_pos e, ck_eq (in_t hk6 (by decide))]
      obtain ⟨uc', um', r1, r2, r3⟩ := ih c (k + 1) uc um (by omega) (by omega) h hE (by rw [xs]; exact h18) hx
      rw [xs] at r1
      exact ⟨uc', um', r1, r2, r3⟩
    · rw [if_neg e] at xs
      rw [if_neg e, if_neg e, ck_eq (in_t hk6 (by decide))]
      generalize hp : b + 4 + 8 * xcnt u k = p at h18
      have hp8 : p + 8 ≤ 896 := by omega
      -- the first word
      have hC1 := e_setWord (f := f) (i := 384) (p := p) (v := nI k) (hsc.2.2.2.2.1 0 (by decide)) (by omega)
      have hA1 := e_add (f := f) (v := nI k) hsm h18 (by omega)
      generalize hU1 : wr uc (384 + 64) p 4 (fun j => (sb (nI k) j).toInt8.toInt32) = U1 at hC1
      generalize hV1 : stI (wr um 2625 p 4 (fun j => sb (nI k) j &&& 255)) 2048 18 (nI (p + 4)) = V1 at hA1
      have R1 : LkR u wB U1 V1 := by
        rw [← hU1, ← hV1]
        exact LkR.m18 (LkR.mwr (LkR.cwr h (fun i => byt_b _)) (by omega) (by decide))
      have E1 : EQ Q U1 V1 := by
        rw [← hU1, ← hV1]
        refine EQ.cg (um := wr um 2625 p 4 (fun j => sb (nI k) j &&& 255)) ?_ rfl (stI_ne (by decide))
        exact (EQ.both hE (fun i _ => by_and _)).mono (fun j _ hj => Or.inl hj)
      have U1o : ∀ q, q ≠ 448 → U1.1 q = uc.1 q := fun q hq => by rw [← hU1, wr_ne hq]
      have V1o : ∀ q, q ≠ 2625 → q ≠ 2048 → V1.1 q = um.1 q := fun q h1 h2 => by rw [← hV1, stI_ne h2, wr_ne h1]
      have V18 : V1.1 2048 18 = nI (p + 4) := by rw [← hV1, stI_same]
      have S1 : StB p (p + 8) uc um U1 V1 := by
        rw [← hU1, ← hV1]
        refine StB.trans (StB.trans (StB.c (Nat.le_refl _) (by omega)) (StB.m (Nat.le_refl _) (by omega))) (StB.cg rfl (stI_ne (by decide)))
      have sc1 := LkR.sc hb R1
      have sm1 := LkR.sm hb R1
      -- the second
      have val : U1.1 576 (nI k) = V1.1 2434 (nI k) := by rw [U1o _ (by decide), V1o _ (by decide) (by decide)]; exact hx k hk6 e
      have hC2 := e_setWord (f := f) (i := 384) (p := p + 4) (v := V1.1 2434 (nI k)) (sc1.2.2.2.2.1 0 (by decide)) (by omega)
      have hA2 := e_add (f := f) (v := V1.1 2434 (nI k)) sm1 V18 (by omega)
      generalize V1.1 2434 (nI k) = v at hC2 hA2 val
      generalize hU2 : wr U1 (384 + 64) (p + 4) 4 (fun j => (sb v j).toInt8.toInt32) = U2 at hC2
      generalize hV2 : stI (wr V1 2625 (p + 4) 4 (fun j => sb v j &&& 255)) 2048 18 (nI (p + 4 + 4)) = V2 at hA2
      have R2 : LkR u wB U2 V2 := by
        rw [← hU2, ← hV2]
        exact LkR.m18 (LkR.mwr (LkR.cwr R1 (fun i => byt_b _)) (by omega) (by decide))
      have E2 : EQ Q U2 V2 := by
        rw [← hU2, ← hV2]
        refine EQ.cg (um := wr V1 2625 (p + 4) 4 (fun j => sb v j &&& 255)) ?_ rfl (stI_ne (by decide))
        exact (EQ.both E1 (fun i _ => by_and _)).mono (fun j _ hj => Or.inl hj)
      have U2o : ∀ q, q ≠ 448 → U2.1 q = uc.1 q := fun q hq => by rw [← hU2, wr_ne hq, U1o q hq]
      have V2o : ∀ q, q ≠ 2625 → q ≠ 2048 → V2.1 q = um.1 q := fun q h1 h2 => by rw [← hV2, stI_ne h2, wr_ne h1, V1o q h1 h2]
      have S2 : StB p (p + 8) U1 V1 U2 V2 := by
        rw [← hU2, ← hV2]
        refine StB.trans (StB.trans (StB.c (by omega) (by omega)) (StB.m (by omega) (by omega))) (StB.cg rfl (stI_ne (by decide)))
      have ep : b + 4 + 8 * xcnt u (k + 1) = p + 8 := by omega
      obtain ⟨uc', um', r1, r2, r3, r4, r5, r6, r7, r8⟩ := ih c (k + 1) U2 V2 (by omega) (by omega) R2 E2 (by rw [ep, ← hV2, stI_same]) (fun k' hk' hz => by rw [U2o _ (by decide), V2o _ (by decide) (by decide)]; exact hx k' hk' hz)
      refine ⟨uc', um', ?_, ?_, r3, r4, r5, fun q hq => by rw [r6 q hq, U2o q hq], fun q h1 h2 => by rw [r7 q h1 h2, V2o q h1 h2], ((S1.trans S2).mono (by omega) (by omega)).trans r8⟩
      · rw [hC1, bd2_s, bd1_eq sc1.2.2.2.2.2.1.1, ck_eq (in_t hk6 (by decide)), show nI p + (4 : Int32) = nI (p + 4) from na_add _ 4, val, hC2, bd2_s, show nI p + (8 : Int32) = nI (b + 4 + 8 * xcnt u (k + 1)) by rw [ep]; exact na_add _ 8, show nI (xcnt u k) + (1 : Int32) = nI (xcnt u (k + 1)) by rw [xs]; exact na_add _ 1]
        exact r1
      · rw [hA1, bd2_s, bd1_eq sm1.2.2.2.2.2.2.2.1, ck_eq (in_t hk6 (by decide)), show V1.1 2434 (nI k) = v by rw [← val, U1o _ (by decide), hx k hk6 e, V1o _ (by decide) (by decide)], hA2, bd2_s]
        exact r2
theorem lk_exports (hb : LkB al u wB) (hx6 : ∀ k, k < 16 → u.1 (1280 + k) 6 = u.1 2496 (nI k)) {P : Nat → Prop} {e b : Nat} (he : e ≤ 576) (hbe : b = upn 64 e) (h : LkR u wB uc um) (hE : EQ P uc um) (h18 : um.1 2048 18 = nI e) (hx : ∀ k, k < 16 → u.1 2496 (nI k) ≠ 0 → uc.1 576 (nI k) = um.1 2434 (nI k)) :
    ∃ uc' um' e', fn_Lk_writeExports (f + 4000) al uc 512 192 384 (nI b) = some (uc', nI e') ∧ fn_Md_layExports (f + 4000) al um 2048 = some (um', 0) ∧ LkR u wB uc' um' ∧ EQ P uc' um' ∧ um'.1 2048 18 = nI e' ∧ um'.1 2688 (nI 3) = nI b ∧ um'.1 2689 (nI 3) = nI e' ∧ b ≤ e' ∧ e' ≤ b + 132 ∧
      (∀ q, q ≠ 448 → uc'.1 q = uc.1 q) ∧ (∀ q, ¬ (q = 2048 ∨ q = 2625 ∨ q = 2688 ∨ q = 2689) → um'.1 q = um.1 q) ∧ (∀ i, i < 5 → i ≠ 3 → um'.1 2688 (nI i) = um.1 2688 (nI i) ∧ um'.1 2689 (nI i) = um.1 2689 (nI i)) ∧ StB b e' uc um uc' um' := by
  have hsm := LkR.sm hb h
  have hb5 : b ≤ 576 := by
    rw [hbe]
    unfold upn
    omega
  generalize hW : stI (stI um 2048 18 (nI b)) 2688 (nI 3) (nI b) = W
  have hBg : fn_Md_begin (f + 4000) al um 2048 (3 : Int32) = some (W, 0) := by
    have := e_begin (F := f + 4000) (i := 3) hsm h18 (by omega) (by decide)
    rw [← hbe, hW] at this
    exact this
  have W18 : W.1 2048 18 = nI b := by rw [← hW, stI_ne (by decide), stI_same]
  have Wo : ∀ q, q ≠ 2048 → q ≠ 2688 → W.1 q = um.1 q := fun q h1 h2 => by rw [← hW, stI_ne h2, stI_ne h1]
  have W88 : ∀ i, i < 5 → W.1 2688 (nI i) = if i = 3 then nI b else um.1 2688 (nI i) := fun i hi => by
    rw [← hW, stI_at, stI_ne (by decide)]
    by_cases z : i = 3
    · rw [if_pos (by rw [z]), if_pos z]
    · rw [if_neg (fun y => z (nI_inj (by omega) (by omega) y)), if_neg z]
  have WR : LkR u wB uc W := by rw [← hW]; exact LkR.m (LkR.m18 h) (by omega) (by decide)
  have WE : EQ P uc W := hE.cg rfl (Wo _ (by decide) (by decide))
  have Wm := LkR.sm hb WR
  have W96 : W.1 2496 = u.1 2496 := LkR.mr hb WR (by decide) (by omega)
  have cnt : ∀ m c k, m + k = 16 → m < c → bk_Md_layExports_9 (f + 4000) al c W 2048 (nI (xcnt u k)) (nI k) = (if nI (xcnt u 16) ≤ 0 then bk_Md_layExports_47 (f + 4000) al W 2048 else (bd2 (fn_Md_add (f + 4000) al W 2048 (nI (xcnt u 16))) fun u1 v1 => bk_Md_layExports_47 (f + 4000) al u1 2048)) := by
    intro m
    induction m with
    | zero =>
      intro c k hk hcc
      obtain ⟨c, rfl⟩ : ∃ q, c = q + 1 := ⟨c - 1, by omega⟩
      have e : k = 16 := by omega
      rw [e, bk_Md_layExports_9, if_pos (by decide)]
    | succ m ih =>
      intro c k hk hcc
      obtain ⟨c, rfl⟩ : ∃ q, c = q + 1 := ⟨c - 1, by omega⟩
      have xs : xcnt u (k + 1) = xcnt u k + if u.1 2496 (nI k) = 0 then 0 else 1 := rfl
      rw [bk_Md_layExports_9, if_neg (show ¬ (16 : Int32) ≤ nI k from fun z => absurd ((na_le (a := 16) (by decide) (by omega)).mp z) (by omega)), bd1_eq Wm.2.1.2.2.2.2.2.2.1, ck_eq (in_t (by omega) (by decide)), W96]
      unfold bk_Md_layExports_30
      rw [show nI k + (1 : Int32) = nI (k + 1) from na_add _ 1]
      by_cases z : u.1 2496 (nI k) = 0
      · rw [if_pos z] at xs
        rw [if_pos z, show nI (xcnt u k) + (0 : Int32) = nI (xcnt u (k + 1)) by rw [xs]; exact Int32.add_zero _]
        exact ih c (k + 1) (by omega) (by omega)
      · rw [if_neg z] at xs
        rw [if_neg z, show nI (xcnt u k) + (1 : Int32) = nI (xcnt u (k + 1)) by rw [xs]; exact na_add _ 1]
        exact ih c (k + 1) (by omega) (by omega)
  have n16 := (xcnt_mono (u := u) (k := 0) 16).2
  rw [Nat.zero_add, show xcnt u 0 = 0 from rfl] at n16
  have cM := cnt 16 (f + 4000) 0 (by omega) (by omega)
  unfold fn_Md_layExports bk_Md_layExports_0 fn_Lk_writeExports bk_Lk_writeExports_0
  rw [hBg, bd2_s, show bk_Md_layExports_9 (f + 4000) al (f + 4000) W 2048 (0 : Int32) (0 : Int32) = _ from cM]
  by_cases hN : xcnt u 16 = 0
  · have none := xcnt_none 16 hN
    have lc : ∀ m c k, m + k = 16 → m < c → bk_Lk_writeExports_11 (f + 4000) al c uc 512 192 384 (nI b) (0 : Int32) (nI b + (4 : Int32)) (nI k) = some (uc, nI b) := by
      intro m
      induction m with
      | zero =>
        intro c k hk hcc
        obtain ⟨c, rfl⟩ : ∃ q, c = q + 1 := ⟨c - 1, by omega⟩
        have e : k = 16 := by omega
        rw [e, bk_Lk_writeExports_11, if_pos (by decide), if_pos rfl]
      | succ m ih =>
        intro c k hk hcc
        obtain ⟨c, rfl⟩ : ∃ q, c = q + 1 := ⟨c - 1, by omega⟩
        have hk6 : k < 16 := by omega
        rw [bk_Lk_writeExports_11, if_neg (show ¬ (16 : Int32) ≤ nI k from fun z => absurd ((na_le (a := 16) (by decide) (by omega)).mp z) (by omega)), ck_eq (in_t hk6 (by decide)), bd1_eq ((LkR.sc hb h).2.2.1 k hk6), LkR.cr h (show ¬ SC (1280 + k) by omega), hx6 k hk6, if_pos (none k hk6)]
        unfold bk_Lk_writeExports_57
        rw [show nI k + (1 : Int32) = nI (k + 1) from na_add _ 1]
        exact ih c (k + 1) (by omega) (by omega)
    have lm : ∀ m c k, m + k = 16 → m < c → bk_Md_layExports_49 (f + 4000) al c W 2048 (nI k) = some (stI W 2689 (nI 3) (nI b), 0) := by
      intro m
      induction m with
      | zero =>
        intro c k hk hcc
        obtain ⟨c, rfl⟩ : ∃ q, c = q + 1 := ⟨c - 1, by omega⟩
        have e : k = 16 := by omega
        rw [e, bk_Md_layExports_49, if_pos (by decide), bd1_eq Wm.2.2.2.2.2.1, W18]
        rfl
      | succ m ih =>
        intro c k hk hcc
        obtain ⟨c, rfl⟩ : ∃ q, c = q + 1 := ⟨c - 1, by omega⟩
        have hk6 : k < 16 := by omega
        rw [bk_Md_layExports_49, if_neg (show ¬ (16 : Int32) ≤ nI k from fun z => absurd ((na_le (a := 16) (by decide) (by omega)).mp z) (by omega)), bd1_eq Wm.2.1.2.2.2.2.2.2.1, ck_eq (in_t hk6 (by decide)), W96, if_pos (none k hk6)]
        unfold bk_Md_layExports_82
        rw [show nI k + (1 : Int32) = nI (k + 1) from na_add _ 1]
        exact ih c (k + 1) (by omega) (by omega)
    refine ⟨uc, stI W 2689 (nI 3) (nI b), b, lc 16 (f + 4000) 0 (by omega) (by omega), ?_, LkR.m WR (by omega) (by decide), WE.cg rfl (stI_ne (by decide)), by rw [stI_ne (by decide)]; exact W18, by rw [stI_ne (by decide), W88 3 (by decide), if_pos rfl], stI_same, Nat.le_refl _, by omega, fun q _ => rfl, fun q hq => by rw [stI_ne (by omega), Wo q (by omega) (by omega)], fun i hi h2 => ⟨by rw [stI_ne (by decide), W88 i hi, if_neg h2], by rw [stI_at, if_neg (fun y => h2 (nI_inj (by omega) (by omega) y)), Wo _ (by decide) (by decide)]⟩, StB.cg rfl (by rw [stI_ne (by decide), Wo _ (by decide) (by decide)])⟩
    rw [hN, if_pos (by decide)]
    exact lm 16 (f + 4000) 0 (by omega) (by omega)
  · have hA := e_add (f := f) (v := nI (xcnt u 16)) Wm W18 (by omega)
    generalize hV : stI (wr W 2625 b 4 (fun j => sb (nI (xcnt u 16)) j &&& 255)) 2048 18 (nI (b + 4)) = V at hA
    have VR : LkR u wB uc V := by rw [← hV]; exact LkR.m18 (LkR.mwr WR (by omega) (by decide))
    have Vb : ∀ j, j < 896 → V.1 2625 (nI j) = if b ≤ j ∧ j < b + 4 then sb (nI (xcnt u 16)) (j - b) &&& 255 else um.1 2625 (nI j) := fun j hj => by
      rw [← hV, stI_ne (by decide), wr_at (by omega), Wo _ (by decide) (by decide)]
    have Vo : ∀ q, q ≠ 2625 → q ≠ 2048 → V.1 q = W.1 q := fun q h1 h2 => by rw [← hV, stI_ne h2, wr_ne h1]
    have VE : EQ (fun j => P j ∧ ¬ (b ≤ j ∧ j < b + 4)) uc V := fun j hj h8 => by
      rw [Vb j h8, if_neg hj.2]
      exact hE j hj.1 h8
    obtain ⟨uc1, um1, r1, r2, r3, r4, r5, r6, r7, r8⟩ := lk_exp (f := f) hb hx6 (show b ≤ 704 by omega) (by omega) 16 (f + 4000) 0 uc V (by omega) (by omega) VR VE (by rw [← hV, stI_same]; rfl) (fun k hk hz => by rw [Vo _ (by decide) (by decide), Wo _ (by decide) (by decide)]; exact hx k hk hz)
    have hC := e_setWord (f := f) (i := 384) (p := b) (v := nI (xcnt u 16)) ((LkR.sc hb r3).2.2.2.2.1 0 (by decide)) (by omega)
    rw [show (384 : Nat) + 64 = 448 from rfl] at hC
    refine ⟨wr uc1 448 b 4 (fun j => (sb (nI (xcnt u 16)) j).toInt8.toInt32), stI um1 2689 (nI 3) (nI (b + 4 + 8 * xcnt u 16)), b + 4 + 8 * xcnt u 16, ?_, ?_, LkR.m (LkR.cwr r3 (fun i => byt_b _)) (by omega) (by decide), ?_, by rw [stI_ne (by decide)]; exact r5, ?_, stI_same, by omega, by omega, fun q hq => by rw [wr_ne hq, r6 q hq], fun q hq => ?_, fun i hi h2 => ?_, ?_⟩
    · rw [show nI b + (4 : Int32) = nI (b + 4 + 8 * xcnt u 0) from na_add _ 4]
      refine Eq.trans r1 ?_
      rw [hC, bd2_s]
    · rw [if_neg (show ¬ nI (xcnt u 16) ≤ (0 : Int32) from fun z => absurd ((na_le (b := 0) (by omega) (by decide)).mp z) (by omega)), hA, bd2_s]
      exact r2
    · refine EQ.cg (um := um1) ?_ rfl (stI_ne (by decide))
      intro j hj h8
      rw [wr_at (by omega)]
      by_cases c1 : b ≤ j ∧ j < b + 4
      · rw [if_pos c1, (r8 j h8 (Or.inl (by omega))).2, Vb j h8, if_pos c1, by_and]
      · rw [if_neg c1]
        exact r4 j ⟨hj, c1⟩ h8
    · rw [stI_ne (by decide), r7 _ (by decide) (by decide), Vo _ (by decide) (by decide), W88 3 (by decide), if_pos rfl]
    · rw [stI_ne (by omega), r7 q (by omega) (by omega), Vo q (by omega) (by omega), Wo q (by omega) (by omega)]
    · refine ⟨?_, ?_⟩
      · rw [stI_ne (by decide), r7 _ (by decide) (by decide), Vo _ (by decide) (by decide), W88 i hi, if_neg h2]
      · rw [stI_at, if_neg (fun y => h2 (nI_inj (by omega) (by omega) y)), r7 _ (by decide) (by decide), Vo _ (by decide) (by decide), Wo _ (by decide) (by decide)]
    · intro j h8 hj
      have z := r8 j h8 (by omega)
      rw [wr_at (by omega), if_neg (by omega), stI_ne (by decide), z.1, z.2, Vb j h8, if_neg (by omega)]
      exact ⟨rfl, rfl⟩
end

/-! link: slots, imports, exports -/
theorem lcnt_mono {u : Mr} {l k : Nat} : ∀ d, lcnt u l k ≤ lcnt u l (k + d)
  | 0 => Nat.le_refl _
  | d + 1 => by
    have := lcnt_mono (u := u) (l := l) (k := k) d
    rw [← Nat.add_assoc, lcnt]
    split <;> omega
theorem lcnt_gap {u : Mr} {l k : Nat} : ∀ d, lcnt u l (k + d) ≤ lcnt u l k + d
  | 0 => Nat.le_refl _
  | d + 1 => by
    have := lcnt_gap (u := u) (l := l) (k := k) d
    rw [← Nat.add_assoc, lcnt]
    split <;> omega
theorem lcnt_none {u : Mr} {l : Nat} : ∀ n, lcnt u l n = 0 → ∀ k, k < n → ¬ u.1 2432 (nI k) = nI (l + 1)
  | 0, _, k, hk => by omega
  | n + 1, h, k, hk => by
    rw [lcnt] at h
    by_cases e : k = n
    · rw [e]
      intro z
      rw [if_pos z] at h
      omega
    · exact lcnt_none n (by omega) k (by omega)
section
variable {f F : Nat} {al : Nat → Bool} {u wB uc um : Mr}
theorem e_begin {e i : Nat} (hm : Sm al um) (h : um.1 2048 18 = nI e) (he : e < 2 ^ 20) (hi : i < 5) : fn_Md_begin F al um 2048 (nI i) = some (stI (stI um 2048 18 (nI (upn 64 e))) 2688 (nI i) (nI (upn 64 e)), 0) := by
  unfold fn_Md_begin bk_Md_begin_0
  rw [h, show fn_Md_up F al um (nI e) (64 : Int32) = some (um, nI (upn 64 e)) from (e_up (uc := um) (a := 64) (by decide) (by decide) he).2, bd2_s, bd1_eq (show rdR al (stI um 2048 18 (nI (upn 64 e))) 2048 20 42 = some 2688 from hm.2.2.2.2.1), ck_eq (in_t hi (by decide)), stI_same]
theorem e_add {p : Nat} {v : Int32} (hm : Sm al um) (h : um.1 2048 18 = nI p) (hp : p + 4 ≤ 2048) : fn_Md_add (f + 4000) al um 2048 v = some (stI (wr um 2625 p 4 (fun j => sb v j &&& 255)) 2048 18 (nI (p + 4)), 0) := by
  unfold fn_Md_add bk_Md_add_0
  rw [h, e_mword hm hp, bd2_s, wr_ne (by decide), h, show nI p + (4 : Int32) = nI (p + 4) from na_add _ 4]
theorem lk_slots (hb : LkB al u wB) (hL : LibOK u) {P : Nat → Prop} {l : Nat} (hl : l < 4) {x1 : Int32} (k51 : Mr → Nat → Int32 → Int32 → Int32 → Option (Mr × Int32)) :
    ∀ d c k s uc um, d + k = 16 → d < c → s + 4 * d ≤ 896 → LkR u wB uc um → EQ P uc um →
    ∃ uc' um', bk_Lk_writeSlots_7 (f + 4000) al c uc 512 192 (nI l) 384 (nI s) (nI k) = some (uc', nI (s + 4 * (lcnt u l 16 - lcnt u l k))) ∧ bk_Md_layImports_86 (f + 4000) al k51 c um 2048 x1 (nI s) (nI l) (nI k) = k51 um' 2048 x1 (nI (s + 4 * (lcnt u l 16 - lcnt u l k) + 4)) (nI (l + 1)) ∧ LkR u wB uc' um' ∧ EQ P uc' um' ∧
      (∀ k', k' < 16 → u.1 2432 (nI k') = nI (l + 1) → k ≤ k' → uc'.1 576 (nI k') = um'.1 2434 (nI k')) ∧ (∀ k', k' < 16 → (k' < k ∨ ¬ u.1 2432 (nI k') = nI (l + 1)) → uc'.1 576 (nI k') = uc.1 576 (nI k') ∧ um'.1 2434 (nI k') = um.1 2434 (nI k')) ∧
      (∀ q, q ≠ 448 → q ≠ 576 → uc'.1 q = uc.1 q) ∧ (∀ q, q ≠ 2625 → q ≠ 2434 → um'.1 q = um.1 q) ∧ StB s (s + 4 * (lcnt u l 16 - lcnt u l k)) uc um uc' um' := by
  intro d
  induction d with
  | zero =>
    intro c k s uc um hd hc hs h hE
    obtain ⟨c, rfl⟩ : ∃ q, c = q + 1 := ⟨c - 1, by omega⟩
    have e : k = 16 := by omega
    rw [e]
    refine ⟨uc, um, ?_, ?_, h, hE, fun k' h1 h2 h3 => by omega, fun k' h1 h2 => ⟨rfl, rfl⟩, fun q _ _ => rfl, fun q _ _ => rfl, StB.refl⟩
    · rw [bk_Lk_writeSlots_7, if_pos (by decide), Nat.sub_self, Nat.mul_zero, Nat.add_zero]
    · rw [bk_Md_layImports_86, if_pos (by decide), Nat.sub_self, Nat.mul_zero, Nat.add_zero]
      unfold bk_Md_layImports_144
      rw [show nI s + (4 : Int32) = nI (s + 4) from na_add _ 4, show nI l + (1 : Int32) = nI (l + 1) from na_add _ 1]
  | succ d ih =>
    intro c k s uc um hd hc hs h hE
    obtain ⟨c, rfl⟩ : ∃ q, c = q + 1 := ⟨c - 1, by omega⟩
    have hk6 : k < 16 := by omega
    have hsc := LkR.sc hb h
    have hsm := LkR.sm hb h
    have m1 := lcnt_mono (u := u) (l := l) (k := k + 1) (16 - (k + 1))
    rw [show k + 1 + (16 - (k + 1)) = 16 by omega] at m1
    have g1 := lcnt_gap (u := u) (l := l) (k := k + 1) (16 - (k + 1))
    rw [show k + 1 + (16 - (k + 1)) = 16 by omega] at g1
    have ls : lcnt u l (k + 1) = lcnt u l k + if u.1 2432 (nI k) = nI (l + 1) then 1 else 0 := rfl
    have cr : uc.1 (1280 + k) = u.1 (1280 + k) := LkR.cr h (by omega)
    have m32 : um.1 2432 = u.1 2432 := LkR.mr hb h (by decide) (by omega)
    have m33 : um.1 2433 = u.1 2433 := LkR.mr hb h (by decide) (by omega)
    rw [bk_Lk_writeSlots_7, if_neg (show ¬ (16 : Int32) ≤ nI k from fun z => absurd ((na_le (a := 16) (by decide) (by omega)).mp z) (by omega)), ck_eq (in_t hk6 (by decide)), bd1_eq (hsc.2.2.1 k hk6), cr]
    rw [bk_Md_layImports_86, if_neg (show ¬ (16 : Int32) ≤ nI k from fun z => absurd ((na_le (a := 16) (by decide) (by omega)).mp z) (by omega)), bd1_eq hsm.2.1.2.2.2.2.1, ck_eq (in_t hk6 (by decide)), m32, show nI l + (1 : Int32) = nI (l + 1) from na_add _ 1]
    unfold bk_Lk_writeSlots_53 bk_Md_layImports_135
    rw [show nI k + (1 : Int32) = nI (k + 1) from na_add _ 1]
    by_cases e : u.1 2432 (nI k) = nI (l + 1)
    · have e5 : u.1 (1280 + k) 5 = u.1 2433 (nI k) := by
        rcases hL k hk6 with ⟨z1, z2⟩ | ⟨l', z1, z2, z3, z4⟩
        · have := nI_inj (a := 0) (by decide) (by omega) (z2.symm.trans e)
          omega
        · exact z4
      rw [if_pos e] at ls
      rw [if_pos ((hL.iff hk6 hl).mpr e), if_pos e, ck_eq (in_t hk6 (by decide)), bd1_eq (hsc.2.2.1 k hk6), cr, e5]
      have hW := e_setWord (f := f) (i := 384) (p := s) (v := u.1 2433 (nI k) ||| (-2147483648 : Int32)) (hsc.2.2.2.2.1 0 (by decide)) (by omega)
      rw [hW, bd2_s, show (384 : Nat) + 64 = 448 from rfl, bd1_eq (show rdR al (wr uc 448 s 4 _) 512 0 9 = some 576 from hsc.2.2.2.2.2.1.1), ck_eq (in_t hk6 (by decide)), show nI s + (4 : Int32) = nI (s + 4) from na_add _ 4]
      rw [bd1_eq hsm.2.2.2.2.2.2.2.1, ck_eq (in_t hk6 (by decide)), bd1_eq (show rdR al (stI um 2434 (nI k) (nI s)) 2048 13 38 = some 2433 from hsm.2.1.2.2.2.2.2.1), ck_eq (in_t hk6 (by decide)), stI_ne (show (2433 : Nat) ≠ 2434 by decide), m33, e_mword (show Sm al (stI um 2434 (nI k) (nI s)) from hsm) (by omega), bd2_s]
      generalize hv : u.1 2433 (nI k) ||| (-2147483648 : Int32) = v
      have hR : LkR u wB (stI (wr uc 448 s 4 (fun j => (sb v j).toInt8.toInt32)) 576 (nI k) (nI s)) (wr (stI um 2434 (nI k) (nI s)) 2625 s 4 (fun j => sb v j &&& 255)) := LkR.mwr (LkR.m (LkR.c (LkR.cwr h (fun i => byt_b _)) (by omega) (by decide)) (by omega) (by decide)) (by omega) (by decide)
      have hE2 : EQ P (stI (wr uc 448 s 4 (fun j => (sb v j).toInt8.toInt32)) 576 (nI k) (nI s)) (wr (stI um 2434 (nI k) (nI s)) 2625 s 4 (fun j => sb v j &&& 255)) := by
        refine EQ.cg (uc := wr uc 448 s 4 (fun j => (sb v j).toInt8.toInt32)) ?_ (stI_ne (by decide)) rfl
        refine (EQ.both (uc := uc) (um := stI um 2434 (nI k) (nI s)) (hE.cg rfl (stI_ne (by decide))) (fun i hi => ?_)).mono (fun j _ hj => Or.inl hj)
        exact by_and _
      obtain ⟨uc', um', r1, r2, r3, r4, r5, r6, r7, r8, r9⟩ := ih c (k + 1) (s + 4) _ _ (by omega) (by omega) (by omega) hR hE2
      have es : s + 4 + 4 * (lcnt u l 16 - lcnt u l (k + 1)) = s + 4 * (lcnt u l 16 - lcnt u l k) := by omega
      rw [es] at r1 r2 r9
      have U5 : ∀ k', k' < 16 → (stI (wr uc 448 s 4 (fun j => (sb v j).toInt8.toInt32)) 576 (nI k) (nI s)).1 576 (nI k') = if k' = k then nI s else uc.1 576 (nI k') := fun k' hk' => by
        rw [stI_at, wr_ne (show (576 : Nat) ≠ 448 by decide)]
        by_cases e9 : k' = k
        · rw [if_pos (by rw [e9]), if_pos e9]
        · rw [if_neg (fun z => e9 (nI_inj (by omega) (by omega) z)), if_neg e9]
      have V5 : ∀ k', k' < 16 → (wr (stI um 2434 (nI k) (nI s)) 2625 s 4 (fun j => sb v j &&& 255)).1 2434 (nI k') = if k' = k then nI s else um.1 2434 (nI k') := fun k' hk' => by
        rw [wr_ne (show (2434 : Nat) ≠ 2625 by decide), stI_at]
        by_cases e9 : k' = k
        · rw [if_pos (by rw [e9]), if_pos e9]
        · rw [if_neg (fun z => e9 (nI_inj (by omega) (by omega) z)), if_neg e9]
      refine ⟨uc', um', r1, r2, r3, r4, fun k' h1 h2 h3 => ?_, fun k' h1 h2 => ?_, fun q h1 h2 => ?_, fun q h1 h2 => ?_, ?_⟩
      · by_cases e9 : k' = k
        · obtain ⟨z1, z2⟩ := r6 k' h1 (Or.inl (by omega))
          rw [z1, z2, U5 k' h1, V5 k' h1, if_pos e9, if_pos e9]
        · exact r5 k' h1 h2 (by omega)
      · have ne : k' ≠ k := fun z => by
          rcases h2 with h2 | h2
          · omega
          · rw [z] at h2
            exact h2 e
        obtain ⟨z1, z2⟩ := r6 k' h1 (h2.imp (fun z => by omega) id)
        rw [z1, z2, U5 k' h1, V5 k' h1, if_neg ne, if_neg ne]
        exact ⟨rfl, rfl⟩
      · rw [r7 q h1 h2, stI_ne h2, wr_ne h1]
      · rw [r8 q h1 h2, wr_ne h1, stI_ne h2]
      · refine StB.trans (b := stI (wr uc 448 s 4 (fun j => (sb v j).toInt8.toInt32)) 576 (nI k) (nI s)) (b' := wr (stI um 2434 (nI k) (nI s)) 2625 s 4 (fun j => sb v j &&& 255)) ?_ (r9.mono (by omega) (Nat.le_refl _))
        refine StB.trans (b := stI uc 576 (nI k) (nI s)) (b' := stI um 2434 (nI k) (nI s)) (StB.cg (stI_ne (by decide)) (stI_ne (by decide))) ?_
        intro j h8 hj
        rw [stI_ne (show (448 : Nat) ≠ 576 by decide), stI_ne (show (448 : Nat) ≠ 576 by decide), wr_at (by omega), wr_at (by omega), if_neg (by omega), if_neg (by omega)]
        exact ⟨rfl, rfl⟩
    · rw [if_neg e] at ls
      rw [if_neg (fun z => e ((hL.iff hk6 hl).mp z)), if_neg e, ck_eq (in_t hk6 (by decide))]
      obtain ⟨uc', um', r1, r2, r3, r4, r5, r6, r7, r8, r9⟩ := ih c (k + 1) s uc um (by omega) (by omega) (by omega) h hE
      rw [ls, Nat.add_zero] at r1 r2 r9
      refine ⟨uc', um', r1, r2, r3, r4, fun k' h1 h2 h3 => ?_, fun k' h1 h2 => ?_, r7, r8, r9⟩
      · by_cases e9 : k' = k
        · rw [e9] at h2
          exact absurd h2 e
        · exact r5 k' h1 h2 (by omega)
      · refine r6 k' h1 ?_
        rcases h2 with h2 | h2
        · exact Or.inl (by omega)
        · exact Or.inr h2
theorem lk_skip (hb : LkB al u wB) (hL : LibOK u) {l s : Nat} (hl : l < 4) (hno : ∀ k, k < 16 → ¬ u.1 2432 (nI k) = nI (l + 1)) (h : LkR u wB uc um) : fn_Lk_writeSlots (f + 4000) al uc 512 192 (nI l) 384 (nI s) = some (uc, nI s) := by
  have loop : ∀ m c k, m + k = 16 → m < c → bk_Lk_writeSlots_7 (f + 4000) al c uc 512 192 (nI l) 384 (nI s) (nI k) = some (uc, nI s) := by
    intro m
    induction m with
    | zero =>
      intro c k hk hcc
      obtain ⟨c, rfl⟩ : ∃ q, c = q + 1 := ⟨c - 1, by omega⟩
      have e : k = 16 := by omega
      rw [e, bk_Lk_writeSlots_7, if_pos (by decide)]
    | succ m ih =>
      intro c k hk hcc
      obtain ⟨c, rfl⟩ : ∃ q, c = q + 1 := ⟨c - 1, by omega⟩
      have hk6 : k < 16 := by omega
      rw [bk_Lk_writeSlots_7, if_neg (show ¬ (16 : Int32) ≤ nI k from fun z => absurd ((na_le (a := 16) (by decide) (by omega)).mp z) (by omega)), ck_eq (in_t hk6 (by decide)), bd1_eq ((LkR.sc hb h).2.2.1 k hk6), LkR.cr h (show ¬ SC (1280 + k) by omega), if_neg (fun z => hno k hk6 ((hL.iff hk6 hl).mp z))]
      unfold bk_Lk_writeSlots_53
      rw [show nI k + (1 : Int32) = nI (k + 1) from na_add _ 1]
      exact ih c (k + 1) (by omega) (by omega)
  exact loop 16 (f + 4000) 0 (by omega) (by omega)
theorem lk_lib (hb : LkB al u wB) (hL : LibOK u) {P : Nat → Prop} {l used c pr s : Nat} (hl : l < 4) (hu : 0 < used) (hu4 : used ≤ 4) (hp : pr + 8 ≤ s) (hs : s ≤ 800) (h : LkR u wB uc um) (hE : EQ P uc um) (h18 : um.1 2048 18 = nI pr) :
    ∃ uc' um', bk_Lk_writeImports_31 (f + 4000) al (c + 1) uc 512 192 384 (nI pr) (nI s) (nI l) = bk_Lk_writeImports_31 (f + 4000) al c uc' 512 192 384 (nI (pr + 8 * lbit u l 16)) (nI (s + (4 * lcnt u l 16 + 4 * lbit u l 16))) (nI (l + 1)) ∧ bk_Md_layImports_51 (f + 4000) al (c + 1) um 2048 (nI used) (nI s) (nI l) = bk_Md_layImports_51 (f + 4000) al c um' 2048 (nI used) (nI (s + (4 * lcnt u l 16 + 4 * lbit u l 16))) (nI (l + 1)) ∧ LkR u wB uc' um' ∧ EQ P uc' um' ∧ um'.1 2048 18 = nI (pr + 8 * lbit u l 16) ∧
      (∀ k', k' < 16 → u.1 2432 (nI k') = nI (l + 1) → uc'.1 576 (nI k') = um'.1 2434 (nI k')) ∧ (∀ k', k' < 16 → ¬ u.1 2432 (nI k') = nI (l + 1) → uc'.1 576 (nI k') = uc.1 576 (nI k') ∧ um'.1 2434 (nI k') = um.1 2434 (nI k')) ∧
      (∀ q, q ≠ 448 → q ≠ 576 → uc'.1 q = uc.1 q) ∧ (∀ q, q ≠ 2625 → q ≠ 2434 → q ≠ 2048 → um'.1 q = um.1 q) ∧ StB pr (s + (4 * lcnt u l 16 + 4 * lbit u l 16)) uc um uc' um' := by
  have hsc := LkR.sc hb h
  have hsm := LkR.sm hb h
  have lel := lcnt_le (u := u) (l := l) 16
  have em : lcnt um l 16 = lcnt u l 16 := lcnt_cg (LkR.mr hb h (by decide) (by omega)) 16
  have u4 : ¬ nI used ≤ 0 := fun z => absurd ((na_le (b := 0) (by omega) (by decide)).mp z) (by omega)
  have e4 : ¬ (4 : Int32) ≤ nI l := fun z => absurd ((na_le (a := 4) (by decide) (by omega)).mp z) (by omega)
  by_cases n0 : lcnt u l 16 = 0
  · have lb : lbit u l 16 = 0 := by
      unfold lbit
      rw [if_pos n0]
    rw [lb, n0, show pr + 8 * 0 = pr from rfl, show s + (4 * 0 + 4 * 0) = s from rfl]
    refine ⟨uc, um, ?_, ?_, h, hE, h18, fun k' h1 h2 => absurd h2 (lcnt_none 16 n0 k' h1), fun k' _ _ => ⟨rfl, rfl⟩, fun q _ _ => rfl, fun q _ _ _ => rfl, StB.refl⟩
    · rw [bk_Lk_writeImports_31, if_neg e4, lk_skip hb hL hl (lcnt_none 16 n0) h, bd2_s, if_pos rfl]
      unfold bk_Lk_writeImports_85
      rw [show nI l + (1 : Int32) = nI (l + 1) from na_add _ 1]
    · rw [bk_Md_layImports_51, if_neg e4, if_neg u4, e_namesOf hsm hl, bd2_s, em, n0, if_pos (show nI 0 = (0 : Int32) from rfl)]
      unfold bk_Md_layImports_144
      rw [show nI l + (1 : Int32) = nI (l + 1) from na_add _ 1]
  · have lb : lbit u l 16 = 1 := by
      unfold lbit
      rw [if_neg n0]
    rw [lb]
    -- the reference writes the pair
    have hA1 := e_add (f := f) (v := nI (l + 1)) hsm h18 (by omega)
    generalize hV1 : stI (wr um 2625 pr 4 (fun j => sb (nI (l + 1)) j &&& 255)) 2048 18 (nI (pr + 4)) = V1 at hA1
    have V1m : Sm al V1 := by rw [← hV1]; exact hsm
    have V1r : LkR u wB uc V1 := by rw [← hV1]; exact LkR.m18 (LkR.mwr h (by omega) (by decide))
    have hA2 := e_add (f := f) (um := V1) (p := pr + 4) (v := nI s) V1m (by rw [← hV1, stI_same]) (by omega)
    generalize hV2 : stI (wr V1 2625 (pr + 4) 4 (fun j => sb (nI s) j &&& 255)) 2048 18 (nI (pr + 4 + 4)) = V2 at hA2
    have V2r : LkR u wB uc V2 := by rw [← hV2]; exact LkR.m18 (LkR.mwr V1r (by omega) (by decide))
    have V2b : ∀ j, j < 896 → V2.1 2625 (nI j) = if pr + 4 ≤ j ∧ j < pr + 4 + 4 then sb (nI s) (j - (pr + 4)) &&& 255 else if pr ≤ j ∧ j < pr + 4 then sb (nI (l + 1)) (j - pr) &&& 255 else um.1 2625 (nI j) := fun j hj => by
      rw [← hV2, stI_ne (by decide), wr_at (by omega), ← hV1, stI_ne (by decide), wr_at (by omega)]
    have V2o : ∀ q, q ≠ 2625 → q ≠ 2048 → V2.1 q = um.1 q := fun q h1 h2 => by
      rw [← hV2, stI_ne h2, wr_ne h1, ← hV1, stI_ne h2, wr_ne h1]
    have hE2 : EQ (fun j => P j ∧ ¬ (pr ≤ j ∧ j < pr + 8)) uc V2 := fun j hj h8 => by
      rw [V2b j h8, if_neg (by omega), if_neg (by omega)]
      exact hE j hj.1 h8
    obtain ⟨uc1, um1, r1, r2, r3, r4, r5, r6, r7, r8, r9⟩ := lk_slots (f := f) hb hL hl (x1 := nI used) (bk_Md_layImports_51 (f + 4000) al c) 16 (f + 4000) 0 s uc V2 (by omega) (by omega) (by omega) V2r hE2
    have z0 : lcnt u l 0 = 0 := rfl
    rw [z0, Nat.sub_zero] at r1 r2 r9
    have hsc1 := LkR.sc hb r3
    -- the class writes it behind
    have hC1 := e_setWord (f := f) (i := 384) (p := pr) (v := nI (l + 1)) (hsc1.2.2.2.2.1 0 (by decide)) (by omega)
    have hC2 := e_setWord (f := f) (i := 384) (p := pr + 4) (v := nI s) (show rdR al (wr uc1 448 pr 4 (fun j => (sb (nI (l + 1)) j).toInt8.toInt32)) 384 0 7 = some (384 + 64) from hsc1.2.2.2.2.1 0 (by decide)) (by omega)
    rw [show (384 : Nat) + 64 = 448 from rfl] at hC1 hC2
    generalize hU : wr (wr uc1 448 pr 4 (fun j => (sb (nI (l + 1)) j).toInt8.toInt32)) 448 (pr + 4) 4 (fun j => (sb (nI s) j).toInt8.toInt32) = U2 at hC2
    have U2b : ∀ j, j < 896 → U2.1 448 (nI j) = if pr + 4 ≤ j ∧ j < pr + 4 + 4 then (sb (nI s) (j - (pr + 4))).toInt8.toInt32 else if pr ≤ j ∧ j < pr + 4 then (sb (nI (l + 1)) (j - pr)).toInt8.toInt32 else uc1.1 448 (nI j) := fun j hj => by
      rw [← hU, wr_at (by omega), wr_at (by omega)]
    have U2o : ∀ q, q ≠ 448 → U2.1 q = uc1.1 q := fun q h1 => by rw [← hU, wr_ne h1, wr_ne h1]
    refine ⟨U2, um1, ?_, ?_, ?_, ?_, ?_, fun k' h1 h2 => ?_, fun k' h1 h2 => ?_, fun q h1 h2 => ?_, fun q h1 h2 h3 => ?_, ?_⟩
    · rw [bk_Lk_writeImports_31, if_neg e4]
      unfold fn_Lk_writeSlots bk_Lk_writeSlots_0
      rw [show bk_Lk_writeSlots_7 (f + 4000) al (f + 4000) uc 512 192 (nI l) 384 (nI s) (0 : Int32) = some (uc1, nI (s + 4 * lcnt u l 16)) from r1, bd2_s, if_neg (fun z => absurd (nI_inj (by omega) (by omega) z) (by omega)), show nI l + (1 : Int32) = nI (l + 1) from na_add _ 1, hC1, bd2_s, show nI pr + (4 : Int32) = nI (pr + 4) from na_add _ 4, hC2, bd2_s]
      unfold bk_Lk_writeImports_85
      rw [show nI l + (1 : Int32) = nI (l + 1) from na_add _ 1, show nI pr + (8 : Int32) = nI (pr + 8 * 1) from na_add _ 8, show nI (s + 4 * lcnt u l 16) + (4 : Int32) = nI (s + (4 * lcnt u l 16 + 4 * 1)) from na_add _ 4]
    · rw [bk_Md_layImports_51, if_neg e4, if_neg u4, e_namesOf hsm hl, bd2_s, em, if_neg (show ¬ nI (lcnt u l 16) = (0 : Int32) from fun z => n0 (nI_inj (b := 0) (by omega) (by decide) z)), show nI l + (1 : Int32) = nI (l + 1) from na_add _ 1, hA1, bd2_s, hA2, bd2_s]
      exact r2
    · rw [← hU]
      exact LkR.cwr (LkR.cwr r3 (fun i => byt_b _)) (fun i => byt_b _)
    · intro j hj h8
      have kp : (pr ≤ j ∧ j < pr + 8) → um1.1 2625 (nI j) = V2.1 2625 (nI j) := fun z => (r9 j h8 (Or.inl (by omega))).2
      rw [U2b j h8]
      by_cases c1 : pr + 4 ≤ j ∧ j < pr + 4 + 4
      · rw [if_pos c1, kp (by omega), V2b j h8, if_pos c1, by_and]
      rw [if_neg c1]
      by_cases c2 : pr ≤ j ∧ j < pr + 4
      · rw [if_pos c2, kp (by omega), V2b j h8, if_neg c1, if_pos c2, by_and]
      · rw [if_neg c2]
        exact r4 j ⟨hj, by omega⟩ h8
    · rw [r8 2048 (by decide) (by decide), ← hV2, stI_same]
    · rw [U2o _ (by decide)]
      exact r5 k' h1 h2 (Nat.zero_le _)
    · obtain ⟨z1, z2⟩ := r6 k' h1 (Or.inr h2)
      rw [U2o _ (by decide), z1, z2, V2o _ (by decide) (by decide)]
      exact ⟨rfl, rfl⟩
    · rw [U2o q h1, r7 q h1 h2]
    · rw [r8 q h1 h2, V2o q h1 h3]
    · intro j h8 hj
      have z := r9 j h8 (by omega)
      rw [U2b j h8, if_neg (by omega), if_neg (by omega), z.1, z.2, V2b j h8, if_neg (by omega), if_neg (by omega)]
      exact ⟨rfl, rfl⟩
theorem lk_imports (hb : LkB al u wB) (hL : LibOK u) {P : Nat → Prop} {e b : Nat} (he : e ≤ 448) (hbe : b = upn 64 e) (h : LkR u wB uc um) (hE : EQ P uc um) (h18 : um.1 2048 18 = nI e) :
    ∃ uc' um' e', fn_Lk_writeImports (f + 4000) al uc 512 192 384 (nI b) = some (uc', nI e') ∧ fn_Md_layImports (f + 4000) al um 2048 = some (um', 0) ∧ LkR u wB uc' um' ∧ EQ P uc' um' ∧ um'.1 2048 18 = nI e' ∧ um'.1 2688 (nI 2) = nI b ∧ um'.1 2689 (nI 2) = nI e' ∧ b ≤ e' ∧ e' ≤ b + 120 ∧
      (∀ k', k' < 16 → u.1 2432 (nI k') ≠ 0 → uc'.1 576 (nI k') = um'.1 2434 (nI k')) ∧ (∀ k', k' < 16 → u.1 2432 (nI k') = 0 → uc'.1 576 (nI k') = uc.1 576 (nI k') ∧ um'.1 2434 (nI k') = um.1 2434 (nI k')) ∧
      (∀ q, q ≠ 448 → q ≠ 576 → uc'.1 q = uc.1 q) ∧ (∀ q, ¬ (q = 2048 ∨ q = 2434 ∨ q = 2625 ∨ q = 2688 ∨ q = 2689) → um'.1 q = um.1 q) ∧ (∀ i, i < 5 → i ≠ 2 → um'.1 2688 (nI i) = um.1 2688 (nI i) ∧ um'.1 2689 (nI i) = um.1 2689 (nI i)) ∧ StB b e' uc um uc' um' := by
  have hsm := LkR.sm hb h
  have hb5 : b ≤ 448 := by
    rw [hbe]
    unfold upn
    omega
  generalize hW : stI (stI um 2048 18 (nI b)) 2688 (nI 2) (nI b) = W
  have hBg : fn_Md_begin (f + 4000) al um 2048 (2 : Int32) = some (W, 0) := by
    have := e_begin (F := f + 4000) (i := 2) hsm h18 (by omega) (by decide)
    rw [← hbe, hW] at this
    exact this
  have W18 : W.1 2048 18 = nI b := by rw [← hW, stI_ne (by decide), stI_same]
  have Wo : ∀ q, q ≠ 2048 → q ≠ 2688 → W.1 q = um.1 q := fun q h1 h2 => by rw [← hW, stI_ne h2, stI_ne h1]
  have W88 : ∀ i, i < 5 → W.1 2688 (nI i) = if i = 2 then nI b else um.1 2688 (nI i) := fun i hi => by
    rw [← hW, stI_at, stI_ne (by decide)]
    by_cases z : i = 2
    · rw [if_pos (by rw [z]), if_pos z]
    · rw [if_neg (fun y => z (nI_inj (by omega) (by omega) y)), if_neg z]
  have WR : LkR u wB uc W := by rw [← hW]; exact LkR.m (LkR.m18 h) (by omega) (by decide)
  have WE : EQ P uc W := hE.cg rfl (Wo _ (by decide) (by decide))
  have Wm := LkR.sm hb WR
  have emW : ∀ l, lcnt W l 16 = lcnt u l 16 := fun l => lcnt_cg (LkR.mr hb WR (by decide) (by omega)) 16
  generalize hused : lbit u 0 16 + lbit u 1 16 + lbit u 2 16 + lbit u 3 16 = used
  have lb := fun l => lbit_lt (u := u) (l := l) (k := 16)
  have lb0 := lb 0
  have lb1 := lb 1
  have lb2 := lb 2
  have lb3 := lb 3
  have sum := lcnt_sum (u := u) 16
  -- the counts
  have cC := e_countC (f := f) (uc := uc) (LkR.sc hb h) (fun k hk => LkR.cr h (by omega)) hL
  rw [hused] at cC
  have cnt : ∀ l c a, l < 4 → bk_Md_layImports_9 (f + 4000) al (c + 1) W 2048 (nI a) (nI l) = bk_Md_layImports_9 (f + 4000) al c W 2048 (nI (a + lbit u l 16)) (nI (l + 1)) := fun l c a hl => by
    rw [bk_Md_layImports_9, if_neg (show ¬ (4 : Int32) ≤ nI l from fun z => absurd ((na_le (a := 4) (by decide) (by omega)).mp z) (by omega)), e_namesOf Wm hl, bd2_s, emW]
    have le := lcnt_le (u := u) (l := l) 16
    unfold bk_Md_layImports_28 lbit
    rw [show nI l + (1 : Int32) = nI (l + 1) from na_add _ 1]
    by_cases z : lcnt u l 16 = 0
    · rw [if_pos (show nI (lcnt u l 16) ≤ 0 by rw [z]; decide), if_pos z, show nI a + (0 : Int32) = nI (a + 0) from Int32.add_zero _]
    · rw [if_neg (show ¬ nI (lcnt u l 16) ≤ (0 : Int32) from fun y => absurd ((na_le (b := 0) (by omega) (by decide)).mp y) (by omega)), if_neg z, show nI a + (1 : Int32) = nI (a + 1) from na_add _ 1]
  have cM : bk_Md_layImports_9 (f + 4000) al (f + 4000) W 2048 0 0 = bk_Md_layImports_51 (f + 4000) al (f + 4000) W 2048 (nI used) (nI (b + 8 * used + 8)) 0 := by
    refine Eq.trans (cnt 0 (f + 3999) 0 (by omega)) (Eq.trans (cnt 1 (f + 3998) _ (by omega)) (Eq.trans (cnt 2 (f + 3997) _ (by omega)) (Eq.trans (cnt 3 (f + 3996) _ (by omega)) ?_)))
    rw [Nat.zero_add, hused, bk_Md_layImports_9, if_pos (by decide), W18, show (8 : Int32) * nI used = nI (8 * used) by rw [show (8 : Int32) = nI 8 from rfl, na_mul], na_add, show nI (b + 8 * used) + (8 : Int32) = nI (b + 8 * used + 8) from na_add _ 8]
  unfold fn_Md_layImports bk_Md_layImports_0 fn_Lk_writeImports bk_Lk_writeImports_0
  rw [hBg, bd2_s, cM, cC, bd2_s]
  by_cases hu0 : used = 0
  · have z1 : nI used = 0 := by rw [hu0]; rfl
    rw [if_pos z1]
    have none : ∀ k', k' < 16 → u.1 2432 (nI k') = 0 := fun k' hk' => by
      rcases hL k' hk' with ⟨-, z⟩ | ⟨l, hl, -, z3, -⟩
      · exact z
      · exfalso
        have nz : ∀ l, l < 4 → lcnt u l 16 = 0 := fun l hl => by
          have : lbit u l 16 = 0 := by
            rcases (show l = 0 ∨ l = 1 ∨ l = 2 ∨ l = 3 by omega) with e | e | e | e <;> subst e <;> omega
          unfold lbit at this
          by_cases y : lcnt u l 16 = 0
          · exact y
          · rw [if_neg y] at this
            omega
        exact lcnt_none 16 (nz l hl) k' hk' z3
    refine ⟨uc, stI W 2689 (nI 2) (nI b), b, rfl, ?_, LkR.m WR (by omega) (by decide), WE.cg rfl (stI_ne (by decide)), by rw [stI_ne (by decide)]; exact W18, by rw [stI_ne (by decide), W88 2 (by decide), if_pos rfl], stI_same, Nat.le_refl _, by omega, fun k' h1 h2 => absurd (none k' h1) h2, fun k' h1 h2 => ⟨rfl, by rw [stI_ne (by decide), Wo _ (by decide) (by decide)]⟩, fun q _ _ => rfl, fun q hq => by rw [stI_ne (by omega), Wo q (by omega) (by omega)], fun i hi h2 => ⟨by rw [stI_ne (by decide), W88 i hi, if_neg h2], by rw [stI_at, if_neg (fun y => h2 (nI_inj (by omega) (by omega) y)), Wo _ (by decide) (by decide)]⟩, StB.cg rfl (by rw [stI_ne (by decide), Wo _ (by decide) (by decide)])⟩
    rw [bk_Md_layImports_51, if_neg (by decide), z1, if_pos (by decide)]
    unfold bk_Md_layImports_150
    rw [if_pos (by decide)]
    unfold bk_Md_layImports_159
    rw [bd1_eq Wm.2.2.2.2.2.1, W18]
    rfl
  · have u0 : 0 < used := by omega
    rw [if_neg (show ¬ nI used = (0 : Int32) from fun z => hu0 (nI_inj (b := 0) (by omega) (by decide) z)), show nI b + ((nI used + (1 : Int32)) * (8 : Int32)) = nI (b + 8 * used + 8) by rw [show (1 : Int32) = nI 1 from rfl, show (8 : Int32) = nI 8 from rfl, na_add, na_mul, na_add]; congr 1; omega]
    have lz : ∀ l, lcnt u l 16 ≤ 16 := fun l => lcnt_le 16
    have l0 := lz 0
    have l1 := lz 1
    have l2 := lz 2
    have l3 := lz 3
    obtain ⟨c1, m1, a1, b1, r1, q1, p1, s1, t1, x1, y1, w1⟩ := lk_lib (f := f) (c := f + 3999) (l := 0) (used := used) (pr := b) (s := b + 8 * used + 8) hb hL (by omega) u0 (by omega) (by omega) (by omega) WR WE W18
    obtain ⟨c2, m2, a2, b2, r2, q2, p2, s2, t2, x2, y2, w2⟩ := lk_lib (f := f) (c := f + 3998) (l := 1) (used := used) (pr := b + 8 * lbit u 0 16) (s := b + 8 * used + 8 + (4 * lcnt u 0 16 + 4 * lbit u 0 16)) hb hL (by omega) u0 (by omega) (by omega) (by omega) r1 q1 p1
    obtain ⟨c3, m3, a3, b3, r3, q3, p3, s3, t3, x3, y3, w3⟩ := lk_lib (f := f) (c := f + 3997) (l := 2) (used := used) (pr := b + 8 * lbit u 0 16 + 8 * lbit u 1 16) (s := b + 8 * used + 8 + (4 * lcnt u 0 16 + 4 * lbit u 0 16) + (4 * lcnt u 1 16 + 4 * lbit u 1 16)) hb hL (by omega) u0 (by omega) (by omega) (by omega) r2 q2 p2
    obtain ⟨c4, m4, a4, b4, r4, q4, p4, s4, t4, x4, y4, w4⟩ := lk_lib (f := f) (c := f + 3996) (l := 3) (used := used) (pr := b + 8 * lbit u 0 16 + 8 * lbit u 1 16 + 8 * lbit u 2 16) (s := b + 8 * used + 8 + (4 * lcnt u 0 16 + 4 * lbit u 0 16) + (4 * lcnt u 1 16 + 4 * lbit u 1 16) + (4 * lcnt u 2 16 + 4 * lbit u 2 16)) hb hL (by omega) u0 (by omega) (by omega) (by omega) r3 q3 p3
    generalize hS : b + 8 * used + 8 + (4 * lcnt u 0 16 + 4 * lbit u 0 16) + (4 * lcnt u 1 16 + 4 * lbit u 1 16) + (4 * lcnt u 2 16 + 4 * lbit u 2 16) + (4 * lcnt u 3 16 + 4 * lbit u 3 16) = S at a4 b4 w4
    have hm4 := LkR.sm hb r4
    have pl : ∀ k', k' < 16 → u.1 2432 (nI k') ≠ 0 → c4.1 576 (nI k') = m4.1 2434 (nI k') := fun k' hk' hz => by
      rcases hL k' hk' with ⟨-, z⟩ | ⟨l, hl, -, z3, -⟩
      · exact absurd z hz
      · have no : ∀ b, b < 4 → b ≠ l → ¬ u.1 2432 (nI k') = nI (b + 1) := fun b hb hne y => by
          have := nI_inj (by omega) (by omega) (z3.symm.trans y)
          omega
        rcases (show l = 0 ∨ l = 1 ∨ l = 2 ∨ l = 3 by omega) with e | e | e | e <;> subst e
        · rw [(t4 k' hk' (no 3 (by omega) (by omega))).1, (t4 k' hk' (no 3 (by omega) (by omega))).2, (t3 k' hk' (no 2 (by omega) (by omega))).1, (t3 k' hk' (no 2 (by omega) (by omega))).2, (t2 k' hk' (no 1 (by omega) (by omega))).1, (t2 k' hk' (no 1 (by omega) (by omega))).2]
          exact s1 k' hk' z3
        · rw [(t4 k' hk' (no 3 (by omega) (by omega))).1, (t4 k' hk' (no 3 (by omega) (by omega))).2, (t3 k' hk' (no 2 (by omega) (by omega))).1, (t3 k' hk' (no 2 (by omega) (by omega))).2]
          exact s2 k' hk' z3
        · rw [(t4 k' hk' (no 3 (by omega) (by omega))).1, (t4 k' hk' (no 3 (by omega) (by omega))).2]
          exact s3 k' hk' z3
        · exact s4 k' hk' z3
    have pk : ∀ k', k' < 16 → u.1 2432 (nI k') = 0 → c4.1 576 (nI k') = uc.1 576 (nI k') ∧ m4.1 2434 (nI k') = W.1 2434 (nI k') := fun k' hk' hz => by
      have no : ∀ b, b < 4 → ¬ u.1 2432 (nI k') = nI (b + 1) := fun b hb y => by
        have := nI_inj (a := 0) (by decide) (by omega) (hz.symm.trans y)
        omega
      rw [(t4 k' hk' (no 3 (by omega))).1, (t4 k' hk' (no 3 (by omega))).2, (t3 k' hk' (no 2 (by omega))).1, (t3 k' hk' (no 2 (by omega))).2, (t2 k' hk' (no 1 (by omega))).1, (t2 k' hk' (no 1 (by omega))).2, (t1 k' hk' (no 0 (by omega))).1, (t1 k' hk' (no 0 (by omega))).2]
      exact ⟨rfl, rfl⟩
    have rowM : ∀ q, q ≠ 2625 → q ≠ 2434 → q ≠ 2048 → m4.1 q = W.1 q := fun q h1 h2 h3 => by rw [y4 q h1 h2 h3, y3 q h1 h2 h3, y2 q h1 h2 h3, y1 q h1 h2 h3]
    refine ⟨c4, stI (stI m4 2048 18 (nI S)) 2689 (nI 2) (nI S), S, ?_, ?_, LkR.m (LkR.m18 r4) (by omega) (by decide), q4.cg rfl (by rw [stI_ne (by decide), stI_ne (by decide)]), by rw [stI_ne (by decide), stI_same], ?_, stI_same, by omega, by omega, fun k' h1 h2 => ?_, fun k' h1 h2 => ?_, fun q h1 h2 => by rw [x4 q h1 h2, x3 q h1 h2, x2 q h1 h2, x1 q h1 h2], fun q hq => ?_, fun i hi h2 => ?_, ?_⟩
    · refine Eq.trans a1 (Eq.trans a2 (Eq.trans a3 (Eq.trans a4 ?_)))
      rw [bk_Lk_writeImports_31, if_pos (by decide)]
    · refine Eq.trans b1 (Eq.trans b2 (Eq.trans b3 (Eq.trans b4 ?_)))
      rw [bk_Md_layImports_51, if_pos (by decide)]
      unfold bk_Md_layImports_150
      rw [if_neg (show ¬ nI used ≤ 0 from fun z => absurd ((na_le (b := 0) (by omega) (by decide)).mp z) (by omega))]
      unfold bk_Md_layImports_159
      rw [bd1_eq (show rdR al (stI m4 2048 18 (nI S)) 2048 21 42 = some 2689 from hm4.2.2.2.2.2.1), stI_same]
      rfl
    · rw [stI_ne (by decide), stI_ne (by decide), rowM _ (by decide) (by decide) (by decide), W88 2 (by decide), if_pos rfl]
    · rw [stI_ne (show (2434 : Nat) ≠ 2689 by decide), stI_ne (show (2434 : Nat) ≠ 2048 by decide)]
      exact pl k' h1 h2
    · rw [stI_ne (show (2434 : Nat) ≠ 2689 by decide), stI_ne (show (2434 : Nat) ≠ 2048 by decide), (pk k' h1 h2).1, (pk k' h1 h2).2, Wo _ (by decide) (by decide)]
      exact ⟨rfl, rfl⟩
    · rw [stI_ne (by omega), stI_ne (by omega), rowM q (by omega) (by omega) (by omega), Wo q (by omega) (by omega)]
    · refine ⟨?_, ?_⟩
      · rw [stI_ne (by decide), stI_ne (by decide), rowM _ (by decide) (by decide) (by decide), W88 i hi, if_neg h2]
      · rw [stI_at, if_neg (fun y => h2 (nI_inj (by omega) (by omega) y)), stI_ne (by decide), rowM _ (by decide) (by decide) (by decide), Wo _ (by decide) (by decide)]
    · refine StB.trans (b := c4) (b' := m4) ?_ (StB.cg rfl (by rw [stI_ne (by decide), stI_ne (by decide)]))
      refine StB.trans (b := uc) (b' := W) (StB.cg rfl (Wo _ (by decide) (by decide))) ?_
      exact (((w1.mono (by omega) (by omega)).trans (w2.mono (by omega) (by omega))).trans (w3.mono (by omega) (by omega))).trans (w4.mono (by omega) (by omega))
end

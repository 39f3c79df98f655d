/-! link: the references -/
def acnt (fl : Int32 → Int32) : Nat → Nat
  | 0 => 0
  | j + 1 => acnt fl j + if fl (nI j) = 0 then 0 else 1
theorem acnt_st {u : Mr} {p : Nat} {x : Int32} (hp : p < 2 ^ 31) : ∀ n, n < 2 ^ 31 → acnt ((stI u 768 (nI p) x).1 768) n ≤ acnt (u.1 768) n + (if p < n then 1 else 0)
  | 0, _ => Nat.zero_le _
  | n + 1, h => by
    have := acnt_st (u := u) (p := p) (x := x) hp n (by omega)
    rw [acnt, acnt, stI_at]
    by_cases e : n = p
    · rw [if_pos (show p < n + 1 by omega)]
      rw [if_neg (show ¬ p < n by omega)] at this
      have h1 : ∀ (q : Prop) [Decidable q], (if q then 0 else 1) ≤ 1 := fun q _ => by split <;> omega
      have := h1 ((if nI n = nI p then x else u.1 768 (nI n)) = 0)
      omega
    · rw [if_neg (fun z => e (nI_inj (by omega) hp z))]
      by_cases e2 : p < n
      · rw [if_pos e2] at this
        rw [if_pos (show p < n + 1 by omega)]
        omega
      · rw [if_neg e2] at this
        rw [if_neg (show ¬ p < n + 1 by omega)]
        omega
theorem acnt_zero {fl : Int32 → Int32} : ∀ n, (∀ j, j < n → fl (nI j) = 0) → acnt fl n = 0
  | 0, _ => rfl
  | n + 1, h => by rw [acnt, acnt_zero n (fun j hj => h j (by omega)), if_pos (h n (by omega))]
/-- a reference's place in the image -/
def PL (u : Mr) (pl : Nat → Nat → Nat) (o r : Nat) : Nat := pl (u.1 2368 (nI (8 * o + r))).toNatClampNeg o + (u.1 2369 (nI (8 * o + r))).toNatClampNeg
/-- what is known of the references and of the places of the parts -/
def RfB (u : Mr) (n : Nat → Nat) (pl : Nat → Nat → Nat) (R : Nat) : Prop := (∀ o, o < 4 → n o ≤ 8 ∧ u.1 (1152 + o) 2 = nI (n o) ∧ u.1 2241 (nI o) = nI (n o) ∧
  ∀ r, r < n o → ∃ p w t k, p < 2 ∧ t < 3 ∧ k < 16 ∧ w < 2 ^ 20 ∧ u.1 (1344 + (8 * o + r)) 0 = nI p ∧ u.1 (1344 + (8 * o + r)) 1 = nI w ∧ u.1 (1344 + (8 * o + r)) 2 = nI t ∧ u.1 (1344 + (8 * o + r)) 3 = nI k ∧ u.1 2368 (nI (8 * o + r)) = nI p ∧ u.1 2369 (nI (8 * o + r)) = nI w ∧ u.1 2370 (nI (8 * o + r)) = nI t ∧ u.1 2371 (nI (8 * o + r)) = nI k) ∧
  (∀ o r, o < 4 → r < n o → 64 ≤ PL u pl o r ∧ PL u pl o r + 4 ≤ R) ∧ (∀ o r o' r', o < 4 → r < n o → o' < 4 → r' < n o' → PL u pl o r = PL u pl o' r' → o = o' ∧ r = r') ∧ (∀ p o, p < 2 → o < 4 → pl p o < 2 ^ 20) ∧ R ≤ 896
section
variable {f F : Nat} {al : Nat → Bool} {u wB uc um : Mr}
/-- the flags, behind the references that S holds of -/
def Flg (u : Mr) (n : Nat → Nat) (pl : Nat → Nat → Nat) (S : Nat → Nat → Prop) (uc : Mr) : Prop := ∀ j, j < 896 → (uc.1 768 (nI j) = 0 ∨ uc.1 768 (nI j) = 1) ∧ (uc.1 768 (nI j) = 1 ↔ ∃ o r, o < 4 ∧ r < n o ∧ S o r ∧ PL u pl o r = j ∧ u.1 2370 (nI (8 * o + r)) = 0)
theorem lk_refs (hb : LkB al u wB) {n : Nat → Nat} {pl : Nat → Nat → Nat} {R : Nat} (hR : RfB u n pl R) (h : LkR u wB uc um) (hE : EQ (fun j => 64 ≤ j ∧ j < R) uc um)
    (hp : ∀ p o, p < 2 → o < 4 → uc.1 (704 + p) (nI o) = nI (pl p o) ∧ um.1 2113 (nI (2 * o + p)) = nI (pl p o)) (hk : ∀ k, k < 16 → Mnt u n k → uc.1 576 (nI k) = um.1 2434 (nI k)) :
    ∃ uc' um', fn_Lk_writeReferences (f + 4000) al uc 512 128 384 = some (uc', 0) ∧ fn_Md_resolve (f + 4000) al um 2048 = some (um', 0) ∧ LkR u wB uc' um' ∧ EQ (fun j => 64 ≤ j ∧ j < R) uc' um' ∧ Flg u n pl (fun _ _ => True) uc' ∧ acnt (uc'.1 768) 896 ≤ 32 ∧
      (∀ q, q ≠ 448 → q ≠ 768 → uc'.1 q = uc.1 q) ∧ (∀ q, q ≠ 2625 → um'.1 q = um.1 q) ∧ StB 64 R uc um uc' um' := by
  obtain ⟨hn, hpl, hinj, hpb, hR8⟩ := hR
  -- what holds behind a part of the references
  let ok : Mr → Mr → Nat → Nat → Prop := fun c m o r => LkR u wB c m ∧ EQ (fun j => 64 ≤ j ∧ j < R) c m ∧ Flg u n pl (fun o' r' => o' < o ∨ (o' = o ∧ r' < r)) c ∧ acnt (c.1 768) 896 ≤ 8 * o + r ∧ (∀ q, q ≠ 448 → q ≠ 768 → c.1 q = uc.1 q) ∧ (∀ q, q ≠ 2625 → m.1 q = um.1 q) ∧ StB 64 R uc um c m
  have inner : ∀ (kc : Mr → Nat → Nat → Nat → Int32 → Option (Mr × Int32)) (km : Mr → Nat → Int32 → Option (Mr × Int32)) o, o < 4 → ∀ d x r c m, d + r = n o → d < x → ok c m o r → ∃ c' m', bk_Lk_writeReferences_40 (f + 4000) al kc x c 512 128 384 (nI o) (1152 + o) (nI r) = kc c' 512 128 384 (nI (o + 1)) ∧ bk_Md_resolve_12 (f + 4000) al km x m 2048 (nI o) (nI (8 * o + r)) = km m' 2048 (nI (o + 1)) ∧ ok c' m' (o + 1) 0 := by
    intro kc km o ho d
    obtain ⟨n8, nc, nm, nr⟩ := hn o ho
    obtain ⟨n', b1, b2, b3, b4, b5⟩ := hb.1.2.2.2.2.1 o ho
    have en : n' = n o := nI_inj (by omega) (by omega) (b2.symm.trans nc)
    rw [en] at b4
    induction d with
    | zero =>
      intro x r c m hd hx h0
      obtain ⟨x, rfl⟩ : ∃ q, x = q + 1 := ⟨x - 1, by omega⟩
      obtain ⟨g1, g2, g3, g4, g5, g6, g7⟩ := h0
      refine ⟨c, m, ?_, ?_, g1, g2, fun j hj => ⟨(g3 j hj).1, (g3 j hj).2.trans ⟨fun ⟨o', r', z1, z2, z3, z4⟩ => ⟨o', r', z1, z2, ?_, z4⟩, fun ⟨o', r', z1, z2, z3, z4⟩ => ⟨o', r', z1, z2, ?_, z4⟩⟩⟩, by omega, g5, g6, g7⟩
      · rw [bk_Lk_writeReferences_40]
        unfold fn_Al_size bk_Al_size_0
        rw [bd2_s, LkR.cr g1 (show ¬ SC (1152 + o) by omega), nc, if_pos ((na_le (by omega) (by omega)).mpr (by omega)), show nI o + (1 : Int32) = nI (o + 1) from na_add _ 1]
      · rw [bk_Md_resolve_12, bd1_eq (LkR.sm hb g1).1.2.2.2.2.2.2, ck_eq (in_t ho (by decide)), LkR.mr hb g1 (show (2048 : Nat) < 2241 by decide) (by omega), nm, show ((8 : Int32) * nI o) + nI (n o) = nI (8 * o + n o) by rw [show (8 : Int32) = nI 8 from rfl, na_mul, na_add], if_pos ((na_le (by omega) (by omega)).mpr (by omega)), show nI o + (1 : Int32) = nI (o + 1) from na_add _ 1]
      · omega
      · rcases z3 with z3 | z3
        · by_cases e : o' = o
          · rw [e] at z2
            exact Or.inr ⟨e, by omega⟩
          · exact Or.inl (by omega)
        · omega
    | succ d ih =>
      intro x r c m hd hx h0
      obtain ⟨x, rfl⟩ : ∃ q, x = q + 1 := ⟨x - 1, by omega⟩
      obtain ⟨g1, g2, g3, g4, g5, g6, g7⟩ := h0
      obtain ⟨p, w, t, k, hp2, ht, hk16, hw, c0, c1, c2, c3, m0, m1, m2, m3⟩ := nr r (by omega)
      have hsc := LkR.sc hb g1
      have hsm := LkR.sm hb g1
      obtain ⟨l1, l2⟩ := hpl o r ho (by omega)
      have ePL : PL u pl o r = pl p o + w := by
        unfold PL
        rw [m0, m1, nI_clamp (by omega), nI_clamp (by omega)]
      have hpp := hpb p o hp2 ho
      generalize hq : pl p o + w = q at ePL
      rw [ePL] at l1 l2
      have cRow : ∀ z, ¬ SC z → c.1 z = u.1 z := fun z hz => LkR.cr g1 hz
      have mRow : ∀ z, 2048 < z → ¬ SM z → m.1 z = u.1 z := fun z h1 h2 => LkR.mr hb g1 h1 h2
      have sz : c.1 (1152 + o) 2 = nI (n o) := by rw [cRow _ (by omega)]; exact nc
      obtain ⟨y1, y2⟩ := e_get (F := f + 4000) (u := c) sz n8 (show r < n o by omega) (g1.1.rd.trans (b4 (by omega)).1) (g1.1.rd.trans ((b4 (by omega)).2 r (by omega)))
      have cP : c.1 (704 + p) (nI o) = nI (pl p o) := by rw [g5 _ (by omega) (by omega)]; exact (hp p o hp2 ho).1
      have mP : m.1 2113 (nI (2 * o + p)) = nI (pl p o) := by rw [g6 _ (by decide)]; exact (hp p o hp2 ho).2
      have kk : c.1 576 (nI k) = m.1 2434 (nI k) := by
        rw [g5 _ (by decide) (by decide), g6 _ (by decide)]
        exact hk k hk16 ⟨o, r, ho, by omega, m3⟩
      have ww : wc c 448 q = wm m 2625 q := wc_wm (fun j h1 h2 => g2 j ⟨by omega, by omega⟩ (by omega))
      -- what is added
      have key : ∃ v, fn_Lk_amountFor (f + 4000) al c 512 (1344 + (8 * o + r)) (nI q) = some (c, v) ∧ ((t = 0 → (wm m 2625 q + m.1 2434 (nI k)) + 4096 = wm m 2625 q + v) ∧ (t = 1 → ((wm m 2625 q + m.1 2434 (nI k)) - nI q) - 4 = wm m 2625 q + v) ∧ (t = 2 → wm m 2625 q + m.1 2434 (nI k) = wm m 2625 q + v)) := by
        unfold fn_Lk_amountFor bk_Lk_amountFor_0
        rw [bd1_eq hsc.2.2.2.2.2.1.1]
        unfold fn_Rf_name bk_Rf_name_0 fn_Rf_kind bk_Rf_kind_0
        rw [bd2_s, cRow (1344 + (8 * o + r)) (by omega), c3, ck_eq (in_t hk16 (by decide)), bd2_s, c2, kk, nI_toInt (by omega), if_neg (by omega)]
        rcases (show t = 0 ∨ t = 1 ∨ t = 2 by omega) with e | e | e <;> subst e
        · rw [if_pos (show nI 0 = (0 : Int32) from rfl)]
          refine ⟨_, rfl, fun _ => ?_, fun z => by omega, fun z => by omega⟩
          rw [Int32.add_assoc, Int32.add_comm (m.1 2434 (nI k))]
        · rw [if_neg (show ¬ nI 1 = (0 : Int32) by decide), if_pos (show nI 1 = (1 : Int32) from rfl)]
          refine ⟨_, rfl, fun z => by omega, fun _ => ?_, fun z => by omega⟩
          rw [Int32.sub_eq_add_neg, Int32.sub_eq_add_neg, Int32.sub_eq_add_neg, Int32.neg_add, Int32.sub_eq_add_neg, Int32.add_assoc, Int32.add_assoc]
        · rw [if_neg (show ¬ nI 2 = (0 : Int32) by decide), if_neg (show ¬ nI 2 = (1 : Int32) by decide)]
          exact ⟨_, rfl, fun z => by omega, fun z => by omega, fun _ => rfl⟩
      obtain ⟨v, a1, a2, a3, a4⟩ := key
      generalize hV : wm m 2625 q + v = vv at a2 a3 a4
      -- the memories behind it
      generalize hU : stI (wr c 448 q 4 (fun j => (sb vv j).toInt8.toInt32)) 768 (nI q) (if t = 0 then 1 else 0) = U
      generalize hM : wr m 2625 q 4 (fun j => sb vv j &&& 255) = M
      have eC : bk_Lk_writeReferences_40 (f + 4000) al kc (x + 1) c 512 128 384 (nI o) (1152 + o) (nI r) = bk_Lk_writeReferences_40 (f + 4000) al kc x U 512 128 384 (nI o) (1152 + o) (nI (r + 1)) := by
        rw [bk_Lk_writeReferences_40]
        unfold fn_Al_size bk_Al_size_0
        rw [bd2_s, sz, if_neg (fun z => absurd ((na_le (by omega) (by omega)).mp z) (by omega)), y1, bd2_s, ck_eq y2, bd1_eq hsc.2.2.2.2.2.1.2.1]
        unfold fn_Rf_part bk_Rf_part_0
        rw [bd2_s, cRow (1344 + (8 * o + r)) (by omega), c0, ck_eq (in_t hp2 (by decide)), bd1_eq (hsc.2.2.2.2.2.2.1 p hp2), ck_eq (in_t ho (by decide))]
        unfold fn_Rf_place bk_Rf_place_0
        rw [bd2_s, cRow (1344 + (8 * o + r)) (by omega), c1, cP, na_add, hq, a1, bd2_s]
        unfold fn_Im_addToWord bk_Im_addToWord_0
        rw [e_word (i := 384) (hsc.2.2.2.2.1 0 (by decide)) (by omega), bd2_s, show wc c (384 + 64) q = wm m 2625 q from ww, hV, e_setWord (i := 384) (hsc.2.2.2.2.1 0 (by decide)) (by omega), bd2_s, bd2_s, show (384 : Nat) + 64 = 448 from rfl, bd1_eq (show rdR al (wr c 448 q 4 (fun j => (sb vv j).toInt8.toInt32)) 512 2 12 = some 768 from hsc.2.2.2.2.2.1.2.2)]
        unfold fn_Rf_kind bk_Rf_kind_0 bk_Lk_writeReferences_115
        rw [bd2_s, wr_ne (show 1344 + (8 * o + r) ≠ 448 by omega), cRow (1344 + (8 * o + r)) (by omega), c2, show nI r + (1 : Int32) = nI (r + 1) from na_add _ 1, ck_eq (in_t (by omega) (by decide)), ck_eq (by decide), ck_eq (in_t (by omega) (by decide)), ck_eq (by decide)]
        by_cases t0 : t = 0
        · rw [if_pos (show nI t = (0 : Int32) by rw [t0]; rfl), ← hU, if_pos t0]
        · rw [if_neg (show ¬ nI t = (0 : Int32) from fun z => t0 (nI_inj (b := 0) (by omega) (by decide) z)), ← hU, if_neg t0]
      have eM : bk_Md_resolve_12 (f + 4000) al km (x + 1) m 2048 (nI o) (nI (8 * o + r)) = bk_Md_resolve_12 (f + 4000) al km x M 2048 (nI o) (nI (8 * o + (r + 1))) := by
        have w1 : e_wordIn (F := f + 4000) (al := al) (u := m) (p := q) 2625 (by omega) = e_wordIn (F := f + 4000) (al := al) (u := m) (p := q) 2625 (by omega) := rfl
        rw [bk_Md_resolve_12, bd1_eq hsm.1.2.2.2.2.2.2, ck_eq (in_t ho (by decide)), mRow 2241 (by decide) (by omega), nm, show ((8 : Int32) * nI o) + nI (n o) = nI (8 * o + n o) by rw [show (8 : Int32) = nI 8 from rfl, na_mul, na_add], if_neg (fun z => absurd ((na_le (by omega) (by omega)).mp z) (by omega)), bd1_eq hsm.2.2.2.2.2.2.1, bd1_eq hsm.2.1.1, ck_eq (in_t (by omega) (by decide)), mRow 2368 (by decide) (by omega), m0, show ((2 : Int32) * nI o) + nI p = nI (2 * o + p) by rw [show (2 : Int32) = nI 2 from rfl, na_mul, na_add], ck_eq (in_t (by omega) (by decide)), bd1_eq hsm.2.1.2.1, ck_eq (in_t (by omega) (by decide)), bd1_eq hsm.2.2.2.2.2.2.2.1, bd1_eq hsm.2.1.2.2.2.1, ck_eq (in_t (by omega) (by decide)), mRow 2371 (by decide) (by omega), m3, ck_eq (in_t hk16 (by decide)), bd1_eq hsm.2.2.2.1, mRow 2369 (by decide) (by omega), m1, mP, na_add, hq, e_wordIn 2625 (by omega), bd2_s, bd1_eq hsm.2.1.2.2.1, ck_eq (in_t (by omega) (by decide)), mRow 2370 (by decide) (by omega), m2, bd1_eq hsm.2.1.2.2.1, ck_eq (in_t (by omega) (by decide)), mRow 2370 (by decide) (by omega), m2]
        unfold bk_Md_resolve_117
        rw [show nI (8 * o + r) + (1 : Int32) = nI (8 * o + (r + 1)) from na_add _ 1]
        rcases (show t = 0 ∨ t = 1 ∨ t = 2 by omega) with e | e | e
        · rw [if_pos (show nI t = (0 : Int32) by rw [e]; rfl), a2 e, e_mword hsm (by omega), bd2_s, hM]
        · rw [if_neg (show ¬ nI t = (0 : Int32) by rw [e]; decide), if_pos (show nI t = (1 : Int32) by rw [e]; rfl), a3 e, e_mword hsm (by omega), bd2_s, hM]
        · rw [if_neg (show ¬ nI t = (0 : Int32) by rw [e]; decide), if_neg (show ¬ nI t = (1 : Int32) by rw [e]; decide), a4 e, e_mword hsm (by omega), bd2_s, hM]
      have r1 : LkR u wB U M := by
        rw [← hU, ← hM]
        exact LkR.mwr (LkR.c (LkR.cwr g1 (fun i => byt_b _)) (by omega) (by decide)) (by omega) (by decide)
      have r2 : EQ (fun j => 64 ≤ j ∧ j < R) U M := by
        rw [← hU, ← hM]
        refine EQ.cg (uc := wr c 448 q 4 (fun j => (sb vv j).toInt8.toInt32)) ?_ (stI_ne (by decide)) rfl
        exact (EQ.both g2 (fun i _ => by_and _)).mono (fun j _ hj => Or.inl hj)
      have U8 : ∀ j, j < 896 → U.1 768 (nI j) = if j = q then (if t = 0 then 1 else 0) else c.1 768 (nI j) := fun j hj => by
        rw [← hU, stI_at, wr_ne (show (768 : Nat) ≠ 448 by decide)]
        by_cases e : j = q
        · rw [if_pos (by rw [e]), if_pos e]
        · rw [if_neg (fun z => e (nI_inj (by omega) (by omega) z)), if_neg e]
      have t00 : (nI t = 0) ↔ t = 0 := ⟨fun z => nI_inj (b := 0) (by omega) (by decide) z, fun z => by rw [z]; rfl⟩
      have r3 : Flg u n pl (fun o' r' => o' < o ∨ (o' = o ∧ r' < r + 1)) U := fun j hj => by
        rw [U8 j hj]
        by_cases e : j = q
        · rw [if_pos e]
          have fl01 : (if t = 0 then (1 : Int32) else 0) = 0 ∨ (if t = 0 then (1 : Int32) else 0) = 1 := by
            by_cases t0 : t = 0
            · rw [if_pos t0]
              exact Or.inr rfl
            · rw [if_neg t0]
              exact Or.inl rfl
          refine ⟨fl01, ⟨fun z => ⟨o, r, ho, by omega, Or.inr ⟨rfl, by omega⟩, by rw [ePL, e], ?_⟩, fun ⟨o', r', z1, z2, z3, z4, z5⟩ => ?_⟩⟩
          · rw [m2, t00]
            by_cases t0 : t = 0
            · exact t0
            · rw [if_neg t0] at z
              exact absurd z (by decide)
          · obtain ⟨e1, e2⟩ := hinj o' r' o r z1 z2 ho (by omega) (by rw [z4, ePL, e])
            rw [e1, e2, m2, t00] at z5
            rw [if_pos z5]
        · rw [if_neg e]
          refine ⟨(g3 j hj).1, (g3 j hj).2.trans ⟨fun ⟨o', r', z1, z2, z3, z4⟩ => ⟨o', r', z1, z2, ?_, z4⟩, fun ⟨o', r', z1, z2, z3, z4, z5⟩ => ⟨o', r', z1, z2, ?_, z4, z5⟩⟩⟩
          · omega
          · have : ¬ (o' = o ∧ r' = r) := fun ⟨e1, e2⟩ => by
              rw [e1, e2, ePL] at z4
              exact e z4.symm
            omega
      have r4 : acnt (U.1 768) 896 ≤ 8 * o + (r + 1) := by
        have := acnt_st (u := wr c 448 q 4 (fun j => (sb vv j).toInt8.toInt32)) (p := q) (x := if t = 0 then 1 else 0) (by omega) 896 (by decide)
        rw [hU, wr_ne (show (768 : Nat) ≠ 448 by decide)] at this
        split at this <;> omega
      have r7 : StB 64 R uc um U M := by
        refine g7.trans ?_
        rw [← hU, ← hM]
        refine StB.trans (b := wr c 448 q 4 (fun j => (sb vv j).toInt8.toInt32)) (b' := wr m 2625 q 4 (fun j => sb vv j &&& 255)) (StB.trans (StB.c l1 l2) (StB.m l1 l2)) (StB.cg (stI_ne (by decide)) rfl)
      obtain ⟨c', m', s1, s2, s3⟩ := ih x (r + 1) U M (by omega) (by omega) ⟨r1, r2, r3, r4, fun z h1 h2 => by rw [← hU, stI_ne h2, wr_ne h1]; exact g5 z h1 h2, fun z h1 => by rw [← hM, wr_ne h1]; exact g6 z h1, r7⟩
      exact ⟨c', m', eC.trans s1, eM.trans s2, s3⟩
  have outer : ∀ o x c m, o < 4 → ok c m o 0 → ∃ c' m', bk_Lk_writeReferences_24 (f + 4000) al (x + 1) c 512 128 384 (nI o) = bk_Lk_writeReferences_24 (f + 4000) al x c' 512 128 384 (nI (o + 1)) ∧ bk_Md_resolve_2 (f + 4000) al (x + 1) m 2048 (nI o) = bk_Md_resolve_2 (f + 4000) al x m' 2048 (nI (o + 1)) ∧ ok c' m' (o + 1) 0 := fun o x c m ho h0 => by
    have n8 := (hn o ho).1
    have hsc := LkR.sc hb h0.1
    obtain ⟨c', m', s1, s2, s3⟩ := inner (bk_Lk_writeReferences_24 (f + 4000) al x) (bk_Md_resolve_2 (f + 4000) al x) o ho (n o) (f + 4000) 0 c m (by omega) (by omega) h0
    have e4 : ¬ (4 : Int32) ≤ nI o := fun z => absurd ((na_le (a := 4) (by decide) (by omega)).mp z) (by omega)
    refine ⟨c', m', ?_, ?_, s3⟩
    · rw [bk_Lk_writeReferences_24, if_neg e4, ck_eq (in_t ho (by decide)), bd1_eq (hsc.2.1 o ho), bd1_eq (hsc.2.2.2.2.2.2.2.1 o ho).2]
      exact s1
    · rw [bk_Md_resolve_2, if_neg e4, show (8 : Int32) * nI o = nI (8 * o + 0) by rw [show (8 : Int32) = nI 8 from rfl, na_mul, Nat.add_zero]]
      exact s2
  have clearL : ∀ d x j, d + j = 896 → d < x → bk_Lk_writeReferences_2 (f + 4000) al x (wr uc 768 0 j (fun _ => 0)) 512 128 384 (nI j) = bk_Lk_writeReferences_24 (f + 4000) al (f + 4000) (wr uc 768 0 896 (fun _ => 0)) 512 128 384 0 := by
    intro d
    induction d with
    | zero =>
      intro x j hj hx
      obtain ⟨x, rfl⟩ : ∃ q, x = q + 1 := ⟨x - 1, by omega⟩
      have e : j = 896 := by omega
      rw [e, bk_Lk_writeReferences_2, if_pos (by decide)]
    | succ d ih =>
      intro x j hj hx
      obtain ⟨x, rfl⟩ : ∃ q, x = q + 1 := ⟨x - 1, by omega⟩
      have hs : Sc al (wr uc 768 0 j (fun _ => 0)) := (LkR.sc hb h).any rfl
      have e := wr_s (u := uc) (k := 768) (p := 0) (n := j) (g := fun _ => 0) (by omega)
      rw [Nat.zero_add] at e
      rw [bk_Lk_writeReferences_2, if_neg (show ¬ (896 : Int32) ≤ nI j from fun z => absurd ((na_le (a := 896) (by decide) (by omega)).mp z) (by omega)), bd1_eq hs.2.2.2.2.2.1.2.2, ck_eq (in_t (by omega) (by decide)), e, show nI j + (1 : Int32) = nI (j + 1) from na_add _ 1]
      exact ih x (j + 1) (by omega) (by omega)
  have cl := clearL 896 (f + 4000) 0 (by omega) (by omega)
  rw [wr_0] at cl
  have z8 : ∀ j, j < 896 → (wr uc 768 0 896 (fun _ => 0)).1 768 (nI j) = 0 := fun j hj => by rw [wr_at (by omega), if_pos (by omega)]
  have start : ok (wr uc 768 0 896 (fun _ => 0)) um 0 0 := by
    refine ⟨⟨h.1.trans (wr_fr (by omega)), h.2.1, h.2.2.1, h.2.2.2.1, by rw [wr_ne (by decide)]; exact h.2.2.2.2⟩, hE.cg (wr_ne (by decide)) rfl, fun j hj => ?_, ?_, fun q h1 h2 => wr_ne h2, fun q _ => rfl, StB.cg (wr_ne (by decide)) rfl⟩
    · rw [z8 j hj]
      exact ⟨Or.inl rfl, ⟨fun z => absurd z (by decide), fun ⟨o', r', z1, z2, z3, _⟩ => by omega⟩⟩
    · rw [acnt_zero 896 (fun j hj => z8 j hj)]
      omega
  obtain ⟨c1, m1, a1, b1, g1⟩ := outer 0 (f + 3999) _ _ (by omega) start
  obtain ⟨c2, m2, a2, b2, g2⟩ := outer 1 (f + 3998) _ _ (by omega) g1
  obtain ⟨c3, m3, a3, b3, g3⟩ := outer 2 (f + 3997) _ _ (by omega) g2
  obtain ⟨c4, m4, a4, b4, g4⟩ := outer 3 (f + 3996) _ _ (by omega) g3
  obtain ⟨k1, k2, k3, k4, k5, k6, k7⟩ := g4
  refine ⟨c4, m4, ?_, ?_, k1, k2, fun j hj => ⟨(k3 j hj).1, (k3 j hj).2.trans ⟨fun ⟨o', r', z1, z2, z3, z4⟩ => ⟨o', r', z1, z2, trivial, z4⟩, fun ⟨o', r', z1, z2, z3, z4⟩ => ⟨o', r', z1, z2, Or.inl z1, z4⟩⟩⟩, by omega, k5, k6, k7⟩
  · unfold fn_Lk_writeReferences bk_Lk_writeReferences_0
    refine Eq.trans cl (Eq.trans a1 (Eq.trans a2 (Eq.trans a3 (Eq.trans a4 ?_))))
    rw [bk_Lk_writeReferences_24, if_pos (by decide)]
  · unfold fn_Md_resolve bk_Md_resolve_0
    refine Eq.trans b1 (Eq.trans b2 (Eq.trans b3 (Eq.trans b4 ?_)))
    rw [bk_Md_resolve_2, if_pos (by decide)]
end

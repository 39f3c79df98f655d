/-! link: the header -/
def HW (uc : Mr) (p : Nat) (v : Int32) : Prop := ∀ j, j < 4 → uc.1 448 (nI (p + j)) &&& 255 = sb v j &&& 255
def SecC (uc : Mr) (i b e : Nat) : Prop := HW uc (24 + 8 * i) (nI b) ∧ HW uc (28 + 8 * i) (nI e - nI b)
def Z24 (uc : Mr) : Prop := ∀ j, j < 24 → uc.1 448 (nI j) &&& 255 = 0
section
variable {f F : Nat} {al : Nat → Bool} {u wB uc um : Mr}
theorem HW.keep {uc' : Mr} {p : Nat} {v : Int32} (h : HW uc p v) (hk : ∀ j, p ≤ j → j < p + 4 → uc'.1 448 (nI j) = uc.1 448 (nI j)) : HW uc' p v := fun j hj => by
  rw [hk (p + j) (by omega) (by omega)]
  exact h j hj
theorem SecC.keep {uc' : Mr} {i b e : Nat} (h : SecC uc i b e) (hi : i < 5) (hk : ∀ j, j < 64 → 24 ≤ j → uc'.1 448 (nI j) = uc.1 448 (nI j)) : SecC uc' i b e := ⟨h.1.keep (fun j h1 h2 => hk j (by omega) (by omega)), h.2.keep (fun j h1 h2 => hk j (by omega) (by omega))⟩
theorem HW.set {p : Nat} {v : Int32} (hp : p + 4 ≤ 896) : HW (wr uc 448 p 4 (fun j => (sb v j).toInt8.toInt32)) p v := fun j hj => by
  rw [wr_at (by omega), if_pos (by omega), by_and, show p + j - p = j by omega]
theorem lk_end {i b e : Nat} (hb : LkB al u wB) (h : LkR u wB uc um) (hE : EQ (fun j => 64 ≤ j) uc um) (hi : i < 5) (he : e ≤ 896) : ∃ uc', fn_Lk_endSection (f + 4000) al uc 512 384 (nI i) (nI b) (nI e) = some (uc', nI (upn 64 e)) ∧ LkR u wB uc' um ∧ EQ (fun j => 64 ≤ j) uc' um ∧ (∀ q, q ≠ 448 → uc'.1 q = uc.1 q) ∧ (∀ j, 64 ≤ j → j < 896 → uc'.1 448 (nI j) = uc.1 448 (nI j)) ∧ SecC uc' i b e ∧ (∀ i' b' e', i' < 5 → i' ≠ i → SecC uc i' b' e' → SecC uc' i' b' e') ∧ (Z24 uc → Z24 uc') := by
  have hsc := LkR.sc hb h
  have hC1 := e_setWord (f := f) (i := 384) (p := 24 + 8 * i) (v := nI b) (hsc.2.2.2.2.1 0 (by decide)) (by omega)
  have hC2 := e_setWord (f := f) (i := 384) (p := 28 + 8 * i) (v := nI e - nI b) (show rdR al (wr uc 448 (24 + 8 * i) 4 (fun j => (sb (nI b) j).toInt8.toInt32)) 384 0 7 = some (384 + 64) from hsc.2.2.2.2.1 0 (by decide)) (by omega)
  rw [show (384 : Nat) + 64 = 448 from rfl] at hC1 hC2
  generalize hU1 : wr uc 448 (24 + 8 * i) 4 (fun j => (sb (nI b) j).toInt8.toInt32) = U1 at hC1 hC2
  generalize hU2 : wr U1 448 (28 + 8 * i) 4 (fun j => (sb (nI e - nI b) j).toInt8.toInt32) = U2 at hC2
  have k1 : ∀ j, j < 896 → ¬ (24 + 8 * i ≤ j ∧ j < 24 + 8 * i + 4) → U1.1 448 (nI j) = uc.1 448 (nI j) := fun j hj hn => by rw [← hU1, wr_at (by omega), if_neg hn]
  have k2 : ∀ j, j < 896 → ¬ (28 + 8 * i ≤ j ∧ j < 28 + 8 * i + 4) → U2.1 448 (nI j) = U1.1 448 (nI j) := fun j hj hn => by rw [← hU2, wr_at (by omega), if_neg hn]
  have kk : ∀ j, j < 896 → ¬ (24 + 8 * i ≤ j ∧ j < 32 + 8 * i) → U2.1 448 (nI j) = uc.1 448 (nI j) := fun j hj hn => by rw [k2 j hj (by omega), k1 j hj (by omega)]
  refine ⟨U2, ?_, ?_, fun j hj h8 => by rw [kk j h8 (by omega)]; exact hE j hj h8, fun q hq => by rw [← hU2, wr_ne hq, ← hU1, wr_ne hq], fun j h1 h2 => kk j h2 (by omega), ⟨?_, ?_⟩, fun i' b' e' h1 h2 h3 => ⟨h3.1.keep (fun j z1 z2 => kk j (by omega) (by omega)), h3.2.keep (fun j z1 z2 => kk j (by omega) (by omega))⟩, fun z j hj => by rw [kk j (by omega) (by omega)]; exact z j hj⟩
  · unfold fn_Lk_endSection bk_Lk_endSection_0 fn_Im_setSection bk_Im_setSection_0
    have e24 : (24 : Int32) + nI i * (8 : Int32) = nI (24 + 8 * i) := by
      rw [show (8 : Int32) = nI 8 from rfl, na_mul, Nat.mul_comm i 8]
      exact na_add 24 _
    rw [e24, show nI (24 + 8 * i) + (4 : Int32) = nI (28 + 8 * i) by rw [show (4 : Int32) = nI 4 from rfl, na_add]; congr 1; omega, hC1, bd2_s, hC2, bd2_s, bd2_s, show fn_Fg_roundUp (f + 4000) al U2 (nI e) (64 : Int32) = some (U2, nI (upn 64 e)) from (e_up (um := U2) (a := 64) (by decide) (by decide) (by omega)).1, bd2_s]
  · rw [← hU2, ← hU1]
    exact LkR.cwr (LkR.cwr h (fun i => byt_b _)) (fun i => byt_b _)
  · have : HW U1 (24 + 8 * i) (nI b) := by
      rw [← hU1]
      exact HW.set (by omega)
    exact this.keep (fun j z1 z2 => k2 j (by omega) (by omega))
  · rw [← hU2]
    exact HW.set (by omega)
theorem EQ.hw {P : Nat → Prop} {p : Nat} {v : Int32} (h : EQ P uc um) (hw : HW uc p v) : EQ (fun j => P j ∨ (p ≤ j ∧ j < p + 4)) uc (wr um 2625 p 4 (fun j => sb v j &&& 255)) := by
  intro j hj h8
  rw [wr_at (by omega)]
  by_cases c : p ≤ j ∧ j < p + 4
  · rw [if_pos c]
    have := hw (j - p) (by omega)
    rw [show p + (j - p) = j by omega] at this
    exact this
  · rw [if_neg c]
    exact h j (hj.resolve_right c) h8
theorem mz_tab : ∀ j : Fin 4, sb 23117 j.val &&& 255 = if j.val = 0 then 77 else if j.val = 1 then 90 else 0 := by decide +kernel
theorem lk_header (hb : LkB al u wB) {d : Nat → Nat} {N : Nat} {st en : Nat → Nat} (h : LkR u wB uc um) (hE : EQ (fun j => 64 ≤ j) uc um) (hN : N ≤ 14) (hsz : uc.1 384 1 = nI (64 * N)) (h18 : um.1 2048 18 = nI (64 * N)) (hz : Z24 uc) (hzm : ∀ j, j < 64 → um.1 2625 (nI j) = 0)
    (hsec : ∀ i, i < 5 → SecC uc i (st i) (en i) ∧ um.1 2688 (nI i) = nI (st i) ∧ um.1 2689 (nI i) = nI (en i)) (hd : ∀ o, o < 4 → d o ≤ 6 ∧ u.1 2240 (nI o) = nI (d o)) (h0 : u.1 (1280 + 0) 0 = nI (dtot u d 0)) (hk0 : dtot u d 0 ≠ 0 → uc.1 576 (nI 0) = um.1 2434 (nI 0)) :
    ∃ uc' um', fn_Lk_writeHeader (f + 4000) al uc 512 192 384 = some (uc', 0) ∧ fn_Md_header (f + 4000) al um 2048 = some (um', 0) ∧ LkR u wB uc' um' ∧ EQ (fun _ => True) uc' um' ∧ (∀ q, q ≠ 448 → uc'.1 q = uc.1 q) ∧ (∀ q, q ≠ 2625 → um'.1 q = um.1 q) := by
  have hd24 : dtot u d 0 ≤ 24 := dcnt_le6 (fun o ho => (hd o ho).1)
  -- one word in both
  have both : ∀ (c m : Mr) (P : Nat → Prop) (p : Nat) (v : Int32), p + 4 ≤ 896 → LkR u wB c m → EQ P c m → fn_Im_setWord (f + 4000) al c 384 (nI p) v = some (wr c 448 p 4 (fun j => (sb v j).toInt8.toInt32), 0) ∧ fn_Md_word (f + 4000) al m 2048 (nI p) v = some (wr m 2625 p 4 (fun j => sb v j &&& 255), 0) ∧ LkR u wB (wr c 448 p 4 (fun j => (sb v j).toInt8.toInt32)) (wr m 2625 p 4 (fun j => sb v j &&& 255)) ∧ EQ (fun j => P j ∨ (p ≤ j ∧ j < p + 4)) (wr c 448 p 4 (fun j => (sb v j).toInt8.toInt32)) (wr m 2625 p 4 (fun j => sb v j &&& 255)) := fun c m P p v hp hr he =>
    ⟨e_setWord (i := 384) ((LkR.sc hb hr).2.2.2.2.1 0 (by decide)) hp, e_mword (LkR.sm hb hr) (by omega), LkR.mwr (LkR.cwr hr (fun i => byt_b _)) (by omega) (by decide), EQ.both he (fun i _ => by_and _)⟩
  have hsc := LkR.sc hb h
  have hsm := LkR.sm hb h
  -- the magic
  have hC0 := e_setWord (f := f) (i := 384) (p := 0) (v := 23117) (hsc.2.2.2.2.1 0 (by decide)) (by decide)
  rw [show (384 : Nat) + 64 = 448 from rfl] at hC0
  generalize hU0 : wr uc 448 0 4 (fun j => (sb 23117 j).toInt8.toInt32) = U0 at hC0
  generalize hV0 : stI (stI um 2625 0 77) 2625 1 90 = V0
  have R0 : LkR u wB U0 V0 := by
    rw [← hU0, ← hV0]
    exact LkR.m (LkR.m (LkR.cwr h (fun i => byt_b _)) (by omega) (by decide)) (by omega) (by decide)
  have V0b : ∀ j, j < 896 → V0.1 2625 (nI j) = if j = 1 then 90 else if j = 0 then 77 else um.1 2625 (nI j) := fun j hj => by
    rw [← hV0, stI_at, stI_at]
    by_cases e1 : j = 1
    · rw [if_pos (by rw [e1]; rfl), if_pos e1]
    · rw [if_neg (show ¬ nI j = (1 : Int32) from fun z => e1 (nI_inj (b := 1) (by omega) (by decide) z)), if_neg e1]
      by_cases e0 : j = 0
      · rw [if_pos (by rw [e0]; rfl), if_pos e0]
      · rw [if_neg (show ¬ nI j = (0 : Int32) from fun z => e0 (nI_inj (b := 0) (by omega) (by decide) z)), if_neg e0]
  have U0b : ∀ j, j < 896 → U0.1 448 (nI j) = if j < 4 then (sb 23117 j).toInt8.toInt32 else uc.1 448 (nI j) := fun j hj => by
    rw [← hU0, wr_at (by omega)]
    by_cases c : j < 4
    · rw [if_pos (by omega), if_pos c, Nat.sub_zero]
    · rw [if_neg (by omega), if_neg c]
  have U0o : ∀ q, q ≠ 448 → U0.1 q = uc.1 q := fun q hq => by rw [← hU0, wr_ne hq]
  have V0o : ∀ q, q ≠ 2625 → V0.1 q = um.1 q := fun q hq => by rw [← hV0, stI_ne hq, stI_ne hq]
  have E0 : EQ (fun j => 64 ≤ j ∨ j < 4 ∨ (20 ≤ j ∧ j < 24)) U0 V0 := by
    intro j hj h8
    rw [U0b j h8, V0b j h8]
    by_cases c : j < 4
    · rw [if_pos c, by_and, mz_tab ⟨j, c⟩]
      simp only []
      by_cases e1 : j = 1
      · rw [if_pos e1, if_neg (by omega), if_pos e1]
      · rw [if_neg e1, if_neg e1]
        by_cases e0 : j = 0
        · rw [if_pos e0, if_pos e0]
        · rw [if_neg e0, if_neg e0]
          exact (hzm j (by omega)).symm
    · rw [if_neg c, if_neg (by omega), if_neg (by omega)]
      by_cases c2 : 64 ≤ j
      · exact hE j c2 h8
      · rw [hzm j (by omega)]
        exact hz j (by omega)
  obtain ⟨a1, b1, R1, E1⟩ := both U0 V0 _ 4 5 (by decide) R0 E0
  generalize hU1 : wr U0 448 4 4 (fun j => (sb 5 j).toInt8.toInt32) = U1 at a1 R1 E1
  generalize hV1 : wr V0 2625 4 4 (fun j => sb 5 j &&& 255) = V1 at b1 R1 E1
  obtain ⟨a2, b2, R2, E2⟩ := both U1 V1 _ 8 4096 (by decide) R1 E1
  generalize hU2 : wr U1 448 8 4 (fun j => (sb 4096 j).toInt8.toInt32) = U2 at a2 R2 E2
  generalize hV2 : wr V1 2625 8 4 (fun j => sb 4096 j &&& 255) = V2 at b2 R2 E2
  have U2o : ∀ q, q ≠ 448 → U2.1 q = uc.1 q := fun q hq => by rw [← hU2, wr_ne hq, ← hU1, wr_ne hq, U0o q hq]
  have V2o : ∀ q, q ≠ 2625 → V2.1 q = um.1 q := fun q hq => by rw [← hV2, wr_ne hq, ← hV1, wr_ne hq, V0o q hq]
  obtain ⟨a3, b3, R3, E3⟩ := both U2 V2 _ 12 (nI (64 * N)) (by decide) R2 E2
  generalize hU3 : wr U2 448 12 4 (fun j => (sb (nI (64 * N)) j).toInt8.toInt32) = U3 at a3 R3 E3
  generalize hV3 : wr V2 2625 12 4 (fun j => sb (nI (64 * N)) j &&& 255) = V3 at b3 R3 E3
  have U3o : ∀ q, q ≠ 448 → U3.1 q = uc.1 q := fun q hq => by rw [← hU3, wr_ne hq, U2o q hq]
  have V3o : ∀ q, q ≠ 2625 → V3.1 q = um.1 q := fun q hq => by rw [← hV3, wr_ne hq, V2o q hq]
  -- the entry
  generalize hent : (if dtot u d 0 = 0 then (0 : Int32) else um.1 2434 (nI 0)) = ent
  obtain ⟨a4, b4, R4, E4⟩ := both U3 V3 _ 16 ent (by decide) R3 E3
  generalize hU4 : wr U3 448 16 4 (fun j => (sb ent j).toInt8.toInt32) = U4 at a4 R4 E4
  generalize hV4 : wr V3 2625 16 4 (fun j => sb ent j &&& 255) = V4 at b4 R4 E4
  have U4o : ∀ q, q ≠ 448 → U4.1 q = uc.1 q := fun q hq => by rw [← hU4, wr_ne hq, U3o q hq]
  have V4o : ∀ q, q ≠ 2625 → V4.1 q = um.1 q := fun q hq => by rw [← hV4, wr_ne hq, V3o q hq]
  have U4b : ∀ j, j < 896 → 24 ≤ j → U4.1 448 (nI j) = uc.1 448 (nI j) := fun j hj h2 => by
    rw [← hU4, wr_at (by omega), if_neg (by omega), ← hU3, wr_at (by omega), if_neg (by omega), ← hU2, wr_at (by omega), if_neg (by omega), ← hU1, wr_at (by omega), if_neg (by omega), U0b j hj, if_neg (by omega)]
  have E4' : EQ (fun j => 64 ≤ j ∨ j < 24) U4 V4 := E4.mono (fun j h8 hj => by omega)
  have S4 : ∀ i, i < 5 → SecC U4 i (st i) (en i) := fun i hi => (hsec i hi).1.keep hi (fun j h1 h2 => U4b j (by omega) h2)
  -- the sections, in the reference alone
  have secs : ∀ k c i m, k + i = 5 → k < c → LkR u wB U4 m → EQ (fun j => 64 ≤ j ∨ j < 24 + 8 * i) U4 m → (∀ q, q ≠ 2625 → m.1 q = um.1 q) → ∃ m', bk_Md_header_67 (f + 4000) al c m 2048 (nI i) = bk_Md_header_67 (f + 4000) al (c - k) m' 2048 (nI 5) ∧ LkR u wB U4 m' ∧ EQ (fun _ => True) U4 m' ∧ (∀ q, q ≠ 2625 → m'.1 q = um.1 q) := by
    intro k
    induction k with
    | zero =>
      intro c i m hk hc hr he ho
      have e : i = 5 := by omega
      rw [e] at he ⊢
      exact ⟨m, rfl, hr, he.mono (fun j h8 _ => by omega), ho⟩
    | succ k ih =>
      intro c i m hk hc hr he ho
      obtain ⟨c, rfl⟩ : ∃ q, c = q + 1 := ⟨c - 1, by omega⟩
      have hi : i < 5 := by omega
      have ms := LkR.sm hb hr
      obtain ⟨s1, s2, s3⟩ := hsec i hi
      have w1 := e_mword (f := f) (p := 24 + 8 * i) (v := nI (st i)) ms (by omega)
      have hr1 : LkR u wB U4 (wr m 2625 (24 + 8 * i) 4 (fun j => sb (nI (st i)) j &&& 255)) := LkR.mwr hr (by omega) (by decide)
      have he1 := EQ.hw he (S4 i hi).1
      have w2 := e_mword (f := f) (p := 28 + 8 * i) (v := nI (en i) - nI (st i)) (LkR.sm hb hr1) (by omega)
      have hr2 := LkR.mwr (k := 2625) (p := 28 + 8 * i) (n := 4) (g := fun j => sb (nI (en i) - nI (st i)) j &&& 255) hr1 (by omega) (by decide)
      have he2 := EQ.hw he1 (S4 i hi).2
      obtain ⟨m', q1, q2, q3, q4⟩ := ih c (i + 1) _ (by omega) (by omega) hr2 (he2.mono (fun j h8 hj => by omega)) (fun q hq => by rw [wr_ne hq, wr_ne hq]; exact ho q hq)
      refine ⟨m', ?_, q2, q3, q4⟩
      rw [show c + 1 - (k + 1) = c - k by omega, ← q1, bk_Md_header_67, if_neg (show ¬ (5 : Int32) ≤ nI i from fun z => absurd ((na_le (a := 5) (by decide) (by omega)).mp z) (by omega)), bd1_eq ms.2.2.2.2.1, ck_eq (in_t hi (by decide)), ho 2688 (by decide), s2, show (24 : Int32) + (8 : Int32) * nI i = nI (24 + 8 * i) by rw [show (8 : Int32) = nI 8 from rfl, na_mul]; exact na_add 24 _, w1, bd2_s, bd1_eq (LkR.sm hb hr1).2.2.2.2.2.1, ck_eq (in_t hi (by decide)), bd1_eq (LkR.sm hb hr1).2.2.2.2.1, ck_eq (in_t hi (by decide)), wr_ne (show (2689 : Nat) ≠ 2625 by decide), wr_ne (show (2688 : Nat) ≠ 2625 by decide), ho 2688 (by decide), ho 2689 (by decide), s2, s3, show (28 : Int32) + (8 : Int32) * nI i = nI (28 + 8 * i) by rw [show (8 : Int32) = nI 8 from rfl, na_mul]; exact na_add 28 _, w2, bd2_s, show nI i + (1 : Int32) = nI (i + 1) from na_add _ 1]
  obtain ⟨V5, q1, R5, E5, V5o⟩ := secs 5 (f + 4000) 0 V4 (by omega) (by omega) R4 (E4'.mono (fun j h8 hj => by omega)) V4o
  -- the sum
  obtain ⟨s, hs1, hs2⟩ := e_sum (f := f) (i := 384) (r := 2625) (w := V5) (x0 := 2048) ((LkR.sc hb R5).2.2.2.2.1 0 (by decide)) hN (by rw [U4o _ (by decide)]; exact hsz) (fun j hj => E5 j trivial (by omega))
  obtain ⟨a6, b6, R6, E6⟩ := both U4 V5 _ 20 s (by decide) R5 E5
  refine ⟨_, _, ?_, ?_, R6, E6.mono (fun j _ _ => Or.inl trivial), fun q hq => by rw [wr_ne hq, U4o q hq], fun q hq => by rw [wr_ne hq, V5o q hq]⟩
  · unfold fn_Lk_writeHeader bk_Lk_writeHeader_0
    have u3s := LkR.sc hb R3
    rw [show fn_Im_setWord (f + 4000) al uc 384 (0 : Int32) (23117 : Int32) = some (U0, 0) from hC0, bd2_s, show fn_Im_setWord (f + 4000) al U0 384 (4 : Int32) (5 : Int32) = some (U1, 0) from a1, bd2_s, show fn_Im_setWord (f + 4000) al U1 384 (8 : Int32) (4096 : Int32) = some (U2, 0) from a2, bd2_s, U2o 384 (by decide), hsz, show fn_Im_setWord (f + 4000) al U2 384 (12 : Int32) (nI (64 * N)) = some (U3, 0) from a3, bd2_s, bd1_eq (show rdR al U3 192 (0 : Int32) 20 = some (1280 + 0) from u3s.2.2.1 0 (by decide))]
    unfold fn_Nm_isDefined bk_Nm_isDefined_0
    rw [U3o (1280 + 0) (by decide), LkR.cr h (show ¬ SC (1280 + 0) by decide), h0]
    unfold bk_Lk_writeHeader_55
    have fin : (bd2 (fn_Im_setWord (f + 4000) al U3 384 (16 : Int32) ent) fun u1 v1 => (bd2 (fn_Im_checksum (f + 4000) al u1 384) fun u2 v2 => (bd2 (fn_Im_setWord (f + 4000) al u2 384 (20 : Int32) v2) fun u3 v3 => (some (u3, (0 : Int32)))))) = some (wr U4 448 20 4 (fun j => (sb s j).toInt8.toInt32), 0) := by
      rw [show fn_Im_setWord (f + 4000) al U3 384 (16 : Int32) ent = some (U4, 0) from a4, bd2_s, hs1, bd2_s, show fn_Im_setWord (f + 4000) al U4 384 (20 : Int32) s = _ from a6, bd2_s]
    by_cases d0 : dtot u d 0 = 0
    · rw [if_pos (show nI (dtot u d 0) ≤ 0 by rw [d0]; decide), bd2_s, if_pos rfl]
      rw [if_pos d0] at hent
      rw [← hent] at fin
      exact fin
    · rw [if_neg (show ¬ nI (dtot u d 0) ≤ (0 : Int32) from fun z => absurd ((na_le (b := 0) (by omega) (by decide)).mp z) (by omega)), bd2_s, if_neg (show ¬ (1 : Int32) = 0 by decide), bd1_eq u3s.2.2.2.2.2.1.1, U3o 576 (by decide)]
      rw [if_neg d0] at hent
      rw [show uc.1 576 (0 : Int32) = ent by rw [← hent]; exact hk0 d0]
      exact fin
  · unfold fn_Md_header bk_Md_header_0
    have v3s := LkR.sm hb R3
    have edef : fn_Md_defined (f + 4000) al V3 2048 (0 : Int32) = some (V3, nI (dtot u d 0)) := by
      have := e_defined (f := f) (d := d) (k := 0) (um := V3) v3s (fun o ho => ⟨(hd o ho).1, by rw [V3o _ (by decide), LkR.mr hb h (by decide) (by omega)]; exact (hd o ho).2⟩)
      refine Eq.trans this ?_
      unfold dtot
      have eq := dcnt_fr (u := u) (v := V3) (by rw [V3o _ (by decide)]; exact LkR.mr hb h (by decide) (by omega))
      simp only [eq]
    rw [bd1_eq hsm.2.2.2.1, bd1_eq (show rdR al (stI um 2625 (0 : Int32) (77 : Int32)) 2048 19 41 = some 2625 from hsm.2.2.2.1), hV0, show fn_Md_word (f + 4000) al V0 2048 (4 : Int32) (5 : Int32) = some (V1, 0) from b1, bd2_s, show fn_Md_word (f + 4000) al V1 2048 (8 : Int32) (4096 : Int32) = some (V2, 0) from b2, bd2_s, V2o 2048 (by decide), h18, show fn_Md_word (f + 4000) al V2 2048 (12 : Int32) (nI (64 * N)) = some (V3, 0) from b3, bd2_s, edef, bd2_s]
    unfold bk_Md_header_62
    have fin : (bd2 (fn_Md_word (f + 4000) al V3 2048 (16 : Int32) ent) fun u1 v1 => (bk_Md_header_67 (f + 4000) al (f + 4000) u1 2048 (0 : Int32))) = some (wr V5 2625 20 4 (fun j => sb s j &&& 255), 0) := by
      rw [show fn_Md_word (f + 4000) al V3 2048 (16 : Int32) ent = some (V4, 0) from b4, bd2_s]
      refine Eq.trans q1 ?_
      have v5s := LkR.sm hb R5
      rw [show f + 4000 - 5 = f + 3994 + 1 by omega, bk_Md_header_67, if_pos (by decide), bd1_eq v5s.2.2.2.1, V5o 2048 (by decide), h18, hs2, bd2_s, show fn_Md_word (f + 4000) al V5 2048 (20 : Int32) s = _ from b6, bd2_s]
    by_cases d0 : dtot u d 0 = 0
    · rw [if_pos (show nI (dtot u d 0) ≤ 0 by rw [d0]; decide)]
      rw [if_pos d0] at hent
      rw [← hent] at fin
      exact fin
    · rw [if_neg (show ¬ nI (dtot u d 0) ≤ (0 : Int32) from fun z => absurd ((na_le (b := 0) (by omega) (by decide)).mp z) (by omega)), bd1_eq v3s.2.2.2.2.2.2.2.1, V3o 2434 (by decide)]
      rw [if_neg d0] at hent
      rw [show um.1 2434 (0 : Int32) = ent from hent]
      exact fin
end

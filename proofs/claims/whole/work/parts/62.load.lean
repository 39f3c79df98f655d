def secOK (n : Nat) (wB : Mr) (j : Nat) : Prop := ∃ b s, wm wB 2624 (24 + 8 * j) = nI b ∧ wm wB 2624 (28 + 8 * j) = nI s ∧ b + s ≤ 64 * n
theorem rf_rf {u : Mr} {x y : Int32} (hx : x ≠ 0) : rf (rf u x) y = rf u x := by
  by_cases h : u.1 2048 31 = 0
  · exact rf_ne (by rw [rf_31 h]; exact hx)
  · rw [rf_ne h, rf_ne h]
section
variable {f n D F : Nat} {al : Nat → Bool} {uB wB uc um : Mr} {x : Int32}
theorem LdB.cw (hb : LdB al n D uB wB) {p : Nat} (hp : p + 4 ≤ 64 * n) : fn_Im_wordAt F al uB 384 (nI p) = some (uB, wm wB 2624 p) := by
  have hn := hb.2.2.2.2.1.2
  rw [e_word (i := 384) (hb.1.2.2.2.2.1 0 (by decide)) (by omega), wc_wm (v := wB) (r := 2624) (fun j h1 h2 => hb.2.2.2.2.2.2.2.1 j (by omega))]
theorem LdB.mw (hb : LdB al n D uB wB) (h : um.1 2624 = wB.1 2624) {p : Nat} (hp : p + 4 ≤ 64 * n) : fn_Md_wordIn F al um 2624 (nI p) = some (um, wm wB 2624 p) := by
  have hn := hb.2.2.2.2.1.2
  rw [e_wordIn 2624 (by omega), wm_cg (v := wB) (r := 2624) (fun j _ _ => by rw [h])]
theorem ld_secs (hb : LdB al n D uB wB) : ∀ d c i um, d + i = 5 → d < c → Fr (fun k => k = 2048) wB um → um.1 2048 16 = nI (64 * n) → ∃ v, bk_Ld_holdsSections_2 F al c uB 384 (nI i) = some (uB, v) ∧ (v = 0 ∨ v = 1) ∧ bk_Md_checkHeader_78 F al c um 2048 (nI i) = some ((if v = 0 then rf um 3 else um), 0) ∧ (v = 1 → ∀ j, i ≤ j → j < 5 → secOK n wB j) := by
  have hn := hb.2.2.2.2.1
  intro d
  induction d with
  | zero =>
    intro c i um hd hc h h16
    obtain ⟨c, rfl⟩ : ∃ k, c = k + 1 := ⟨c - 1, by omega⟩
    have e : (5 : Int32) ≤ nI i := (na_le (a := 5) (by decide) (by omega)).mpr (by omega)
    rw [bk_Ld_holdsSections_2, bk_Md_checkHeader_78, if_pos e, if_pos e]
    exact ⟨1, rfl, Or.inr rfl, rfl, fun _ j _ _ => by omega⟩
  | succ d ih =>
    intro c i um hd hc h h16
    obtain ⟨c, rfl⟩ : ∃ k, c = k + 1 := ⟨c - 1, by omega⟩
    have e : ¬ (5 : Int32) ≤ nI i := fun z => absurd ((na_le (a := 5) (by decide) (by omega)).mp z) (by omega)
    have hm : Sm al um := hb.2.2.2.1.fr h
    have h24 : um.1 2624 = wB.1 2624 := h.2 _ (by decide)
    rw [bk_Ld_holdsSections_2, bk_Md_checkHeader_78, if_neg e, if_neg e, bd1_eq hm.2.2.1, show (24 : Int32) + (8 : Int32) * nI i = nI (24 + 8 * i) by rw [show (8 : Int32) = nI 8 from rfl, na_mul]; exact na_add 24 _, LdB.mw hb h24 (by omega), bd2_s, bd1_eq hm.2.2.1, show (28 : Int32) + (8 : Int32) * nI i = nI (28 + 8 * i) by rw [show (8 : Int32) = nI 8 from rfl, na_mul]; exact na_add 28 _, LdB.mw hb h24 (by omega), bd2_s, h16]
    unfold fn_Im_holdsSection bk_Im_holdsSection_0 fn_Im_sectionBegin bk_Im_sectionBegin_0 fn_Im_sectionSize bk_Im_sectionSize_0 bk_Md_checkHeader_129
    have e24 : (24 : Int32) + nI i * (8 : Int32) = nI (24 + 8 * i) := by
      rw [show (8 : Int32) = nI 8 from rfl, na_mul, Nat.mul_comm i 8]
      exact na_add 24 _
    rw [e24, show nI (24 + 8 * i) + (4 : Int32) = nI (28 + 8 * i) by rw [show (4 : Int32) = nI 4 from rfl, na_add]; congr 1; omega, LdB.cw hb (by omega), bd2_s, bd2_s, LdB.cw hb (by omega), bd2_s, bd2_s, hb.2.2.2.2.2.1, show nI i + (1 : Int32) = nI (i + 1) from na_add _ 1]
    unfold fn_Md_lies bk_Md_lies_0
    have bad : ∃ v, (some (uB, (0 : Int32)) : Option (Mr × Int32)) = some (uB, v) ∧ (v = 0 ∨ v = 1) ∧ (bd2 (fn_Md_refuse F al um 2048 (3 : Int32)) fun u8 v8 => (bk_Md_checkHeader_78 F al c u8 2048 (nI (i + 1)))) = some ((if v = 0 then rf um 3 else um), 0) ∧ (v = 1 → ∀ j, i ≤ j → j < 5 → secOK n wB j) := by
      obtain ⟨v, -, v2, v3, -⟩ := ih c (i + 1) (rf um 3) (by omega) (by omega) (h.trans (rf_fr rfl)) (by rw [rf_i (by decide)]; exact h16)
      rw [e_refuse, bd2_s, v3, rf_rf (by decide)]
      refine ⟨0, rfl, Or.inl rfl, ?_, fun z => absurd z (by decide)⟩
      split <;> rfl
    by_cases c1 : wm wB 2624 (24 + 8 * i) < 0
    · rw [if_pos c1, if_pos (lg_32.mpr c1), bd2_s, bd2_s, if_pos rfl, if_pos rfl]
      exact bad
    rw [if_neg c1, if_neg (fun z => c1 (lg_32.mp z))]
    by_cases c2 : wm wB 2624 (28 + 8 * i) < 0
    · rw [if_pos c2, if_pos (lg_32.mpr c2), bd2_s, bd2_s, if_pos rfl, if_pos rfl]
      exact bad
    rw [if_neg c2, if_neg (fun z => c2 (lg_32.mp z))]
    by_cases c3 : 0 < lg_cmp ((wm wB 2624 (24 + 8 * i)).toInt64 + (wm wB 2624 (28 + 8 * i)).toInt64) (nI (64 * n)).toInt64
    · rw [if_pos c3, if_pos c3, bd2_s, bd2_s, if_pos rfl, if_pos rfl]
      exact bad
    rw [if_neg c3, if_neg c3, bd2_s, bd2_s, if_neg (show ¬ (1 : Int32) = 0 by decide), if_neg (show ¬ (1 : Int32) = 0 by decide)]
    obtain ⟨v, v1, v2, v3, v4⟩ := ih c (i + 1) um (by omega) (by omega) h h16
    refine ⟨v, v1, v2, v3, fun z j hj1 hj2 => ?_⟩
    by_cases e1 : j = i
    · obtain ⟨b, hb1, eb⟩ := na_of c1
      obtain ⟨s, hs1, es⟩ := na_of c2
      rw [e1]
      refine ⟨b, s, eb, es, ?_⟩
      rw [lg_pos, eb, es, i64_add, Int32.toInt_toInt64, nI_toInt hb1, nI_toInt hs1, nI_toInt (by omega)] at c3
      omega
    · exact v4 z j (by omega) hj2
def PREST (F : Nat) (al : Nat → Bool) (x : Int32) (u : Mr) : Option (Mr × Int32) := bd2 (fn_Im_wordAt F al u 384 (8 : Int32)) fun u5 v5 => (bd2 (fn_Ld_relocate F al u5 832 384 (x - v5)) fun u6 v6 => (if v6 = 0 then (some (u6, (3 : Int32))) else (bd2 (fn_Im_sectionSize F al u6 384 (2 : Int32)) fun u7 v7 => (if v7 = 0 then (some (u7, (0 : Int32))) else (bd2 (fn_Ld_bind F al u7 832 384 256) fun u8 v8 => (some (u8, v8)))))))
theorem ld_head (hb : LdB al n D uB wB) (h31 : wB.1 2048 31 = 0) : ∃ um' s, fn_Md_checkHeader (f + 4000) al wB 2048 = some (um', 0) ∧ um'.1 2048 31 = s ∧ ((um' = rf wB s ∧ fn_Ld_prepare (f + 4000) al uB 832 384 256 x = some (uB, s) ∧ (s = 1 ∨ s = 2 ∨ s = 3)) ∨ (um' = wB ∧ (∀ j, j < 5 → secOK n wB j) ∧ fn_Ld_prepare (f + 4000) al uB 832 384 256 x = PREST (f + 4000) al x uB)) := by
  have hn := hb.2.2.2.2.1
  have hm := hb.2.2.2.1
  have h16 := hb.2.2.2.2.2.2.1
  obtain ⟨s0, hs1, hs2⟩ := e_sum (f := f) (i := 384) (r := 2624) (w := wB) (x0 := 2048) (hb.1.2.2.2.2.1 0 (by decide)) hn.2 hb.2.2.2.2.2.1 hb.2.2.2.2.2.2.2.1
  have w0 : fn_Im_wordAt (f + 4000) al uB 384 (0 : Int32) = some (uB, wm wB 2624 0) := LdB.cw (p := 0) hb (by omega)
  have w4 : fn_Im_wordAt (f + 4000) al uB 384 (4 : Int32) = some (uB, wm wB 2624 4) := LdB.cw (p := 4) hb (by omega)
  have w12 : fn_Im_wordAt (f + 4000) al uB 384 (12 : Int32) = some (uB, wm wB 2624 12) := LdB.cw (p := 12) hb (by omega)
  have w20 : fn_Im_wordAt (f + 4000) al uB 384 (20 : Int32) = some (uB, wm wB 2624 20) := LdB.cw (p := 20) hb (by omega)
  have m0 : fn_Md_wordIn (f + 4000) al wB 2624 (0 : Int32) = some (wB, wm wB 2624 0) := LdB.mw (p := 0) hb rfl (by omega)
  have m4 : fn_Md_wordIn (f + 4000) al wB 2624 (4 : Int32) = some (wB, wm wB 2624 4) := LdB.mw (p := 4) hb rfl (by omega)
  have m12 : fn_Md_wordIn (f + 4000) al wB 2624 (12 : Int32) = some (wB, wm wB 2624 12) := LdB.mw (p := 12) hb rfl (by omega)
  have m20 : ∀ um : Mr, um.1 2624 = wB.1 2624 → fn_Md_wordIn (f + 4000) al um 2624 (20 : Int32) = some (um, wm wB 2624 20) := fun um h => LdB.mw (p := 20) hb h (by omega)
  -- behind a refusal nothing changes
  have done : ∀ um : Mr, Fr (fun k => k = 2048) wB um → um.1 2048 16 = nI (64 * n) → um.1 2048 31 ≠ 0 → bk_Md_checkHeader_76 (f + 4000) al um 2048 = some (um, 0) := fun um h h6 h3 => by
    obtain ⟨v, -, -, v3, -⟩ := ld_secs (F := f + 4000) hb 5 (f + 4000) 0 um (by omega) (by omega) h h6
    have := v3
    rw [rf_ne h3] at this
    unfold bk_Md_checkHeader_76
    refine Eq.trans this ?_
    split <;> rfl
  have done2 : ∀ um : Mr, Fr (fun k => k = 2048) wB um → um.1 2048 16 = nI (64 * n) → um.1 2048 31 ≠ 0 → bk_Md_checkHeader_47 (f + 4000) al um 2048 = some (um, 0) := fun um h h6 h3 => by
    obtain ⟨s1, -, hs3⟩ := e_sum (f := f) (i := 384) (r := 2624) (w := um) (x0 := 2048) (hb.1.2.2.2.2.1 0 (by decide)) hn.2 hb.2.2.2.2.2.1 (by rw [h.2 2624 (by decide)]; exact hb.2.2.2.2.2.2.2.1)
    unfold bk_Md_checkHeader_47
    rw [bd1_eq (hm.fr h).2.2.1, m20 um (h.2 _ (by decide)), bd2_s, bd1_eq (hm.fr h).2.2.1, h6, hs3, bd2_s]
    by_cases e1 : wm wB 2624 20 = s1
    · rw [if_pos e1, done um h h6 h3]
    · rw [if_neg e1, e_refuse, rf_ne h3, bd2_s, done um h h6 h3]
  have f1 : ∀ y : Int32, Fr (fun k => k = 2048) wB (rf wB y) := fun y => rf_fr rfl
  have g1 : ∀ y : Int32, (rf wB y).1 2048 16 = nI (64 * n) := fun y => by rw [rf_i (by decide)]; exact h16
  have bad1 : bk_Md_checkHeader_42 (f + 4000) al wB 2048 = some (rf wB 1, 0) := by
    unfold bk_Md_checkHeader_42
    rw [e_refuse, bd2_s, done2 _ (f1 1) (g1 1) (by rw [rf_31 h31]; decide)]
  unfold fn_Md_checkHeader bk_Md_checkHeader_0 fn_Ld_prepare bk_Ld_prepare_0 fn_Ld_hasHeader bk_Ld_hasHeader_0
  rw [bd1_eq hm.2.2.1, m0, bd2_s, w0, bd2_s]
  by_cases c1 : wm wB 2624 0 = 23117
  rotate_left
  · rw [if_neg c1, if_neg c1, bd2_s, if_pos rfl, bad1]
    exact ⟨rf wB 1, 1, rfl, rf_31 h31, Or.inl ⟨rfl, rfl, Or.inl rfl⟩⟩
  rw [if_pos c1, if_pos c1, bd1_eq hm.2.2.1, m4, bd2_s, w4, bd2_s]
  by_cases c2 : wm wB 2624 4 = 5
  rotate_left
  · rw [if_neg c2, if_neg c2, bd2_s, if_pos rfl, bad1]
    exact ⟨rf wB 1, 1, rfl, rf_31 h31, Or.inl ⟨rfl, rfl, Or.inl rfl⟩⟩
  rw [if_pos c2, if_pos c2, bd1_eq hm.2.2.1, m12, bd2_s, w12, bd2_s, h16, hb.2.2.2.2.2.1]
  by_cases c3 : wm wB 2624 12 = nI (64 * n)
  rotate_left
  · rw [if_neg c3, if_neg c3, bd2_s, if_pos rfl, bad1]
    exact ⟨rf wB 1, 1, rfl, rf_31 h31, Or.inl ⟨rfl, rfl, Or.inl rfl⟩⟩
  rw [if_pos c3, if_pos c3, bd2_s, if_neg (show ¬ (1 : Int32) = 0 by decide), w20, bd2_s, hs1, bd2_s]
  unfold bk_Md_checkHeader_47
  rw [bd1_eq hm.2.2.1, m20 wB rfl, bd2_s, bd1_eq hm.2.2.1, h16, hs2, bd2_s]
  by_cases c4 : wm wB 2624 20 = s0
  rotate_left
  · rw [if_neg c4, if_neg c4, e_refuse, bd2_s, done _ (f1 2) (g1 2) (by rw [rf_31 h31]; decide)]
    exact ⟨rf wB 2, 2, rfl, rf_31 h31, Or.inl ⟨rfl, rfl, Or.inr (Or.inl rfl)⟩⟩
  rw [if_pos c4, if_pos c4]
  obtain ⟨v, v1, v2, v3, v4⟩ := ld_secs (F := f + 4000) hb 5 (f + 4000) 0 wB (by omega) (by omega) Fr.refl h16
  have v1' : fn_Ld_holdsSections (f + 4000) al uB 832 384 = some (uB, v) := v1
  have v3' : bk_Md_checkHeader_76 (f + 4000) al wB 2048 = some ((if v = 0 then rf wB 3 else wB), 0) := v3
  rw [v1', v3', bd2_s]
  rcases v2 with z | z
  · rw [z, if_pos rfl, if_pos rfl]
    exact ⟨rf wB 3, 3, rfl, rf_31 h31, Or.inl ⟨rfl, rfl, Or.inr (Or.inr rfl)⟩⟩
  · rw [z, if_neg (show ¬ (1 : Int32) = 0 by decide), if_neg (show ¬ (1 : Int32) = 0 by decide)]
    exact ⟨wB, 0, rfl, h31, Or.inr ⟨rfl, fun j hj => v4 z j (Nat.zero_le _) hj, rfl⟩⟩
def MREST (F : Nat) (al : Nat → Bool) (x : Int32) (u : Mr) : Option (Mr × Int32) := if (u.1 2048 31) = 0 then (bd1 (rdR al u 2048 17 41) fun y1 => (bd2 (fn_Md_wordIn F al u y1 (8 : Int32)) fun u3 v3 => (bd2 (fn_Md_relocate F al u3 2048 (x - v3)) fun u4 v4 => (bk_Md_load_111 F al u4 2048 x)))) else (bk_Md_load_111 F al u 2048 x)
theorem ld_copy (hm : Sm al um) (hs : um.1 2048 16 = nI (64 * n)) (hn : n ≤ 14) : ∀ d c m, d + m = 64 * n → d < c → bk_Md_load_63 F al c (wr um 2627 0 m (fun j => um.1 2624 (nI j))) 2048 x (nI m) = MREST F al x (wr um 2627 0 (64 * n) (fun j => um.1 2624 (nI j))) := by
  intro d
  induction d with
  | zero =>
    intro c m hd hc
    obtain ⟨c, rfl⟩ : ∃ k, c = k + 1 := ⟨c - 1, by omega⟩
    have e : m = 64 * n := by omega
    rw [bk_Md_load_63, wr_ne (show (2048 : Nat) ≠ 2627 by decide), hs, if_pos ((na_le (by omega) (by omega)).mpr (by omega)), e]
    unfold MREST
    rw [wr_ne (show (2048 : Nat) ≠ 2627 by decide)]
  | succ d ih =>
    intro c m hd hc
    obtain ⟨c, rfl⟩ : ∃ k, c = k + 1 := ⟨c - 1, by omega⟩
    have hm' : Sm al (wr um 2627 0 m (fun j => um.1 2624 (nI j))) := hm.any rfl
    have e := wr_s (u := um) (k := 2627) (p := 0) (n := m) (g := fun j => um.1 2624 (nI j)) (by omega)
    rw [Nat.zero_add] at e
    rw [bk_Md_load_63, wr_ne (show (2048 : Nat) ≠ 2627 by decide), hs, if_neg (fun z => absurd ((na_le (by omega) (by omega)).mp z) (by omega)), bd1_eq hm'.2.2.2.2.2.2.2.2.2, bd1_eq hm'.2.2.1, ck_eq (in_t (by omega) (by decide)), ck_eq (in_t (by omega) (by decide)), wr_ne (show (2624 : Nat) ≠ 2627 by decide), e, show nI m + (1 : Int32) = nI (m + 1) from na_add _ 1]
    exact ih c (m + 1) (by omega) (by omega)
theorem ld_copy2 (hm : Sm al um) (hs : um.1 2048 16 = nI (64 * n)) (hn : n ≤ 14) : ∀ d c m, d + m = 64 * n → d < c → bk_Md_load_180 F al c (wr um 2626 0 m (fun j => um.1 2627 (nI j))) 2048 (nI m) = some (wr um 2626 0 (64 * n) (fun j => um.1 2627 (nI j)), 0) := by
  intro d
  induction d with
  | zero =>
    intro c m hd hc
    obtain ⟨c, rfl⟩ : ∃ k, c = k + 1 := ⟨c - 1, by omega⟩
    have e : m = 64 * n := by omega
    rw [bk_Md_load_180, wr_ne (show (2048 : Nat) ≠ 2626 by decide), hs, if_pos ((na_le (by omega) (by omega)).mpr (by omega)), e]
  | succ d ih =>
    intro c m hd hc
    obtain ⟨c, rfl⟩ : ∃ k, c = k + 1 := ⟨c - 1, by omega⟩
    have hm' : Sm al (wr um 2626 0 m (fun j => um.1 2627 (nI j))) := hm.any rfl
    have e := wr_s (u := um) (k := 2626) (p := 0) (n := m) (g := fun j => um.1 2627 (nI j)) (by omega)
    rw [Nat.zero_add] at e
    rw [bk_Md_load_180, wr_ne (show (2048 : Nat) ≠ 2626 by decide), hs, if_neg (fun z => absurd ((na_le (by omega) (by omega)).mp z) (by omega)), bd1_eq hm'.2.2.2.2.2.2.2.2.1, bd1_eq hm'.2.2.2.2.2.2.2.2.2, ck_eq (in_t (by omega) (by decide)), ck_eq (in_t (by omega) (by decide)), wr_ne (show (2627 : Nat) ≠ 2626 by decide), e, show nI m + (1 : Int32) = nI (m + 1) from na_add _ 1]
    exact ih c (m + 1) (by omega) (by omega)
theorem ld_prep (hb : LdB al n D uB wB) (h31 : wB.1 2048 31 = 0) (hd : ∀ j, j < 64 * n → uB.1 (D + 64) (nI j) = uB.1 448 (nI j)) (hy : ∀ z, byt (uB.1 (D + 64) z)) : ∃ uc' um' v, fn_Ld_prepare (f + 4000) al uB 832 384 256 x = some (uc', v) ∧ (bd2 (fn_Md_checkHeader (f + 4000) al wB 2048) fun u2 v2 => bk_Md_load_63 (f + 4000) al (f + 4000) u2 2048 x (0 : Int32)) = bk_Md_load_122 (f + 4000) al um' 2048 x ∧ LdR n D uB wB uc' um' ∧ um'.1 2048 31 = v ∧ (v = 0 ∨ v = 1 ∨ v = 2 ∨ v = 3 ∨ v = 4) ∧ (v = 0 → ∀ j, j < 5 → secOK n wB j) := by
  have hn := hb.2.2.2.2.1
  obtain ⟨um1, s, k1, k2, k3⟩ := ld_head (f := f) (x := x) hb h31
  have fr2 : um1.2.2 = wB.2.2 := by
    rcases k3 with ⟨e, -⟩ | ⟨e, -⟩
    · rw [e]
      exact rf_22
    · rw [e]
  have fr1 : Fr (fun k => k = 2048) wB um1 ∧ ∀ i : Int32, i ≠ 31 → um1.1 2048 i = wB.1 2048 i := by
    rcases k3 with ⟨e, -⟩ | ⟨e, -⟩
    · rw [e]
      exact ⟨rf_fr rfl, fun i hi => rf_i hi⟩
    · rw [e]
      exact ⟨Fr.refl, fun _ _ => rfl⟩
  have hm1 : Sm al um1 := hb.2.2.2.1.fr fr1.1
  have h16 : um1.1 2048 16 = nI (64 * n) := (fr1.2 16 (by decide)).trans hb.2.2.2.2.2.2.1
  have cp : bk_Md_load_63 (f + 4000) al (f + 4000) um1 2048 x (0 : Int32) = MREST (f + 4000) al x (wr um1 2627 0 (64 * n) (fun j => um1.1 2624 (nI j))) := by
    have := ld_copy (F := f + 4000) (x := x) hm1 h16 hn.2 (64 * n) (f + 4000) 0 (by omega) (by omega)
    rw [wr_0] at this
    exact this
  have hR : LdR n D uB wB uB (wr um1 2627 0 (64 * n) (fun j => um1.1 2624 (nI j))) := by
    refine ⟨Fr.refl, (fr1.1.mono (fun k hk => Or.inr hk)).trans (wr_fr (Or.inl rfl)), fun i hi => ?_, fun j hj => ?_, hy, fr2⟩
    · rw [wr_ne (by decide)]
      exact fr1.2 i hi
    · rw [wr_at (by omega), if_pos (by omega), hd j hj, fr1.1.2 2624 (by decide), Nat.sub_zero]
      exact hb.2.2.2.2.2.2.2.1 j hj
  have e31 : (wr um1 2627 0 (64 * n) (fun j => um1.1 2624 (nI j))).1 2048 31 = s := by
    rw [wr_ne (by decide)]
    exact k2
  generalize wr um1 2627 0 (64 * n) (fun j => um1.1 2624 (nI j)) = um2 at cp hR e31
  rw [k1, bd2_s, cp]
  unfold MREST
  rcases k3 with ⟨-, e2, e3⟩ | ⟨e1, e2, e3⟩
  · have ne : ¬ um2.1 2048 31 = 0 := by
      rw [e31]
      rcases e3 with z | z | z <;> rw [z] <;> decide
    rw [if_neg ne]
    unfold bk_Md_load_111
    rw [if_neg ne]
    refine ⟨uB, um2, s, e2, rfl, hR, e31, ?_, fun z => absurd (e31.trans z) ne⟩
    rcases e3 with z | z | z
    · exact Or.inr (Or.inl z)
    · exact Or.inr (Or.inr (Or.inl z))
    · exact Or.inr (Or.inr (Or.inr (Or.inl z)))
  have s0 : s = 0 := by
    rw [← k2, e1]
    exact h31
  rw [s0] at e31
  rw [if_pos e31, e3]
  unfold PREST
  have hm2 := LdR.sm hb hR
  have m8 : fn_Md_wordIn (f + 4000) al um2 2624 (8 : Int32) = some (um2, wm wB 2624 8) := LdR.mw (p := 8) hb hR (by omega)
  have c8 : fn_Im_wordAt (f + 4000) al uB 384 (8 : Int32) = some (uB, wm wB 2624 8) := LdR.cw (p := 8) hb hR (by omega)
  rw [bd1_eq hm2.2.2.1, m8, bd2_s, c8, bd2_s]
  obtain ⟨b4, l4, q1, q2, q3⟩ := e2 4 (by decide)
  have c56 : fn_Im_sectionBegin (f + 4000) al uB 384 (4 : Int32) = some (uB, nI b4) := by
    unfold fn_Im_sectionBegin bk_Im_sectionBegin_0
    rw [show (24 : Int32) + (4 : Int32) * (8 : Int32) = nI 56 from rfl, LdR.cw hb hR (by omega), bd2_s]
    exact congrArg (fun z => some (uB, z)) q1
  have c60 : fn_Im_sectionSize (f + 4000) al uB 384 (4 : Int32) = some (uB, nI l4) := by
    unfold fn_Im_sectionSize bk_Im_sectionSize_0
    rw [show (24 : Int32) + (4 : Int32) * (8 : Int32) + (4 : Int32) = nI 60 from rfl, LdR.cw hb hR (by omega), bd2_s]
    exact congrArg (fun z => some (uB, z)) q2
  have m56 : fn_Md_wordIn (f + 4000) al um2 2624 (56 : Int32) = some (um2, nI b4) := (LdR.mw (p := 56) hb hR (by omega)).trans (congrArg (fun z => some (um2, z)) q1)
  have m60 : fn_Md_wordIn (f + 4000) al um2 2624 (60 : Int32) = some (um2, nI l4) := (LdR.mw (p := 60) hb hR (by omega)).trans (congrArg (fun z => some (um2, z)) q2)
  obtain ⟨uc3, um3, v, r1, r2, r3, r4⟩ := ld_reloc (f := f) (sh := x - wm wB 2624 8) hb q3 l4 (f + 4000) b4 uB um2 (by omega) (by omega) (by omega) hR e31
  unfold fn_Ld_relocate bk_Ld_relocate_0 fn_Md_relocate bk_Md_relocate_0
  rw [c56, bd2_s, c60, bd2_s, na_add, r1, bd2_s, bd1_eq hm2.2.2.1, m56, bd2_s, bd1_eq hm2.2.2.1, m60, bd2_s, na_add, r2, bd2_s]
  unfold bk_Md_load_111
  rcases r4 with ⟨v1, v2⟩ | ⟨v1, v2⟩
  rotate_left
  · rw [v1, if_pos rfl, if_neg (show ¬ um3.1 2048 31 = 0 by rw [v2]; decide)]
    exact ⟨uc3, um3, 3, rfl, rfl, r3, v2, Or.inr (Or.inr (Or.inr (Or.inl rfl))), fun z => absurd z (by decide)⟩
  rw [v1, if_neg (show ¬ (1 : Int32) = 0 by decide), if_pos v2]
  obtain ⟨b2, l2, t1, t2, t3⟩ := e2 2 (by decide)
  have hm3 := LdR.sm hb r3
  have c40 : fn_Im_sectionBegin (f + 4000) al uc3 384 (2 : Int32) = some (uc3, nI b2) := by
    unfold fn_Im_sectionBegin bk_Im_sectionBegin_0
    rw [show (24 : Int32) + (2 : Int32) * (8 : Int32) = nI 40 from rfl, LdR.cw hb r3 (by omega), bd2_s]
    exact congrArg (fun z => some (uc3, z)) t1
  have c44 : fn_Im_sectionSize (f + 4000) al uc3 384 (2 : Int32) = some (uc3, nI l2) := by
    unfold fn_Im_sectionSize bk_Im_sectionSize_0
    rw [show (24 : Int32) + (2 : Int32) * (8 : Int32) + (4 : Int32) = nI 44 from rfl, LdR.cw hb r3 (by omega), bd2_s]
    exact congrArg (fun z => some (uc3, z)) t2
  have m40 : fn_Md_wordIn (f + 4000) al um3 2624 (40 : Int32) = some (um3, nI b2) := (LdR.mw (p := 40) hb r3 (by omega)).trans (congrArg (fun z => some (um3, z)) t1)
  have m44 : fn_Md_wordIn (f + 4000) al um3 2624 (44 : Int32) = some (um3, nI l2) := (LdR.mw (p := 44) hb r3 (by omega)).trans (congrArg (fun z => some (um3, z)) t2)
  unfold fn_Md_bind bk_Md_bind_0
  rw [c44, bd2_s, bd1_eq hm3.2.2.1, m40, bd2_s, bd1_eq hm3.2.2.1, m44, bd2_s, na_add]
  unfold bk_Md_bind_32
  by_cases z0 : l2 = 0
  · have zz : nI l2 = 0 := by rw [z0]; rfl
    rw [if_pos zz, if_pos ((na_le (by omega) (by omega)).mpr (by omega)), bk_Md_bind_33, if_pos rfl, bd2_s]
    exact ⟨uc3, um3, 0, rfl, rfl, r3, v2, Or.inl rfl, fun _ => e2⟩
  · have zz : ¬ nI l2 = 0 := fun z => z0 (nI_inj (b := 0) (by omega) (by decide) z)
    obtain ⟨uc4, um4, v', g1, g2, g3, g4, g5⟩ := ld_bind (f := f) hb t3 l2 (f + 4000) b2 uc3 um3 (by omega) (by omega) (by omega) r3 v2
    unfold fn_Ld_bind bk_Ld_bind_0
    rw [if_neg zz, if_neg (fun z => absurd ((na_le (by omega) (by omega)).mp z) (by omega)), c40, bd2_s, c44, bd2_s, na_add, g1, g2, bd2_s, bd2_s]
    refine ⟨uc4, um4, v', rfl, rfl, g3, g4, ?_, fun _ => e2⟩
    rcases g5 with z | z | z
    · exact Or.inl z
    · exact Or.inr (Or.inr (Or.inr (Or.inl z)))
    · exact Or.inr (Or.inr (Or.inr (Or.inr z)))
end

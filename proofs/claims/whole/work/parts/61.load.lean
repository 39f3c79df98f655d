section
variable {f n D F : Nat} {al : Nat → Bool} {uB wB uc um : Mr}
theorem ld_reloc (hb : LdB al n D uB wB) {e : Nat} {sh : Int32} (he : e ≤ 64 * n) :
    ∀ d c b uc um, e ≤ b + d → b ≤ e → d < c → LdR n D uB wB uc um → um.1 2048 31 = 0 → ∃ uc' um' v, bk_Ld_relocate_15 (f + 4000) al c uc 832 384 sh (nI b) (nI e) = some (uc', v) ∧ bk_Md_relocate_22 (f + 4000) al c um 2048 sh (nI b) (nI e) = some (um', 0) ∧ LdR n D uB wB uc' um' ∧ ((v = 1 ∧ um'.1 2048 31 = 0) ∨ (v = 0 ∧ um'.1 2048 31 = 3)) := by
  have hn := hb.2.2.2.2.1
  intro d
  induction d with
  | zero =>
    intro c b uc um hd hbe hc h h31
    obtain ⟨c, rfl⟩ : ∃ k, c = k + 1 := ⟨c - 1, by omega⟩
    have e1 : nI e ≤ nI b := (na_le (by omega) (by omega)).mpr (by omega)
    refine ⟨uc, um, 1, ?_, ?_, h, Or.inl ⟨rfl, h31⟩⟩
    · rw [bk_Ld_relocate_15, if_pos e1]
    · rw [bk_Md_relocate_22, if_pos h31, if_pos e1]
  | succ d ih =>
    intro c b uc um hd hbe hc h h31
    obtain ⟨c, rfl⟩ : ∃ k, c = k + 2 := ⟨c - 2, by omega⟩
    have hm := LdR.sm hb h
    have bad : ∃ uc' um' v, (some (uc, (0 : Int32)) : Option (Mr × Int32)) = some (uc', v) ∧ (bd2 (fn_Md_refuse (f + 4000) al um 2048 (3 : Int32)) fun u1 v1 => (some (u1, (0 : Int32)))) = some (um', 0) ∧ LdR n D uB wB uc' um' ∧ ((v = 1 ∧ um'.1 2048 31 = 0) ∨ (v = 0 ∧ um'.1 2048 31 = 3)) := by
      rw [e_refuse, bd2_s]
      exact ⟨uc, rf um 3, 0, rfl, rfl, h.rf 3, Or.inr ⟨rfl, rf_31 h31⟩⟩
    rw [bk_Ld_relocate_15, bk_Md_relocate_22, if_pos h31]
    by_cases c1 : e ≤ b
    · have e1 : nI e ≤ nI b := (na_le (by omega) (by omega)).mpr c1
      rw [if_pos e1, if_pos e1]
      exact ⟨uc, um, 1, rfl, rfl, h, Or.inl ⟨rfl, h31⟩⟩
    have e1 : ¬ nI e ≤ nI b := fun z => c1 ((na_le (by omega) (by omega)).mp z)
    rw [if_neg e1, if_neg e1, na_sub hbe]
    by_cases c2 : 8 ≤ e - b
    rotate_left
    · have e2 : ¬ (8 : Int32) ≤ nI (e - b) := fun z => c2 ((na_le (a := 8) (by decide) (by omega)).mp z)
      rw [if_neg e2, if_neg e2]
      exact bad
    have e2 : (8 : Int32) ≤ nI (e - b) := (na_le (a := 8) (by decide) (by omega)).mpr c2
    rw [if_pos e2, if_pos e2, show nI b + (4 : Int32) = nI (b + 4) from na_add _ 4, LdR.cw hb h (by omega), bd2_s, bd1_eq hm.2.2.1, LdR.mw hb h (by omega), bd2_s, bd1_eq hm.2.2.1, LdR.mw hb h (by omega), bd2_s]
    unfold bk_Md_relocate_106
    by_cases c3 : wm wB 2624 (b + 4) < 8
    · rw [if_pos c3, if_pos c3]
      exact bad
    rw [if_neg c3, if_neg c3]
    have c30 : ¬ wm wB 2624 (b + 4) < 0 := fun z => c3 (Int32.lt_of_lt_of_le z (by decide))
    obtain ⟨L, hL, eL⟩ := na_of c30
    rw [eL] at c3 ⊢
    have hL8 : 8 ≤ L := by
      rcases Nat.lt_or_ge L 8 with z | z
      · exact absurd ((na_lt (b := 8) hL (by decide)).mpr z) c3
      · exact z
    rw [show nI L - nI L / (2 : Int32) * (2 : Int32) = nI (L % 2) from na_rem (b := 2) hL (by decide) (by decide)]
    by_cases c4 : L % 2 = 1
    · rw [c4, if_neg (show ¬ nI 1 = (0 : Int32) by decide), if_pos (show nI 1 = (1 : Int32) from rfl)]
      exact bad
    have c4' : L % 2 = 0 := by omega
    rw [c4', if_pos (show nI 0 = (0 : Int32) from rfl), if_neg (show ¬ nI 0 = (1 : Int32) by decide)]
    by_cases c5 : L ≤ e - b
    rotate_left
    · rw [if_neg (fun z => c5 ((na_le (by omega) (by omega)).mp z)), if_pos ((na_lt (by omega) (by omega)).mpr (by omega))]
      exact bad
    rw [if_pos ((na_le (by omega) (by omega)).mpr c5), if_neg (fun z => absurd ((na_lt (by omega) (by omega)).mp z) (by omega))]
    unfold fn_Ld_relocateBlock bk_Ld_relocateBlock_0
    rw [LdR.cw hb h (by omega), bd2_s]
    by_cases c6 : wm wB 2624 b < 0
    · rw [if_pos c6, if_pos c6, bd2_s, if_pos rfl]
      exact bad
    rw [if_neg c6, if_neg c6]
    by_cases c7 : wm wB 2624 b - wm wB 2624 b / 64 * 64 = 0
    rotate_left
    · rw [if_neg c7, if_neg c7, bd2_s, if_pos rfl]
      exact bad
    rw [if_pos c7, if_pos c7]
    obtain ⟨q, hq, eq⟩ := na_of c6
    rw [eq, na_add, show nI b + (8 : Int32) = nI (b + 8) from na_add _ 8]
    obtain ⟨uc', um', v, b1, b2, b3, b4⟩ := ld_block (f := f) (x3 := nI e) (sh := sh) hb (show b + L ≤ 64 * n by omega) hq (bk_Md_relocate_22 (f + 4000) al (c + 1)) ((L - 8) / 2) (f + 4000) (b + 8) uc um (by omega) (by omega) h h31
    rw [b1, b2, bd2_s]
    rcases b4 with ⟨v1, v2⟩ | ⟨v1, v2⟩
    · rw [v1, if_neg (show ¬ (1 : Int32) = 0 by decide)]
      exact ih (c + 1) (b + L) uc' um' (by omega) (by omega) (by omega) b3 v2
    · rw [v1, if_pos rfl, bk_Md_relocate_22, if_neg (by rw [v2]; decide)]
      exact ⟨uc', um', 0, rfl, rfl, b3, Or.inr ⟨rfl, v2⟩⟩
theorem ld_slots (hb : LdB al n D uB wB) {l : Nat} (hl : l < 4) :
    ∀ d c w uc um, 64 * n + 4 ≤ w + d → w < 2 ^ 31 → d < c → LdR n D uB wB uc um → um.1 2048 31 = 0 → ∃ uc' um' v, bk_Ld_bindSlots_11 (f + 4000) al c uc 832 384 (320 + l) (nI (64 * n - 4)) (nI w) = some (uc', v) ∧ bk_Md_bindSlots_6 (f + 4000) al c um 2048 (nI l) (nI w).toInt64 1 = some (um', 0) ∧ LdR n D uB wB uc' um' ∧ um'.1 2048 31 = v ∧ (v = 0 ∨ v = 3 ∨ v = 4) := by
  have hn := hb.2.2.2.2.1
  have lies : ∀ (um : Mr) w, w < 2 ^ 31 → fn_Md_lies (f + 4000) al um (nI w).toInt64 4 (nI (64 * n)).toInt64 = some (um, if w + 4 ≤ 64 * n then 1 else 0) := fun um w hw => by
    have p2 : (0 < lg_cmp ((nI w).toInt64 + 4) (nI (64 * n)).toInt64) ↔ 64 * n < w + 4 := by
      rw [lg_pos, show (4 : Int64) = (nI 4).toInt64 from rfl, i64_add, Int32.toInt_toInt64, nI_toInt (by omega), nI_toInt (by omega), nI_toInt (by omega)]
      omega
    unfold fn_Md_lies bk_Md_lies_0
    rw [if_neg (fun z => na_neg hw (lg_32.mp z)), if_neg (show ¬ lg_cmp (4 : Int64) 0 < 0 by decide)]
    by_cases h : w + 4 ≤ 64 * n
    · rw [if_neg (fun z => absurd (p2.mp z) (by omega)), if_pos h]
    · rw [if_pos (p2.mpr (by omega)), if_neg h]
  have far : ∀ c w uc um, 64 * n < w + 4 → w < 2 ^ 31 → LdR n D uB wB uc um → um.1 2048 31 = 0 → ∃ uc' um' v, bk_Ld_bindSlots_11 (f + 4000) al (c + 1) uc 832 384 (320 + l) (nI (64 * n - 4)) (nI w) = some (uc', v) ∧ bk_Md_bindSlots_6 (f + 4000) al (c + 1) um 2048 (nI l) (nI w).toInt64 1 = some (um', 0) ∧ LdR n D uB wB uc' um' ∧ um'.1 2048 31 = v ∧ (v = 0 ∨ v = 3 ∨ v = 4) := by
    intro c w uc um hw hw31 h h31
    refine ⟨uc, rf um 3, 3, ?_, ?_, h.rf 3, rf_31 h31, Or.inr (Or.inl rfl)⟩
    · rw [bk_Ld_bindSlots_11, if_neg (na_neg hw31), if_pos ((na_lt (by omega) hw31).mpr (by omega))]
    · rw [bk_Md_bindSlots_6, if_neg (show ¬ (1 : Int32) = 0 by decide), if_pos h31, (LdR.sz hb h).2, lies um w hw31, if_neg (by omega), bd2_s, if_pos rfl, e_refuse, bd2_s]
  intro d
  induction d with
  | zero =>
    intro c w uc um hd hw hc h h31
    obtain ⟨c, rfl⟩ : ∃ k, c = k + 1 := ⟨c - 1, by omega⟩
    exact far c w uc um (by omega) hw h h31
  | succ d ih =>
    intro c w uc um hd hw hc h h31
    obtain ⟨c, rfl⟩ : ∃ k, c = k + 2 := ⟨c - 2, by omega⟩
    by_cases hin : w + 4 ≤ 64 * n
    rotate_left
    · exact far (c + 1) w uc um (by omega) hw h h31
    have hm := LdR.sm hb h
    have e32 : (nI w).toInt64.toInt32 = nI w := i64_32 (by rw [Int32.toInt_toInt64, nI_toInt hw]) hw
    rw [bk_Ld_bindSlots_11, if_neg (na_neg hw), if_neg (fun z => absurd ((na_lt (by omega) hw).mp z) (by omega)), LdR.cw hb h hin, bd2_s]
    rw [bk_Md_bindSlots_6, if_neg (show ¬ (1 : Int32) = 0 by decide), if_pos h31, (LdR.sz hb h).2, lies um w hw, if_pos hin, bd2_s, if_neg (show ¬ (1 : Int32) = 0 by decide), bd1_eq hm.2.2.1, e32, LdR.mw hb h hin, bd2_s]
    generalize wm wB 2624 w = V
    have stop : ∀ (z : Mr) (y : Int64), z.1 2048 31 ≠ 0 → bk_Md_bindSlots_6 (f + 4000) al (c + 1) z 2048 (nI l) y 1 = some (z, 0) := fun z y hz => by
      rw [bk_Md_bindSlots_6, if_neg (show ¬ (1 : Int32) = 0 by decide), if_neg hz]
    by_cases v0 : V = 0
    · rw [if_pos v0, if_pos v0]
      unfold bk_Md_bindSlots_60
      rw [if_pos rfl]
      unfold bk_Md_bindSlots_94
      rw [if_pos rfl]
      unfold bk_Md_bindSlots_122
      rw [if_pos rfl]
      unfold bk_Md_bindSlots_145
      rw [bk_Md_bindSlots_6, if_pos rfl]
      exact ⟨uc, um, 0, rfl, rfl, h, h31, Or.inl rfl⟩
    rw [if_neg v0, if_neg v0, e_below, bd2_s]
    unfold bk_Md_bindSlots_60
    rw [if_neg (show ¬ (1 : Int32) = 0 by decide)]
    have bad : ∃ uc' um' v, (some (uc, (3 : Int32)) : Option (Mr × Int32)) = some (uc', v) ∧ bk_Md_bindSlots_86 (f + 4000) al (bk_Md_bindSlots_6 (f + 4000) al (c + 1)) um 2048 (nI l) (nI w).toInt64 1 = some (um', 0) ∧ LdR n D uB wB uc' um' ∧ um'.1 2048 31 = v ∧ (v = 0 ∨ v = 3 ∨ v = 4) := by
      unfold bk_Md_bindSlots_86 bk_Md_bindSlots_145
      rw [e_refuse, bd2_s, stop _ _ (by rw [rf_31 h31]; decide)]
      exact ⟨uc, rf um 3, 3, rfl, rfl, h.rf 3, rf_31 h31, Or.inr (Or.inl rfl)⟩
    by_cases vn : V < 0
    rotate_left
    · have vp : 0 < V := by
        rcases Int32.lt_or_eq_of_le (Int32.not_lt.mp vn) with z | z
        · exact z
        · exact absurd z.symm v0
      rw [if_pos (Or.inl (xor_neg V vn)), if_pos rfl, if_pos vp]
      exact bad
    rw [if_neg (fun z => absurd (Int32.lt_trans z vn) (by decide)), xor_min V vn]
    by_cases vb : (V &&& 2147483647) < 0 ∨ 100 ≤ (V &&& 2147483647)
    · have vm : ¬ (V &&& 2147483647) ≤ 99 := by
        rcases vb with z | z
        · rw [← xor_min V vn] at z
          have := i32_msb (V ^^^ (-2147483648 : Int32))
          rw [Int32.toBitVec_xor, show (-2147483648 : Int32).toBitVec = 2147483648#32 from rfl, BitVec.getLsbD_xor, bt_min 31 (by decide), i32_msb, decide_eq_true vn, decide_eq_true z] at this
          cases this
        · exact fun y => absurd (Int32.le_trans z y) (by decide)
      rw [if_pos vb, if_pos rfl, if_neg vm]
      exact bad
    obtain ⟨m, hm1, em⟩ := na_sp (n := 100) (by decide) vb
    rw [if_neg vb, if_neg (show ¬ (1 : Int32) = 0 by decide), em, if_pos (show nI m ≤ (99 : Int32) from (na_le (b := 99) (by omega) (by decide)).mpr (by omega)), ck_eq (in_t hm1 (by decide)), LdR.off hb h l m hl hm1]
    unfold bk_Md_bindSlots_94
    rw [if_neg (show ¬ (1 : Int32) = 0 by decide), bd1_eq hm.2.1.2.2.2.2.2.2.2, show ((100 : Int32) * nI l) + nI m = nI (100 * l + m) by rw [show (100 : Int32) = nI 100 from rfl, na_mul, na_add], ck_eq (in_t (by omega) (by decide))]
    by_cases x0 : um.1 2560 (nI (100 * l + m)) = 0
    · rw [if_pos x0, if_pos x0, e_refuse, bd2_s]
      unfold bk_Md_bindSlots_145
      rw [stop _ _ (by rw [rf_31 h31]; decide)]
      exact ⟨uc, rf um 4, 4, rfl, rfl, h.rf 4, rf_31 h31, Or.inr (Or.inr rfl)⟩
    rw [if_neg x0, if_neg x0, bd1_eq (LdR.dr hb h), ck_eq (in_t hm1 (by decide)), e_setWord (LdR.db hb h) (by omega), bd2_s]
    unfold bk_Md_bindSlots_122 bk_Md_bindSlots_145
    rw [if_neg (show ¬ (1 : Int32) = 0 by decide), bd1_eq hm.2.1.2.2.2.2.2.2.2, show ((100 : Int32) * nI l) + nI m = nI (100 * l + m) by rw [show (100 : Int32) = nI 100 from rfl, na_mul, na_add], ck_eq (in_t (by omega) (by decide)), e32, e_change hm (by omega), bd2_s, i64_4 (by omega), show nI w + (4 : Int32) = nI (w + 4) from na_add _ 4]
    exact ih (c + 1) (w + 4) _ _ (by omega) (by omega) (by omega) (LdR.set hb h _) (by rw [wr_ne (by decide)]; exact h31)
theorem ld_slots0 (hb : LdB al n D uB wB) {l : Nat} (hl : l < 4) (x : Int32) (h : LdR n D uB wB uc um) (h31 : um.1 2048 31 = 0) : ∃ uc' um' v, fn_Ld_bindSlots (f + 4000) al uc 832 384 x (320 + l) = some (uc', v) ∧ fn_Md_bindSlots (f + 4000) al um 2048 (nI l) x = some (um', 0) ∧ LdR n D uB wB uc' um' ∧ um'.1 2048 31 = v ∧ (v = 0 ∨ v = 3 ∨ v = 4) := by
  have hn := hb.2.2.2.2.1
  unfold fn_Ld_bindSlots bk_Ld_bindSlots_0 fn_Md_bindSlots bk_Md_bindSlots_0
  rw [(LdR.sz hb h).1, show nI (64 * n) - (4 : Int32) = nI (64 * n - 4) from na_sub (b := 4) (by omega)]
  by_cases hx : x < 0
  · refine ⟨uc, rf um 3, 3, ?_, ?_, h.rf 3, rf_31 h31, Or.inr (Or.inl rfl)⟩
    · rw [bk_Ld_bindSlots_11, if_pos hx]
    · rw [bk_Md_bindSlots_6, if_neg (show ¬ (1 : Int32) = 0 by decide), if_pos h31]
      unfold fn_Md_lies bk_Md_lies_0
      rw [if_pos (lg_32.mpr hx), bd2_s, if_pos rfl, e_refuse, bd2_s]
  · obtain ⟨w, hw, rfl⟩ := na_of hx
    exact ld_slots hb hl (64 * n + 4) (f + 4000) w uc um (by omega) hw (by omega) h h31
theorem ld_bind (hb : LdB al n D uB wB) {e : Nat} (he : e ≤ 64 * n) :
    ∀ d c b uc um, e ≤ b + d → b ≤ e → d < c → LdR n D uB wB uc um → um.1 2048 31 = 0 → ∃ uc' um' v, bk_Ld_bind_21 (f + 4000) al c uc 832 384 256 (nI e - 8) (nI b) = some (uc', v) ∧ bk_Md_bind_33 (f + 4000) al c um 2048 (nI b) (nI e) 1 = some (um', 0) ∧ LdR n D uB wB uc' um' ∧ um'.1 2048 31 = v ∧ (v = 0 ∨ v = 3 ∨ v = 4) := by
  have hn := hb.2.2.2.2.1
  have ec : ∀ b, b ≤ 64 * n → ((nI e - 8 < nI b) ↔ e < b + 8) := fun b hb9 => by
    rw [Int32.lt_iff_toInt_lt, Int32.toInt_sub, nI_toInt (by omega), nI_toInt (by omega), show (8 : Int32).toInt = 8 from rfl]
    unfold Int.bmod
    simp only []
    split <;> omega
  have far : ∀ c b uc um, e < b + 8 → b ≤ e → LdR n D uB wB uc um → um.1 2048 31 = 0 → ∃ uc' um' v, bk_Ld_bind_21 (f + 4000) al (c + 1) uc 832 384 256 (nI e - 8) (nI b) = some (uc', v) ∧ bk_Md_bind_33 (f + 4000) al (c + 1) um 2048 (nI b) (nI e) 1 = some (um', 0) ∧ LdR n D uB wB uc' um' ∧ um'.1 2048 31 = v ∧ (v = 0 ∨ v = 3 ∨ v = 4) := by
    intro c b uc um h8 hbe h h31
    refine ⟨uc, rf um 3, 3, ?_, ?_, h.rf 3, rf_31 h31, Or.inr (Or.inl rfl)⟩
    · rw [bk_Ld_bind_21, if_pos ((ec b (by omega)).mpr h8)]
    · rw [bk_Md_bind_33, if_neg (show ¬ (1 : Int32) = 0 by decide), if_pos h31, show nI b + (8 : Int32) = nI (b + 8) from na_add _ 8, if_neg (fun z => absurd ((na_le (by omega) (by omega)).mp z) (by omega)), e_refuse, bd2_s]
  intro d
  induction d with
  | zero =>
    intro c b uc um hd hbe hc h h31
    obtain ⟨c, rfl⟩ : ∃ k, c = k + 1 := ⟨c - 1, by omega⟩
    exact far c b uc um (by omega) hbe h h31
  | succ d ih =>
    intro c b uc um hd hbe hc h h31
    obtain ⟨c, rfl⟩ : ∃ k, c = k + 2 := ⟨c - 2, by omega⟩
    by_cases hin : b + 8 ≤ e
    rotate_left
    · exact far (c + 1) b uc um (by omega) hbe h h31
    have hm := LdR.sm hb h
    rw [bk_Ld_bind_21, if_neg (fun z => absurd ((ec b (by omega)).mp z) (by omega)), LdR.cw hb h (by omega), bd2_s]
    rw [bk_Md_bind_33, if_neg (show ¬ (1 : Int32) = 0 by decide), if_pos h31, show nI b + (8 : Int32) = nI (b + 8) from na_add _ 8, if_pos ((na_le (by omega) (by omega)).mpr hin), bd1_eq hm.2.2.1, LdR.mw hb h (by omega), bd2_s, show nI b + (4 : Int32) = nI (b + 4) from na_add _ 4]
    generalize wm wB 2624 b = V
    have stop : ∀ (z : Mr) (y : Int32), z.1 2048 31 ≠ 0 → bk_Md_bind_33 (f + 4000) al (c + 1) z 2048 y (nI e) 1 = some (z, 0) := fun z y hz => by
      rw [bk_Md_bind_33, if_neg (show ¬ (1 : Int32) = 0 by decide), if_neg hz]
    by_cases v0 : V = 0
    · rw [if_pos v0, if_pos (show V - 1 = (-1 : Int32) by rw [v0]; decide)]
      unfold bk_Md_bind_81
      rw [if_pos rfl]
      unfold bk_Md_bind_103
      rw [if_pos rfl]
      unfold bk_Md_bind_123
      rw [bk_Md_bind_33, if_pos rfl]
      exact ⟨uc, um, 0, rfl, rfl, h, h31, Or.inl rfl⟩
    have v0' : ¬ V - 1 = (-1 : Int32) := fun z => v0 (by
      have : V - 1 + 1 = (-1 : Int32) + 1 := by rw [z]
      rw [Int32.sub_add_cancel] at this
      rw [this]
      decide)
    rw [if_neg v0, if_neg v0']
    have i0 : V.toInt ≠ 0 := fun z => v0 (Int32.toInt_inj.mp z)
    have i1 := Int32.le_toInt V
    have i2 := Int32.toInt_lt V
    have is : (V - 1).toInt = if V.toInt = -2147483648 then 2147483647 else V.toInt - 1 := by
      rw [Int32.toInt_sub, show (1 : Int32).toInt = 1 from rfl]
      unfold Int.bmod
      simp only []
      split <;> split <;> omega
    have q1 : (V < 1) ↔ V.toInt < 1 := Int32.lt_iff_toInt_lt
    have q2 : (V ≤ 4) ↔ V.toInt ≤ 4 := Int32.le_iff_toInt_le
    unfold bk_Md_bind_81
    rw [if_neg (show ¬ (1 : Int32) = 0 by decide), e_out, bd2_s]
    have bad : ∃ uc' um' v, (some (uc, (3 : Int32)) : Option (Mr × Int32)) = some (uc', v) ∧ (bd2 (fn_Md_refuse (f + 4000) al um 2048 (3 : Int32)) fun u2 v2 => (bk_Md_bind_123 (f + 4000) al (bk_Md_bind_33 (f + 4000) al (c + 1)) u2 2048 (nI b) (nI e) 1)) = some (um', 0) ∧ LdR n D uB wB uc' um' ∧ um'.1 2048 31 = v ∧ (v = 0 ∨ v = 3 ∨ v = 4) := by
      unfold bk_Md_bind_123
      rw [e_refuse, bd2_s, stop _ _ (by rw [rf_31 h31]; decide)]
      exact ⟨uc, rf um 3, 3, rfl, rfl, h.rf 3, rf_31 h31, Or.inr (Or.inl rfl)⟩
    by_cases vb : V < 1 ∨ ¬ V ≤ 4
    · have o1 : V - 1 < 0 ∨ 4 ≤ V - 1 := by
        rw [Int32.lt_iff_toInt_lt, Int32.le_iff_toInt_le, is, show (0 : Int32).toInt = 0 from rfl, show (4 : Int32).toInt = 4 from rfl]
        rw [q1, q2] at vb
        split <;> omega
      rw [if_pos o1, if_neg (show ¬ (1 : Int32) = 0 by decide)]
      by_cases v1 : V < 1
      · rw [if_pos v1]
        exact bad
      · rw [if_neg v1, if_neg (fun z => vb.elim v1 (fun y => y z))]
        exact bad
    have v1 : ¬ V < 1 := fun z => vb (Or.inl z)
    have v4 : V ≤ 4 := Classical.byContradiction fun z => vb (Or.inr z)
    have o1 : ¬ (V - 1 < 0 ∨ 4 ≤ V - 1) := by
      rw [Int32.lt_iff_toInt_lt, Int32.le_iff_toInt_le, is, show (0 : Int32).toInt = 0 from rfl, show (4 : Int32).toInt = 4 from rfl]
      rw [q1] at v1
      rw [q2] at v4
      split <;> omega
    obtain ⟨l, hl, el⟩ := na_sp (n := 4) (by decide) o1
    rw [if_neg v1, if_pos v4, if_neg o1, if_pos rfl, LdR.cw hb h (by omega), bd2_s, el, ck_eq (in_t hl (by decide)), bd1_eq ((hb.1.fr h.1).2.2.2.1 l hl)]
    unfold bk_Md_bind_103
    rw [if_neg (show ¬ (1 : Int32) = 0 by decide), bd1_eq hm.2.2.1, show nI b + (4 : Int32) = nI (b + 4) from na_add _ 4, LdR.mw hb h (by omega), bd2_s]
    obtain ⟨uc', um', v, b1, b2, b3, b4, b5⟩ := ld_slots0 (f := f) hb hl (wm wB 2624 (b + 4)) h h31
    rw [b1, b2, bd2_s, bd2_s]
    unfold bk_Md_bind_123
    rw [show nI b + (8 : Int32) = nI (b + 8) from na_add _ 8]
    by_cases z0 : v = 0
    · rw [if_pos z0]
      exact ih (c + 1) (b + 8) uc' um' (by omega) (by omega) (by omega) b3 (b4.trans z0)
    · rw [if_neg z0, stop _ _ (by rw [b4]; exact z0)]
      exact ⟨uc', um', v, rfl, rfl, b3, b4, b5⟩
end

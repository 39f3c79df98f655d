/-! load: the two loaders in step -/
theorem lg_pos {x y : Int64} : 0 < lg_cmp x y ↔ y.toInt < x.toInt := by
  unfold lg_cmp
  by_cases h1 : x > y
  · rw [if_pos h1]
    exact ⟨fun _ => Int64.lt_iff_toInt_lt.mp h1, fun _ => by decide⟩
  · rw [if_neg h1]
    have h3 : ¬ y.toInt < x.toInt := fun z => h1 (Int64.lt_iff_toInt_lt.mpr z)
    by_cases h2 : x = y
    · rw [if_pos h2]
      exact ⟨fun z => absurd z (by decide), fun z => absurd z h3⟩
    · rw [if_neg h2]
      exact ⟨fun z => absurd z (by decide), fun z => absurd z h3⟩
theorem lg_32 {x : Int32} : lg_cmp x.toInt64 0 < 0 ↔ x < 0 := by
  rw [lg_neg, Int32.toInt_toInt64, Int32.lt_iff_toInt_lt]
  exact Iff.rfl
theorem i64_add {x y : Int32} : (x.toInt64 + y.toInt64).toInt = x.toInt + y.toInt := by
  rw [Int64.toInt_add, Int32.toInt_toInt64, Int32.toInt_toInt64]
  have h1 := Int32.le_toInt x
  have h2 := Int32.toInt_lt x
  have h3 := Int32.le_toInt y
  have h4 := Int32.toInt_lt y
  unfold Int.bmod
  simp only []
  split <;> omega
theorem i64_32 {x : Int64} {w : Nat} (h : x.toInt = w) (hw : w < 2 ^ 31) : x.toInt32 = nI w := by
  apply Int32.toInt_inj.mp
  rw [Int64.toInt_toInt32, h, nI_toInt hw]
  unfold Int.bmod
  simp only []
  split <;> omega
theorem i64_4 {w : Nat} (hw : w + 4 < 2 ^ 31) : (nI w).toInt64 + 4 = (nI (w + 4)).toInt64 := by
  apply Int64.toInt_inj.mp
  rw [show (4 : Int64) = (nI 4).toInt64 from rfl, i64_add, Int32.toInt_toInt64, nI_toInt (by omega), nI_toInt (by omega), nI_toInt (by omega)]
  omega
theorem and_4095 (x : Int32) : ∃ m, m < 4096 ∧ x &&& 4095 = nI m := by
  refine ⟨(x &&& 4095).toBitVec.toNat, ?_, ?_⟩
  · rw [Int32.toBitVec_and, BitVec.toNat_and]
    exact Nat.lt_of_le_of_lt Nat.and_le_right (by decide)
  · apply Int32.toBitVec_inj.mp
    show _ = BitVec.ofNat 32 _
    rw [BitVec.ofNat_toNat, BitVec.setWidth_eq]
theorem bt_min : ∀ i, i < 32 → (2147483648#32).getLsbD i = decide (i = 31) := by decide +kernel
theorem bt_max : ∀ i, i < 32 → (2147483647#32).getLsbD i = decide (i < 31) := by decide +kernel
theorem i32_msb (x : Int32) : x.toBitVec.getLsbD 31 = decide (x < 0) := by
  have h : x.toBitVec.msb = decide (x.toBitVec.toInt < 0) := BitVec.msb_eq_toInt
  have e : x.toBitVec.msb = x.toBitVec.getLsbD 31 := BitVec.msb_eq_getLsbD_last _
  rw [← e, h]
  congr 1
  exact propext (by rw [Int32.lt_iff_toInt_lt]; exact Iff.rfl)
theorem xor_min (v : Int32) (h : v < 0) : v ^^^ (-2147483648 : Int32) = v &&& 2147483647 := by
  apply Int32.toBitVec_inj.mp
  rw [Int32.toBitVec_xor, Int32.toBitVec_and, show (-2147483648 : Int32).toBitVec = 2147483648#32 from rfl, show (2147483647 : Int32).toBitVec = 2147483647#32 from rfl]
  apply BitVec.eq_of_getLsbD_eq
  intro i hi
  rw [BitVec.getLsbD_xor, BitVec.getLsbD_and, bt_min i hi, bt_max i hi]
  by_cases h1 : i = 31
  · rw [h1, i32_msb, decide_eq_true h]
    rfl
  · rw [decide_eq_false h1, decide_eq_true (show i < 31 by omega), Bool.xor_false, Bool.and_true]
theorem xor_neg (v : Int32) (h : ¬ v < 0) : v ^^^ (-2147483648 : Int32) < 0 := by
  have := i32_msb (v ^^^ (-2147483648 : Int32))
  rw [Int32.toBitVec_xor, show (-2147483648 : Int32).toBitVec = 2147483648#32 from rfl, BitVec.getLsbD_xor, bt_min 31 (by decide), i32_msb, decide_eq_false h] at this
  exact of_decide_eq_true this.symm
theorem na_rem {a b : Nat} (ha : a < 2 ^ 31) (hb : b < 2 ^ 31) (h0 : 0 < b) : nI a - nI a / nI b * nI b = nI (a % b) := by
  have h1 : a / b * b ≤ a := Nat.div_mul_le_self a b
  rw [na_div ha hb h0, na_mul, na_sub h1]
  congr 1
  have := Nat.div_add_mod a b
  rw [Nat.mul_comm] at this
  omega
def LdB (al : Nat → Bool) (n D : Nat) (uB wB : Mr) : Prop := Sc al uB ∧ (D = 385 ∨ D = 386) ∧ rdR al uB 832 1 6 = some D ∧ Sm al wB ∧ (0 < n ∧ n ≤ 14) ∧ uB.1 384 1 = nI (64 * n) ∧ wB.1 2048 16 = nI (64 * n) ∧ (∀ j, j < 64 * n → uB.1 448 (nI j) &&& 255 = wB.1 2624 (nI j)) ∧ ∀ l m, l < 4 → m < 100 → uB.1 (320 + l) (nI m) = wB.1 2560 (nI (100 * l + m))
def LdR (n D : Nat) (uB wB uc um : Mr) : Prop := Fr (fun k => k = D + 64) uB uc ∧ Fr (fun k => k = 2627 ∨ k = 2048) wB um ∧ (∀ i : Int32, i ≠ 31 → um.1 2048 i = wB.1 2048 i) ∧ (∀ j, j < 64 * n → uc.1 (D + 64) (nI j) &&& 255 = um.1 2627 (nI j)) ∧ (∀ z, byt (uc.1 (D + 64) z)) ∧ um.2.2 = wB.2.2
def rf (u : Mr) (x : Int32) : Mr := if u.1 2048 31 = 0 then stI u 2048 31 x else u
theorem e_refuse {F : Nat} {al : Nat → Bool} {u : Mr} {x : Int32} : fn_Md_refuse F al u 2048 x = some (rf u x, 0) := by
  unfold fn_Md_refuse bk_Md_refuse_0 rf
  by_cases h : u.1 2048 31 = 0
  · rw [if_pos h, if_pos h]
  · rw [if_neg h, if_neg h]
theorem rf_31 {u : Mr} {x : Int32} (h : u.1 2048 31 = 0) : (rf u x).1 2048 31 = x := by
  unfold rf
  rw [if_pos h, stI_same]
theorem rf_ne {u : Mr} {x : Int32} (h : u.1 2048 31 ≠ 0) : rf u x = u := if_neg h
theorem rf_fr {S : Nat → Prop} {u : Mr} {x : Int32} (h : S 2048) : Fr S u (rf u x) := by
  unfold rf
  split
  · exact Fr.st h
  · exact Fr.refl
theorem rf_i {u : Mr} {x i : Int32} (h : i ≠ 31) : (rf u x).1 2048 i = u.1 2048 i := by
  unfold rf
  split
  · rw [stI_at, if_neg h]
  · rfl
theorem rf_22 {u : Mr} {x : Int32} : (rf u x).2.2 = u.2.2 := by
  unfold rf
  split <;> rfl
section
variable {f n D F : Nat} {al : Nat → Bool} {uB wB uc um : Mr}
theorem LdR.c384 (hb : LdB al n D uB wB) (h : LdR n D uB wB uc um) : rdR al uc 384 0 7 = some 448 := h.1.rd.trans (hb.1.2.2.2.2.1 0 (by decide))
theorem LdR.dr (hb : LdB al n D uB wB) (h : LdR n D uB wB uc um) : rdR al uc 832 1 6 = some D := h.1.rd.trans hb.2.2.1
theorem LdR.db (hb : LdB al n D uB wB) (h : LdR n D uB wB uc um) : rdR al uc D 0 7 = some (D + 64) := by
  rw [h.1.rd]
  rcases hb.2.1 with e | e
  · rw [e]
    exact hb.1.2.2.2.2.1 1 (by decide)
  · rw [e]
    exact hb.1.2.2.2.2.1 2 (by decide)
theorem LdR.sm (hb : LdB al n D uB wB) (h : LdR n D uB wB uc um) : Sm al um := hb.2.2.2.1.fr h.2.1
theorem LdR.sz (hb : LdB al n D uB wB) (h : LdR n D uB wB uc um) : uc.1 384 1 = nI (64 * n) ∧ um.1 2048 16 = nI (64 * n) := by
  have hD := hb.2.1
  exact ⟨by rw [h.1.2 384 (by omega)]; exact hb.2.2.2.2.2.1, by rw [h.2.2.1 16 (by decide)]; exact hb.2.2.2.2.2.2.1⟩
theorem LdR.src (hb : LdB al n D uB wB) (h : LdR n D uB wB uc um) : ∀ j, j < 64 * n → uc.1 448 (nI j) &&& 255 = um.1 2624 (nI j) := by
  have hD := hb.2.1
  rw [h.1.2 448 (by omega), h.2.1.2 2624 (by decide)]
  exact hb.2.2.2.2.2.2.2.1
theorem LdR.off (hb : LdB al n D uB wB) (h : LdR n D uB wB uc um) : ∀ l m, l < 4 → m < 100 → uc.1 (320 + l) (nI m) = um.1 2560 (nI (100 * l + m)) := by
  intro l m hl hm
  have hD := hb.2.1
  rw [h.1.2 (320 + l) (by omega), h.2.1.2 2560 (by decide)]
  exact hb.2.2.2.2.2.2.2.2 l m hl hm
theorem LdR.cw (hb : LdB al n D uB wB) (h : LdR n D uB wB uc um) {p : Nat} (hp : p + 4 ≤ 64 * n) : fn_Im_wordAt F al uc 384 (nI p) = some (uc, wm wB 2624 p) := by
  have hn := hb.2.2.2.2.1.2
  rw [e_word (i := 384) (LdR.c384 hb h) (by omega)]
  rw [wc_wm (v := wB) (r := 2624) (fun j h1 h2 => by
    have := LdR.src hb h j (by omega)
    rw [h.2.1.2 2624 (by decide)] at this
    exact this)]
theorem LdR.mw (hb : LdB al n D uB wB) (h : LdR n D uB wB uc um) {p : Nat} (hp : p + 4 ≤ 64 * n) : fn_Md_wordIn F al um 2624 (nI p) = some (um, wm wB 2624 p) := by
  have hn := hb.2.2.2.2.1.2
  rw [e_wordIn 2624 (by omega)]
  rw [wm_cg (v := wB) (r := 2624) (fun j _ _ => by rw [h.2.1.2 2624 (by decide)])]
theorem LdR.rf (h : LdR n D uB wB uc um) (x : Int32) : LdR n D uB wB uc (rf um x) := by
  refine ⟨h.1, h.2.1.trans (rf_fr (Or.inr rfl)), fun i hi => (rf_i hi).trans (h.2.2.1 i hi), fun j hj => ?_, h.2.2.2.2.1, rf_22.trans h.2.2.2.2.2⟩
  rw [(rf_fr (S := fun k => k = 2048) rfl).2 2627 (by decide)]
  exact h.2.2.2.1 j hj
theorem LdR.set (hb : LdB al n D uB wB) (h : LdR n D uB wB uc um) {p : Nat} (v : Int32) : LdR n D uB wB (wr uc (D + 64) p 4 (fun j => (sb v j).toInt8.toInt32)) (wr um 2627 p 4 (fun j => sb v j &&& 255)) := by
  have hn := hb.2.2.2.2.1.2
  refine ⟨h.1.trans (wr_fr rfl), h.2.1.trans (wr_fr (Or.inl rfl)), fun i hi => ?_, fun j hj => ?_, wr_byt h.2.2.2.2.1 (fun i => byt_b _), h.2.2.2.2.2⟩
  · rw [wr_ne (by decide)]
    exact h.2.2.1 i hi
  · rw [wr_at (by omega), wr_at (by omega)]
    by_cases c : p ≤ j ∧ j < p + 4
    · rw [if_pos c, if_pos c, by_and]
    · rw [if_neg c, if_neg c]
      exact h.2.2.2.1 j hj
theorem ld_stop {k22 : Mr → Nat → Int32 → Int32 → Int32 → Option (Mr × Int32)} {c a b L q : Nat} {sh x3 : Int32} (h : um.1 2048 31 ≠ 0) : bk_Md_relocate_118 F al k22 (c + 1) um 2048 sh (nI b) x3 (nI q) (nI L) (nI a) = k22 um 2048 sh (nI (b + L)) x3 := by
  rw [bk_Md_relocate_118, na_add]
  unfold bk_Md_relocate_167
  rw [na_add]
  by_cases h1 : nI (b + L) ≤ nI a
  · rw [if_pos h1]
  · rw [if_neg h1, if_neg h]
theorem ld_block (hb : LdB al n D uB wB) {b L q : Nat} {sh x3 : Int32} (he : b + L ≤ 64 * n) (hq : q < 2 ^ 31) (k22 : Mr → Nat → Int32 → Int32 → Int32 → Option (Mr × Int32)) :
    ∀ d c a uc um, a + 2 * d = b + L → d < c → LdR n D uB wB uc um → um.1 2048 31 = 0 → ∃ uc' um' v, bk_Ld_relocateBlock_28 (f + 4000) al c uc 832 384 (nI (b + L)) sh (nI q) (nI a) = some (uc', v) ∧ bk_Md_relocate_118 (f + 4000) al k22 c um 2048 sh (nI b) x3 (nI q) (nI L) (nI a) = k22 um' 2048 sh (nI (b + L)) x3 ∧ LdR n D uB wB uc' um' ∧ ((v = 1 ∧ um'.1 2048 31 = 0) ∨ (v = 0 ∧ um'.1 2048 31 = 3)) := by
  have hn := hb.2.2.2.2.1
  intro d
  induction d with
  | zero =>
    intro c a uc um hd hc h h31
    obtain ⟨c, rfl⟩ : ∃ k, c = k + 1 := ⟨c - 1, by omega⟩
    have e : nI (b + L) ≤ nI a := (na_le (by omega) (by omega)).mpr (by omega)
    refine ⟨uc, um, 1, ?_, ?_, h, Or.inl ⟨rfl, h31⟩⟩
    · rw [bk_Ld_relocateBlock_28, if_pos e]
    · rw [bk_Md_relocate_118, na_add, if_pos e]
      unfold bk_Md_relocate_167
      rw [na_add]
  | succ d ih =>
    intro c a uc um hd hc h h31
    obtain ⟨c, rfl⟩ : ∃ k, c = k + 2 := ⟨c - 2, by omega⟩
    have e : ¬ nI (b + L) ≤ nI a := fun z => absurd ((na_le (by omega) (by omega)).mp z) (by omega)
    have hm := LdR.sm hb h
    rw [bk_Ld_relocateBlock_28, if_neg e, e_half (i := 384) (LdR.c384 hb h) (by omega), bd2_s, show (384 : Nat) + 64 = 448 from rfl, LdR.src hb h a (by omega), LdR.src hb h (a + 1) (by omega)]
    rw [bk_Md_relocate_118, na_add, if_neg e, if_pos h31, bd1_eq hm.2.2.1, ck_eq (in_t (by omega) (by decide)), bd1_eq hm.2.2.1, show nI a + (1 : Int32) = nI (a + 1) from na_add _ 1, ck_eq (in_t (by omega) (by decide)), show nI a + (2 : Int32) = nI (a + 2) from na_add _ 2]
    generalize (um.1 2624 (nI a) ||| um.1 2624 (nI (a + 1)) <<< ((8 : Int32) &&& 31)) = E
    unfold bk_Ld_relocateBlock_101 fn_Md_entry bk_Md_entry_0
    rw [show nI a + (2 : Int32) = nI (a + 2) from na_add _ 2]
    have bad : ∀ z : Mr, z = rf um 3 → bk_Md_relocate_118 (f + 4000) al k22 (c + 1) z 2048 sh (nI b) x3 (nI q) (nI L) (nI (a + 2)) = k22 z 2048 sh (nI (b + L)) x3 := fun z hz => ld_stop (by rw [hz, rf_31 h31]; decide)
    by_cases m3 : E >>> ((12 : Int32) &&& 31) = 3
    · have m0 : ¬ E >>> ((12 : Int32) &&& 31) = 0 := by rw [m3]; decide
      rw [if_pos m3, if_neg m0, if_pos m3]
      obtain ⟨m, hm4, em⟩ := and_4095 E
      rw [em]
      have ep : ((nI q).toInt64 + (nI m).toInt64).toInt = ((q + m : Nat) : Int) := by
        rw [i64_add, nI_toInt hq, nI_toInt (by omega)]
        omega
      generalize (nI q).toInt64 + (nI m).toInt64 = pl at ep
      have p0 : ¬ lg_cmp pl 0 < 0 := fun z => by
        have := lg_neg.mp z
        rw [ep, show (0 : Int64).toInt = 0 from rfl] at this
        omega
      have p1 : (0 < lg_cmp pl ((nI (64 * n) - 4).toInt64)) ↔ 64 * n < q + m + 4 := by
        rw [lg_pos, ep, Int32.toInt_toInt64, show nI (64 * n) - (4 : Int32) = nI (64 * n - 4) from na_sub (b := 4) (by omega), nI_toInt (by omega)]
        omega
      have p2 : (0 < lg_cmp (pl + 4) (nI (64 * n)).toInt64) ↔ 64 * n < q + m + 4 := by
        rw [lg_pos, Int64.toInt_add, ep, Int32.toInt_toInt64, nI_toInt (by omega), show (4 : Int64).toInt = 4 from rfl]
        unfold Int.bmod
        simp only []
        split <;> omega
      unfold fn_Im_holdsWord bk_Im_holdsWord_0 bk_Md_entry_28 fn_Md_lies bk_Md_lies_0
      rw [(LdR.sz hb h).1, (LdR.sz hb h).2, if_neg p0, if_pos m3, if_neg p0, if_neg (show ¬ lg_cmp (4 : Int64) 0 < 0 by decide)]
      by_cases hin : 64 * n < q + m + 4
      · rw [if_pos (p1.mpr hin), if_pos (p2.mpr hin), bd2_s, if_pos rfl, bd2_s, if_pos rfl]
        unfold bk_Md_entry_50
        rw [e_refuse, bd2_s, bd2_s]
        exact ⟨uc, rf um 3, 0, rfl, bad _ rfl, h.rf 3, Or.inr ⟨rfl, rf_31 h31⟩⟩
      · have e32 : pl.toInt32 = nI (q + m) := i64_32 ep (by omega)
        rw [if_neg (fun z => hin (p1.mp z)), if_neg (fun z => hin (p2.mp z)), bd2_s, if_neg (by decide), bd1_eq (LdR.dr hb h), bd2_s, if_neg (by decide)]
        unfold fn_Im_addToWord bk_Im_addToWord_0 bk_Md_entry_56
        rw [e32, e_word (LdR.db hb h) (by omega), bd2_s, e_setWord (LdR.db hb h) (by omega), bd2_s, bd2_s, if_pos m3, bd1_eq hm.2.2.2.2.2.2.2.2.2, e_wordIn 2627 (by omega), bd2_s, e_change hm (by omega), bd2_s, bd2_s, wc_wm (v := um) (r := 2627) (fun j h1 h2 => h.2.2.2.1 j (by omega))]
        exact ih (c + 1) (a + 2) _ _ (by omega) (by omega) (LdR.set hb h _) (by rw [wr_ne (by decide)]; exact h31)
    · rw [if_neg m3]
      by_cases m0 : E >>> ((12 : Int32) &&& 31) = 0
      · rw [if_pos m0, if_pos m0]
        unfold bk_Md_entry_28 bk_Md_entry_56
        rw [if_neg m3, if_neg m3, bd2_s]
        exact ih (c + 1) (a + 2) _ _ (by omega) (by omega) h h31
      · rw [if_neg m0, if_neg m0, if_neg m3]
        unfold bk_Md_entry_50
        rw [e_refuse, bd2_s, bd2_s]
        exact ⟨uc, rf um 3, 0, rfl, bad _ rfl, h.rf 3, Or.inr ⟨rfl, rf_31 h31⟩⟩
end

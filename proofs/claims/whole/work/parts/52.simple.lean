/-! The plain calls. -/
theorem e_out {F : Nat} {al : Nat → Bool} {u : Mr} {x n : Int32} : fn_Md_out F al u x n = some (u, if x < 0 ∨ n ≤ x then 1 else 0) := by
  unfold fn_Md_out bk_Md_out_0 bk_Md_out_9
  by_cases h1 : x < 0
  · simp [h1]
  · by_cases h2 : x < n
    · simp [h1, h2, Int32.not_le.mpr h2]
    · simp [h1, h2, Int32.not_lt.mp h2]
theorem e_below {F : Nat} {al : Nat → Bool} {u : Mr} {x n : Int32} : fn_Fg_isBelow F al u x n = some (u, if x < 0 ∨ n ≤ x then 0 else 1) := by
  unfold fn_Fg_isBelow bk_Fg_isBelow_0
  by_cases h1 : x < 0
  · simp [h1]
  · by_cases h2 : n ≤ x
    · simp [h1, h2]
    · simp [h1, h2]
theorem e_slot {F : Nat} {al : Nat → Bool} {u : Mr} {x n : Int32} : fn_Fg_isSlot F al u x n = some (u, if (x < 0 ∨ 4 ≤ x) ∨ (n < 0 ∨ 100 ≤ n) then 0 else 1) := by
  unfold fn_Fg_isSlot bk_Fg_isSlot_0
  rw [e_below, bd2_s]
  by_cases h1 : x < 0 ∨ 4 ≤ x
  · simp [h1]
  · rw [if_neg h1, if_neg (by decide), e_below, bd2_s]
    by_cases h2 : n < 0 ∨ 100 ≤ n
    · simp [h1, h2]
    · simp [h1, h2]
theorem e_fails {F : Nat} {al : Nat → Bool} {u : Mr} {b x : Int32} (h : b = 0 ∨ b = 1) : fn_Md_fails F al u 2048 b x = some (stI u 2048 0 (if b = 0 then 0 else x), b) := by
  unfold fn_Md_fails bk_Md_fails_0
  rcases h with rfl | rfl <;> rfl
theorem e_thrown {F : Nat} {al : Nat → Bool} {u : Mr} : fn_Md_thrown F al u 2048 = some (u, u.1 2048 0) := rfl
/-- the same but for 'thrown' and for what the reference keeps nobody reads between calls -/
theorem Inv.thr {al : Nat → Bool} {u : Mr} (h : Inv al u) (x : Int32) : Inv al (stI u 2048 0 x) := by
  obtain ⟨h1, h2, h3, h4, h5, h6, h7, h8, h9, h10, h11, h12, g, h13, h14⟩ := h
  have f : Fr (fun k => k = 2048) u (stI u 2048 0 x) := Fr.st rfl
  have e : ∀ i : Int32, i ≠ 0 → (stI u 2048 0 x).1 2048 i = u.1 2048 i := fun i hi => by rw [stI_at, if_neg hi]
  refine ⟨h1, h2.fr f, h3.fr f, h4.fr f, h5.fr f (fun o ho => by omega), h6.fr f (fun q hq => by omega) (by omega), h7.fr f (fun o ho => by omega) (fun k hk => by rw [f.2 _ (show ¬ (1280 + k = 2048) by omega)]; exact ⟨rfl, rfl, rfl, rfl⟩) (by omega), h8.fr f (fun o ho => by omega) (fun o ho => by omega) (fun o ho => by omega) (by omega), h9.fr f (fun k hk => by rw [f.2 _ (show ¬ (1280 + k = 2048) by omega)]; exact ⟨rfl, rfl, rfl⟩) (by omega), h10.fr f (fun l hl => by omega) (by omega), ?_, h12.fr f (by omega), g, h13.fr f, h14.fr f (by have := h13.1; omega) ⟨e _ (by decide), e _ (by decide), e _ (by decide), e _ (by decide), e _ (by decide)⟩⟩
  rw [e 16 (by decide)]
  exact RImg.fr (by rw [stI_ne (by omega)]) (stI_ne (by omega)) (stI_ne (by omega)) h11
theorem Inv.out {al : Nat → Bool} {u : Mr} (h : Inv al u) (k : Nat) (i : Int32) (x : Int64) : Inv al (stL u k i x) := by
  obtain ⟨h1, h2, h3, h4, h5, h6, h7, h8, h9, h10, h11, h12, g, h13, h14⟩ := h
  have f : Fr (fun _ => False) u (stL u k i x) := Fr.out
  exact ⟨h1, h2.fr f, h3.fr f, h4.fr f, h5.fr f (fun _ _ z => z), h6.fr f (fun _ _ => ⟨fun z => z, fun z => z⟩) ⟨fun z => z, fun z => z⟩, h7.fr f (fun _ _ z => z) (fun _ _ => ⟨rfl, rfl, rfl, rfl⟩) ⟨fun z => z, fun z => z, fun z => z, fun z => z⟩, h8.fr f (fun _ _ z => z) (fun _ _ z => z) (fun _ _ z => z) ⟨fun z => z, fun z => z, fun z => z, fun z => z, fun z => z⟩, h9.fr f (fun _ _ => ⟨rfl, rfl, rfl⟩) ⟨fun z => z, fun z => z, fun z => z⟩, h10.fr f (fun _ _ z => z) (fun z => z), h11, h12.fr f ⟨fun z => z, fun z => z, fun z => z⟩, g, h13.fr f, h14.fr f ⟨fun z => z, fun z => z, fun z => z, fun z => z⟩ ⟨rfl, rfl, rfl, rfl, rfl⟩⟩
theorem m_offer {F : Nat} {al : Nat → Bool} {u : Mr} (h : Inv al u) (a b x : Int32) : ∃ u1 k u2 r, fn_Lw_offer F al u 64 a b x = some (u1, k) ∧ fn_Md_offer F al u1 2048 a b x = some (u2, r) ∧ u2.1 2048 0 = k ∧ Inv al u2 := by
  obtain ⟨hc, hm⟩ := h.base
  by_cases hs : (a < 0 ∨ 4 ≤ a) ∨ (b < 0 ∨ 100 ≤ b)
  · refine ⟨u, 1, stI u 2048 0 1, 0, ?_, ?_, stI_same, h.thr 1⟩
    · unfold fn_Lw_offer bk_Lw_offer_0 fn_Fg_offer bk_Fg_offer_0
      rw [e_slot, if_pos hs]
      rfl
    · unfold fn_Md_offer bk_Md_offer_0 bk_Md_offer_18 bk_Md_offer_23
      rw [e_out, bd2_s]
      by_cases h1 : a < 0 ∨ 4 ≤ a
      · simp only [h1, if_true]
        rw [if_neg (by decide), e_fails (Or.inr rfl)]
        rfl
      · have h2 : b < 0 ∨ 100 ≤ b := hs.resolve_left h1
        simp only [h1, if_false, if_true, e_out, bd2_s, h2]
        rw [if_neg (by decide), e_fails (Or.inr rfl)]
        rfl
  · simp only [not_or, Int32.not_le] at hs
    obtain ⟨⟨a0, a1⟩, b0, b1⟩ := hs
    obtain ⟨l, hl, rfl⟩ := na_of_lt (n := 4) (by decide) a0 a1
    obtain ⟨n, hn, rfl⟩ := na_of_lt (n := 100) (by decide) b0 b1
    have ns : ¬ ((nI l < 0 ∨ 4 ≤ nI l) ∨ (nI n < 0 ∨ 100 ≤ nI n)) := by
      simp only [not_or, Int32.not_le]
      exact ⟨⟨a0, a1⟩, b0, b1⟩
    have ns1 : ¬ (nI l < 0 ∨ 4 ≤ nI l) := fun z => ns (Or.inl z)
    have ns2 : ¬ (nI n < 0 ∨ 100 ≤ nI n) := fun z => ns (Or.inr z)
    have ix : (100 : Int32) * nI l + nI n = nI (100 * l + n) := by rw [show (100 : Int32) = nI 100 from rfl, na_mul, na_add]
    refine ⟨stI u (320 + l) (nI n) x, 0, stI (stI (stI u (320 + l) (nI n) x) 2048 0 0) 2560 (nI (100 * l + n)) x, 0, ?_, ?_, by rw [stI_ne (by omega), stI_same], ?_⟩
    · unfold fn_Lw_offer bk_Lw_offer_0 fn_Fg_offer bk_Fg_offer_0
      rw [e_slot, if_neg ns, bd2_s, if_neg (by decide), bd1_eq hc.1.2.2.1, ck_eq (by rw [na_inb (by omega)]; exact decide_eq_true hl), bd1_eq (hc.2.2.2.1 l hl), ck_eq (by rw [na_inb (by omega)]; exact decide_eq_true hn)]
      rfl
    · unfold fn_Md_offer bk_Md_offer_0 bk_Md_offer_23
      rw [e_out, bd2_s, if_neg ns1, if_pos rfl, e_out, bd2_s, if_neg ns2, if_pos rfl, e_fails (Or.inl rfl), bd2_s, if_pos rfl, if_pos rfl]
      rw [bd1_eq (show rdR al (stI (stI u (320 + l) (nI n) x) 2048 0 0) 2048 15 40 = some 2560 from hm.2.1.2.2.2.2.2.2.2), ix, ck_eq (by rw [na_inb (by omega)]; exact decide_eq_true (by omega))]
    · obtain ⟨h1, h2, h3, h4, h5, h6, h7, h8, h9, h10, h11, h12, g, h13, h14⟩ := h.thr 0
      have e0 : stI (stI u (320 + l) (nI n) x) 2048 0 0 = stI (stI u 2048 0 0) (320 + l) (nI n) x := by
        have : ∀ c d : Nat, c ≠ d → ∀ (i j y z : Int32), stI (stI u c i y) d j z = stI (stI u d j z) c i y := fun c d hcd i j y z => by
          unfold stI
          refine Prod.ext ?_ rfl
          funext p q
          show (if p = d ∧ q = j then z else if p = c ∧ q = i then y else u.1 p q) = (if p = c ∧ q = i then y else if p = d ∧ q = j then z else u.1 p q)
          by_cases e1 : p = d ∧ q = j
          · rw [if_pos e1, if_neg (by rintro ⟨e2, -⟩; exact hcd (e2.symm.trans e1.1)), if_pos e1]
          · rw [if_neg e1, if_neg e1]
        exact this _ _ (by omega) _ _ _ _
      rw [e0]
      generalize stI u 2048 0 0 = v at *
      have f : Fr (fun k => (320 ≤ k ∧ k < 324) ∨ k = 2560) v (stI (stI v (320 + l) (nI n) x) 2560 (nI (100 * l + n)) x) := Fr.trans (Fr.st (by omega)) (Fr.st (by omega))
      generalize hw : stI (stI v (320 + l) (nI n) x) 2560 (nI (100 * l + n)) x = w at f
      have e : w.1 2048 = v.1 2048 := f.2 _ (by omega)
      refine ⟨h1, h2.fr f, h3.fr f, h4.fr f, h5.fr f (fun o ho => by omega), h6.fr f (fun q hq => by omega) (by omega), h7.fr f (fun o ho => by omega) (fun k hk => by rw [f.2 _ (show ¬ ((320 ≤ 1280 + k ∧ 1280 + k < 324) ∨ 1280 + k = 2560) by omega)]; exact ⟨rfl, rfl, rfl, rfl⟩) (by omega), h8.fr f (fun o ho => by omega) (fun o ho => by omega) (fun o ho => by omega) (by omega), h9.fr f (fun k hk => by rw [f.2 _ (show ¬ ((320 ≤ 1280 + k ∧ 1280 + k < 324) ∨ 1280 + k = 2560) by omega)]; exact ⟨rfl, rfl, rfl⟩) (by omega), ?_, ?_, h12.fr f (by omega), g, h13.fr f, h14.fr f (by have := h13.1; omega) (by rw [e]; exact ⟨rfl, rfl, rfl, rfl, rfl⟩)⟩
      · intro l' n' hl' hn'
        rw [← hw, stI_ne (by omega), stI_at]
        by_cases e1 : l' = l
        · subst e1
          rw [stI_at]
          by_cases e2 : n' = n
          · rw [e2, if_pos rfl, if_pos rfl]
          · rw [if_neg (fun z => e2 (nI_inj (by omega) (by omega) z)), if_neg (fun z => e2 (by have := nI_inj (by omega) (by omega) z; omega)), stI_ne (by omega)]
            exact h10 l' n' hl' hn'
        · rw [stI_ne (by omega), if_neg (fun z => e1 (by have := nI_inj (by omega) (by omega) z; omega)), stI_ne (by omega)]
          exact h10 l' n' hl' hn'
      · rw [e]
        exact RImg.fr (by rw [f.2 _ (by omega)]) (f.2 _ (by omega)) (f.2 _ (by omega)) h11
theorem bt_255 : ∀ i, i < 32 → (255#32).getLsbD i = decide (i < 8) := by decide +kernel
theorem by_and (x : Int32) : x.toInt8.toInt32 &&& 255 = x &&& 255 := by
  apply Int32.toBitVec_inj.mp
  rw [Int32.toBitVec_and, Int32.toBitVec_and]
  apply BitVec.eq_of_getLsbD_eq
  intro i hi
  rw [BitVec.getLsbD_and, BitVec.getLsbD_and, show (255 : Int32).toBitVec = 255#32 from rfl, bt_255 i hi]
  by_cases h8 : i < 8
  · have e : x.toInt8.toInt32.toBitVec.getLsbD i = x.toBitVec.getLsbD i := by
      rw [Int8.toBitVec_toInt32, Int32.toBitVec_toInt8, BitVec.getLsbD_signExtend, BitVec.getLsbD_signExtend]
      simp [h8, hi, show i < 32 from hi]
    rw [e]
  · simp [h8]
theorem xor_and (a m : Int32) : (a ^^^ m) &&& 255 = (a &&& 255) ^^^ (m &&& 255) := by
  apply Int32.toBitVec_inj.mp
  simp only [Int32.toBitVec_and, Int32.toBitVec_xor]
  apply BitVec.eq_of_getLsbD_eq
  intro i hi
  simp only [BitVec.getLsbD_and, BitVec.getLsbD_xor]
  cases a.toBitVec.getLsbD i <;> cases m.toBitVec.getLsbD i <;> cases (255 : Int32).toBitVec.getLsbD i <;> rfl
theorem and_and (a : Int32) : (a &&& 255) &&& 255 = a &&& 255 := by
  apply Int32.toBitVec_inj.mp
  simp only [Int32.toBitVec_and]
  apply BitVec.eq_of_getLsbD_eq
  intro i hi
  simp only [BitVec.getLsbD_and]
  cases a.toBitVec.getLsbD i <;> cases (255 : Int32).toBitVec.getLsbD i <;> rfl
theorem byt_b (x : Int32) : byt (x.toInt8.toInt32) := by
  unfold byt
  have h1 := Int8.le_toInt x.toInt8
  have h2 := Int8.toInt_lt x.toInt8
  have h3 : x.toInt8.toInt32.toInt = x.toInt8.toInt := Int8.toInt_toInt32 _
  show (decide (-128 ≤ x.toInt8.toInt32) && decide (x.toInt8.toInt32 ≤ 127)) = true
  rw [Bool.and_eq_true, decide_eq_true_eq, decide_eq_true_eq, Int32.le_iff_toInt_le, Int32.le_iff_toInt_le, h3]
  have e1 : (-128 : Int32).toInt = -128 := rfl
  have e2 : (127 : Int32).toInt = 127 := rfl
  omega

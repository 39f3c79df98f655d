/-! every stretch answers and keeps the invariant -/
theorem fin_n {F : Nat} {al : Nat → Bool} {u2 : Mr} {k : Int32} (h0 : u2.1 2048 0 = k) (h : Inv al u2) : ∃ u', (bd2 (fn_Md_thrown F al u2 2048) fun u3 v3 => (if v3 = k then (some (u3)) else (none))) = some u' ∧ Inv al u' := by
  rw [e_thrown, bd2_s, if_pos h0]
  exact ⟨u2, rfl, h⟩
theorem fin_l {F : Nat} {al : Nat → Bool} {u2 : Mr} {k r : Int32} (h0 : u2.1 2048 0 = k) (h1 : k = 0 → u2.2.2 1408 0 = r.toInt64) (h : Inv al u2) : ∃ u', (bd2 (fn_Md_thrown F al u2 2048) fun u3 v3 => (if v3 = k then (if k = 0 then (if (lg_cmp (u3.2.2 1408 (0 : Int32)) r.toInt64) = 0 then (some (u3)) else (none)) else (some (u3))) else (none))) = some u' ∧ Inv al u' := by
  rw [e_thrown, bd2_s, if_pos h0]
  by_cases k0 : k = 0
  · rw [if_pos k0, h1 k0, if_pos (lg_self _)]
    exact ⟨u2, rfl, h⟩
  · rw [if_neg k0]
    exact ⟨u2, rfl, h⟩
theorem step_ok {f : Nat} {xs : Nat → Int32} {Ls : Nat} (hL : Ls ≤ 3072) : StepOK (f + 4000) xs Ls Inv := by
  refine ⟨fun al u h => ⟨h.1.1, h.1.2.1, h.1.2.2.1⟩, fun al u k j a h e => h.2.1 k j a e, fun al u x4 h hr => ?_, fun al u x4 h hr => ?_, fun al u x4 h hr => ?_, fun al u x4 h hr => ?_, fun al u x4 h hr => ?_, fun al u x4 h hr => ?_, fun al u x4 h hr => ?_, fun al u x4 h hr => ?_, fun al u x4 h hr => ?_, fun al u x4 h hr => ?_, fun al u x4 h hr => ?_, fun al u x4 h hr => ?_, fun al u x4 h hr => ?_⟩
  all_goals obtain ⟨i1, i2, i3, i4, i5⟩ := inR_in hL hr
  · unfold sg_108
    obtain ⟨u1, k, u2, r, q1, q2, q3, q4, q5⟩ := m_put (f := f) h (xs (x4 + 1).toNatClampNeg) (xs (x4 + 2).toNatClampNeg) ((((xs (x4 + (3 : Int32)).toNatClampNeg).toInt64) <<< ((32 : Int32).toInt64 &&& 63)) ||| (((xs (x4 + (4 : Int32)).toNatClampNeg).toInt64) &&& (4294967295 : Int64))) (xs (x4 + 5).toNatClampNeg)
    rw [ck_eq i1, ck_eq i2, ck_eq i3, ck_eq i4, ck_eq i5, q1, bd2_s, ck_eq i1, ck_eq i2, ck_eq i3, ck_eq i4, ck_eq i5, q2, bd2_s]
    exact fin_l q3 q4 q5
  · unfold sg_232
    obtain ⟨u1, k, u2, r, q1, q2, q3, q5⟩ := m_define (F := f + 4000) h (xs (x4 + 1).toNatClampNeg) (xs (x4 + 2).toNatClampNeg) (xs (x4 + 3).toNatClampNeg) (xs (x4 + 4).toNatClampNeg)
    rw [ck_eq i1, ck_eq i2, ck_eq i3, ck_eq i4, q1, bd2_s, ck_eq i1, ck_eq i2, ck_eq i3, ck_eq i4, q2, bd2_s]
    exact fin_n q3 q5
  · rcases m_refer (f := f) h (xs (x4 + 1).toNatClampNeg) (xs (x4 + 2).toNatClampNeg) (xs (x4 + 3).toNatClampNeg) (xs (x4 + 4).toNatClampNeg) (xs (x4 + 5).toNatClampNeg) with ⟨k1, u1, k, u2, r, a1, a2, q1, q2, q3, q4, q5⟩ | ⟨k1, k2, u1, k, u2, r, a1, a2, a3, a4, a5, q1, q2, q3, q4, q5⟩
    · refine Or.inl ⟨k1, (u2, k), a1, a2, ?_, q4, q5⟩
      unfold sg_304
      rw [ck_eq i1, ck_eq i2, ck_eq i3, ck_eq i4, ck_eq i5, q1, bd2_s, ck_eq i1, ck_eq i2, ck_eq i3, ck_eq i4, ck_eq i5, aln0, q2, bd2_s, e_thrown, bd2_s, if_pos q3]
    · refine Or.inr ⟨k1, k2, (u2, k), a1, a2, a3, a4, a5, ?_, q4, q5⟩
      unfold sg_304B
      rw [ck_eq i1, ck_eq i2, ck_eq i3, ck_eq i4, ck_eq i5, q1, bd2_s, ck_eq i1, ck_eq i2, ck_eq i3, ck_eq i4, ck_eq i5, aln0, q2, bd2_s, e_thrown, bd2_s, if_pos q3]
  · unfold sg_388
    obtain ⟨u1, k, u2, r, q1, q2, q3, q5⟩ := m_imported (F := f + 4000) h (xs (x4 + 1).toNatClampNeg) (xs (x4 + 2).toNatClampNeg) (xs (x4 + 3).toNatClampNeg)
    rw [ck_eq i1, ck_eq i2, ck_eq i3, q1, bd2_s, ck_eq i1, ck_eq i2, ck_eq i3, q2, bd2_s]
    exact fin_n q3 q5
  · unfold sg_448
    rw [ck_eq i1, ck_eq i2]
    by_cases z : xs (x4 + 2).toNatClampNeg = 0
    · obtain ⟨u1, k, u2, r, q1, q2, q3, q5⟩ := m_exported (F := f + 4000) h (xs (x4 + 1).toNatClampNeg) 0 (Or.inl rfl)
      rw [if_pos z, q1, bd2_s, ck_eq i1, ck_eq i2, if_pos z, q2, bd2_s]
      exact fin_n q3 q5
    · obtain ⟨u1, k, u2, r, q1, q2, q3, q5⟩ := m_exported (F := f + 4000) h (xs (x4 + 1).toNatClampNeg) 1 (Or.inr rfl)
      rw [if_neg z, q1, bd2_s, ck_eq i1, ck_eq i2, if_neg z, q2, bd2_s]
      exact fin_n q3 q5
  · unfold sg_512
    obtain ⟨u1, k, u2, r, q1, q2, q3, q4, q5⟩ := m_link (f := f) h
    rw [q1, bd2_s, q2, bd2_s]
    exact fin_l q3 q4 q5
  · unfold sg_556
    obtain ⟨u1, k, u2, r, q1, q2, q3, q4, q5⟩ := m_image (F := f + 4000) h (xs (x4 + 1).toNatClampNeg)
    rw [ck_eq i1, q1, bd2_s, ck_eq i1, q2, bd2_s]
    exact fin_l q3 q4 q5
  · unfold sg_612
    obtain ⟨u1, k, u2, r, q1, q2, q3, q5⟩ := m_spoil (F := f + 4000) h (xs (x4 + 1).toNatClampNeg) (xs (x4 + 2).toNatClampNeg)
    rw [ck_eq i1, ck_eq i2, q1, bd2_s, ck_eq i1, ck_eq i2, q2, bd2_s]
    exact fin_n q3 q5
  · unfold sg_660
    obtain ⟨u1, k, u2, r, q1, q2, q3, q4, q5⟩ := m_seal (f := f) h
    rw [q1, bd2_s, q2, bd2_s]
    exact fin_l q3 q4 q5
  · unfold sg_704
    obtain ⟨u1, k, u2, r, q1, q2, q3, q5⟩ := m_offer (F := f + 4000) h (xs (x4 + 1).toNatClampNeg) (xs (x4 + 2).toNatClampNeg) (xs (x4 + 3).toNatClampNeg)
    rw [ck_eq i1, ck_eq i2, ck_eq i3, q1, bd2_s, ck_eq i1, ck_eq i2, ck_eq i3, q2, bd2_s]
    exact fin_n q3 q5
  · unfold sg_764
    obtain ⟨u1, k, u2, r, q1, q2, q3, q4, q5⟩ := m_load (f := f) h (xs (x4 + 1).toNatClampNeg)
    rw [ck_eq i1, q1, bd2_s, ck_eq i1, q2, bd2_s]
    exact fin_l q3 q4 q5
  · unfold sg_820
    obtain ⟨u1, r, q1, q2, q5⟩ := m_at (F := f + 4000) h (xs (x4 + 1).toNatClampNeg)
    rw [ck_eq i1, q1, bd2_s, ck_eq i1, q2, bd2_s, if_pos rfl]
    exact ⟨u1, rfl, q5⟩
  · unfold sg_845
    obtain ⟨u1, r, q1, q2, q5⟩ := m_find (f := f) h (xs (x4 + 1).toNatClampNeg)
    rw [ck_eq i1, q1, bd2_s, ck_eq i1, q2, bd2_s, if_pos rfl]
    exact ⟨u1, rfl, q5⟩

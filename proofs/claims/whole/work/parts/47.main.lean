/-! THE CLAIM OUT OF ONE WALK OF THE LAW'S BODY. Your part is whole_start (and what it stands on); all else here is the same for every law, but numbers. -/
def R_law : String := "ImageForgeLaw"
def lw_P (b : Addr) (xs : List Int32) (args : Array Value) (s : State) : Prop := args = #[.ref b] ∧ s.IntsAt b xs ∧ xs.length ≤ 3072 ∧ (Jvm.Cond.and given_1 narrow_1).before args s = true
def lw_Q (_ : Array Value) (s : State) (o : Outcome) (t : State) : Prop := o = .returned (some (.int 1)) ∧ Framed s o t [] 601024 7293034
def lw_Z (below : List Frame) (a : Array Value) (s : State) : State → Prop := fun t => ∃ o, t.status = .running ∧ Ended t below o ∧ lw_Q a s o t
/-- the law's own end, with 1 on the stack, nothing written that was there before, its room as the claim has it -/
theorem lw_ret {p : Program} {l : Launch} {e : Env} {s : State} {m : MethodId} {below : List Frame} {meth : Method} {c : Code} {b : Nat} (hx : p.tables.exec = Jvm.exec) (hb : c.code = code) (hr : meth.sig.returnType = ret) (hlocks : meth.locks = false) {pc : Nat} {H : Heap} {ls : Array Slot} (hdg : decode code pc = .ok (.ireturn, 1)) : W p l e room_1 s m #[Value.ref b] below meth c H [] 601024 7293034 (lw_Z below #[Value.ref b] s) (F0 m pc ls [.int 1]) := by
  intro T hT X
  obtain ⟨fs, hret, hrun, hended, hW, hframe⟩ := X.leave (v := some (.int 1)) (hlocks := hlocks) (fun h => by rw [hr] at h; cases h)
  have hmeth' : T.vm.method? m = some meth := X.method'
  refine ⟨T.setFrames fs, ?_, .returned (some (.int 1)), hrun, hended, rfl, ⟨_, rfl⟩, hW, hframe⟩
  jvm_step X.here [X.here.top, hx, hb, hdg, hmeth', hr, ret, narrow_b1]
  (try refine ⟨rfl, ?_⟩); (try refine ⟨rfl, ?_⟩)
  first | (intro acts; rw [hret _ acts rfl rfl rfl]) | rw [hret _ _ rfl rfl rfl]
  exact Steps.refl _
/-- what holds at the law's entry: the machine, the code, the tables' words (any of lw_tbl by 'hts w (by decide +kernel)'), the script of L ints xs at the cell b, what the Statement gives of the start (any of its parts by flat_of_before) -/
def lw_At (p : Program) (s : State) (m : MethodId) (meth : Method) (c : Code) (b L : Nat) (xs : Nat → Int32) : Prop :=
  p.tables.exec = Jvm.exec ∧ c.code = code ∧ meth.sig.returnType = ret ∧ c.maxLocals = 7 ∧ s.vm.findClass R_law = some m.cls ∧ (∀ w ∈ lw_tbl, w.before #[Value.ref b] s = true) ∧ va_X b L xs s s.heap ∧ b < s.heap.size ∧ meth.locks = false ∧ (Jvm.Cond.and given_1 narrow_1).before #[Value.ref b] s = true
/-! The whole law out of its stretches: what one call's stretch must give (StepOK), the loop, the beginning. -/
def slA (k : Nat) : Nat → Option Nat := fun i => if i = 0 then some k else none
def slB (k k' : Nat) : Nat → Option Nat := fun i => if i = 0 then some k else if i = 1 then some k' else none
def InR (x4 : Int32) (Ls : Nat) : Prop := ∃ j : Nat, x4 = nI (6 * j) ∧ 6 * j + 6 ≤ Ls
/-- for every state that the invariant holds of, each stretch goes through and keeps it -/
def StepOK (F : Nat) (xs : Nat → Int32) (Ls : Nat) (I : (Nat → Bool) → Mr → Prop) : Prop :=
  (∀ al u, I al u → okk al 1 64 = true ∧ okk al 32 2048 = true ∧ okk al 22 1408 = true) ∧
  (∀ al u k j a, I al u → u.2.1 k j = some a → al a = true ∨ a = 1472) ∧
  (∀ al u x4, I al u → InR x4 Ls → ∃ u', sg_108 F al xs Ls u x4 = some u' ∧ I al u') ∧
  (∀ al u x4, I al u → InR x4 Ls → ∃ u', sg_232 F al xs Ls u x4 = some u' ∧ I al u') ∧
  (∀ al u x4, I al u → InR x4 Ls → (∃ k1 out, al k1 = false ∧ k1 ≠ 1472 ∧ sg_304 F al (slA k1) xs Ls u x4 = some out ∧ (out.2 = 0 → I (aln al (slA k1) 1) out.1) ∧ (out.2 ≠ 0 → I al out.1)) ∨ (∃ k1 k2 out, al k1 = false ∧ k1 ≠ 1472 ∧ al k2 = false ∧ k2 ≠ 1472 ∧ k1 ≠ k2 ∧ sg_304B F al (slB k1 k2) xs Ls u x4 = some out ∧ (out.2 = 0 → I (aln al (slB k1 k2) 2) out.1) ∧ (out.2 ≠ 0 → I al out.1))) ∧
  (∀ al u x4, I al u → InR x4 Ls → ∃ u', sg_388 F al xs Ls u x4 = some u' ∧ I al u') ∧
  (∀ al u x4, I al u → InR x4 Ls → ∃ u', sg_448 F al xs Ls u x4 = some u' ∧ I al u') ∧
  (∀ al u x4, I al u → InR x4 Ls → ∃ u', sg_512 F al xs Ls u x4 = some u' ∧ I al u') ∧
  (∀ al u x4, I al u → InR x4 Ls → ∃ u', sg_556 F al xs Ls u x4 = some u' ∧ I al u') ∧
  (∀ al u x4, I al u → InR x4 Ls → ∃ u', sg_612 F al xs Ls u x4 = some u' ∧ I al u') ∧
  (∀ al u x4, I al u → InR x4 Ls → ∃ u', sg_660 F al xs Ls u x4 = some u' ∧ I al u') ∧
  (∀ al u x4, I al u → InR x4 Ls → ∃ u', sg_704 F al xs Ls u x4 = some u' ∧ I al u') ∧
  (∀ al u x4, I al u → InR x4 Ls → ∃ u', sg_764 F al xs Ls u x4 = some u' ∧ I al u') ∧
  (∀ al u x4, I al u → InR x4 Ls → ∃ u', sg_820 F al xs Ls u x4 = some u' ∧ I al u') ∧
  (∀ al u x4, I al u → InR x4 Ls → ∃ u', sg_845 F al xs Ls u x4 = some u' ∧ I al u')
theorem StepOK.base {F : Nat} {xs : Nat → Int32} {Ls : Nat} {I : (Nat → Bool) → Mr → Prop} (h : StepOK F xs Ls I) : ∀ al u, I al u → okk al 1 64 = true ∧ okk al 32 2048 = true ∧ okk al 22 1408 = true := h.1
theorem StepOK.closed {F : Nat} {xs : Nat → Int32} {Ls : Nat} {I : (Nat → Bool) → Mr → Prop} (h : StepOK F xs Ls I) : ∀ al u k j a, I al u → u.2.1 k j = some a → al a = true ∨ a = 1472 := h.2.1
theorem StepOK.s0 {F : Nat} {xs : Nat → Int32} {Ls : Nat} {I : (Nat → Bool) → Mr → Prop} (h : StepOK F xs Ls I) : ∀ al u x4, I al u → InR x4 Ls → ∃ u', sg_108 F al xs Ls u x4 = some u' ∧ I al u' := h.2.2.1
theorem StepOK.s1 {F : Nat} {xs : Nat → Int32} {Ls : Nat} {I : (Nat → Bool) → Mr → Prop} (h : StepOK F xs Ls I) : ∀ al u x4, I al u → InR x4 Ls → ∃ u', sg_232 F al xs Ls u x4 = some u' ∧ I al u' := h.2.2.2.1
theorem StepOK.s2 {F : Nat} {xs : Nat → Int32} {Ls : Nat} {I : (Nat → Bool) → Mr → Prop} (h : StepOK F xs Ls I) : ∀ al u x4, I al u → InR x4 Ls → (∃ k1 out, al k1 = false ∧ k1 ≠ 1472 ∧ sg_304 F al (slA k1) xs Ls u x4 = some out ∧ (out.2 = 0 → I (aln al (slA k1) 1) out.1) ∧ (out.2 ≠ 0 → I al out.1)) ∨ (∃ k1 k2 out, al k1 = false ∧ k1 ≠ 1472 ∧ al k2 = false ∧ k2 ≠ 1472 ∧ k1 ≠ k2 ∧ sg_304B F al (slB k1 k2) xs Ls u x4 = some out ∧ (out.2 = 0 → I (aln al (slB k1 k2) 2) out.1) ∧ (out.2 ≠ 0 → I al out.1)) := h.2.2.2.2.1
theorem StepOK.s3 {F : Nat} {xs : Nat → Int32} {Ls : Nat} {I : (Nat → Bool) → Mr → Prop} (h : StepOK F xs Ls I) : ∀ al u x4, I al u → InR x4 Ls → ∃ u', sg_388 F al xs Ls u x4 = some u' ∧ I al u' := h.2.2.2.2.2.1
theorem StepOK.s4 {F : Nat} {xs : Nat → Int32} {Ls : Nat} {I : (Nat → Bool) → Mr → Prop} (h : StepOK F xs Ls I) : ∀ al u x4, I al u → InR x4 Ls → ∃ u', sg_448 F al xs Ls u x4 = some u' ∧ I al u' := h.2.2.2.2.2.2.1
theorem StepOK.s5 {F : Nat} {xs : Nat → Int32} {Ls : Nat} {I : (Nat → Bool) → Mr → Prop} (h : StepOK F xs Ls I) : ∀ al u x4, I al u → InR x4 Ls → ∃ u', sg_512 F al xs Ls u x4 = some u' ∧ I al u' := h.2.2.2.2.2.2.2.1
theorem StepOK.s6 {F : Nat} {xs : Nat → Int32} {Ls : Nat} {I : (Nat → Bool) → Mr → Prop} (h : StepOK F xs Ls I) : ∀ al u x4, I al u → InR x4 Ls → ∃ u', sg_556 F al xs Ls u x4 = some u' ∧ I al u' := h.2.2.2.2.2.2.2.2.1
theorem StepOK.s7 {F : Nat} {xs : Nat → Int32} {Ls : Nat} {I : (Nat → Bool) → Mr → Prop} (h : StepOK F xs Ls I) : ∀ al u x4, I al u → InR x4 Ls → ∃ u', sg_612 F al xs Ls u x4 = some u' ∧ I al u' := h.2.2.2.2.2.2.2.2.2.1
theorem StepOK.s8 {F : Nat} {xs : Nat → Int32} {Ls : Nat} {I : (Nat → Bool) → Mr → Prop} (h : StepOK F xs Ls I) : ∀ al u x4, I al u → InR x4 Ls → ∃ u', sg_660 F al xs Ls u x4 = some u' ∧ I al u' := h.2.2.2.2.2.2.2.2.2.2.1
theorem StepOK.s9 {F : Nat} {xs : Nat → Int32} {Ls : Nat} {I : (Nat → Bool) → Mr → Prop} (h : StepOK F xs Ls I) : ∀ al u x4, I al u → InR x4 Ls → ∃ u', sg_704 F al xs Ls u x4 = some u' ∧ I al u' := h.2.2.2.2.2.2.2.2.2.2.2.1
theorem StepOK.s10 {F : Nat} {xs : Nat → Int32} {Ls : Nat} {I : (Nat → Bool) → Mr → Prop} (h : StepOK F xs Ls I) : ∀ al u x4, I al u → InR x4 Ls → ∃ u', sg_764 F al xs Ls u x4 = some u' ∧ I al u' := h.2.2.2.2.2.2.2.2.2.2.2.2.1
theorem StepOK.s11 {F : Nat} {xs : Nat → Int32} {Ls : Nat} {I : (Nat → Bool) → Mr → Prop} (h : StepOK F xs Ls I) : ∀ al u x4, I al u → InR x4 Ls → ∃ u', sg_820 F al xs Ls u x4 = some u' ∧ I al u' := h.2.2.2.2.2.2.2.2.2.2.2.2.2.1
theorem StepOK.s12 {F : Nat} {xs : Nat → Int32} {Ls : Nat} {I : (Nat → Bool) → Mr → Prop} (h : StepOK F xs Ls I) : ∀ al u x4, I al u → InR x4 Ls → ∃ u', sg_845 F al xs Ls u x4 = some u' ∧ I al u' := h.2.2.2.2.2.2.2.2.2.2.2.2.2.2
theorem aln0 {al : Nat → Bool} {sl : Nat → Option Nat} : aln al sl 0 = al := by
  funext k
  simp [aln, Bn]
theorem Ln0 {sl : Nat → Option Nat} {L : List Nat} : Ln sl 0 L = L := rfl
theorem aln_of {al : Nat → Bool} {sl : Nat → Option Nat} {L : List Nat} (hla : ∀ k, k ∈ L → al k = true) (n : Nat) : ∀ k, k ∈ Ln sl n L → aln al sl n k = true := by
  intro k hk
  unfold aln
  rw [Bool.or_eq_true, decide_eq_true_eq]
  exact (List.mem_append.mp hk).elim Or.inr (fun q => Or.inl (hla k q))
theorem Eg_ad {ad ad' : Nat → Nat} {cA : Nat → ClassId} {T : Nat} {row : Int32 → Int32} {rr : Int32 → Option Nat} {lr : Int32 → Int64} (h : ∀ i a, rr i = some a → ad' a = ad a) : Eg ad' cA T row rr lr = Eg ad cA T row rr lr := by
  have h1 : ∀ i, (rr i).map ad' = (rr i).map ad := fun i => by
    cases hr : rr i with
    | none => rfl
    | some a => rw [Option.map_some, Option.map_some, h i a hr]
  unfold Eg
  simp only [h1]
theorem ww_ad {ad ad' : Nat → Nat} {cA : Nat → ClassId} {L : List Nat} {rs : va_W} {u : Mr} (hL : ∀ k, k ∈ L → ad' k = ad k) (h : ∀ k i a, k ∈ L → u.2.1 k i = some a → ad' a = ad a) : ww ad' cA L rs u = ww ad cA L rs u := by
  unfold ww
  congr 1
  refine List.map_congr_left fun k hk => ?_
  rw [hL k hk, Eg_ad (fun i a hr => h k i a hk hr)]
theorem wD_ad {A : Nat → Prop} {ad ad' : Nat → Nat} {cA : Nat → ClassId} {L : List Nat} {rs : va_W} (hL : ∀ k, k ∈ L → ad' k = ad k) (hD : ∀ v : Mr, va_D A (ww ad cA L rs v)) : ∀ v : Mr, va_D A (ww ad' cA L rs v) := by
  intro v
  obtain ⟨n1, n2⟩ := vd_nd.mp (hD v)
  refine vd_nd.mpr ⟨?_, fun q hq => ?_⟩
  · rw [ww_fst] at n1 ⊢
    rw [List.map_congr_left hL]
    exact n1
  · unfold ww at hq
    rcases List.mem_append.mp hq with h | h
    · obtain ⟨k, hk, rfl⟩ := List.mem_map.mp h
      show A (ad' k)
      rw [hL k hk]
      exact n2 _ (List.mem_append_left _ (List.mem_map.mpr ⟨k, hk, rfl⟩))
    · exact n2 q (List.mem_append_right _ h)
theorem end_cmp {Ls j : Nat} (hL : Ls ≤ 3072) (hj : 6 * j ≤ 3072) : (Int32.ofNat Ls - 6 < nI (6 * j)) ↔ Ls < 6 * j + 6 := by
  have e1 : (nI (6 * j)).toInt = ((6 * j : Nat) : Int) := nI_toInt (by omega)
  have e2 : (Int32.ofNat Ls).toInt = (Ls : Int) := nI_toInt (n := Ls) (by omega)
  have e3 : (Int32.ofNat Ls - 6).toInt = (Ls : Int) - 6 := by
    rw [Int32.toInt_sub, e2, show (6 : Int32).toInt = 6 from rfl]
    unfold Int.bmod
    simp only []
    split <;> omega
  rw [Int32.lt_iff_toInt_lt, e1, e3]
  omega
section
variable {p : Program} {l : Launch} {e : Env} {s : State} {m : MethodId} {b : Nat} {below : List Frame} {meth : Method} {c : Code} {D : va_G} {cA : Nat → ClassId} {Ls : Nat} {xs : Nat → Int32} {F a0 : Nat} {I : (Nat → Bool) → Mr → Prop}
set_option maxHeartbeats 4000000 in
set_option maxRecDepth 100000 in
theorem law_loop (hI : StepOK F xs Ls I) (hLs : Ls ≤ 3072) (hx : p.tables.exec = Jvm.exec) (hb : c.code = code) (hr : meth.sig.returnType = ret) (hml : c.maxLocals = 7) (hown : s.vm.findClass "ImageForgeLaw" = some m.cls) (hts : ∀ w ∈ bw, w.before #[Value.ref b] s = true) (hlocks : meth.locks = false) (hK : va_K D vwCl (tyl cA) s) (hNx : Nx s) (hlt : l.stackTraces = false)
    (hz1 : zL Bundle.tN "UNASSIGNED_STACK" Bundle.steD (fun q => s.heap.size ≤ q) s s.heap) (hz2 : zL Bundle.tN "SUPPRESSED_SENTINEL" Bundle.listD (fun q => s.heap.size ≤ q) s s.heap) (hny : Ny s) (hnq : Nq s) (hno : No s) (hX : va_X b Ls xs s s.heap) (hbl : b < s.heap.size)
    (hZ : va_Z "java/util/ArrayList" "DEFAULTCAPACITY_EMPTY_ELEMENTDATA" "[Ljava/lang/Object;" (.ref a0) (fun q => s.heap.size ≤ q) s s.heap) (hT : va_T (.object "java/lang/Object") a0 0 (fun _ => .null) (fun q => s.heap.size ≤ q) s s.heap) :
    ∀ (n j : Nat) (ad : Nat → Nat) (L : List Nat) (al : Nat → Bool) (u : Mr) (H : Heap) (locs : List Loc) (ls : Array Slot), Ls < 6 * j + 6 * n + 6 → 6 * j ≤ 3072 → (∀ v : Mr, va_D (fun q => s.heap.size ≤ q) (ww ad cA L [] v)) → L.Nodup → (∀ k, al k = true → k ∈ L) → (∀ k, k ∈ L → al k = true) → ad 1472 = a0 → I al u → lv_has ls 7 (lvL b ad (nI (6 * j))) → va_P D vwCl (ww ad cA L [] u) H → va_S (fun q => s.heap.size ≤ q) s.heap H locs →
      W p l e room_1 s m #[Value.ref b] below meth c H locs (90 + 2 * j) (13777 + 14 * j) (lw_Z below #[Value.ref b] s) (F0 m 23 ls []) := by
  intro n
  induction n with
  | zero =>
    intro j ad L al u H locs ls hn hj hD hN hal hla ha0 hi hl hP hS
    refine lv_iload hx hb dLw_law_23 (lv_at hl 4 rfl) ?_
    refine lv_aload_n hx hb dLw_law_25 rfl (lv_at hl 0 rfl) ?_
    refine va_slen hx hb hX hbl (fun h => Nat.not_lt.mpr h hbl) hS dLw_law_26 ?_
    refine lv_bipush (v := 6) hx hb dLw_law_27 (by decide) ?_
    refine lv_isub hx hb dLw_law_29 ?_
    refine lv_icmp_gt (tgt := 876) hx hb dLw_law_30 rfl (fun hc => ?_) (fun hc => absurd ((end_cmp hLs hj).mpr (by omega)) hc)
    refine lv_iconst (v := 1) hx hb dLw_law_876 (by decide) ?_
    exact W.widen (by omega) (by omega) (va_forget (fun q hq => hS.2.2 q hq) (lw_ret hx hb hr hlocks dLw_law_877))
  | succ n ih =>
    intro j ad L al u H locs ls hn hj hD hN hal hla ha0 hi hl hP hS
    refine lv_iload hx hb dLw_law_23 (lv_at hl 4 rfl) ?_
    refine lv_aload_n hx hb dLw_law_25 rfl (lv_at hl 0 rfl) ?_
    refine va_slen hx hb hX hbl (fun h => Nat.not_lt.mpr h hbl) hS dLw_law_26 ?_
    refine lv_bipush (v := 6) hx hb dLw_law_27 (by decide) ?_
    refine lv_isub hx hb dLw_law_29 ?_
    refine lv_icmp_gt (tgt := 876) hx hb dLw_law_30 rfl (fun hc => ?_) (fun hc => ?_)
    · refine lv_iconst (v := 1) hx hb dLw_law_876 (by decide) ?_
      exact W.widen (by omega) (by omega) (va_forget (fun q hq => hS.2.2 q hq) (lw_ret hx hb hr hlocks dLw_law_877))
    have hin6 : 6 * j + 6 ≤ Ls := by
      rcases Nat.lt_or_ge Ls (6 * j + 6) with h | h
      · exact absurd ((end_cmp hLs hj).mpr h) hc
      · exact h
    have hR : InR (nI (6 * j)) Ls := ⟨j, rfl, hin6⟩
    have hcl : (nI (6 * j)).toNatClampNeg = 6 * j := nI_clamp (by omega)
    have hv : vp_in (nI (6 * j)) Ls := by
      intro h
      rcases h with h | h
      · rw [Int32.lt_iff_toInt_lt, nI_toInt (by omega)] at h
        have : (0 : Int32).toInt = 0 := rfl
        omega
      · rw [hcl] at h
        omega
    refine lv_aload_n hx hb dLw_law_33 rfl (lv_at hl 0 rfl) ?_
    refine lv_iload hx hb dLw_law_34 (lv_at hl 4 rfl) ?_
    refine va_sld hx hb hX hbl (fun h => Nat.not_lt.mpr h hbl) hS hv dLw_law_36 ?_
    refine lv_bipush (v := 15) hx hb dLw_law_37 (by decide) ?_
    refine lv_iand hx hb dLw_law_39 ?_
    generalize xs (nI (6 * j)).toNatClampNeg &&& 15 = v
    -- behind a stretch
    have out : ∀ (ad' : Nat → Nat) (L' : List Nat) (al' : Nat → Bool) (u' : Mr), (∀ v : Mr, va_D (fun q => s.heap.size ≤ q) (ww ad' cA L' [] v)) → L'.Nodup → (∀ k, al' k = true → k ∈ L') → (∀ k, k ∈ L' → al' k = true) → ad' 1472 = a0 → I al' u' →
        ∀ (H : Heap) (locs : List Loc) (ls : Array Slot), lv_has ls 7 (lvL b ad' (nI (6 * j))) → va_P D vwCl (ww ad' cA L' [] u') H → va_S (fun q => s.heap.size ≤ q) s.heap H locs → W p l e room_1 s m #[Value.ref b] below meth c H locs (90 + 2 * j + 2) (13777 + 14 * j + 14) (lw_Z below #[Value.ref b] s) (F0 m 870 ls []) := by
      intro ad' L' al' u' hD' hN' hal' hla' ha' hi' H locs ls hl hP hS
      have e6 : nI (6 * j) + Int32.ofInt 6 = nI (6 * (j + 1)) := by
        apply Int32.toInt_inj.mp
        rw [Int32.toInt_add, nI_toInt (by omega), nI_toInt (by omega), show (Int32.ofInt 6).toInt = 6 from rfl]
        unfold Int.bmod
        simp only []
        split <;> omega
      refine lv_iinc (k := 4) (v := nI (6 * (j + 1))) (lv' := [(4, .int (nI (6 * (j + 1)))), (0, .ref b), (1, .ref (ad' 64)), (2, .ref (ad' 2048)), (3, .ref (ad' 1408))]) hx hb dLw_law_870 hl rfl e6 (by decide) rfl (fun ls hl => ?_)
      refine lv_goto (tgt := 23) hx hb dLw_law_873 rfl ?_
      exact ih (j + 1) ad' L' al' u' H locs ls (by omega) (by omega) hD' hN' hal' hla' ha' hi' (lv_sub hl [1, 2, 3, 4, 0] rfl) hP hS
    obtain ⟨f1, f2, f3⟩ := hI.base al u hi
    have cl : CL p l s m b c D cA ad L [] al (fun q => s.heap.size ≤ q) Ls xs (90 + 2 * j) (13777 + 14 * j) := ⟨hx, hb, hml, hown, hts, hK, fun _ h => h, hD, hN, hal, hNx, hlt, hz1, hz2, hny, hnq, hX, hbl, fun h => Nat.not_lt.mpr h hbl, f1, f2, f3, by omega, by omega⟩
    have same := fun (u' : Mr) (hi' : I al u') => out ad L al u' hD hN hal hla ha0 hi'
    by_cases h9 : v.toInt < 0 ∨ 12 < v.toInt
    · refine lv_tableOut (tgt := 870) hx hb dLw_law_40 h9 rfl ?_
      exact W.widen (by omega) (by omega) (same u hi H locs ls hl hP hS)
    by_cases g0 : v = 0
    · refine lv_tableIn (tgt := 108) hx hb dLw_law_40 (fun q => h9 (Or.inl q)) (fun q => h9 (Or.inr q)) (by rw [g0]; rfl) rfl ?_
      obtain ⟨u', h1, h2⟩ := hI.s0 al u _ hi hR
      exact wsg_108 cl F u' (same u' h2) u H locs ls h1 hl hP hS
    by_cases g1 : v = 1
    · refine lv_tableIn (tgt := 232) hx hb dLw_law_40 (fun q => h9 (Or.inl q)) (fun q => h9 (Or.inr q)) (by rw [g1]; rfl) rfl ?_
      obtain ⟨u', h1, h2⟩ := hI.s1 al u _ hi hR
      exact wsg_232 cl F u' (same u' h2) u H locs ls h1 hl hP hS
    by_cases g2 : v = 2
    · refine lv_tableIn (tgt := 304) hx hb dLw_law_40 (fun q => h9 (Or.inl q)) (fun q => h9 (Or.inr q)) (by rw [g2]; rfl) rfl ?_
      have hnL : ∀ k, al k = false → k ∉ L := fun k h1 h2 => by
        rw [hla k h2] at h1
        cases h1
      have fresh : ∀ k, al k = false → k ≠ 1472 → ∀ k' i a, u.2.1 k' i = some a → a ≠ k := fun k h1 h2 k' i a hr9 e9 => by
        subst e9
        rcases hI.closed al u k' i a hi hr9 with h | h
        · rw [h] at h1
          cases h1
        · exact h2 h
      have neq : ∀ k T k0, okk al T k0 = true → al k = false → k0 ≠ k := fun k T k0 h1 h2 e9 => by
        subst e9
        rw [okk_al h1] at h2
        cases h2
      rcases hI.s2 al u _ hi hR with ⟨k1, o, a1, a2, h1, h2, h3⟩ | ⟨k1, k2, o, a1, a2, b1, b2, b3, h1, h2, h3⟩
      · have e1 : ∀ k, k ≠ k1 → (fun k => if k = k1 then H.size else ad k) k = ad k := fun k hk => if_neg hk
        generalize had : (fun k => if k = k1 then H.size else ad k) = ad' at e1
        have hL' : ∀ k, k ∈ L → ad' k = ad k := fun k hk => e1 k (fun e9 => hnL k1 a1 (e9 ▸ hk))
        have hD' := wD_ad hL' hD
        have hw : ww ad' cA L [] u = ww ad cA L [] u := ww_ad hL' (fun k i a _ hr9 => e1 a (fresh k1 a1 a2 k i a hr9))
        have hz' : ad' 1472 = a0 := (e1 1472 (Ne.symm a2)).trans ha0
        have cl' : CL p l s m b c D cA ad' (Ln (slA k1) 0 L) [] (aln al (slA k1) 0) (fun q => s.heap.size ≤ q) Ls xs (90 + 2 * j) (13777 + 14 * j) := ⟨hx, hb, hml, hown, hts, hK, fun _ h => h, hD', hN, by rw [aln0]; exact hal, hNx, hlt, hz1, hz2, hny, hnq, hX, hbl, fun h => Nat.not_lt.mpr h hbl, by rw [aln0]; exact f1, by rw [aln0]; exact f2, by rw [aln0]; exact f3, by omega, by omega⟩
        refine wsg_304 cl' hal hla (by show va_Z _ _ _ (.ref (ad' 1472)) _ _ _; rw [hz']; exact hZ) (by show va_T _ (ad' 1472) _ _ _ _ _; rw [hz']; exact hT) hno F o (fun h0 H1 locs1 ls1 hl1 hP1 hD1 hN1 hS1 => out ad' _ _ _ hD1 hN1 (aln_in hal 1) (aln_of hla 1) hz' (h2 h0) H1 locs1 ls1 hl1 hP1 hS1) (fun h0 => out ad' L al o.1 hD' hN hal hla hz' (h3 h0)) u H locs ls (fun i k hk => ?_) h1 ?_ (by rw [Ln0, hw]; exact hP) hS
        · unfold slA at hk
          by_cases hi0 : i = 0
          · rw [if_pos hi0] at hk
            cases hk
            rw [← had, hi0]
            simp
          · rw [if_neg hi0] at hk
            cases hk
        · show lv_has ls 7 [(0, .ref b), (1, .ref (ad' 64)), (2, .ref (ad' 2048)), (3, .ref (ad' 1408)), (4, .int (nI (6 * j)))]
          rw [e1 64 (neq k1 _ _ f1 a1), e1 2048 (neq k1 _ _ f2 a1), e1 1408 (neq k1 _ _ f3 a1)]
          exact hl
      · have e1 : ∀ k, k ≠ k1 → k ≠ k2 → (fun k => if k = k1 then H.size else if k = k2 then H.size + 1 else ad k) k = ad k := fun k hk hk2 => (if_neg hk).trans (if_neg hk2)
        generalize had : (fun k => if k = k1 then H.size else if k = k2 then H.size + 1 else ad k) = ad' at e1
        have hL' : ∀ k, k ∈ L → ad' k = ad k := fun k hk => e1 k (fun e9 => hnL k1 a1 (e9 ▸ hk)) (fun e9 => hnL k2 b1 (e9 ▸ hk))
        have hD' := wD_ad hL' hD
        have hw : ww ad' cA L [] u = ww ad cA L [] u := ww_ad hL' (fun k i a _ hr9 => e1 a (fresh k1 a1 a2 k i a hr9) (fresh k2 b1 b2 k i a hr9))
        have hz' : ad' 1472 = a0 := (e1 1472 (Ne.symm a2) (Ne.symm b2)).trans ha0
        have cl' : CL p l s m b c D cA ad' (Ln (slB k1 k2) 0 L) [] (aln al (slB k1 k2) 0) (fun q => s.heap.size ≤ q) Ls xs (90 + 2 * j) (13777 + 14 * j) := ⟨hx, hb, hml, hown, hts, hK, fun _ h => h, hD', hN, by rw [aln0]; exact hal, hNx, hlt, hz1, hz2, hny, hnq, hX, hbl, fun h => Nat.not_lt.mpr h hbl, by rw [aln0]; exact f1, by rw [aln0]; exact f2, by rw [aln0]; exact f3, by omega, by omega⟩
        refine wsg_304B cl' hal hla (by show va_Z _ _ _ (.ref (ad' 1472)) _ _ _; rw [hz']; exact hZ) (by show va_T _ (ad' 1472) _ _ _ _ _; rw [hz']; exact hT) hno F o (fun h0 H1 locs1 ls1 hl1 hP1 hD1 hN1 hS1 => out ad' _ _ _ hD1 hN1 (aln_in hal 2) (aln_of hla 2) hz' (h2 h0) H1 locs1 ls1 hl1 hP1 hS1) (fun h0 => out ad' L al o.1 hD' hN hal hla hz' (h3 h0)) u H locs ls (fun i k hk => ?_) h1 ?_ (by rw [Ln0, hw]; exact hP) hS
        · unfold slB at hk
          by_cases hi0 : i = 0
          · rw [if_pos hi0] at hk
            cases hk
            rw [← had, hi0]
            simp
          · rw [if_neg hi0] at hk
            by_cases hi1 : i = 1
            · rw [if_pos hi1] at hk
              cases hk
              rw [← had, hi1]
              simp [Ne.symm b3]
            · rw [if_neg hi1] at hk
              cases hk
        · show lv_has ls 7 [(0, .ref b), (1, .ref (ad' 64)), (2, .ref (ad' 2048)), (3, .ref (ad' 1408)), (4, .int (nI (6 * j)))]
          rw [e1 64 (neq k1 _ _ f1 a1) (neq k2 _ _ f1 b1), e1 2048 (neq k1 _ _ f2 a1) (neq k2 _ _ f2 b1), e1 1408 (neq k1 _ _ f3 a1) (neq k2 _ _ f3 b1)]
          exact hl
    by_cases g3 : v = 3
    · refine lv_tableIn (tgt := 388) hx hb dLw_law_40 (fun q => h9 (Or.inl q)) (fun q => h9 (Or.inr q)) (by rw [g3]; rfl) rfl ?_
      obtain ⟨u', h1, h2⟩ := hI.s3 al u _ hi hR
      exact wsg_388 cl F u' (same u' h2) u H locs ls h1 hl hP hS
    by_cases g4 : v = 4
    · refine lv_tableIn (tgt := 448) hx hb dLw_law_40 (fun q => h9 (Or.inl q)) (fun q => h9 (Or.inr q)) (by rw [g4]; rfl) rfl ?_
      obtain ⟨u', h1, h2⟩ := hI.s4 al u _ hi hR
      exact wsg_448 cl F u' (same u' h2) u H locs ls h1 hl hP hS
    by_cases g5 : v = 5
    · refine lv_tableIn (tgt := 512) hx hb dLw_law_40 (fun q => h9 (Or.inl q)) (fun q => h9 (Or.inr q)) (by rw [g5]; rfl) rfl ?_
      obtain ⟨u', h1, h2⟩ := hI.s5 al u _ hi hR
      exact wsg_512 cl F u' (same u' h2) u H locs ls h1 hl hP hS
    by_cases g6 : v = 6
    · refine lv_tableIn (tgt := 556) hx hb dLw_law_40 (fun q => h9 (Or.inl q)) (fun q => h9 (Or.inr q)) (by rw [g6]; rfl) rfl ?_
      obtain ⟨u', h1, h2⟩ := hI.s6 al u _ hi hR
      exact wsg_556 cl F u' (same u' h2) u H locs ls h1 hl hP hS
    by_cases g7 : v = 7
    · refine lv_tableIn (tgt := 612) hx hb dLw_law_40 (fun q => h9 (Or.inl q)) (fun q => h9 (Or.inr q)) (by rw [g7]; rfl) rfl ?_
      obtain ⟨u', h1, h2⟩ := hI.s7 al u _ hi hR
      exact wsg_612 cl F u' (same u' h2) u H locs ls h1 hl hP hS
    by_cases g8 : v = 8
    · refine lv_tableIn (tgt := 660) hx hb dLw_law_40 (fun q => h9 (Or.inl q)) (fun q => h9 (Or.inr q)) (by rw [g8]; rfl) rfl ?_
      obtain ⟨u', h1, h2⟩ := hI.s8 al u _ hi hR
      exact wsg_660 cl F u' (same u' h2) u H locs ls h1 hl hP hS
    by_cases g9 : v = 9
    · refine lv_tableIn (tgt := 704) hx hb dLw_law_40 (fun q => h9 (Or.inl q)) (fun q => h9 (Or.inr q)) (by rw [g9]; rfl) rfl ?_
      obtain ⟨u', h1, h2⟩ := hI.s9 al u _ hi hR
      exact wsg_704 cl F u' (same u' h2) u H locs ls h1 hl hP hS
    by_cases g10 : v = 10
    · refine lv_tableIn (tgt := 764) hx hb dLw_law_40 (fun q => h9 (Or.inl q)) (fun q => h9 (Or.inr q)) (by rw [g10]; rfl) rfl ?_
      obtain ⟨u', h1, h2⟩ := hI.s10 al u _ hi hR
      exact wsg_764 cl F u' (same u' h2) u H locs ls h1 hl hP hS
    by_cases g11 : v = 11
    · refine lv_tableIn (tgt := 820) hx hb dLw_law_40 (fun q => h9 (Or.inl q)) (fun q => h9 (Or.inr q)) (by rw [g11]; rfl) rfl ?_
      obtain ⟨u', h1, h2⟩ := hI.s11 al u _ hi hR
      exact wsg_820 cl F u' (same u' h2) u H locs ls h1 hl hP hS
    by_cases g12 : v = 12
    · refine lv_tableIn (tgt := 845) hx hb dLw_law_40 (fun q => h9 (Or.inl q)) (fun q => h9 (Or.inr q)) (by rw [g12]; rfl) rfl ?_
      obtain ⟨u', h1, h2⟩ := hI.s12 al u _ hi hR
      exact wsg_845 cl F u' (same u' h2) u H locs ls h1 hl hP hS
    exfalso
    have ne : ∀ k : Int32, v ≠ k → v.toInt ≠ k.toInt := fun k h h2 => h (Int32.toInt_inj.mp h2)
    have n0 := ne 0 g0
    rw [show (0 : Int32).toInt = 0 from rfl] at n0
    have n1 := ne 1 g1
    rw [show (1 : Int32).toInt = 1 from rfl] at n1
    have n2 := ne 2 g2
    rw [show (2 : Int32).toInt = 2 from rfl] at n2
    have n3 := ne 3 g3
    rw [show (3 : Int32).toInt = 3 from rfl] at n3
    have n4 := ne 4 g4
    rw [show (4 : Int32).toInt = 4 from rfl] at n4
    have n5 := ne 5 g5
    rw [show (5 : Int32).toInt = 5 from rfl] at n5
    have n6 := ne 6 g6
    rw [show (6 : Int32).toInt = 6 from rfl] at n6
    have n7 := ne 7 g7
    rw [show (7 : Int32).toInt = 7 from rfl] at n7
    have n8 := ne 8 g8
    rw [show (8 : Int32).toInt = 8 from rfl] at n8
    have n9 := ne 9 g9
    rw [show (9 : Int32).toInt = 9 from rfl] at n9
    have n10 := ne 10 g10
    rw [show (10 : Int32).toInt = 10 from rfl] at n10
    have n11 := ne 11 g11
    rw [show (11 : Int32).toInt = 11 from rfl] at n11
    have n12 := ne 12 g12
    rw [show (12 : Int32).toInt = 12 from rfl] at n12
    omega
end

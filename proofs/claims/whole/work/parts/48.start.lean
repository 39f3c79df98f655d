/-! What the Statement gives of the start; the law from its entry. -/
theorem arr_prim {t : FieldType} {args : Array Value} {s : State} (ht : ∀ C, t ≠ .object C) (h : (Cond.arrayClass t).before args s = true) : ∃ c, ArrOfT s c t ∧ va_RA s c t := by
  obtain ⟨c, k, comp, h1, h2, h3⟩ := Cond.arrayClass_spec h
  refine ⟨c, fun n z => ⟨fun k h => (by cases h), k, h2, comp, h3⟩, ?_⟩
  cases t <;> first | exact h1 | exact absurd rfl (ht _)
theorem arr_obj {C : String} {args : Array Value} {s : State} (h : (Cond.arrayOver (.object C)).before args s = true) : ∃ c, ArrOfT s c (.object C) ∧ va_RA s c (.object C) := by
  obtain ⟨comp, c, k, h1, h2, h3, h4, h5⟩ := Cond.arrayOver_spec h
  exact ⟨c, fun n z => ⟨fun k h => (by cases h), k, h3, comp, h4⟩, k, comp, h3, h4, h1, h5⟩
theorem arr_arr {args : Array Value} {s : State} (h : (Cond.arrayOver (.array .int)).before args s = true) : ∃ c, ArrOfT s c (.array .int) ∧ va_RA s c (.array .int) := by
  obtain ⟨comp, c, k, h1, h2, h3, h4⟩ := Cond.arrayOver_specA h
  exact ⟨c, fun n z => ⟨fun k h => (by cases h), k, h2, comp, h3⟩, h4⟩
theorem ctxK {args : Array Value} {s : State} (hts0 : ∀ w ∈ lw_tbl, w.before args s = true) (hts : ∀ w ∈ bw, w.before args s = true) : ∃ (D : va_G) (cA : Nat → ClassId), va_K D vwCl (tyl cA) s := by
  have key : ∀ c : Nat, ∃ x : ClassId × (Nat → Nat), ∀ q, vwCl[c]? = some q → u_Kn s q.1 q.2.1 q.2.2 x.1 x.2 := by
    intro c
    match c with
    | 0 =>
      obtain ⟨cC, iS, h⟩ := u_known (n := 6) hts in_Fg (hts _ tw_28)
      exact ⟨(cC, iS), fun q hq => by cases hq; exact h⟩
    | 1 =>
      obtain ⟨cC, iS, h⟩ := u_known (n := 2) hts in_Im (hts _ tw_42)
      exact ⟨(cC, iS), fun q hq => by cases hq; exact h⟩
    | 2 =>
      obtain ⟨cC, iS, h⟩ := u_known (n := 3) hts in_Lk (hts _ tw_61)
      exact ⟨(cC, iS), fun q hq => by cases hq; exact h⟩
    | 3 =>
      obtain ⟨cC, iS, h⟩ := u_known (n := 5) hts in_Ld (hts _ tw_79)
      exact ⟨(cC, iS), fun q hq => by cases hq; exact h⟩
    | 4 =>
      obtain ⟨cC, iS, h⟩ := u_known (n := 3) hts in_Ob (hts _ tw_102)
      exact ⟨(cC, iS), fun q hq => by cases hq; exact h⟩
    | 5 =>
      obtain ⟨cC, iS, h⟩ := u_known (n := 2) hts in_Pt (hts _ tw_109)
      exact ⟨(cC, iS), fun q hq => by cases hq; exact h⟩
    | 6 =>
      obtain ⟨cC, iS, h⟩ := u_known (n := 3) hts in_Al (hts _ tw_125)
      exact ⟨(cC, iS), fun q hq => by cases hq; exact h⟩
    | 7 =>
      obtain ⟨cC, iS, h⟩ := u_known (n := 7) hts in_Nm (hts _ tw_164)
      exact ⟨(cC, iS), fun q hq => by cases hq; exact h⟩
    | 8 =>
      obtain ⟨cC, iS, h⟩ := u_known (n := 4) hts in_Rf (hts _ tw_405)
      exact ⟨(cC, iS), fun q hq => by cases hq; exact h⟩
    | 9 =>
      obtain ⟨cC, iS, h⟩ := u_known (n := 32) hts in_Md (hts _ tw_777)
      exact ⟨(cC, iS), fun q hq => by cases hq; exact h⟩
    | n + 10 => exact ⟨(0, fun _ => 0), fun q hq => absurd (List.getElem?_eq_some_iff.mp hq).1 (by simp)⟩
  obtain ⟨f, hf⟩ := Classical.axiomOfChoice key
  obtain ⟨c0, a0⟩ := arr_prim (t := .int) (fun C h => by cases h) (hts0 (.arrayClass .int) (by decide +kernel))
  obtain ⟨c1, a1⟩ := arr_prim (t := .byte) (fun C h => by cases h) (hts0 (.arrayClass .byte) (by decide +kernel))
  obtain ⟨c2, a2⟩ := arr_prim (t := .boolean) (fun C h => by cases h) (hts0 (.arrayClass .boolean) (by decide +kernel))
  obtain ⟨c3, a3⟩ := arr_prim (t := .long) (fun C h => by cases h) (hts0 (.arrayClass .long) (by decide +kernel))
  obtain ⟨c4, a4⟩ := arr_obj (hts0 (.arrayOver (.object "ImageForge$ObjectFile")) (by decide +kernel))
  obtain ⟨c5, a5⟩ := arr_obj (hts0 (.arrayOver (.object "ImageForge$Name")) (by decide +kernel))
  obtain ⟨c6, a6⟩ := arr_obj (hts0 (.arrayOver (.object "ImageForge$Part")) (by decide +kernel))
  obtain ⟨c7, a7⟩ := arr_obj (hts0 (.arrayOver (.object "java/lang/Object")) (by decide +kernel))
  obtain ⟨c8, a8⟩ := arr_arr (hts0 (.arrayOver (.array .int)) (by decide +kernel))
  refine ⟨(fun c => (f c).1, fun c => (f c).2), fun t => [c0, c1, c2, c3, c4, c5, c6, c7, c8].getD t 0, hf, fun k q hk => ?_⟩
  match k with
  | 0 => cases hk; exact a0
  | 1 => cases hk; exact a1
  | 2 => cases hk; exact a2
  | 3 => cases hk; exact a3
  | 4 => cases hk; exact a4
  | 5 => cases hk; exact a5
  | 6 => cases hk; exact a6
  | 7 => cases hk; exact a7
  | 8 => cases hk; exact a8
  | n + 9 => cases hk
set_option maxRecDepth 100000 in
theorem nx_fin : nx_f.all (fun q => decide (Cond.fieldLinkNest q.1 q.2.1 q.2.2.1 q.2.2.2.1 q.2.2.2.2.1 q.2.2.2.2.2 ∈ lw_tbl)) = true := by decide +kernel
set_option maxRecDepth 100000 in
theorem nx_min : nx_m.all (fun q => decide (Cond.methodLinkNest q.1 q.2.1 q.2.2.1 q.2.2.2 ∈ lw_tbl)) = true := by decide +kernel
set_option maxRecDepth 100000 in
theorem ny_sin : ny_s.all (fun q => decide (Cond.stringRef "ImageForge" q.1 q.2 ∈ lw_tbl) && decide (Cond.exactly (.string "ImageForge" q.1) "java/lang/String" ∈ flatC (Jvm.Cond.and given_1 narrow_1))) = true := by decide +kernel
set_option maxRecDepth 100000 in
theorem ny_cin : ny_c.all (fun q => decide (Cond.castable q.1 q.2 ∈ lw_tbl)) = true := by decide +kernel
set_option maxRecDepth 100000 in
theorem ny_din : ny_d.all (fun x => decide (Cond.declares x ∈ lw_tbl)) = true := by decide +kernel
set_option maxRecDepth 100000 in
theorem nq_in : nq_l.all (fun q => decide (Cond.not (.castable q.1 q.2) ∈ flatC (Jvm.Cond.and given_1 narrow_1))) = true := by decide +kernel
theorem ctxN {args : Array Value} {s : State} (hts0 : ∀ w ∈ lw_tbl, w.before args s = true) (hgv : (Jvm.Cond.and given_1 narrow_1).before args s = true) : Nx s ∧ Ny s ∧ Nq s ∧ No s := by
  have hfl := flat_of_before _ hgv
  refine ⟨⟨fun q hq => ?_, fun q hq => ?_⟩, ⟨fun q hq => ?_, fun q hq => ?_, fun x hx => ?_⟩, fun q hq => ?_, ?_⟩
  · exact va_Nw.of rfl (hts0 _ (of_decide_eq_true (List.all_eq_true.mp nx_fin q hq)))
  · exact va_Nw.of rfl (hts0 _ (of_decide_eq_true (List.all_eq_true.mp nx_min q hq)))
  · have h := List.all_eq_true.mp ny_sin q hq
    rw [Bool.and_eq_true, decide_eq_true_eq, decide_eq_true_eq] at h
    obtain ⟨a, -, -, -, h1, -⟩ := Cond.exactly_spec (hfl _ h.2)
    exact ⟨a, vk_R.of (hts0 _ h.1) h1⟩
  · exact va_Nw.of rfl (hts0 _ (of_decide_eq_true (List.all_eq_true.mp ny_cin q hq)))
  · exact va_Nw.of rfl (hts0 _ (of_decide_eq_true (List.all_eq_true.mp ny_din x hx)))
  · exact va_Nc.of (hfl _ (of_decide_eq_true (List.all_eq_true.mp nq_in q hq)))
  · exact ⟨va_AO.of (hts0 _ (by decide +kernel)), va_AO.of (hts0 _ (by decide +kernel)), va_AO.of (hts0 _ (by decide +kernel)), va_AO.of (hts0 _ (by decide +kernel)), hts0 (.arrayOver (.array .int)) (by decide +kernel)⟩
theorem len0 {args : Array Value} {s : State} {t : Term} (h : (Cond.eq (.length t) (.int 0)).before args s = true) : (Term.length t).eval args s none [] s = some (.int 0) := by
  cases hv : (Term.length t).eval args s none [] s with
  | none => simp [Cond.before, Cond.holds, Cond.value, hv] at h
  | some w =>
    have hz : (Term.int 0).eval args s none [] s = some (.int 0) := rfl
    simp only [Cond.before, Cond.holds, Cond.value, hv, hz] at h
    cases w <;> simp_all
theorem ctxZ {args : Array Value} {s : State} (hts0 : ∀ w ∈ lw_tbl, w.before args s = true) (hgv : (Jvm.Cond.and given_1 narrow_1).before args s = true) : zL Bundle.tN "UNASSIGNED_STACK" Bundle.steD (fun q => s.heap.size ≤ q) s s.heap ∧ zL Bundle.tN "SUPPRESSED_SENTINEL" Bundle.listD (fun q => s.heap.size ≤ q) s s.heap ∧
    ∃ a0 : Nat, va_Z "java/util/ArrayList" "DEFAULTCAPACITY_EMPTY_ELEMENTDATA" "[Ljava/lang/Object;" (.ref a0) (fun q => s.heap.size ≤ q) s s.heap ∧ va_T (.object "java/lang/Object") a0 0 (fun _ => .null) (fun q => s.heap.size ≤ q) s s.heap := by
  have hfl := flat_of_before _ hgv
  have hA : ∀ a : Nat, a < s.heap.size → ¬ s.heap.size ≤ a := fun a h => Nat.not_le.mpr h
  refine ⟨zL.of (hts0 _ (by decide +kernel)) (hts0 _ (by decide +kernel)) (hfl _ (by decide +kernel)) hA, zL.of (hts0 _ (by decide +kernel)) (hts0 _ (by decide +kernel)) (hfl _ (by decide +kernel)) hA, ?_⟩
  obtain ⟨t, h1, h2⟩ := va_Tof (tm := .static "java/util/ArrayList" "DEFAULTCAPACITY_EMPTY_ELEMENTDATA" "[Ljava/lang/Object;") (ty := .object "java/lang/Object") (N := 0) (f := fun _ => .null) (A := fun q => s.heap.size ≤ q) (by decide) (hfl _ (by decide +kernel)) (len0 (hfl _ (by decide +kernel))) (fun j hj => absurd hj (Nat.not_lt_zero _)) hA
  exact ⟨t, va_Zref (hts0 _ (by decide +kernel)) (hts0 _ (by decide +kernel)) h1 hA, h2⟩
/-- the slots of all that the law makes before its loop, in their order -/
def slL : List Nat := [64, 128, 192, 256, 320, 321, 322, 323, 384, 448, 512, 576, 640, 704, 705, 768, 832, 385, 449, 386, 450, 896, 960, 1024, 1088, 1025, 1089, 1152, 897, 961, 1026, 1090, 1027, 1091, 1153, 898, 962, 1028, 1092, 1029, 1093, 1154, 899, 963, 1030, 1094, 1031, 1095, 1155, 1280, 1281, 1282, 1283, 1284, 1285, 1286, 1287, 1288, 1289, 1290, 1291, 1292, 1293, 1294, 1295, 2048, 2112, 2176, 2240, 2304, 2305, 2306, 2241, 2368, 2369, 2370, 2371, 2432, 2433, 2496, 2560, 2624, 2625, 2688, 2689, 2113, 2434, 2626, 2627, 1408]
def slI : Nat → Option Nat := fun i => slL[i]?
def u0 : Mr := (fun _ _ => 0, fun _ _ => none, fun _ _ => 0)
def alI : Nat → Bool := aln (fun _ => false) slI 90
theorem slL_ix : (List.range 90).all (fun i => decide (slL.idxOf (slL.getD i 0) = i) && decide (slL.getD i 0 ≠ 1472)) = true := by decide +kernel
theorem slL_len : slL.length = 90 := by decide +kernel
set_option maxRecDepth 100000 in
theorem pro_ok : (match pro 0 (fun _ => false) slI 0 u0 with | some x => decide (x.2 = (64, (2048, 1408))) | none => false) = true := by decide +kernel
def uI : Mr := match pro 0 (fun _ => false) slI 0 u0 with
  | some x => x.1
  | none => u0
theorem pro_is : pro 0 (fun _ => false) slI 0 u0 = some (uI, (64, (2048, 1408))) := by
  have h := pro_ok
  unfold uI
  cases hp : pro 0 (fun _ => false) slI 0 u0 with
  | none => rw [hp] at h; cases h
  | some x =>
    rw [hp] at h
    have h2 : x.2 = (64, (2048, 1408)) := of_decide_eq_true h
    rw [← h2]
theorem whole_from {p : Program} {e : Env} {s : State} {m : MethodId} {below : List Frame} {meth : Method} {c : Code} (l : Launch) (hlt : l.stackTraces = false) {b L : Nat} {xs : Nat → Int32} (hL : L ≤ 3072) {F : Nat} {I : (Nat → Bool) → Mr → Prop} (hI : StepOK F xs L I) (hI0 : I alI uI) (C0 : lw_At p s m meth c b L xs) : W p l e room_1 s m #[Value.ref b] below meth c s.heap [] 0 0 (lw_Z below #[Value.ref b] s) (entryFrame m ([Value.ref b] : List Value).toArray 7) := by
  obtain ⟨hx, hb, hr, hml, hown, hts0, hX, hbl, hlocks, hgv⟩ := C0
  have hts : ∀ w ∈ bw, w.before #[Value.ref b] s = true := fun w hw => hts0 w (List.mem_filter.mp hw).1
  obtain ⟨D, cA, hK⟩ := ctxK hts0 hts
  obtain ⟨hNx, hny, hnq, hno⟩ := ctxN hts0 hgv
  obtain ⟨hz1, hz2, a0, hZ, hT⟩ := ctxZ hts0 hgv
  have hl := lv_entry ([Value.ref b]) (n := 7) (Nat.le_of_ble_eq_true rfl)
  rw [lg_entry_eq]
  generalize (lg_sl ([Value.ref b]) ++ List.replicate (7 - (lg_sl ([Value.ref b])).length) Slot.unset).toArray = ls at hl ⊢
  have hix : ∀ i k, slI i = some k → slL.idxOf k = i ∧ k ≠ 1472 := fun i k h => by
    have hi : i < slL.length := (List.getElem?_eq_some_iff.mp h).1
    have h1 := List.all_eq_true.mp slL_ix i (List.mem_range.mpr (by rw [← slL_len]; exact hi))
    have h2 : slL.getD i 0 = k := by
      have h3 : slL[i]? = some k := h
      rw [List.getD_eq_getElem?_getD, h3]
      rfl
    rw [h2, Bool.and_eq_true, decide_eq_true_eq, decide_eq_true_eq] at h1
    exact h1
  generalize had : (fun k => if k = 1472 then a0 else s.heap.size + slL.idxOf k) = ad
  have ha0 : ad 1472 = a0 := by rw [← had]; exact if_pos rfl
  have hsl : ∀ i k, slI i = some k → ad k + 0 = s.heap.size + i := fun i k h => by
    obtain ⟨h1, h2⟩ := hix i k h
    rw [← had]
    show (if k = 1472 then a0 else s.heap.size + slL.idxOf k) + 0 = _
    rw [if_neg h2, h1]
    rfl
  refine wpro (L := []) (rs := []) (sl := slI) (ad := ad) (A := fun q => s.heap.size ≤ q) (al := fun _ => false) (n0 := 0) rfl hx hb hml hown hts hK (fun _ h => h) (fun v => ⟨fun i j a b9 h1 => (by cases h1), fun i q h1 => (by cases h1)⟩) List.nodup_nil hNx (fun k h => by cases h) (fun k h => by cases h) hsl (by show va_Z _ _ _ (.ref (ad 1472)) _ _ _; rw [ha0]; exact hZ) (by show va_T _ (ad 1472) _ _ _ _ _; rw [ha0]; exact hT) hno hny 0 (uI, (64, (2048, 1408))) (fun H locs ls hl hP hD hN hS => ?_) u0 s.heap [] ls pro_is (lv_sub hl [0] rfl) (fun k q h => by cases h) va_S.rf
  exact law_loop hI hL hx hb hr hml hown hts hlocks hK hNx hlt hz1 hz2 hny hnq hno hX hbl hZ hT 600 0 ad (Ln slI 90 []) alI uI H locs ls (by omega) (by omega) hD hN (aln_in (fun k h => by cases h) 90) (aln_of (fun k h => by cases h) 90) ha0 hI0 hl hP hS

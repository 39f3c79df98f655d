/-! Making objects and arrays: the slots come from a list given beforehand, and the n-th cell that is made lies at the n-th new address. -/
def Bn (sl : Nat → Option Nat) : Nat → List Nat
  | 0 => []
  | n + 1 => match sl n with
    | some k => k :: Bn sl n
    | none => Bn sl n
def Ln (sl : Nat → Option Nat) (n : Nat) (L : List Nat) : List Nat := Bn sl n ++ L
def aln (al : Nat → Bool) (sl : Nat → Option Nat) (n : Nat) : Nat → Bool := fun k => al k || decide (k ∈ Bn sl n)
def alo (al : Nat → Bool) (sl : Nat → Option Nat) (n T : Nat) : Option Nat := match sl n with
  | some k => if aln al sl n k = false ∧ k / 64 = T then some k else none
  | none => none
def clr (u : Mr) (k : Nat) : Mr := (fun a b => if a = k then 0 else u.1 a b, fun a b => if a = k then none else u.2.1 a b, fun a b => if a = k then 0 else u.2.2 a b)
theorem Bn_s {sl : Nat → Option Nat} {n k : Nat} (h : sl n = some k) : Bn sl (n + 1) = k :: Bn sl n := by
  rw [Bn, h]
theorem Ln_s {sl : Nat → Option Nat} {n m k : Nat} {L : List Nat} (hm : m = n + 1) (h : sl n = some k) : k :: Ln sl n L = Ln sl m L := by
  subst hm
  unfold Ln
  rw [Bn_s h]
  rfl
theorem Bn_mono {sl : Nat → Option Nat} {n m k : Nat} (h : n ≤ m) (hk : k ∈ Bn sl n) : k ∈ Bn sl m := by
  induction h with
  | refl => exact hk
  | step _ ih =>
    rename_i q _
    rw [Bn]
    cases sl q with
    | none => exact ih
    | some y => exact List.mem_cons_of_mem _ ih
theorem Bn_mem {sl : Nat → Option Nat} {n i k : Nat} (h : sl i = some k) (hi : i < n) : k ∈ Bn sl n := Bn_mono hi (by rw [Bn_s h]; exact List.mem_cons_self)
theorem aln_in {al : Nat → Bool} {sl : Nat → Option Nat} {L : List Nat} (hal : ∀ k, al k = true → k ∈ L) (n : Nat) : ∀ k, aln al sl n k = true → k ∈ Ln sl n L := by
  intro k h
  unfold aln at h
  rw [Bool.or_eq_true, decide_eq_true_eq] at h
  exact List.mem_append.mpr (h.elim (fun q => Or.inr (hal k q)) Or.inl)
theorem aln_out {al : Nat → Bool} {sl : Nat → Option Nat} {L : List Nat} {n k : Nat} (hla : ∀ k, k ∈ L → al k = true) (h : aln al sl n k = false) : k ∉ Ln sl n L := by
  intro hk
  unfold aln at h
  rw [Bool.or_eq_false_iff, decide_eq_false_iff_not] at h
  rcases List.mem_append.mp hk with q | q
  · exact h.2 q
  · rw [hla k q] at h
    cases h.1
theorem aln_mono {al : Nat → Bool} {sl : Nat → Option Nat} {n m k : Nat} (hn : n ≤ m) (h : aln al sl n k = true) : aln al sl m k = true := by
  unfold aln at h ⊢
  rw [Bool.or_eq_true, decide_eq_true_eq] at h ⊢
  exact h.imp id (Bn_mono hn)
theorem okk_n {al : Nat → Bool} {sl : Nat → Option Nat} {n m k T : Nat} (hn : n ≤ m) (h : okk (aln al sl n) T k = true) : okk (aln al sl m) T k = true := by
  unfold okk
  rw [Bool.and_eq_true, decide_eq_true_eq]
  exact ⟨aln_mono hn (okk_al h), okk_t h⟩
theorem okk_new {al : Nat → Bool} {sl : Nat → Option Nat} {i n k T : Nat} (h : sl i = some k) (hi : i < n) (hT : k / 64 = T) : okk (aln al sl n) T k = true := by
  unfold okk
  rw [Bool.and_eq_true, decide_eq_true_eq]
  refine ⟨?_, hT⟩
  unfold aln
  rw [Bool.or_eq_true, decide_eq_true_eq]
  exact Or.inr (Bn_mem h hi)
theorem alo_some {al : Nat → Bool} {sl : Nat → Option Nat} {n T k : Nat} (h : alo al sl n T = some k) : sl n = some k ∧ aln al sl n k = false ∧ k / 64 = T := by
  unfold alo at h
  cases h1 : sl n with
  | none => rw [h1] at h; cases h
  | some q =>
    rw [h1] at h
    by_cases h2 : aln al sl n q = false ∧ q / 64 = T
    · have h3 : (if aln al sl n q = false ∧ q / 64 = T then some q else none) = some k := h
      rw [if_pos h2] at h3
      cases h3
      exact ⟨rfl, h2⟩
    · have h3 : (if aln al sl n q = false ∧ q / 64 = T then some q else none) = some k := h
      rw [if_neg h2] at h3
      cases h3
theorem Ln_nd {sl : Nat → Option Nat} {n m k : Nat} {L : List Nat} (hm : m = n + 1) (h : sl n = some k) (hk : k ∉ Ln sl n L) (hN : (Ln sl n L).Nodup) : (Ln sl m L).Nodup := by
  rw [← Ln_s hm h]
  exact List.nodup_cons.mpr ⟨hk, hN⟩
theorem clr_o {u : Mr} {k : Nat} (j : Nat) (h : j ≠ k) : (clr u k).1 j = u.1 j ∧ (clr u k).2.1 j = u.2.1 j ∧ (clr u k).2.2 j = u.2.2 j := by
  refine ⟨?_, ?_, ?_⟩ <;> · funext b; unfold clr; simp [h]
theorem clr_k {u : Mr} {k : Nat} : (clr u k).1 k = (fun _ => 0) ∧ (clr u k).2.1 k = (fun _ => none) ∧ (clr u k).2.2 k = (fun _ => 0) := by
  refine ⟨?_, ?_, ?_⟩ <;> · funext b; unfold clr; simp
theorem vd_nd {A : Nat → Prop} {ws : va_W} : va_D A ws ↔ (ws.map (fun q => q.1)).Nodup ∧ ∀ q ∈ ws, A q.1 := by
  constructor
  · intro h
    refine ⟨?_, fun q hq => ?_⟩
    · rw [List.nodup_iff_pairwise_ne, List.pairwise_iff_getElem]
      intro i j hi hj hij e
      rw [List.length_map] at hi hj
      rw [List.getElem_map, List.getElem_map] at e
      have := h.1 i j _ _ (List.getElem?_eq_getElem hi) (List.getElem?_eq_getElem hj) e
      omega
    · obtain ⟨i, hi⟩ := List.getElem?_of_mem hq
      exact h.2 i q hi
  · intro h
    refine ⟨fun i j a b hi hj e => ?_, fun i q hi => h.2 q (List.mem_of_getElem? hi)⟩
    have h1 : (ws.map (fun q => q.1))[i]? = some a.1 := by rw [List.getElem?_map, hi]; rfl
    have h2 : (ws.map (fun q => q.1))[j]? = some b.1 := by rw [List.getElem?_map, hj]; rfl
    have hl : i < (ws.map (fun q => q.1)).length := (List.getElem?_eq_some_iff.mp h1).1
    exact (List.getElem?_inj hl h.1).mp (by rw [h1, h2, e])
theorem ww_fst {ad : Nat → Nat} {cA : Nat → ClassId} {L : List Nat} {rs : va_W} {u : Mr} : (ww ad cA L rs u).map (fun q => q.1) = L.map ad ++ rs.map (fun q => q.1) := by
  unfold ww
  rw [List.map_append, List.map_map]
  rfl
theorem ww_grow {D : va_G} {A : Nat → Prop} {ad : Nat → Nat} {cA : Nat → ClassId} {L : List Nat} {rs : va_W} {u u' : Mr} {H H1 : Heap} {ks : List Nat} (hP : va_P D vwCl (ww ad cA L rs u) H) (hD : ∀ v : Mr, va_D A (ww ad cA L rs v)) (hold : ∀ q : Nat, q < H.size → H1[q]? = H[q]?) (hks : ∀ (i q : Nat), ks[i]? = some q → ad q = H.size + i) (hkL : ∀ q ∈ ks, q ∉ L)
    (hat : ∀ q ∈ ks, va_at D vwCl (ad q, Eg ad cA (q / 64) (u'.1 q) (u'.2.1 q) (u'.2.2 q)) H1) (ho : ∀ j : Nat, j ∉ ks → u'.1 j = u.1 j ∧ u'.2.1 j = u.2.1 j ∧ u'.2.2 j = u.2.2 j) (hA : ∀ q : Nat, H.size ≤ q → A q) : va_P D vwCl (ww ad cA (ks.reverse ++ L) rs u') H1 ∧ ∀ v : Mr, va_D A (ww ad cA (ks.reverse ++ L) rs v) := by
  have hP1 : va_P D vwCl (ww ad cA L rs u) H1 := hP.kept (fun k q hq => hold q.1 ((hP k q hq).lt))
  have hnew : ∀ q ∈ ks, H.size ≤ ad q := fun q hq => by
    obtain ⟨i, hi⟩ := List.getElem?_of_mem hq
    have := hks i q hi
    omega
  constructor
  · intro i q hi
    have hm := List.mem_of_getElem? hi
    unfold ww at hm
    rw [List.map_append, List.append_assoc] at hm
    rcases List.mem_append.mp hm with h | h
    · obtain ⟨k, hk, rfl⟩ := List.mem_map.mp h
      exact hat k (List.mem_reverse.mp hk)
    · have : q ∈ ww ad cA L rs u := by
        unfold ww
        rcases List.mem_append.mp h with h | h
        · obtain ⟨k, hk, rfl⟩ := List.mem_map.mp h
          obtain ⟨e1, e2, e3⟩ := ho k (fun z => hkL k z hk)
          rw [e1, e2, e3]
          exact List.mem_append_left _ (List.mem_map.mpr ⟨k, hk, rfl⟩)
        · exact List.mem_append_right _ h
      obtain ⟨j, hj⟩ := List.getElem?_of_mem this
      exact hP1 j q hj
  · intro v
    obtain ⟨n1, n2⟩ := vd_nd.mp (hD u)
    refine vd_nd.mpr ⟨?_, fun q hq => ?_⟩
    · rw [ww_fst] at n1 ⊢
      rw [List.map_append, List.append_assoc, List.nodup_append]
      refine ⟨?_, n1, fun a ha b hb e => ?_⟩
      · rw [List.map_reverse, List.nodup_iff_pairwise_ne, List.pairwise_reverse, List.pairwise_iff_getElem]
        intro i j hi hj hij e
        rw [List.length_map] at hi hj
        rw [List.getElem_map, List.getElem_map] at e
        have e1 := hks i _ (List.getElem?_eq_getElem hi)
        have e2 := hks j _ (List.getElem?_eq_getElem hj)
        omega
      · obtain ⟨k, hk, rfl⟩ := List.mem_map.mp ha
        have g1 := hnew k (List.mem_reverse.mp hk)
        rw [← ww_fst (u := u)] at hb
        obtain ⟨q, hq, rfl⟩ := List.mem_map.mp hb
        obtain ⟨j, hj⟩ := List.getElem?_of_mem hq
        have := (hP j q hj).lt
        omega
    · unfold ww at hq
      rw [List.map_append, List.append_assoc] at hq
      rcases List.mem_append.mp hq with h | h
      · obtain ⟨k, hk, rfl⟩ := List.mem_map.mp h
        exact hA _ (hnew k (List.mem_reverse.mp hk))
      · obtain ⟨n1, n2⟩ := vd_nd.mp (hD v)
        exact n2 q h
/-- the classes of arrays of objects are there -/
def No (U : State) : Prop := va_AO "ImageForge$ObjectFile" U ∧ va_AO "ImageForge$Name" U ∧ va_AO "ImageForge$Part" U ∧ va_AO "java/lang/Object" U ∧ (Cond.arrayOver (.array .int)).before #[] U = true
theorem aoa_moved {t : FieldType} {u U : State} (hvm : u.vm.Alike U.vm) (h : (Cond.arrayOver (.array t)).before #[] u = true) : (Cond.arrayOver (.array t)).before #[] U = true := by
  have h1 : (Cond.arrayOver (.array t)).before #[] (u.setVm U.vm) = true := (Cond.arrayOver_setVmC (args := #[]) hvm (.array t)).trans h
  exact h1
theorem No.moved {u U : State} (hvm : u.vm.Alike U.vm) (h : No u) : No U := ⟨h.1.moved hvm, h.2.1.moved hvm, h.2.2.1.moved hvm, h.2.2.2.1.moved hvm, aoa_moved hvm h.2.2.2.2⟩
abbrev dZ (ad : Nat → Nat) (A : Nat → Prop) (U : State) (H : Heap) : Prop := va_Z "java/util/ArrayList" "DEFAULTCAPACITY_EMPTY_ELEMENTDATA" "[Ljava/lang/Object;" (.ref (ad 1472)) A U H
abbrev dT (ad : Nat → Nat) (A : Nat → Prop) (U : State) (H : Heap) : Prop := va_T (.object "java/lang/Object") (ad 1472) 0 (fun _ => .null) A U H
section
variable {p : Program} {l : Launch} {e : Env} {R : Room} {s : State} {m : MethodId} {args : Array Value} {below : List Frame} {meth : Method} {c : Code} {H : Heap} {locs : List Loc} {cells slots pc : Nat} {Q Q' : State → Prop} {cc : ByteArray} {ls : Array Slot} {rest : List Value} {D : va_G} {cA : Nat → ClassId} {ad : Nat → Nat} {L : List Nat} {rs : va_W} {u : Mr} {A : Nat → Prop} {k T : Nat}
theorem x_size {g : JFrame} (hlo : s.heap.size + cells ≤ H.size) (kk : H.size = s.heap.size + cells → W p l e R s m args below meth c H locs cells slots Q g) : W p l e R s m args below meth c H locs cells slots Q g := fun T hT X => by
  refine kk ?_ T hT X
  have h1 : T.heap.size ≤ s.heap.size + cells := X.same.2.2.1
  rw [hT] at h1
  omega
theorem x_lo {sl : Nat → Option Nat} {n0 n i y cc : Nat} (hsl : ∀ i k, sl i = some k → ad k + n0 = s.heap.size + i) (hP : va_P D vwCl (ww ad cA (Ln sl n L) rs u) H) (hy : sl i = some y) (hi : i < n) (hc : i + 1 = n0 + cc) : s.heap.size + cc ≤ H.size := by
  have hm : y ∈ Ln sl n L := List.mem_append_left _ (Bn_mem hy hi)
  obtain ⟨q0, hq⟩ := ww_in hm
  have h1 := (hP q0 _ (ww_at hq)).lt
  have h2 := hsl i y hy
  have h3 : ad y < H.size := h1
  omega
theorem x_hsl {sl : Nat → Option Nat} {n0 cc : Nat} (hsl : ∀ i k, sl i = some k → ad k + n0 = s.heap.size + i) (hz : H.size = s.heap.size + cc) : ∀ i k, sl i = some k → ad k + (n0 + cc) = H.size + i := fun i k h => by
  have h2 := hsl i k h
  omega
theorem x_had {sl : Nat → Option Nat} {n0 i y cc : Nat} (hsl : ∀ i k, sl i = some k → ad k + n0 = s.heap.size + i) (hy : sl i = some y) (hz : H.size = s.heap.size + cc) (hi : i = n0 + cc) : ad y = H.size := by
  have h2 := hsl i y hy
  omega
theorem x_new (hx : p.tables.exec = Jvm.exec) (hb : c.code = cc) {own C : String} {Tf : u_T} {N ci index : Nat} {Ts : List Cond} (hts : ∀ w ∈ Ts, w.before args s = true) (hin : ∀ w ∈ u_ws C Tf N, w ∈ Ts) (ty0 : Nat → FieldType) (hty : ∀ k, k < N → parseFieldDescriptor (Tf k).2.2.1 = some (ty0 k)) (hown : s.vm.findClass own = some m.cls) (hcl : (Cond.classLink own index C).before args s = true) (hinst : (Cond.instantiable C N).before args s = true) (hini : (Cond.initialized C).before args s = true) (hK : va_K D vwCl (tyl cA) s) (hD : ∀ v : Mr, va_D A (ww ad cA L rs v)) (hP : va_P D vwCl (ww ad cA L rs u) H) (hS : va_S A s.heap H locs) (hA : ∀ q, s.heap.size ≤ q → A q) (hk : k ∉ L) (hT : k / 64 = T) (had : ad k = H.size)
    {fs : List Value} (hE : Eg ad cA T (fun _ => 0) (fun _ => none) (fun _ => 0) = .inr (ci, fs)) (hc : vwCl[ci]? = some (C, Tf, N)) (hfs : ∀ j, j < N → defaultValue (ty0 j) = vp_V fs j) (hcells : cells + 1 ≤ R.cells) (hslots : slots + N ≤ R.slots) (hdg : decode cc pc = .ok (.new index, 3))
    (kk : ∀ H1 : Heap, va_P D vwCl (ww ad cA (k :: L) rs (clr u k)) H1 → (∀ v : Mr, va_D A (ww ad cA (k :: L) rs v)) → va_S A s.heap H1 locs → W p l e R s m args below meth c H1 locs (cells + 1) (slots + N) Q (F0 m (pc + 3) ls (.ref (ad k) :: rest))) : W p l e R s m args below meth c H locs cells slots Q (F0 m pc ls rest) := by
  have hKn := hK.1 ci _ hc
  refine W.newcK hx hb hown hcl hinst hini rfl hdg hcells hslots hKn.2.1 rfl fun H1 kC hkC e1 z1 o1 => ?_
  obtain ⟨r1, r2, r3⟩ := clr_k (u := u) (k := k)
  obtain ⟨g1, g2⟩ := ww_grow (ks := [k]) (u' := clr u k) (H1 := H1) hP hD o1 (fun i q hq => by
    have hi : i < 1 := (List.getElem?_eq_some_iff.mp hq).1
    rw [show i = 0 by omega] at hq ⊢
    cases hq
    exact had) (fun q hq => by rw [List.mem_singleton.mp hq]; exact hk) (fun q hq => by
    rw [List.mem_singleton.mp hq, r1, r2, r3, hT, hE]
    refine ⟨_, hc, ?_⟩
    have e2 := (u_born ty0 hts hin hKn hkC e1 hty).to hfs
    rw [← had] at e2
    exact e2) (fun j hj => clr_o j (fun e => hj (by rw [e]; exact List.mem_singleton.mpr rfl))) (fun q hq => hA q (Nat.le_trans hS.1 hq))
  have hz : (k :: L) = [k].reverse ++ L := rfl
  rw [← hz] at g1 g2
  have := kk H1 g1 g2 ⟨Nat.le_trans hS.1 (by omega), fun x h1 h2 => (o1 x (Nat.lt_of_lt_of_le h1 hS.1)).trans (hS.2.1 x h1 h2), hS.2.2⟩
  rw [had] at this
  exact this
theorem x_newa (hx : p.tables.exec = Jvm.exec) (hb : c.code = cc) {atype : ArrayType} (harr : (Cond.arrayClass (newarray.typeOf atype)).before args s = true) (hD : ∀ v : Mr, va_D A (ww ad cA L rs v)) (hP : va_P D vwCl (ww ad cA L rs u) H) (hS : va_S A s.heap H locs) (hA : ∀ q, s.heap.size ≤ q → A q) (hk : k ∉ L) (hT : k / 64 = T) (had : ad k = H.size) (t : Nat) (hcA : s.vm.findClass ("[" ++ (newarray.typeOf atype).toString) = some (cA t))
    {n : Int32} {N : Nat} {a0 : vp_A} (hE : Eg ad cA T (fun _ => 0) (fun _ => none) (fun _ => 0) = .inl (cA t, a0)) (ha : vp_cell (cA t) a0 = arrV (cA t) N (fun _ => defaultValue (newarray.typeOf atype))) (hn : ¬ n < 0) (hN : n.toNatClampNeg = N) (hbytes : N * componentBytes (newarray.typeOf atype) ≤ 536870912) (hcells : cells + 1 ≤ R.cells) (hslots : slots + N ≤ R.slots) (hdg : decode cc pc = .ok (.newarray atype, 2))
    (kk : ∀ H1 : Heap, va_P D vwCl (ww ad cA (k :: L) rs (clr u k)) H1 → (∀ v : Mr, va_D A (ww ad cA (k :: L) rs v)) → va_S A s.heap H1 locs → W p l e R s m args below meth c H1 locs (cells + 1) (slots + N) Q (F0 m (pc + 2) ls (.ref (ad k) :: rest))) : W p l e R s m args below meth c H locs cells slots Q (F0 m pc ls (.int n :: rest)) := by
  refine va_newaK hx hb harr rfl hdg rfl hn hN hbytes hcells hslots rfl fun H1 cX e1 z1 o1 hAr hNm => ?_
  obtain rfl : cX = cA t := Option.some.inj (hNm.symm.trans hcA)
  obtain ⟨r1, r2, r3⟩ := clr_k (u := u) (k := k)
  obtain ⟨g1, g2⟩ := ww_grow (ks := [k]) (u' := clr u k) (H1 := H1) hP hD o1 (fun i q hq => by
    have hi : i < 1 := (List.getElem?_eq_some_iff.mp hq).1
    rw [show i = 0 by omega] at hq ⊢
    cases hq
    exact had) (fun q hq => by rw [List.mem_singleton.mp hq]; exact hk) (fun q hq => by
    rw [List.mem_singleton.mp hq, r1, r2, r3, hT, hE]
    show H1[ad k]? = some (vp_cell (cA t) a0)
    rw [ha, had]
    exact e1) (fun j hj => clr_o j (fun e => hj (by rw [e]; exact List.mem_singleton.mpr rfl))) (fun q hq => hA q (Nat.le_trans hS.1 hq))
  have hz : (k :: L) = [k].reverse ++ L := rfl
  rw [← hz] at g1 g2
  have := kk H1 g1 g2 ⟨Nat.le_trans hS.1 (by omega), fun x h1 h2 => (o1 x (Nat.lt_of_lt_of_le h1 hS.1)).trans (hS.2.1 x h1 h2), hS.2.2⟩
  rw [had] at this
  exact this
theorem x_anew (hx : p.tables.exec = Jvm.exec) (hb : c.code = cc) {own C : String} {index : Nat} (hown : s.vm.findClass own = some m.cls) (hcl : (Cond.classLink own index C).before args s = true) (hover : va_AO C s) (hD : ∀ v : Mr, va_D A (ww ad cA L rs v)) (hP : va_P D vwCl (ww ad cA L rs u) H) (hS : va_S A s.heap H locs) (hA : ∀ q, s.heap.size ≤ q → A q) (hk : k ∉ L) (hT : k / 64 = T) (had : ad k = H.size) (t : Nat) (hcA : va_RA s (cA t) (.object C))
    {n : Int32} {N : Nat} (hE : Eg ad cA T (fun _ => 0) (fun _ => none) (fun _ => 0) = .inl (cA t, N, .inr (.inr (.inr (.inr (fun _ => none)))))) (hn : ¬ n < 0) (hN : n.toNatClampNeg = N) (hbytes : N * 4 ≤ 536870912) (hcells : cells + 1 ≤ R.cells) (hslots : slots + N ≤ R.slots) (hdg : decode cc pc = .ok (.anewarray index, 3))
    (kk : ∀ H1 : Heap, va_P D vwCl (ww ad cA (k :: L) rs (clr u k)) H1 → (∀ v : Mr, va_D A (ww ad cA (k :: L) rs v)) → va_S A s.heap H1 locs → W p l e R s m args below meth c H1 locs (cells + 1) (slots + N) Q (F0 m (pc + 3) ls (.ref (ad k) :: rest))) : W p l e R s m args below meth c H locs cells slots Q (F0 m pc ls (.int n :: rest)) := by
  subst hN
  refine W.anew hx hb hown hcl (va_AO.use hover) rfl hdg rfl hn hbytes hcells hslots fun cX kA comp f1 f2 f3 f4 => ?_
  obtain ⟨kA', comp', -, -, -, w4⟩ := hcA
  obtain rfl : cX = cA t := Option.some.inj (f1.symm.trans w4)
  generalize hH1 : H.push ({ cls := cA t, slots := Array.replicate n.toNatClampNeg .null, vm := .none } : Cell) = H1
  have z1 : H1.size = H.size + 1 := by rw [← hH1, Array.size_push]
  have e1 : H1[H.size]? = some (arrV (cA t) n.toNatClampNeg (fun _ => .null)) := by rw [← hH1, Array.getElem?_push_size, ← arrV_new]
  have o1 : ∀ q : Nat, q < H.size → H1[q]? = H[q]? := fun q hq => by rw [← hH1, Array.getElem?_push, if_neg (Nat.ne_of_lt hq)]
  obtain ⟨r1, r2, r3⟩ := clr_k (u := u) (k := k)
  obtain ⟨g1, g2⟩ := ww_grow (ks := [k]) (u' := clr u k) (H1 := H1) hP hD o1 (fun i q hq => by
    have hi : i < 1 := (List.getElem?_eq_some_iff.mp hq).1
    rw [show i = 0 by omega] at hq ⊢
    cases hq
    exact had) (fun q hq => by rw [List.mem_singleton.mp hq]; exact hk) (fun q hq => by
    rw [List.mem_singleton.mp hq, r1, r2, r3, hT, hE]
    show H1[ad k]? = some (vp_cell (cA t) _)
    rw [vp_cell_q, had]
    exact e1) (fun j hj => clr_o j (fun e => hj (by rw [e]; exact List.mem_singleton.mpr rfl))) (fun q hq => hA q (Nat.le_trans hS.1 hq))
  have hz : (k :: L) = [k].reverse ++ L := rfl
  rw [← hz] at g1 g2
  have := kk H1 g1 g2 ⟨Nat.le_trans hS.1 (by omega), fun x h1 h2 => (o1 x (Nat.lt_of_lt_of_le h1 hS.1)).trans (hS.2.1 x h1 h2), hS.2.2⟩
  rw [had] at this
  exact this
/-- new int[N][K]: the outer array is ks' first, its rows the others -/
theorem x_mna (hx : p.tables.exec = Jvm.exec) (hb : c.code = cc) {own : String} {index : Nat} (hown : s.vm.findClass own = some m.cls) (hcl : (Cond.classLink own index ("[" ++ (FieldType.array .int).toString)).before args s = true) (hover : (Cond.arrayOver (.array .int)).before #[] s = true) (harr : (Cond.arrayClass .int).before args s = true) (hK : va_K D vwCl (tyl cA) s) (hD : ∀ v : Mr, va_D A (ww ad cA L rs v)) (hP : va_P D vwCl (ww ad cA L rs u) H) (hS : va_S A s.heap H locs) (hA : ∀ q, s.heap.size ≤ q → A q)
    {k0 : Nat} {ks : List Nat} (hkL : ∀ q ∈ k0 :: ks, q ∉ L) (had : ∀ (i q : Nat), (k0 :: ks)[i]? = some q → ad q = H.size + i) {n kk0 : Int32} {N K : Nat} (u' : Mr) (ho : ∀ j : Nat, j ∉ k0 :: ks → u'.1 j = u.1 j ∧ u'.2.1 j = u.2.1 j ∧ u'.2.2 j = u.2.2 j)
    (hE0 : ∃ g : Nat → Option Nat, Eg ad cA (k0 / 64) (u'.1 k0) (u'.2.1 k0) (u'.2.2 k0) = .inl (cA 8, N, .inr (.inr (.inr (.inr g)))) ∧ ∀ j, j < N → g j = some (H.size + 1 + j)) (hE1 : ∀ q ∈ ks, Eg ad cA (q / 64) (u'.1 q) (u'.2.1 q) (u'.2.2 q) = .inl (cA 0, K, .inl (fun _ => 0))) (hn : ¬ n < 0) (hk : ¬ kk0 < 0) (hN : n.toNatClampNeg = N) (hM : kk0.toNatClampNeg = K) (hl : ks.length = N)
    (hb1 : N * 4 ≤ 536870912) (hb2 : K * 4 ≤ 536870912) (hcells : cells + (1 + N) ≤ R.cells) (hslots : slots + (N + N * K) ≤ R.slots) (hdg : decode cc pc = .ok (.multianewarray index 2, 4))
    (kk : ∀ H1 : Heap, va_P D vwCl (ww ad cA ((k0 :: ks).reverse ++ L) rs u') H1 → (∀ v : Mr, va_D A (ww ad cA ((k0 :: ks).reverse ++ L) rs v)) → va_S A s.heap H1 locs → W p l e R s m args below meth c H1 locs (cells + 1 + N) (slots + N + N * K) Q (F0 m (pc + 4) ls (.ref (ad k0) :: rest))) : W p l e R s m args below meth c H locs cells slots Q (F0 m pc ls (.int kk0 :: .int n :: rest)) := by
  subst hN
  subst hM
  intro T hT Xs
  obtain ⟨vm₁, cX, comp, -, fA, fC, -, -, X', step⟩ := Xs.multianewarray2F hx hown hcl hover harr (g := F0 m pc ls (.int kk0 :: .int n :: rest)) rfl (by rw [hb]; exact hdg) rfl hn hk hb1 hb2 (by omega) rfl rfl hcells hslots
  obtain rfl : cX = cA 8 := Option.some.inj (fA.symm.trans (hK.2 8 _ rfl).2)
  obtain rfl : comp = cA 0 := Option.some.inj (fC.symm.trans (hK.2 0 _ rfl).2)
  generalize hF : Jvm.Free.Multi.fill (T.setVm vm₁) (cA 8) (cA 0) n.toNatClampNeg kk0.toNatClampNeg (defaultValue .int) n.toNatClampNeg = F at X' step
  have hTh : (T.setVm vm₁).heap = H := hT
  obtain ⟨f1, f2, -, -⟩ := Jvm.Free.Multi.fill_facts (T.setVm vm₁) (cA 8) (cA 0) n.toNatClampNeg kk0.toNatClampNeg (defaultValue .int) n.toNatClampNeg
  rw [hF, hTh] at f1 f2
  have o1 : ∀ x : Nat, x < H.size → F.heap[x]? = H[x]? := fun x hx9 => by
    have := Jvm.Free.Multi.fill_old (T.setVm vm₁) (cA 8) (cA 0) n.toNatClampNeg kk0.toNatClampNeg (defaultValue .int) (a := x) (by rw [hTh]; exact hx9) n.toNatClampNeg
    rw [hF, hTh] at this
    exact this
  have hrow : ∀ j : Nat, j < n.toNatClampNeg → F.heap[H.size + 1 + j]? = some (arrV (cA 0) kk0.toNatClampNeg (fun _ => .int 0)) := fun j hj => by
    have := Jvm.Free.Multi.fill_inner (T.setVm vm₁) (cA 8) (cA 0) n.toNatClampNeg kk0.toNatClampNeg (defaultValue .int) n.toNatClampNeg j hj
    rw [hF, hTh] at this
    rw [this, ← arrV_new]
    rfl
  have hout : ∀ (N h0 i : Nat), Jvm.Free.Multi.outerC (cA 8) N h0 i = arrV (cA 8) N (fun j => va_rf (if j < i then some (h0 + 1 + j) else none)) := by
    intro N h0 i
    induction i with
    | zero =>
      show ({ cls := cA 8, slots := Array.replicate N .null, vm := .none } : Cell) = _
      rw [arrV_new]
      exact arrV_cg (fun j _ => by simp [va_rf])
    | succ i ih =>
      show (Jvm.Free.Multi.outerC (cA 8) N h0 i).setSlot i (.ref (h0 + 1 + i)) = _
      rw [ih, arrV_store]
      refine arrV_cg (fun j _ => ?_)
      by_cases e9 : j = i
      · subst e9
        simp [updV, va_rf]
      · by_cases h9 : j < i
        · simp [updV, e9, h9, Nat.lt_succ_of_lt h9]
        · simp [updV, e9, h9, show ¬ j < i + 1 by omega]
  obtain ⟨g, hg1, hg2⟩ := hE0
  obtain ⟨g1, g2⟩ := ww_grow (ks := k0 :: ks) (u' := u') (H1 := F.heap) hP hD o1 had hkL (fun q hq => by
    obtain ⟨i, hi⟩ := List.getElem?_of_mem hq
    have ha := had i q hi
    cases i with
    | zero =>
      cases hi
      rw [hg1]
      show F.heap[ad k0]? = some (vp_cell (cA 8) _)
      rw [vp_cell_q, ha, Nat.add_zero, f2, hout]
      refine congrArg some (arrV_cg (fun j hj => ?_))
      rw [if_pos hj, hg2 j hj]
    | succ i =>
      have hi2 : ks[i]? = some q := hi
      have hil : i < ks.length := (List.getElem?_eq_some_iff.mp hi2).1
      rw [hE1 q (List.mem_of_getElem? hi2)]
      show F.heap[ad q]? = some (arrV (cA 0) kk0.toNatClampNeg (fun _ => .int 0))
      rw [ha, show H.size + (i + 1) = H.size + 1 + i by omega]
      exact hrow i (by omega)) ho (fun q hq => hA q (Nat.le_trans hS.1 hq))
  have h0 : ad k0 = H.size := had 0 k0 rfl
  obtain ⟨t, a1, b1⟩ := kk F.heap g1 g2 ⟨Nat.le_trans hS.1 (by omega), fun x h1 h2 => (o1 x (Nat.lt_of_lt_of_le h1 hS.1)).trans (hS.2.1 x h1 h2), hS.2.2⟩ F rfl X'
  refine ⟨t, step t ?_, b1⟩
  rw [hT, ← h0]
  exact a1
theorem x_aast (hx : p.tables.exec = Jvm.exec) (hb : c.code = cc) (hK : va_K D vwCl (tyl cA) s) (hD : ∀ v : Mr, va_D A (ww ad cA L rs v)) (hN : L.Nodup) (hP : va_P D vwCl (ww ad cA L rs u) H) (hS : va_S A s.heap H locs) (hk : k ∈ L) (hT : k / 64 = T) (t : Nat) {n : Nat} (hE : ∀ row rr lr, Eg ad cA T row rr lr = .inl (cA t, n, .inr (.inr (.inr (.inr (fun j => (rr (nI j)).map ad)))))) {r : vw_C} {E : String} (ht : (tyl cA)[t]? = some (cA t, .object E)) (hca : r.1 = E ∨ va_Nw (.castable r.1 E) s) (hn : n < 2 ^ 31) {v Tv ci : Nat} {vs : List Value} (hv : v ∈ L) (hTv : v / 64 = Tv) (hEv : Eg ad cA Tv (u.1 v) (u.2.1 v) (u.2.2 v) = .inr (ci, vs)) (hc : vwCl[ci]? = some r) {i : Int32} (hin : vp_in i n) (hdg : decode cc pc = .ok (.aastore, 1))
    (kk : ∀ (H1 : Heap) (locs1 : List Loc), va_P D vwCl (ww ad cA L rs (stR u k i (some v))) H1 → va_S A s.heap H1 locs1 → W p l e R s m args below meth c H1 locs1 cells slots Q (F0 m (pc + 1) ls rest)) : W p l e R s m args below meth c H locs cells slots Q (F0 m pc ls (.ref (ad v) :: .int i :: .ref (ad k) :: rest)) := by
  obtain ⟨q0, hq⟩ := ww_in hk
  obtain ⟨q1, hq1⟩ := ww_in hv
  have fin : ∀ (H1 : Heap) (locs1 : List Loc), va_P D vwCl ((ww ad cA L rs u).set q0 (ad k, .inl (cA t, n, .inr (.inr (.inr (.inr (va_up (fun j => (u.2.1 k (nI j)).map ad) i.toNatClampNeg (some (ad v))))))))) H1 → va_S A s.heap H1 locs1 → W p l e R s m args below meth c H1 locs1 cells slots Q (F0 m (pc + 1) ls rest) := by
    intro H1 locs1 hP1 hS1
    refine kk H1 locs1 (ww_P hN hq hP1 (fun h => ?_) stR_o) hS1
    rw [hT, hE]
    have e2 : H1[ad k]? = some (arrV (cA t) n (fun j => va_rf (va_up (fun j => (u.2.1 k (nI j)).map ad) i.toNatClampNeg (some (ad v)) j))) := h
    show H1[ad k]? = some (arrV (cA t) n (fun j => va_rf (((stR u k i (some v)).2.1 k (nI j)).map ad)))
    rw [e2, arrV_cg (fun j hj => by rw [stR_row hin hn j hj])]
  rcases hca with e9 | hca
  · subst e9
    exact va_astq hx hb hK hP (hD u) hS q0 t q1 ci (by rw [ww_at hq, hT, hE]) ht (by rw [ww_at hq1, hTv, hEv]) hc hin hdg (fun H1 locs1 hP1 _ hS1 => fin H1 locs1 hP1 hS1)
  · exact va_astqO hx hb hK hP (hD u) hS q0 t q1 ci (by rw [ww_at hq, hT, hE]) ht hca (by rw [ww_at hq1, hTv, hEv]) hc hin hdg (fun H1 locs1 hP1 _ hS1 => fin H1 locs1 hP1 hS1)
theorem x_putF (hx : p.tables.exec = Jvm.exec) (hb : c.code = cc) {own ref C : String} {Tf : u_T} {N ci index : Nat} {Ts : List Cond} (hts : ∀ w ∈ Ts, w.before args s = true) (hin : ∀ w ∈ u_ws C Tf N, w ∈ Ts) (ty0 : Nat → FieldType) (hty : ∀ k, k < N → parseFieldDescriptor (Tf k).2.2.1 = some (ty0 k)) (hnm : ∀ a, a < N → ∀ b, b < N → a ≠ b → (Tf a).2.1 ≠ (Tf b).2.1) (hown : s.vm.findClass own = some m.cls) (hK : va_K D vwCl (tyl cA) s) (hD : ∀ v : Mr, va_D A (ww ad cA L rs v)) (hN : L.Nodup) (hP : va_P D vwCl (ww ad cA L rs u) H) (hS : va_S A s.heap H locs) (hk : k ∈ L) (hT : k / 64 = T) {fs : List Value} (hE : Eg ad cA T (u.1 k) (u.2.1 k) (u.2.2 k) = .inr (ci, fs)) (hc : vwCl[ci]? = some (C, Tf, N)) (j : Nat) (hj : j < N)
    (hlink : (Cond.fieldLink own index ref (Tf j).2.1 (Tf j).2.2.1).before args s = true) (hsame : ∀ x, s.fieldFound? (Tf j).1 (Tf j).2.1 (Tf j).2.2.1 = some x → s.fieldFound? ref (Tf j).2.1 (Tf j).2.2.1 = some x) (hfin : (Tf j).2.2.2 = true) (hin2 : meth.name = "<init>") (hdecl : (Tf j).1 = own) {ty : FieldType} {v : Value} (hd : parseFieldDescriptor (Tf j).2.2.1 = some ty) (hn : narrow ty v = v) (hfit : fits ty v = true) (hl : j < fs.length) (u' : Mr) (ho : ∀ j : Nat, j ≠ k → u'.1 j = u.1 j ∧ u'.2.1 j = u.2.1 j ∧ u'.2.2 j = u.2.2 j) (hE' : Eg ad cA T (u'.1 k) (u'.2.1 k) (u'.2.2 k) = .inr (ci, fs.set j v)) (hdg : decode cc pc = .ok (.putfield index, 3))
    (kk : ∀ (H1 : Heap) (locs1 : List Loc), va_P D vwCl (ww ad cA L rs u') H1 → va_S A s.heap H1 locs1 → W p l e R s m args below meth c H1 locs1 cells slots Q (F0 m (pc + 3) ls rest)) : W p l e R s m args below meth c H locs cells slots Q (F0 m pc ls (v :: .ref (ad k) :: rest)) := by
  obtain ⟨q0, hq⟩ := ww_in hk
  exact va_putF hx hb hts hin ty0 hty hnm hown hK hP (hD u) hS q0 (by rw [ww_at hq, hT, hE]) hc j hj hlink hsame hfin hin2 hdecl hd hn hfit hl hdg
    (fun H1 locs1 hP1 _ hS1 => kk H1 locs1 (ww_P hN hq hP1 (fun h => by rw [hT, hE']; exact h) ho) hS1)
end

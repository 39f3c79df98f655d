/-! A method that throws: its end, the throw itself, and where it is called. -/
def exn (k : Nat) : String := match k with
  | 1 => "java/lang/IllegalArgumentException"
  | 2 => "java/lang/IllegalStateException"
  | _ => "java/util/NoSuchElementException"
/-- a static of a class that holds null or a reference, in a cell outside A -/
def zL (C n d : String) (A : Nat → Prop) (U : State) (H : Heap) : Prop := ∃ (c : ClassId) (k : Class) (i : Nat) (f : Field) (a : Nat) (cell : Cell) (v : Value), U.vm.findClass C = some c ∧ U.fieldFound? C n d = some (c, k, i, f) ∧ f.isStatic = true ∧ k.statics = some a ∧ H[a]? = some cell ∧ cell.vm.isStatics = true ∧ cell.cls = c ∧ f.slot < cell.slots.size ∧ k.staticTypes[f.slot]? = some f.type ∧ cell.slots[f.slot]? = some v ∧ v.isRef = true ∧ ¬ A a
theorem zL.moved {C n d : String} {A : Nat → Prop} {u U : State} {H : Heap} (hvm : u.vm.Alike U.vm) (h : zL C n d A u H) : zL C n d A U H := by
  obtain ⟨c, k, i, f, a, cell, v, h1, h2, h3, h4, h5, h6, h7, h8, h9, h10, h11, h12⟩ := h
  obtain ⟨k', hi', he⟩ := State.fieldFound?_setVm hvm h2
  exact ⟨c, k', i, f, a, cell, v, by rw [hvm.findClass]; exact h1, hi', h3, by rw [he]; exact h4, h5, h6, h7, h8, by rw [he]; exact h9, h10, h11, h12⟩
theorem zL.kept {C n d : String} {A : Nat → Prop} {U : State} {H H1 : Heap} (h : zL C n d A U H) (hq : ∀ a : Nat, a < H.size → ¬ A a → H1[a]? = H[a]?) : zL C n d A U H1 := by
  obtain ⟨c, k, i, f, a, cell, v, h1, h2, h3, h4, h5, h6, h7, h8, h9, h10, h11, h12⟩ := h
  exact ⟨c, k, i, f, a, cell, v, h1, h2, h3, h4, by rw [hq a (Array.getElem?_eq_some_iff.mp h5).1 h12]; exact h5, h6, h7, h8, h9, h10, h11, h12⟩
theorem zL.narrow {C n d : String} {A B : Nat → Prop} {U : State} {H : Heap} (h : zL C n d A U H) (hAB : ∀ a : Nat, a < H.size → B a → A a) : zL C n d B U H := by
  obtain ⟨c, k, i, f, a, cell, v, h1, h2, h3, h4, h5, h6, h7, h8, h9, h10, h11, h12⟩ := h
  exact ⟨c, k, i, f, a, cell, v, h1, h2, h3, h4, h5, h6, h7, h8, h9, h10, h11, fun q => h12 (hAB a (Array.getElem?_eq_some_iff.mp h5).1 q)⟩
theorem zL.lays {C n d : String} {A : Nat → Prop} {s : State} {args : Array Value} (h : zL C n d A s s.heap) : (Cond.laysStatic C n d).before args s = true := by
  obtain ⟨c, k, i, f, a, cell, v, h1, h2, h3, h4, h5, h6, h7, h8, h9, -, -, -⟩ := h
  show (Cond.laysStatic C n d).holds args s none s [] = true
  exact Cond.laysStatic_of h1 h2 h3 h4 h5 h6 h7 h8 h9
theorem zL.ref {C n d : String} {A : Nat → Prop} {s : State} {args : Array Value} (h : zL C n d A s s.heap) : (Cond.isRef (.static C n d)).before args s = true := by
  obtain ⟨c, k, i, f, a, cell, v, h1, h2, h3, h4, h5, h6, h7, h8, h9, h10, h11, -⟩ := h
  have he : (Term.static C n d).eval args s none [] s = some v := by
    simp [Term.eval, State.fieldNamed?, h2, h3, h4, h5, h6, h10]
  simp only [Cond.before, Cond.holds, Cond.value, he]
  cases v <;> simp_all [Value.isRef]
theorem zL.of {args : Array Value} {s : State} {C n d : String} {A : Nat → Prop} (hl : (Cond.laysStatic C n d).before args s = true) (hini : (Cond.initialized C).before args s = true) (h : (Cond.isRef (.static C n d)).before args s = true) (hA : ∀ a : Nat, a < s.heap.size → ¬ A a) : zL C n d A s s.heap := by
  obtain ⟨c, k, i, f, a, cell, h1, h2, h3, h4, h5, h6, h7, h8, h9⟩ := Cond.laysStatic_spec hl
  have h10 : cell.slots[f.slot]? = some cell.slots[f.slot] := Array.getElem?_eq_getElem h8
  have he : (Term.static C n d).eval args s none [] s = some cell.slots[f.slot] := by
    simp [Term.eval, State.fieldNamed?, h2, h3, h4, h5, h6, h10]
  refine ⟨c, k, i, f, a, cell, cell.slots[f.slot], h1, h2, h3, h4, h5, h6, h7, h8, h9, h10, ?_, hA a (Array.getElem?_eq_some_iff.mp h5).1⟩
  generalize cell.slots[f.slot] = v at he
  simp only [Cond.before, Cond.holds, Cond.value, he] at h
  cases v <;> simp_all [Value.isRef]
section
variable {p : Program} {l : Launch} {e : Env} {R : Room} {s : State} {m : MethodId} {args : Array Value} {below : List Frame} {meth : Method} {c : Code} {H : Heap} {locs : List Loc} {cells slots pc : Nat} {Q Q' : State → Prop} {cc : ByteArray} {ls : Array Slot} {rest : List Value} {D : va_G} {cA : Nat → ClassId} {ad : Nat → Nat} {L : List Nat} {rs : va_W} {u : Mr} {A : Nat → Prop}
theorem w_mono {g : JFrame} (h : ∀ t, Q t → Q' t) (k : W p l e R s m args below meth c H locs cells slots Q g) : W p l e R s m args below meth c H locs cells slots Q' g := fun T hT X => by
  obtain ⟨t, a, b⟩ := k T hT X
  exact ⟨t, a, h t b⟩
/-- what a method that may throw comes to: its answer (kind 0), or an object of the kind's class thrown; at most one cell of six slots is new -/
def XQ (D : va_G) (cA : Nat → ClassId) (ad : Nat → Nat) (L : List Nat) (rs : va_W) (A : Nat → Prop) (rv : Int32 → Option Value) (out : Mr × (Nat × Int32)) (st : State) (o : Outcome) (t : State) : Prop :=
  st.WarmedH t.vm ∧ (∃ Lc : List Loc, st.sameButNew ({ t with vm := st.vm } : State) Lc 1 6 ∧ ∀ z ∈ Lc, A z.base) ∧ va_P D vwCl (ww ad cA L rs out.1) t.heap ∧ va_F A st t ∧
  ((out.2.1 = 0 ∧ o = .returned (rv out.2.2)) ∨ (out.2.1 ≠ 0 ∧ ∃ (q : Nat) (ce : Cell), o = .threw q ∧ t.heap[q]? = some ce ∧ ce.vm = .none ∧ st.vm.findClass (exn out.2.1) = some ce.cls))
abbrev QX (below : List Frame) (s : State) (D : va_G) (cA : Nat → ClassId) (ad : Nat → Nat) (L : List Nat) (rs : va_W) (A : Nat → Prop) (rv : Int32 → Option Value) (out : Mr × (Nat × Int32)) : State → Prop := fun t => ∃ o : Outcome, t.status = .running ∧ Ended t below o ∧ XQ D cA ad L rs A rv out s o t
theorem x_retX {g : JFrame} {rv : Int32 → Option Value} {v : Int32} {out : Mr × (Nat × Int32)} (h : some (u, (0, v)) = some out)
    (k : W p l e R s m args below meth c H locs cells slots (MQ below (fun _ st o t => o = .returned (rv v) ∧ va_P D vwCl (ww ad cA L rs u) t.heap ∧ va_F A st t) args s 0 0 A) g) : W p l e R s m args below meth c H locs cells slots (QX below s D cA ad L rs A rv out) g := by
  have e9 : (u, (0, v)) = out := Option.some.inj h
  subst e9
  refine w_mono (fun t ht => ?_) k
  obtain ⟨o, h1, h2, ⟨h3, h4, h5⟩, Lc, ⟨-, h6, h7⟩, h8⟩ := ht
  exact ⟨o, h1, h2, h6, ⟨Lc, h7.mono (Nat.zero_le _) (Nat.zero_le _), h8⟩, h4, h5, Or.inl ⟨rfl, h3⟩⟩
theorem x_iretX {v : Int32} {out : Mr × (Nat × Int32)} (hx : p.tables.exec = Jvm.exec) (hb : c.code = cc) (hr : meth.sig.returnType = some .int) (hlocks : meth.locks = false) (h : some (u, (0, v)) = some out) (hP : va_P D vwCl (ww ad cA L rs u) H) (hS : va_S A s.heap H locs) (hdg : decode cc pc = .ok (.ireturn, 1)) : W p l e R s m args below meth c H locs 0 0 (QX below s D cA ad L rs A (fun v => some (.int v)) out) (F0 m pc ls [.int v]) :=
  x_retX h (W.iret hx hb hr (fun t ht hW => ⟨rfl, x_hp hP ht, hS.F ht⟩) hS.2.2 hdg hlocks)
theorem x_vretX {v : Int32} {out : Mr × (Nat × Int32)} (hx : p.tables.exec = Jvm.exec) (hb : c.code = cc) (hr : meth.sig.returnType = none) (hlocks : meth.locks = false) (h : some (u, (0, v)) = some out) (hP : va_P D vwCl (ww ad cA L rs u) H) (hS : va_S A s.heap H locs) (hdg : decode cc pc = .ok (.return_, 1)) : W p l e R s m args below meth c H locs 0 0 (QX below s D cA ad L rs A (fun _ => none) out) (F0 m pc ls []) :=
  x_retX h (W.vret hx hb hr (fun t ht hW => ⟨rfl, x_hp hP ht, hS.F ht⟩) hS.2.2 hdg hlocks)
/-- the same frame seen from the heap that is there now -/
theorem re_base {T : State} (X : Stand p l e R s m args below meth c T locs cells slots) {R' : Room} (hf : R'.frames ≤ R.frames) (hl : R'.locals ≤ R.locals) (hc : cells + R'.cells ≤ R.cells) (hs : slots + R'.slots ≤ R.slots) : Stand p l e R' ((T.setVm s.vm).setFrames (.invoking m args :: below)) m args below meth c T [] 0 0 := by
  have htop : (T.setVm s.vm).topJava?.isSome := X.here.top
  have hF : ((T.setVm s.vm).setFrames (.invoking m args :: below)).frames = .invoking m args :: below := State.frames_setFrames _ (State.cur_lt_of_top htop)
  obtain ⟨g₀, hr⟩ := X.frames_eq
  have hlim : e.platform.stackLimits (T.setVm s.vm).me = e.platform.stackLimits s.me := X.limits
  have hbyt : (T.setVm s.vm).me.stackBytes = s.me.stackBytes := X.bytes
  have hroom : ((T.setVm s.vm).setFrames (.invoking m args :: below)).hasRoom e.platform R' = true := by
    have h := X.room
    have hU : ((T.setVm s.vm).setFrames (.invoking m args :: below)).localsInUse = s.localsInUse := by
      rw [State.localsInUse_invoking hF (meth := meth) (c := c) X.method X.code, State.localsInUse_invoking X.frames X.method X.code]
    have z1 := X.heapSize
    have z2 := X.used
    have z3 := X.frames
    simp only [State.hasRoom, Bool.and_eq_true, decide_eq_true_eq] at h ⊢
    rw [z3, List.length_cons] at h
    simp only [hF, hU, List.length_cons, State.stackLimits_setFrames, State.stackBytes_setFrames, hlim, hbyt]
    obtain ⟨⟨⟨⟨a1, a2, a3, a4, a5, a6⟩, a7⟩, a8⟩, -⟩ := h
    refine ⟨⟨⟨⟨by omega, by omega, by omega, by omega, by omega, a6⟩, ?_⟩, ?_⟩, X.book⟩
    · show T.heap.size + R'.cells ≤ e.platform.maxCells
      omega
    · show T.slotsUsed + R'.slots ≤ e.platform.maxSlots
      omega
  have hsame : ((T.setVm s.vm).setFrames (.invoking m args :: below)).sameButNew (T.setVm ((T.setVm s.vm).setFrames (.invoking m args :: below)).vm) [] 0 0 := by
    have hd : (T.heap.toList.drop T.heap.size) = [] := List.drop_eq_nil_of_le (Nat.le_of_eq Array.length_toList)
    refine ⟨?_, Nat.le_refl _, Nat.le_refl _, ?_, ?_, fun a c9 h9 => ⟨c9, h9, rfl, rfl, fun _ _ => rfl⟩⟩
    · obtain ⟨t, ht, -⟩ := State.frames_cons (show (T.setVm s.vm).frames = .java g₀ :: below from hr)
      show T.setVm s.vm = { ((T.setVm s.vm).setFrames (.invoking m args :: below)).setFrames (T.setVm s.vm).frames with heap := T.heap, slotsUsed := T.slotsUsed }
      rw [State.setFrames_setFrames, State.setFrames_self ht]
      rfl
    · show T.slotsUsed = T.slotsUsed + ((T.heap.toList.drop T.heap.size).map (·.slots.size)).sum
      rw [hd]
      rfl
    · show ((T.heap.toList.drop T.heap.size).map (·.slots.size)).sum ≤ 0
      rw [hd]
      exact Nat.le_refl _
  exact ⟨X.admits, X.cas, X.clock, hF, hroom, X.hears, X.method, X.code, X.here, X.tail, X.warmed, by rw [State.stackLimits_setFrames]; rfl, by rw [State.stackBytes_setFrames]; rfl, hsame⟩
theorem same_heap {s' U : State} {k n : Nat} (h : s'.sameButNew ({ U with vm := s'.vm } : State) [] k n) : s'.heap.size ≤ U.heap.size ∧ ∀ q : Nat, q < s'.heap.size → U.heap[q]? = s'.heap[q]? := by
  refine ⟨h.2.1, fun q hq => ?_⟩
  obtain ⟨c9, e1, e2, -, e4⟩ := h.2.2.2.2.2 q _ (Array.getElem?_eq_getElem hq)
  have hs : c9.slots = (s'.heap[q]).slots := Array.ext_getElem? fun i => e4 i (fun z => nomatch z)
  rw [hs] at e2
  have e5 : U.heap[q]? = some c9 := e1
  rw [e5, e2, Array.getElem?_eq_getElem hq]
theorem kept_P {H1 : Heap} (hP : va_P D vwCl (ww ad cA L rs u) H) (hk : ∀ q : Nat, q < H.size → H1[q]? = H[q]?) : va_P D vwCl (ww ad cA L rs u) H1 := hP.kept (fun k q hq => hk q.1 ((hP k q hq).lt))
set_option maxHeartbeats 2000000 in
/-- a fresh cell of a class whose constructor hands its text on at any place of its pool: made and thrown, no traces -/
theorem made_thrown {T : State} (X : Stand p l e R s m args below meth c T locs cells slots) (hx : p.tables.exec = Jvm.exec) (htr : e.platform.stackTraces = false) {own cls : String} {names : List String} {ic ix : Nat} {rx : ByteArray}
    (x0 : decode rx 0 = .ok (.aload_n 0, 1)) (x1 : decode rx 1 = .ok (.aload_n 1, 1)) (x2 : decode rx 2 = .ok (.invokespecial ix, 3)) (x5 : decode rx 5 = .ok (.return_, 1))
    (hown : s.vm.findClass own = some m.cls) (hcls : Bundle.fit cls = true) (hnames : ∀ n ∈ names, Bundle.fit n = true) (hat : ∀ w ∈ Bundle.ownAtomsX own ic cls ix rx names, w.before args s = true)
    (hlocs : ∀ x ∈ locs, ∀ cell, s.heap[x.base]? = some cell → cell.vm.isStatics = false) {a : Nat} {cX : ClassId} {kX : Class} (hf : s.vm.findClass cls = some cX) (hkX : s.vm.classes[cX]? = some kX) (hcell : T.heap[a]? = some (freshCell cX kX)) (hnew : s.heap.size ≤ a)
    {msg : Value} (hmsg : msg.isRef = true) {g : JFrame} (hg : g.method = m) (hsize : g.locals.size = c.maxLocals) (hlk : g.locked = none) (hent : g.entered = []) (hst : g.stack = msg :: .ref a :: .ref a :: rest)
    (d6 : decode c.code g.pc = .ok (.invokespecial ic, 3)) (d9 : decode c.code (g.pc + 3) = .ok (.athrow, 1)) (hno : ∀ x ∈ c.exceptionTable.toList, covers x (g.pc + 3) = false)
    (hRf : names.length + 3 < R.frames) (hRl : 2 * g.monitorRoom + ((Value.ref a :: rest).map fun v => v.category).sum + (13 * (names.length + 1) + 42) ≤ R.locals) (hlocks : meth.locks = false) :
    ∃ U : State, Steps p.tables e below (T.setTop g) U ∧ U.status = .running ∧ Ended U below (.threw a) ∧ s.WarmedH U.vm ∧ s.sameButNew ({ U with vm := s.vm } : State) locs cells slots ∧ ∃ ce, U.heap[a]? = some ce ∧ ce.vm = .none ∧ s.vm.findClass cls = some ce.cls := by
  have hpf : e.platform.frameOwnsMonitors = true ∧ e.platform.finalization = false ∧ e.platform.magicAccessors = ({} : Platform).magicAccessors := by rw [X.admits.platform]; exact ⟨rfl, rfl, rfl⟩
  obtain ⟨ho, hfi, hpl⟩ := hpf
  have q1 : ∀ w, w ∈ Bundle.throwableAtoms → w.before args s = true := fun w hw => hat w (List.mem_append_left _ (List.mem_append_left _ (List.mem_append_left _ hw)))
  have q2 : ∀ w, w ∈ Bundle.throwableSAtoms → w.before args s = true := fun w hw => hat w (List.mem_append_left _ (List.mem_append_left _ (List.mem_append_right _ hw)))
  have q3 : ∀ w, w ∈ Bundle.chainSAtomsX cls ix rx names → w.before args s = true := fun w hw => hat w (List.mem_append_left _ (List.mem_append_right _ hw))
  have q4 : ∀ (w : Cond) (n : Nat), [Cond.methodLink own ic (Bundle.initS cls), .instantiable cls 6, .castable cls cls, .selects cls Bundle.tFill0 Bundle.tFill0, .selects cls Bundle.tFill Bundle.tFill, .lays cls Bundle.tN "cause" "Ljava/lang/Throwable;", .lays cls Bundle.tN "stackTrace" Bundle.steD, .lays cls Bundle.tN "suppressedExceptions" Bundle.listD, .lays cls Bundle.tN "detailMessage" "Ljava/lang/String;", .isRef (.static Bundle.tN "UNASSIGNED_STACK" Bundle.steD), .isRef (.static Bundle.tN "SUPPRESSED_SENTINEL" Bundle.listD), .fieldLink Bundle.tN 198 Bundle.tN "backtrace" "Ljava/lang/Object;", .lays Bundle.tN Bundle.tN "backtrace" "Ljava/lang/Object;", .lays cls Bundle.tN "backtrace" "Ljava/lang/Object;"][n]? = some w → w.before args s = true := fun w n hw => hat w (List.mem_append_right _ (List.mem_of_getElem? hw))
  obtain ⟨Th, Z0, Lk, -, Y⟩ := ThrowableC.of_atoms (args := args) ho hfi hpl q1
  obtain ⟨Z, M, LZ, LM, hnZ⟩ := Init0T.ofS_atoms (args := args) hpl Lk Y q2
  obtain ⟨P1, Ps, hlen, L1, hLs, hPm, k1, k2⟩ := Bundle.chainSX (args := args) hpl hnZ x0 x1 x2 x5 names cls hcls hnames q3
  have hP : s.vm.findClass cls = some P1.m.cls := findClass_of_methodNamed hPm
  obtain rfl : cX = P1.m.cls := Option.some.inj (hf.symm.trans hP)
  obtain ⟨c1, k1', e1, hk, hord, -, -, -⟩ := Cond.instantiable_spec (q4 _ 1 rfl)
  obtain rfl : c1 = P1.m.cls := Option.some.inj (e1.symm.trans hP)
  obtain rfl : kX = k1' := Option.some.inj (hkX.symm.trans hk)
  have sel : ∀ {y : MethodName} {mm : MethodId} (n : Nat), [Cond.methodLink own ic (Bundle.initS cls), .instantiable cls 6, .castable cls cls, .selects cls Bundle.tFill0 Bundle.tFill0, .selects cls Bundle.tFill Bundle.tFill, .lays cls Bundle.tN "cause" "Ljava/lang/Throwable;", .lays cls Bundle.tN "stackTrace" Bundle.steD, .lays cls Bundle.tN "suppressedExceptions" Bundle.listD, .lays cls Bundle.tN "detailMessage" "Ljava/lang/String;", .isRef (.static Bundle.tN "UNASSIGNED_STACK" Bundle.steD), .isRef (.static Bundle.tN "SUPPRESSED_SENTINEL" Bundle.listD), .fieldLink Bundle.tN 198 Bundle.tN "backtrace" "Ljava/lang/Object;", .lays Bundle.tN Bundle.tN "backtrace" "Ljava/lang/Object;", .lays cls Bundle.tN "backtrace" "Ljava/lang/Object;"][n]? = some (.selects cls y y) → y.name ≠ "<init>" → s.methodNamed? y = some mm → s.methodFound? y.cls y.name y.desc = some mm → selectMethod e.platform s.vm P1.m.cls mm = .method mm := by
    intro y mm n h1 _ h2 h3
    obtain ⟨c2, r2, m2, z1, z2, z3, z4, -⟩ := Cond.selects_spec (q4 _ n h1)
    obtain rfl : c2 = P1.m.cls := Option.some.inj (z1.symm.trans hP)
    obtain rfl : r2 = mm := Option.some.inj (z2.symm.trans h3)
    obtain rfl : m2 = r2 := Option.some.inj (z3.symm.trans h2)
    rw [Launch.admits_selectMethod X.admits]
    exact z4
  have s0 := sel (y := Bundle.tFill0) 3 rfl (by decide) Y.fill0 (State.methodFound?_of_named Y.fill0 (by decide))
  have s1 := sel (y := Bundle.tFill) 4 rfl (by decide) Y.fill (State.methodFound?_of_named Y.fill (by decide))
  obtain ⟨cS, hS, hi⟩ := Y.statics
  obtain ⟨u0, hu0⟩ := Cond.staticRefV Y.unassigned Lk.unassignedStatic Lk.statics hS hi (q4 _ 9 rfl)
  obtain ⟨sen, hsen⟩ := Cond.staticRefV Y.sentinel Lk.sentinelStatic Lk.statics hS hi (q4 _ 10 rfl)
  obtain ⟨cb, ib, fB, b1, b2, b3, b4, -, b5, b6, b7⟩ := Cond.ownField (t := .object "java/lang/Object") Y.found Lk.cls (by decide +kernel) (q4 _ 11 rfl) (q4 _ 12 rfl) e.platform hpl
  obtain ⟨cT, hT, eT, -, keep⟩ := X.same.2.2.2.2.2 Th.aS cS hS
  have hoff : ∀ i, (⟨Th.aS, i⟩ : Loc) ∉ locs := fun i hm => by
    have h9 := hlocs _ hm cS hS
    rw [hi] at h9
    cases h9
  have hun : cT.vm ≠ .unknown := fun h9 => by
    rw [eT] at h9
    rw [show cS.vm = .unknown from h9] at hi
    cases hi
  have hne : Th.aS ≠ a := Nat.ne_of_lt (Nat.lt_of_lt_of_le (Array.getElem?_eq_some_iff.mp hS).1 hnew)
  obtain ⟨iM, hM⟩ := Y.msg
  obtain ⟨tC, dC, yC, zC⟩ := Cond.laysAt hP hk Y.cause (q4 _ 5 rfl)
  obtain ⟨tS, dS, yS, zS⟩ := Cond.laysAt hP hk Y.stack (q4 _ 6 rfl)
  obtain ⟨tP, dP, yP, zP⟩ := Cond.laysAt hP hk Y.supp (q4 _ 7 rfl)
  obtain ⟨tM, -, -, -⟩ := Cond.laysAt hP hk hM (q4 _ 8 rfl)
  obtain ⟨tB, dB, yB, zB⟩ := Cond.laysAt hP hk b7 (q4 _ 13 rfl)
  have n1 := Cond.laysApart yB yC zB zC (by rw [b5, Y.causeName]; decide)
  have n2 := Cond.laysApart yB yS zB zS (by rw [b5, Y.stackName]; decide)
  have n3 := Cond.laysApart yB yP zB zP (by rw [b5, Y.suppName]; decide)
  have hskip : SkipFacts Th e.platform s (fun u => u) u0 ((preparedCellV Th.toThrowableT (freshCell P1.m.cls kX) a u0 sen).withEntry T.cur) := by
    refine ⟨{ ci198 := cb, i198 := ib, fBack := fB }, ⟨b1, b2, b3, b4⟩, ?_, fun _ _ => rfl⟩
    have h9 := fresh_default (c := P1.m.cls) tB
    rw [b6] at h9
    simpa [preparedCellV, Cell.setSlot, Cell.withEntry, Array.getElem?_setIfInBounds, n1, n2, n3, n1.symm, n2.symm, n3.symm, defaultValue] using h9
  obtain ⟨tm, -, -, -, vm1, hn1, -, -, -, -, -, -, -, hW1, go1⟩ := Steps.initColdS (tb := p.tables) (e := e) (below := below) (s := s) (U := T) X.here hx X.warmed hpl hown (t := Bundle.initS cls) rfl rfl (Bundle.fit_spec hcls).2 (q4 _ 0 rfl) (q3 _ (by cases names <;> simp [Bundle.chainSAtomsX, Bundle.passSAtoms])) (bytes := rx) (maxL := 2) (q3 _ (by cases names <;> simp [Bundle.chainSAtomsX, Bundle.passSAtoms])) (f := g) hg (a := a) (msg := msg) (rest := .ref a :: rest) hst d6
  obtain rfl : tm = P1.m := Option.some.inj (hn1.symm.trans hPm)
  obtain ⟨vm2, X2, go2⟩ := (X.noted hW1).ctorMessageOffV hx (g := { g with stack := .ref a :: rest }) hg hsize Th Lk Z LZ M LM (P1 :: Ps) (fun P hP9 => (List.mem_cons.mp hP9).elim (fun h9 => h9 ▸ L1) (hLs P)) ⟨k1, k2⟩ (u0 := u0) (sen := sen) (self := a) hmsg (cell := freshCell P1.m.cls kX) (cellS := cT)
    hcell (fun _ => by simp) (by simp) rfl rfl s0 s1 hT hne hun (by rw [keep _ (hoff _)]; exact hu0) (by rw [keep _ (hoff _)]; exact hsen)
    (Takes.of_laid hk hord tC (by rw [Y.causeType]; rfl)) (Takes.of_laid hk hord tS (by rw [Y.stackType]; exact fits_refV_array _ u0)) (Takes.of_laid hk hord tP (by rw [Y.suppType]; exact fits_refV_object _ sen)) (Takes.of_laid hk hord tM (by rw [Y.msgType]; exact fits_refV_object _ ⟨msg, hmsg⟩)) Y.objLocals hskip htr [] d6 (by rw [List.length_cons, hlen]; omega) (by rw [List.length_cons, hlen]; exact hRl)
  obtain ⟨go3, r1, r2, r3, r4⟩ := X2.athrowLeaves hx (g := { g with stack := .ref a :: rest, pc := g.pc + 3 }) hg hlk hent hno (a := a) (rest := rest) rfl d9
  refine ⟨_, go1 _ (fun acts => by rw [doInvoke_state]; exact go2 _ go3), r1, r2, r3, r4.weaken (fun y hy hlt => ?_) (Nat.le_refl _) (Nat.le_refl _), _, heapAt_setCell_self (s := (T.setVm vm1).setVm vm2) (plainBareV Th.toThrowableT (freshCell P1.m.cls kX) a u0 sen msg) (Array.getElem?_eq_some_iff.mp hcell).1, rfl, hP⟩
  rcases List.mem_append.mp hy with h1 | h1
  · exact h1
  · simp only [List.mem_cons, List.not_mem_nil, or_false] at h1
    rcases h1 with rfl | rfl | rfl | rfl | rfl <;> exact absurd hlt (Nat.not_lt.mpr hnew)
set_option maxHeartbeats 4000000 in
theorem x_throw {cls text : String} {ik is ic sa ix : Nat} {rx : ByteArray} {k : Nat} {rv : Int32 → Option Value} {v : Int32} {out : Mr × (Nat × Int32)} (hx : p.tables.exec = Jvm.exec) (hb : c.code = cc) (hml : c.maxLocals = ls.size) (hlt : l.stackTraces = false) (hlocks : meth.locks = false) (hown : s.vm.findClass "ImageForge" = some m.cls) (x0 : decode rx 0 = .ok (.aload_n 0, 1)) (x1 : decode rx 1 = .ok (.aload_n 1, 1)) (x2 : decode rx 2 = .ok (.invokespecial ix, 3)) (x5 : decode rx 5 = .ok (.return_, 1)) (hcls : Bundle.fit cls = true) (hk : exn k = cls) (hk0 : k ≠ 0)
    (hout : c.exceptionTable.isEmpty = true) (hcl : (Cond.classLink "ImageForge" ik cls).before args s = true) (hini : (Cond.initialized cls).before args s = true) (hins : (Cond.instantiable cls 6).before args s = true) (hstr : vk_R "ImageForge" is text sa s)
    (hat : ∀ w ∈ Bundle.ownAtomsX "ImageForge" ic cls ix rx ["java/lang/RuntimeException", "java/lang/Exception"], ((w.onTables || goodWord w) = true ∧ w.before args s = true) ∨ w = .isRef (.static Bundle.tN "UNASSIGNED_STACK" Bundle.steD) ∨ w = .isRef (.static Bundle.tN "SUPPRESSED_SENTINEL" Bundle.listD) ∨ w = .laysStatic Bundle.tN "UNASSIGNED_STACK" Bundle.steD ∨ w = .laysStatic Bundle.tN "SUPPRESSED_SENTINEL" Bundle.listD)
    (hz1 : zL Bundle.tN "UNASSIGNED_STACK" Bundle.steD A s s.heap) (hz2 : zL Bundle.tN "SUPPRESSED_SENTINEL" Bundle.listD A s s.heap)
    (h : some (u, (k, v)) = some out) (hP : va_P D vwCl (ww ad cA L rs u) H) (hS : va_S A s.heap H locs) (hRf : 6 ≤ R.frames) (hRl : 100 ≤ R.locals) (hRc : 1 ≤ R.cells) (hRs : 6 ≤ R.slots)
    (d0 : decode cc pc = .ok (.new ik, 3)) (d3 : decode cc (pc + 3) = .ok (.dup, 1)) (d4 : decode cc (pc + 4) = .ok (.ldc is, 2)) (d6 : decode cc (pc + 6) = .ok (.invokespecial ic, 3)) (d9 : decode cc (pc + 9) = .ok (.athrow, 1)) :
    W p l e R s m args below meth c H locs 0 0 (QX below s D cA ad L rs A rv out) (F0 m pc ls []) := by
  have e9 : (u, (k, v)) = out := Option.some.inj h
  subst e9
  intro T hT X
  have htr : e.platform.stackTraces = false := (show e.platform.stackTraces = l.stackTraces by rw [X.admits.platform]).trans hlt
  have Y := re_base X (R' := { frames := R.frames, locals := R.locals, cells := 1, slots := 6 }) (Nat.le_refl _) (Nat.le_refl _) (by omega) (by omega)
  generalize hs' : (T.setVm s.vm).setFrames (.invoking m args :: below) = s' at Y
  have hvm : s'.vm = s.vm := by rw [← hs']; rfl
  have hhp : s'.heap = H := by rw [← hs']; exact hT
  have hW0 : s.WarmedH s'.vm := by rw [hvm]; exact State.WarmedH.refl s
  have mv : ∀ w : Cond, (w.onTables || goodWord w) = true → w.before args s = true → w.before args s' = true := fun w hw hb => by
    rw [Bool.or_eq_true] at hw
    rcases hw with hw | hw
    · exact va_tabs hw hvm.symm hb
    · exact word_at hW0 (good_of_word hw) hb
  have hz1' : zL Bundle.tN "UNASSIGNED_STACK" Bundle.steD A s' s'.heap := by rw [hhp]; exact zL.moved hW0.alike (hz1.kept hS.2.1)
  have hz2' : zL Bundle.tN "SUPPRESSED_SENTINEL" Bundle.listD A s' s'.heap := by rw [hhp]; exact zL.moved hW0.alike (hz2.kept hS.2.1)
  have hat' : ∀ w ∈ Bundle.ownAtomsX "ImageForge" ic cls ix rx ["java/lang/RuntimeException", "java/lang/Exception"], w.before args s' = true := fun w hw => by
    rcases hat w hw with ⟨h1, h2⟩ | rfl | rfl | rfl | rfl
    · exact mv w h1 h2
    · exact hz1'.ref
    · exact hz2'.ref
    · exact hz1'.lays
    · exact hz2'.lays
  have hown' : s'.vm.findClass "ImageForge" = some m.cls := by rw [hvm]; exact hown
  have hstr' : vk_R "ImageForge" is text sa s' := vk_R.warm hW0 hstr
  have hno : ∀ x ∈ c.exceptionTable.toList, covers x (pc + 9) = false := fun x hx9 => by
    have h1 : c.exceptionTable = #[] := Array.isEmpty_iff.mp hout
    rw [h1] at hx9
    cases hx9
  have key : W p l e { frames := R.frames, locals := R.locals, cells := 1, slots := 6 } s' m args below meth c H [] 0 0 (QX below s D cA ad L rs A rv (u, (k, v))) (F0 m pc ls []) := by
    refine W.newc hx hb hown' (mv _ rfl hcl) (mv _ rfl hins) (mv _ rfl hini) rfl d0 (Nat.le_refl _) (Nat.le_refl _) (fun cC kC h1 h2 h3 h4 => ?_)
    refine W.eq (g2 := F0 m (pc + 3) ls [.ref H.size]) rfl ?_
    refine lv_dup hx hb d3 rfl ?_
    refine va_ldcS hx hb hown' hstr' d4 ?_
    intro T1 hT1 X1
    obtain ⟨U, hsteps, hrun, hend, hW, hsame, ce, hce, hO, hO2⟩ := made_thrown X1 hx htr x0 x1 x2 x5 (own := "ImageForge") (cls := cls) (names := ["java/lang/RuntimeException", "java/lang/Exception"]) (ic := ic) hown' hcls (by decide) hat' (fun x hx9 => nomatch hx9) h1 h2 (a := H.size) (by rw [hT1]; simp) (by rw [hhp]; exact Nat.le_refl _) (msg := .ref sa) rfl
      (g := F0 m (pc + 6) ls [.ref sa, .ref H.size, .ref H.size]) rfl hml.symm rfl rfl (rest := []) rfl (by rw [hb]; exact d6) (by rw [hb]; exact d9) hno (by show 2 + 3 < R.frames; omega) (by show 2 * 0 + (1 + 0) + (13 * (2 + 1) + 42) ≤ R.locals; omega) hlocks
    obtain ⟨f1, f2⟩ := same_heap hsame
    rw [hhp] at f1 f2
    have hall : s.sameButNew ({ U with vm := s.vm } : State) locs 1 6 := by
      subst hs'
      obtain ⟨e1, e2⟩ := hsame
      rw [State.setFrames_setFrames] at e1
      have g2 : (T.setVm s.vm).sameButNew ({ U with vm := s.vm } : State) [] (0 + 1) (0 + 6) := ⟨e1, e2⟩
      have g3 := X.same.trans g2
      rw [List.append_nil] at g3
      exact g3
    have hc9 : s.vm.findClass (exn k) = some ce.cls := by
      have := hO2
      rw [hvm] at this
      rw [hk]
      exact this
    exact ⟨U, hsteps, .threw H.size, hrun, hend, State.WarmedH.trans hW0 hW, ⟨locs, hall, hS.2.2⟩, kept_P hP f2, ⟨Nat.le_trans hS.1 f1, fun q hq hA => by rw [f2 q (Nat.lt_of_lt_of_le hq hS.1)]; exact hS.2.1 q hq hA⟩, Or.inr ⟨hk0, H.size, ce, rfl, hce, hO, hc9⟩⟩
  exact key T hT Y
end

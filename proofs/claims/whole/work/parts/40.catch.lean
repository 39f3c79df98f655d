/-! A call of a method that may throw, where the caller catches. -/
def nq_l : List (String × String) := [("java/lang/IllegalStateException", "java/lang/IllegalArgumentException"), ("java/util/NoSuchElementException", "java/lang/IllegalStateException")]
def Nq (U : State) : Prop := ∀ q ∈ nq_l, va_Nc q.1 q.2 U
theorem Nq.moved {u U : State} (hvm : u.vm.Alike U.vm) (h : Nq u) : Nq U := fun q hq => (h q hq).moved hvm
theorem tab1 {t : List ExceptionTableEntry} {a b h k : Nat} (e : t.map (fun x => (x.startPc, x.endPc, x.handlerPc, x.catchType)) = [(a, b, h, k)]) : ∃ x : ExceptionTableEntry, t = [x] ∧ x.startPc = a ∧ x.endPc = b ∧ x.handlerPc = h ∧ x.catchType = k := by
  cases t with
  | nil => cases e
  | cons x t =>
    cases t with
    | nil =>
      simp only [List.map_cons, List.map_nil, List.cons.injEq, Prod.mk.injEq, and_true] at e
      exact ⟨x, rfl, e.1, e.2.1, e.2.2.1, e.2.2.2⟩
    | cons y t => simp at e
theorem tab2 {t : List ExceptionTableEntry} {a b h k a' b' h' k' : Nat} (e : t.map (fun x => (x.startPc, x.endPc, x.handlerPc, x.catchType)) = [(a, b, h, k), (a', b', h', k')]) : ∃ x y : ExceptionTableEntry, t = [x, y] ∧ (x.startPc = a ∧ x.endPc = b ∧ x.handlerPc = h ∧ x.catchType = k) ∧ y.startPc = a' ∧ y.endPc = b' ∧ y.handlerPc = h' ∧ y.catchType = k' := by
  cases t with
  | nil => cases e
  | cons x t =>
    have e2 := (List.cons.inj e).2
    obtain ⟨y, hy, r⟩ := tab1 e2
    have e1 := (List.cons.inj e).1
    simp only [Prod.mk.injEq] at e1
    exact ⟨x, y, by rw [hy], ⟨e1.1, e1.2.1, e1.2.2.1, e1.2.2.2⟩, r⟩
section
variable {p : Program} {l : Launch} {e : Env} {R : Room} {s : State} {m : MethodId} {args : Array Value} {below : List Frame} {meth : Method} {c : Code} {H : Heap} {locs : List Loc} {cells slots pc : Nat} {Q Q' : State → Prop} {cc : ByteArray} {ls : Array Slot} {rest st0 : List Value} {D : va_G} {cA : Nat → ClassId} {ad : Nat → Nat} {L L' : List Nat} {rs : va_W} {u : Mr} {A : Nat → Prop} {k T kc ks : Nat}
theorem callX {T : State} (X : Stand p l e R s m args below meth c T locs cells slots) (hx : p.tables.exec = Jvm.exec) {own C : String} {index n mc ms : Nat} {y : MethodName} {bytes : ByteArray} {maxL : Nat} {ret : Option FieldType} {ws : List Cond} {rm : Room} {Pc : Array Value → State → Prop} {Qx : Array Value → State → Outcome → State → Prop}
    (hM : MetFree l y (headSpec ws rm) Pc (fun _ _ _ _ _ => True) Qx) (hown : s.vm.findClass own = some m.cls) (cw : CallW R s args own C index y bytes maxL ret ws rm mc ms n) {b : Addr} {As : List Value} (hp : PreV s T.heap C b Pc As) {g : JFrame} (hg : g.method = m) (hn : As.length = n) (hsize : g.locals.size = c.maxLocals) (hstack : g.stack = As.reverse ++ .ref b :: rest) (hW : 2 * g.monitorRoom + (rest.map fun v => v.category).sum ≤ 8) (hdg : decode c.code g.pc = .ok (.invokevirtual index, 3)) (hf : cells + mc ≤ R.cells ∧ slots + ms ≤ R.slots) :
    ∃ (o : Outcome) (st₀ t : State), st₀.heap = T.heap ∧ s.WarmedH st₀.vm ∧ Qx (Value.ref b :: As).toArray st₀ o t ∧ ∀ (Lc : List Loc) (k n : Nat), st₀.WarmedH t.vm → st₀.sameButNew ({ t with vm := st₀.vm } : State) Lc k n →
      (∀ v, o = .returned v → ∃ T' : State, Stand p l e R s m args below meth c T' (locs ++ Lc) (cells + k) (slots + n) ∧ T'.heap = t.heap ∧ Steps p.tables e below (T.setTop g) (T'.setTop { g with pc := g.pc + 3, stack := v.toList ++ rest })) ∧
      (∀ q, o = .threw q → ∃ T' : State, Stand p l e R s m args below meth c T' (locs ++ Lc) (cells + k) (slots + n) ∧ T'.heap = t.heap ∧ Steps p.tables e below (T.setTop g) ((T'.setTop { g with stack := rest }).pushFrame (.throwing q))) := by
  obtain ⟨⟨hrc, hrs, hfr, hlo, hws, hcw, hcode, hini, hy, hlen, hl⟩, hin, hse⟩ := cw
  obtain ⟨hbl, ⟨cellB, hcB, hoB, hclB⟩, hPc⟩ := hp
  obtain ⟨mk, methM, hnamed, hmethM, hstM, habM⟩ := Cond.instanceMethod_spec hin
  obtain ⟨methM', cM, hmethM', hcM, -, hlM, -, -, -, hsigM⟩ := Cond.code_spec hnamed hcode
  cases hmethM.symm.trans hmethM'
  obtain ⟨c2, r2, m2, q1, q2, q3, q4, kP, hkP, hkPi⟩ := Cond.selects_spec hse
  cases hclB.symm.trans q1
  cases (State.methodFound?_of_named hnamed hy).symm.trans q2
  cases hnamed.symm.trans q3
  have hselP : selectMethod e.platform s.vm cellB.cls mk = .method mk := by rw [Launch.admits_selectMethod X.admits]; exact q4
  obtain ⟨vm₁, X₁, hstep₁⟩ := X.invokevirtual hx hown hl hnamed hmethM hstM hkP hkPi hy (a := b) (cell := cellB) hcB (fun z h => by rw [h] at hoB; cases hoB) hselP hmethM habM hkP hkPi (g := g) hg (argsL := As) (rest := rest) (hn.trans (hlen _ hsigM)) hstack hdg
  have h3 : (Cond.initialized y.cls).before (Value.ref b :: As).toArray (T.setVm vm₁) = true := word_at X₁.warmed (Or.inl (by first | rfl | simp [Cond.onTables, Cond.keeps, Cond.steady])) hini
  have hnT := X₁.named hnamed
  obtain ⟨kY, hkY, -⟩ := className_of_methodNamed hnT
  have hinitY : kY.init = .initialized := Cond.initialized_spec (findClass_of_methodNamed hnT) hkY h3
  have hmT : (T.setVm vm₁).vm.method? mk = some methM := by
    have := X₁.warmed.alike.method? mk
    rw [this]
    exact hmethM
  have hat : At (T.setVm vm₁) ({ g with stack := rest } : JFrame).method c below := by
    show At (T.setVm vm₁) g.method c below
    rw [hg]
    exact X₁.here
  have happ : (headSpec ws rm).appliesLoose y e.platform ((T.setVm vm₁).calling { g with stack := rest } mk (Value.ref b :: As).toArray) = true :=
    Spec.appliesLoose_calling (g := { g with stack := rest }) hat hdg hnT hkY hinitY (X₁.room_calling (g := { g with stack := rest }) (R' := rm) hsize hmT hcM hfr (by rw [hlM]; exact Nat.le_trans (Nat.add_le_add_right (Nat.add_le_add_right hW _) _) hlo) (by rw [hrc]; exact hf.1) (by rw [hrs]; exact hf.2)) (atoms_intro fun w hw => hws w hw _ _ X₁.warmed)
  have hfr2 : ((T.setVm vm₁).setTop { g with stack := rest }).frames = .java { g with stack := rest } :: below := by
    rw [State.frames_setTop' _ X₁.here.top, X₁.tail]
  obtain ⟨o, t, hsteps, -, hend, hq⟩ := Steps.callFree hM p X.admits X.cas X.clock (acts := []) (mid := [.java { g with stack := rest }]) hfr2 happ (hbl _ _ _ _ (hPc (T.setVm vm₁) rfl X₁.warmed)) trivial
  rw [hfr2] at hend
  have hgo : Steps p.tables e below (T.setTop g) t := hstep₁ _ fun acts => by rw [doInvoke_state]; exact hsteps
  refine ⟨o, (T.setVm vm₁).calling { g with stack := rest } mk (Value.ref b :: As).toArray, t, rfl, X₁.warmed, hq, fun Lc k n hWt hsame => ⟨fun v ho => ?_, fun q ho => ?_⟩⟩
  · subst ho
    obtain ⟨T', X', -, -, ht⟩ := X₁.outOf (g := { g with stack := rest }) hg hdg hend hWt hsame
    refine ⟨T', X', by rw [ht]; rfl, ?_⟩
    rw [ht] at hgo
    exact hgo
  · subst ho
    obtain ⟨T', X', -, -, ht⟩ := X₁.outOfThrown (g := { g with stack := rest }) hg hend hWt hsame
    refine ⟨T', X', by rw [ht]; rfl, ?_⟩
    rw [ht] at hgo
    exact hgo
/-- where a thrown object of a class goes -/
abbrev Cat (p : Program) (l : Launch) (e : Env) (R : Room) (s : State) (m : MethodId) (args : Array Value) (below : List Frame) (meth : Method) (c : Code) (own : String) (pc kind : Nat) (K : Nat → Prop) : Prop :=
  ∃ (pre : List ExceptionTableEntry) (x : ExceptionTableEntry) (rest' : List ExceptionTableEntry) (nm : String), c.exceptionTable.toList = pre ++ x :: rest' ∧ covers x pc = true ∧ x.catchType ≠ 0 ∧ (Cond.classLink own x.catchType nm).before args s = true ∧ (Cond.castable (exn kind) nm).before args s = true ∧
    (∀ y ∈ pre, y.catchType ≠ 0 ∧ ∃ n2, (Cond.classLink own y.catchType n2).before args s = true ∧ va_Nc (exn kind) n2 s) ∧ K x.handlerPc
theorem goCat {T' : State} {own : String} {kind q : Nat} {K : Nat → Prop} {ce : Cell} {s₀ : State} (X : Stand p l e R s m args below meth c T' locs cells slots) (hown : s.vm.findClass own = some m.cls) (hcat : Cat p l e R s m args below meth c own pc kind K) (hcell : T'.heap[q]? = some ce) (hvm : ce.vm = .none) (hcl : s.vm.findClass (exn kind) = some ce.cls)
    (hcome : Steps p.tables e below s₀ ((T'.setTop (F0 m pc ls rest)).pushFrame (.throwing q))) : ∃ (hpc : Nat) (vm' : Vm), K hpc ∧ Stand p l e R s m args below meth c (T'.setVm vm') locs cells slots ∧ Steps p.tables e below s₀ ((T'.setVm vm').setTop (F0 m hpc ls [.ref q])) := by
  obtain ⟨pre, x, rest', nm, h1, h2, h3, h4, h5, h6, h7⟩ := hcat
  obtain ⟨c3, cT, hc3, hcT, hasg⟩ := Cond.castable_spec h5
  obtain rfl : c3 = ce.cls := Option.some.inj (hc3.symm.trans hcl)
  obtain ⟨hend, hk0⟩ := X.catches_of_link hown h3 h4 hcT hasg
  have hpl : e.platform.magicAccessors = ({} : Platform).magicAccessors := by rw [X.admits.platform]
  obtain ⟨vm', XV, st⟩ := X.thenCaughtThrough q (g := F0 m pc ls rest) rfl hcome hcell (by rw [hvm]; rfl) hk0 pre x rest' h1 (fun y hy => by
    obtain ⟨g1, n2, g2, a, b, g3, g4, g5⟩ := h6 y hy
    obtain rfl : a = ce.cls := Option.some.inj (g3.symm.trans hcl)
    obtain ⟨c', hc', hcl'⟩ := Cond.classLink_spec hown g2 e.platform hpl
    obtain rfl : b = c' := Option.some.inj (g4.symm.trans hc')
    exact Or.inr ⟨g1, b, hcl', g5⟩) h2 hend
  exact ⟨x.handlerPc, vm', h7, XV, st⟩
theorem x_callX {own C : String} {index n nL : Nat} {y : MethodName} {bytes : ByteArray} {maxL : Nat} {ret : Option FieldType} {ws : List Cond} {rm : Room} {Ts : List Cond} {rv : Int32 → Option Value} {out : Mr × (Nat × Int32)} {As : List Value} (S : CallFix p m c cc nL s args Ts own) (hA : ∀ q, s.heap.size ≤ q → A q) (hD : ∀ v : Mr, va_D A (ww ad cA L rs v)) (hS : va_S A s.heap H locs)
    (hM : CtX l y ws rm (.ref (ad k) :: As) D cA ad L rs u rv out) (cw : CallW R s args own C index y bytes maxL ret ws rm 1 6 n) (hp : PreV s H C (ad k) (va_Pc (.ref (ad k) :: As) (PrX D cA ad L rs u H.size)) As) (hn : As.length = n) (hsize : ls.size = nL) (hstack : st0 = As.reverse ++ .ref (ad k) :: rest) (hW : 2 * (F0 m pc ls st0).monitorRoom + (rest.map fun v => v.category).sum ≤ 8) (hdg : decode cc pc = .ok (.invokevirtual index, 3)) (hf : cells + 1 ≤ R.cells ∧ slots + 6 ≤ R.slots)
    (kret : out.2.1 = 0 → ∀ (H1 : Heap) (locs1 : List Loc), va_P D vwCl (ww ad cA L rs out.1) H1 → va_S A s.heap H1 locs1 → W p l e R s m args below meth c H1 locs1 (cells + 1) (slots + 6) Q (F0 m (pc + 3) ls ((rv out.2.2).toList ++ rest)))
    (kthr : out.2.1 ≠ 0 → Cat p l e R s m args below meth c own pc out.2.1 (fun hpc => ∀ (q : Nat) (H1 : Heap) (locs1 : List Loc), va_P D vwCl (ww ad cA L rs out.1) H1 → va_S A s.heap H1 locs1 → W p l e R s m args below meth c H1 locs1 (cells + 1) (slots + 6) Q (F0 m hpc ls [.ref q]))) : W p l e R s m args below meth c H locs cells slots Q (F0 m pc ls st0) := by
  obtain ⟨hx, hb, hml, ho, -⟩ := S
  intro T hT X
  subst hT
  obtain ⟨o, st₀, t, e1, e2, hq, hgo⟩ := callX X hx (hM T.heap.size) ho cw hp (g := F0 m pc ls st0) rfl hn (hsize.trans hml.symm) hstack hW (by rw [hb]; exact hdg) hf
  obtain ⟨w1, ⟨Lc, w2, w3⟩, w4, w5, w6⟩ := hq
  obtain ⟨g1, g2⟩ := hgo Lc 1 6 w1 w2
  have hS1 : va_S A s.heap t.heap (locs ++ Lc) := by
    refine ⟨Nat.le_trans hS.1 (by have := w5.1; rw [e1] at this; exact this), fun q h1 h2 => ?_, fun z hz => ?_⟩
    · rw [w5.2 q (by rw [e1]; exact Nat.lt_of_lt_of_le h1 hS.1) (fun h => h2 (x_aw hA hD hS q h)), e1]
      exact hS.2.1 q h1 h2
    · rcases List.mem_append.mp hz with h | h
      · exact hS.2.2 z h
      · exact x_aw hA hD hS _ (w3 z h)
  rcases w6 with ⟨h0, hr⟩ | ⟨h0, q, ce, hr, hce, hvm, hcl⟩
  · obtain ⟨T', X', hh, st⟩ := g1 _ hr
    obtain ⟨t2, a1, b1⟩ := kret h0 t.heap (locs ++ Lc) w4 hS1 T' hh X'
    exact ⟨t2, st.trans a1, b1⟩
  · obtain ⟨T', X', hh, st⟩ := g2 q hr
    have hcl2 : s.vm.findClass (exn out.2.1) = some ce.cls := by rw [e2.alike.findClass] at hcl; exact hcl
    obtain ⟨hpc, vm', hK, XV, st2⟩ := goCat (ls := ls) (rest := rest) (pc := pc) X' ho (kthr h0) (by rw [hh]; exact hce) hvm hcl2 st
    obtain ⟨t2, a1, b1⟩ := hK q t.heap (locs ++ Lc) w4 hS1 (T'.setVm vm') hh XV
    exact ⟨t2, st2.trans a1, b1⟩
theorem x_callXn {own C : String} {index n nL : Nat} {y : MethodName} {bytes : ByteArray} {maxL : Nat} {ret : Option FieldType} {ws : List Cond} {rm : Room} {Ts : List Cond} {rv : Int32 → Option Value} {out : Mr × (Nat × Int32)} {As : List Value} (S : CallFix p m c cc nL s args Ts own) (hA : ∀ q, s.heap.size ≤ q → A q) (hD : ∀ v : Mr, va_D A (ww ad cA L rs v)) (hS : va_S A s.heap H locs)
    (hM : CtXn l y ws rm (.ref (ad k) :: As) D cA ad L L' rs u rv out kc ks H.size) (cw : CallW R s args own C index y bytes maxL ret ws rm kc ks n) (hp : PreV s H C (ad k) (va_Pc (.ref (ad k) :: As) (PrNX D cA ad L rs u H.size)) As) (hn : As.length = n) (hsize : ls.size = nL) (hstack : st0 = As.reverse ++ .ref (ad k) :: rest) (hW : 2 * (F0 m pc ls st0).monitorRoom + (rest.map fun v => v.category).sum ≤ 8) (hdg : decode cc pc = .ok (.invokevirtual index, 3)) (hf : cells + kc ≤ R.cells ∧ slots + ks ≤ R.slots)
    (kret : out.2.1 = 0 → ∀ (H1 : Heap) (locs1 : List Loc), va_P D vwCl (ww ad cA L' rs out.1) H1 → (∀ v : Mr, va_D A (ww ad cA L' rs v)) → L'.Nodup → va_S A s.heap H1 locs1 → W p l e R s m args below meth c H1 locs1 (cells + kc) (slots + ks) Q (F0 m (pc + 3) ls ((rv out.2.2).toList ++ rest)))
    (kthr : out.2.1 ≠ 0 → Cat p l e R s m args below meth c own pc out.2.1 (fun hpc => ∀ (q : Nat) (H1 : Heap) (locs1 : List Loc), va_P D vwCl (ww ad cA L rs out.1) H1 → va_S A s.heap H1 locs1 → W p l e R s m args below meth c H1 locs1 (cells + kc) (slots + ks) Q (F0 m hpc ls [.ref q]))) : W p l e R s m args below meth c H locs cells slots Q (F0 m pc ls st0) := by
  obtain ⟨hx, hb, hml, ho, -⟩ := S
  intro T hT X
  subst hT
  obtain ⟨o, st₀, t, e1, e2, hq, hgo⟩ := callX X hx hM ho cw hp (g := F0 m pc ls st0) rfl hn (hsize.trans hml.symm) hstack hW (by rw [hb]; exact hdg) hf
  obtain ⟨w1, ⟨Lc, w2, w3⟩, w5, w6⟩ := hq
  obtain ⟨g1, g2⟩ := hgo Lc kc ks w1 w2
  have hS1 : va_S A s.heap t.heap (locs ++ Lc) := by
    refine ⟨Nat.le_trans hS.1 (by have := w5.1; rw [e1] at this; exact this), fun q h1 h2 => ?_, fun z hz => ?_⟩
    · rw [w5.2 q (by rw [e1]; exact Nat.lt_of_lt_of_le h1 hS.1) (fun h => h2 (x_aw hA hD hS q h)), e1]
      exact hS.2.1 q h1 h2
    · rcases List.mem_append.mp hz with h | h
      · exact hS.2.2 z h
      · exact x_aw hA hD hS _ (w3 z h)
  rcases w6 with ⟨h0, hr, w4, w7, w8⟩ | ⟨h0, w4, q, ce, hr, hce, hvm, hcl⟩
  · obtain ⟨T', X', hh, st⟩ := g1 _ hr
    obtain ⟨t2, a1, b1⟩ := kret h0 t.heap (locs ++ Lc) w4 (x_Dw hA hD hS w7) w8 hS1 T' hh X'
    exact ⟨t2, st.trans a1, b1⟩
  · obtain ⟨T', X', hh, st⟩ := g2 q hr
    have hcl2 : s.vm.findClass (exn out.2.1) = some ce.cls := by rw [e2.alike.findClass] at hcl; exact hcl
    obtain ⟨hpc, vm', hK, XV, st2⟩ := goCat (ls := ls) (rest := rest) (pc := pc) X' ho (kthr h0) (by rw [hh]; exact hce) hvm hcl2 st
    obtain ⟨t2, a1, b1⟩ := hK q t.heap (locs ++ Lc) w4 hS1 (T'.setVm vm') hh XV
    exact ⟨t2, st2.trans a1, b1⟩
end

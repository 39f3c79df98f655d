/-! The law's helpers: they call, catch, and answer which was thrown. -/
abbrev Ch (l : Launch) (s : State) (c : Code) (A : Nat → Prop) (hh : List (Nat × Nat × Nat × Nat)) : Prop := l.stackTraces = false ∧ c.exceptionTable.toList.map (fun x => (x.startPc, x.endPc, x.handlerPc, x.catchType)) = hh ∧ zL Bundle.tN "UNASSIGNED_STACK" Bundle.steD A s s.heap ∧ zL Bundle.tN "SUPPRESSED_SENTINEL" Bundle.listD A s s.heap ∧ Ny s ∧ Nq s
abbrev PrH (D : va_G) (cA : Nat → ClassId) (ad : Nat → Nat) (L : List Nat) (rs : va_W) (u : Mr) (sz : Nat) (U : State) : Prop := PrX D cA ad L rs u sz U ∧ Nq U
abbrev PrHn (D : va_G) (cA : Nat → ClassId) (ad : Nat → Nat) (L : List Nat) (rs : va_W) (u : Mr) (sz : Nat) (U : State) : Prop := PrNX D cA ad L rs u sz U ∧ Nq U
abbrev QIh (below : List Frame) (args : Array Value) (s : State) (D : va_G) (cA : Nat → ClassId) (ad : Nat → Nat) (L : List Nat) (rs : va_W) (A : Nat → Prop) (out : Mr × Int32) : State → Prop := MQ below (va_Qi (fun (r : Int32) (v : Mr) => r = out.2 ∧ v = out.1) (fun v t => va_P D vwCl (ww ad cA L rs v) t.heap) A) args s 1 6 A
def CtH (l : Launch) (y : MethodName) (ws : List Cond) (rm : Room) (as : List Value) (D : va_G) (cA : Nat → ClassId) (ad : Nat → Nat) (L : List Nat) (rs : va_W) (u : Mr) (out : Mr × Int32) : Prop :=
  ∀ sz : Nat, Met l y ws rm (va_Pc as (PrH D cA ad L rs u sz)) (va_Qi (fun (r : Int32) (v : Mr) => r = out.2 ∧ v = out.1) (fun v t => va_P D vwCl (ww ad cA L rs v) t.heap) (va_A (ww ad cA L rs u) sz)) 1 6 (va_A (ww ad cA L rs u) sz)
abbrev BhQ (D : va_G) (cA : Nat → ClassId) (ad : Nat → Nat) (L L' : List Nat) (rs : va_W) (A : Nat → Prop) (out : Mr × Int32) (v : Mr) (t : State) : Prop := (out.2 = 0 ∧ BnQ D cA ad L' rs A v t) ∨ (out.2 ≠ 0 ∧ va_P D vwCl (ww ad cA L rs v) t.heap)
abbrev QIhn (below : List Frame) (args : Array Value) (s : State) (D : va_G) (cA : Nat → ClassId) (ad : Nat → Nat) (L L' : List Nat) (rs : va_W) (A : Nat → Prop) (out : Mr × Int32) (kc ks : Nat) : State → Prop := MQ below (va_Qi (fun (r : Int32) (v : Mr) => r = out.2 ∧ v = out.1) (fun v t => BhQ D cA ad L L' rs A out v t) A) args s kc ks A
def CtHn (l : Launch) (y : MethodName) (ws : List Cond) (rm : Room) (as : List Value) (D : va_G) (cA : Nat → ClassId) (ad : Nat → Nat) (L L' : List Nat) (rs : va_W) (u : Mr) (out : Mr × Int32) (kc ks sz : Nat) : Prop :=
  Met l y ws rm (va_Pc as (PrHn D cA ad L rs u sz)) (va_Qi (fun (r : Int32) (v : Mr) => r = out.2 ∧ v = out.1) (fun v t => BhQ D cA ad L L' rs (va_A (ww ad cA L rs u) sz) out v t) (va_A (ww ad cA L rs u) sz)) kc ks (va_A (ww ad cA L rs u) sz)
section
variable {p : Program} {l : Launch} {e : Env} {R : Room} {s : State} {m : MethodId} {args : Array Value} {below : List Frame} {meth : Method} {c : Code} {H : Heap} {locs : List Loc} {cells slots pc : Nat} {Q Q' : State → Prop} {cc : ByteArray} {ls : Array Slot} {rest st0 : List Value} {D : va_G} {cA : Nat → ClassId} {ad : Nat → Nat} {L L' : List Nat} {rs : va_W} {u : Mr} {A : Nat → Prop} {k T kc ks : Nat}
theorem x_iretH {v : Int32} {out : Mr × Int32} (hx : p.tables.exec = Jvm.exec) (hb : c.code = cc) (hr : meth.sig.returnType = some .int) (hlocks : meth.locks = false) (h : some (u, v) = some out) (hP : va_P D vwCl (ww ad cA L rs u) H) (hS : va_S A s.heap H locs) (hc : cells ≤ 1) (hs : slots ≤ 6) (hdg : decode cc pc = .ok (.ireturn, 1)) : W p l e R s m args below meth c H locs cells slots (QIh below args s D cA ad L rs A out) (F0 m pc ls [.int v]) := by
  have e9 := Option.some.inj h
  exact W.widen hc hs (W.iret hx hb hr (fun t ht hW => ⟨⟨v, u, rfl, ⟨congrArg Prod.snd e9, congrArg Prod.fst e9⟩, x_hp hP ht⟩, hS.F ht⟩) hS.2.2 hdg hlocks)
theorem x_iretHr {v : Int32} {out : Mr × Int32} (hx : p.tables.exec = Jvm.exec) (hb : c.code = cc) (hr : meth.sig.returnType = some .int) (hlocks : meth.locks = false) (h : some (u, v) = some out) (hv : v = 0) (hP : va_P D vwCl (ww ad cA L' rs u) H) (hD : ∀ v : Mr, va_D A (ww ad cA L' rs v)) (hN : L'.Nodup) (hS : va_S A s.heap H locs) (hc : cells ≤ kc) (hs : slots ≤ ks) (hdg : decode cc pc = .ok (.ireturn, 1)) : W p l e R s m args below meth c H locs cells slots (QIhn below args s D cA ad L L' rs A out kc ks) (F0 m pc ls [.int v]) := by
  have e9 := Option.some.inj h
  exact W.widen hc hs (W.iret hx hb hr (fun t ht hW => ⟨⟨v, u, rfl, ⟨congrArg Prod.snd e9, congrArg Prod.fst e9⟩, Or.inl ⟨by rw [← e9]; exact hv, x_hp hP ht, hD, hN⟩⟩, hS.F ht⟩) hS.2.2 hdg hlocks)
theorem x_iretHt {v : Int32} {out : Mr × Int32} (hx : p.tables.exec = Jvm.exec) (hb : c.code = cc) (hr : meth.sig.returnType = some .int) (hlocks : meth.locks = false) (h : some (u, v) = some out) (hv : v ≠ 0) (hP : va_P D vwCl (ww ad cA L rs u) H) (hS : va_S A s.heap H locs) (hc : cells ≤ kc) (hs : slots ≤ ks) (hdg : decode cc pc = .ok (.ireturn, 1)) : W p l e R s m args below meth c H locs cells slots (QIhn below args s D cA ad L L' rs A out kc ks) (F0 m pc ls [.int v]) := by
  have e9 := Option.some.inj h
  exact W.widen hc hs (W.iret hx hb hr (fun t ht hW => ⟨⟨v, u, rfl, ⟨congrArg Prod.snd e9, congrArg Prod.fst e9⟩, Or.inr ⟨by rw [← e9]; exact hv, x_hp hP ht⟩⟩, hS.F ht⟩) hS.2.2 hdg hlocks)
theorem zL_to {C n d : String} {U : State} (hA : ∀ q, s.heap.size ≤ q → A q) (hD : ∀ v : Mr, va_D A (ww ad cA L rs v)) (hS : va_S A s.heap H locs) (hU : U.heap = H) (hW : s.WarmedH U.vm) (h : zL C n d A s s.heap) : zL C n d (va_A (ww ad cA L rs u) H.size) U U.heap := by
  rw [hU]
  exact zL.narrow (zL.moved hW.alike (h.kept hS.2.1)) (fun a _ q => x_aw hA hD hS a q)
theorem x_blX {as : List Value} {sz : Nat} : FrameBlind (va_Pc as (PrX D cA ad L rs u sz)) := fun a U g mk q => by
  obtain ⟨q0, ⟨q1, qP, qK, qD, qN⟩, z1, z2, qy⟩ := q
  exact ⟨q0, ⟨q1, qP, va_K.moved (u := U) (U := U.calling g mk a) (Vm.Alike.refl U.vm) qK, qD, Nx.same rfl qN⟩, zL.moved (u := U) (U := U.calling g mk a) (Vm.Alike.refl U.vm) z1, zL.moved (u := U) (U := U.calling g mk a) (Vm.Alike.refl U.vm) z2, Ny.same rfl qy⟩
theorem x_preVX {as : List Value} (hK : va_K D vwCl (tyl cA) s) (hD : ∀ v : Mr, va_D A (ww ad cA L rs v)) (hNx : Nx s) (hP : va_P D vwCl (ww ad cA L rs u) H) (hS : va_S A s.heap H locs) (hA : ∀ q, s.heap.size ≤ q → A q) (hz1 : zL Bundle.tN "UNASSIGNED_STACK" Bundle.steD A s s.heap) (hz2 : zL Bundle.tN "SUPPRESSED_SENTINEL" Bundle.listD A s s.heap) (hny : Ny s) (hk : k ∈ L) (hT : k / 64 = T) {ci : Nat} {fs : List Value} {r : vw_C} (hE : Eg ad cA T (u.1 k) (u.2.1 k) (u.2.2 k) = .inr (ci, fs)) (hc : vwCl[ci]? = some r) : PreV s H r.1 (ad k) (va_Pc (.ref (ad k) :: as) (PrX D cA ad L rs u H.size)) as := by
  obtain ⟨q0, hq⟩ := ww_in hk
  refine ⟨x_blX, va_recv (fs := fs) hK hP hc (q0 := q0) (by rw [ww_at hq, hT, hE]), fun U hU hW => ?_⟩
  exact ⟨rfl, (x_pre (as := []) hK hD hNx hP U hU hW).2, zL_to hA hD hS hU hW hz1, zL_to hA hD hS hU hW hz2, hny.warm hW⟩
theorem x_blNX {as : List Value} {sz : Nat} : FrameBlind (va_Pc as (PrNX D cA ad L rs u sz)) := fun a U g mk q => by
  obtain ⟨q0, q1, z1, z2⟩ := q
  exact ⟨q0, (x_blN (as := as) a U g mk ⟨q0, q1⟩).2, zL.moved (u := U) (U := U.calling g mk a) (Vm.Alike.refl U.vm) z1, zL.moved (u := U) (U := U.calling g mk a) (Vm.Alike.refl U.vm) z2⟩
theorem x_preVNX {as : List Value} (hK : va_K D vwCl (tyl cA) s) (hD : ∀ v : Mr, va_D A (ww ad cA L rs v)) (hNx : Nx s) (hP : va_P D vwCl (ww ad cA L rs u) H) (hS : va_S A s.heap H locs) (hA : ∀ q, s.heap.size ≤ q → A q) (hdZ : dZ ad A s s.heap) (hdT : dT ad A s s.heap) (hno : No s) (hny : Ny s) (hz1 : zL Bundle.tN "UNASSIGNED_STACK" Bundle.steD A s s.heap) (hz2 : zL Bundle.tN "SUPPRESSED_SENTINEL" Bundle.listD A s s.heap) (hk : k ∈ L) (hT : k / 64 = T) {ci : Nat} {fs : List Value} {r : vw_C} (hE : Eg ad cA T (u.1 k) (u.2.1 k) (u.2.2 k) = .inr (ci, fs)) (hc : vwCl[ci]? = some r) : PreV s H r.1 (ad k) (va_Pc (.ref (ad k) :: as) (PrNX D cA ad L rs u H.size)) as := by
  obtain ⟨q0, hq⟩ := ww_in hk
  refine ⟨x_blNX, va_recv (fs := fs) hK hP hc (q0 := q0) (by rw [ww_at hq, hT, hE]), fun U hU hW => ?_⟩
  exact ⟨rfl, (x_preN (as := []) hK hD hNx hP hS hA hdZ hdT hno hny U hU hW).2, zL_to hA hD hS hU hW hz1, zL_to hA hD hS hU hW hz2⟩
theorem x_preSH {as : List Value} (hK : va_K D vwCl (tyl cA) s) (hD : ∀ v : Mr, va_D A (ww ad cA L rs v)) (hNx : Nx s) (hP : va_P D vwCl (ww ad cA L rs u) H) (hS : va_S A s.heap H locs) (hA : ∀ q, s.heap.size ≤ q → A q) (hz1 : zL Bundle.tN "UNASSIGNED_STACK" Bundle.steD A s s.heap) (hz2 : zL Bundle.tN "SUPPRESSED_SENTINEL" Bundle.listD A s s.heap) (hny : Ny s) (hnq : Nq s) : PreS s H (va_Pc as (PrH D cA ad L rs u H.size)) as := by
  refine ⟨fun a U g mk q => ?_, fun U hU hW => ?_⟩
  · obtain ⟨q0, q1, q2⟩ := q
    exact ⟨q0, (x_blX (as := as) a U g mk ⟨q0, q1⟩).2, Nq.moved (u := U) (U := U.calling g mk a) (Vm.Alike.refl U.vm) q2⟩
  · exact ⟨rfl, ⟨(x_pre (as := []) hK hD hNx hP U hU hW).2, zL_to hA hD hS hU hW hz1, zL_to hA hD hS hU hW hz2, hny.warm hW⟩, hnq.moved hW.alike⟩
theorem x_preSHn {as : List Value} (hK : va_K D vwCl (tyl cA) s) (hD : ∀ v : Mr, va_D A (ww ad cA L rs v)) (hNx : Nx s) (hP : va_P D vwCl (ww ad cA L rs u) H) (hS : va_S A s.heap H locs) (hA : ∀ q, s.heap.size ≤ q → A q) (hdZ : dZ ad A s s.heap) (hdT : dT ad A s s.heap) (hno : No s) (hny : Ny s) (hz1 : zL Bundle.tN "UNASSIGNED_STACK" Bundle.steD A s s.heap) (hz2 : zL Bundle.tN "SUPPRESSED_SENTINEL" Bundle.listD A s s.heap) (hnq : Nq s) : PreS s H (va_Pc as (PrHn D cA ad L rs u H.size)) as := by
  refine ⟨fun a U g mk q => ?_, fun U hU hW => ?_⟩
  · obtain ⟨q0, q1, q2⟩ := q
    exact ⟨q0, (x_blNX (as := as) a U g mk ⟨q0, q1⟩).2, Nq.moved (u := U) (U := U.calling g mk a) (Vm.Alike.refl U.vm) q2⟩
  · exact ⟨rfl, ⟨(x_preN (as := []) hK hD hNx hP hS hA hdZ hdT hno hny U hU hW).2, zL_to hA hD hS hU hW hz1, zL_to hA hD hS hU hW hz2⟩, hnq.moved hW.alike⟩
/-- a call of a static method with an exception table -/
theorem x_runSW {own : String} {index n nL mc ms : Nat} {y : MethodName} {bytes : ByteArray} {maxL : Nat} {ret : Option FieldType} {hh : List (Nat × Nat × Nat × Nat)} {ws ws' : List Cond} {rm : Room} {Ts : List Cond} {Pc : Array Value → State → Prop} {Qc : Array Value → State → Outcome → State → Prop} {free : Addr → Prop} {As : List Value} {g : JFrame} (S : CallFix p m c cc nL s args Ts own) (hM : Met l y ws rm Pc Qc mc ms free) (hG : GoodIn Ts ws) (hw : ws = Cond.codeWith y bytes maxL ret hh :: ws') (hrc : rm.cells = mc) (hrs : rm.slots = ms) (hini : (Cond.initialized y.cls).before args s = true) (hl : (Cond.methodLink own index y).before args s = true)
    (hd : y.cls ≠ "java/lang/invoke/MethodHandle" ∧ y.cls ≠ "java/lang/invoke/VarHandle" ∧ (parseMethodDescriptor y.desc).map (fun d => d.parameters.length) = some n) (hR : rm.frames + 1 ≤ R.frames ∧ 8 + (maxL + 11) + rm.locals ≤ R.locals) (hstat : (Cond.static y).before args s = true) (hp : PreS s H Pc As) (hg : g.method = m) (hn : As.length = n) (hsize : g.locals.size = nL) (hstack : g.stack = As.reverse ++ rest) (hW : 2 * g.monitorRoom + (rest.map fun v => v.category).sum ≤ 8) (hdg : decode cc g.pc = .ok (.invokestatic index, 3)) (hf : cells + mc ≤ R.cells ∧ slots + ms ≤ R.slots) :
    va_Run p l e R s m args below meth c H locs cells slots mc ms g rest (Qc As.toArray) free := by
  obtain ⟨hx, hb, hml, ho, hts⟩ := S
  have hc : Cond.codeWith y bytes maxL ret hh ∈ ws := by rw [hw]; exact List.mem_cons_self
  have hcode : (Cond.codeWith y bytes maxL ret hh).before args s = true := hts _ (hG _ hc).1
  have hK : Back l R p e below s args y 3 8 (PreOf R mc ms Pc) (PostOf Qc mc ms free) := va_backW hM hp.1 hrc hrs hR.1 hR.2 (pay_in hts hG) hc (fun a' U hW => word_at hW (Or.inl (by first | rfl | simp [Cond.onTables, Cond.keeps, Cond.steady])) hini)
  obtain ⟨m9, methM, cM, hnamed, hmethM, -, -, -, -, -, -, hsigM⟩ := Cond.codeWith_spec hcode
  have hstatic : methM.isStatic = true := Cond.static_spec hnamed hmethM hstat
  obtain ⟨kP, hkP, -⟩ := className_of_methodNamed hnamed
  have hinitP : kP.init = .initialized := Cond.initialized_spec (findClass_of_methodNamed hnamed) hkP hini
  have hlen : As.length = methM.sig.parameters.length := by
    have h1 := hd.2.2
    rw [hsigM] at h1
    rw [hn]
    exact (Option.some.inj h1).symm
  intro T hT X
  obtain ⟨vm₁, X₁, hstep₁⟩ := X.invokestatic hx ho hl hnamed hmethM hstatic hkP hinitP ⟨hd.1, hd.2.1⟩ (g := g) hg (argsL := As) (rest := rest) hlen hstack (by rw [hb]; exact hdg)
  obtain ⟨v, ⟨U', l2, c2, s2⟩, X', ⟨g', mk, t, L, e1, e2, hq, h1, hL, h2, h3⟩, hsteps⟩ := hK m meth c ⟨T.setVm vm₁, locs, cells, slots⟩ { g with stack := rest } (.invokestatic index) m9 As.toArray X₁ hg (hsize.trans hml.symm) (by rw [hb]; exact hdg) hW (X₁.named hnamed) ⟨hf.1, hf.2, hp.2 (T.setVm vm₁) hT X₁.warmed⟩
  dsimp only [Pt.U, Pt.locs, Pt.cells, Pt.slots] at X' e1 e2 h1 h2 h3 hsteps
  subst h1; subst h2; subst h3
  exact ⟨v, (T.setVm vm₁).calling g' mk As.toArray, t, U', L, hT, X', hL, e1, e2, hq, fun target h => hstep₁ _ fun acts => by rw [doInvoke_state]; exact hsteps.trans h⟩
end
theorem x_hsl0 {sl : Nat → Option Nat} {ad : Nat → Nat} {s : State} {H : Heap} (hsl : ∀ i k, sl i = some k → ad k + 0 = s.heap.size + i) (hz : H.size = s.heap.size + 0) : ∀ i k, sl i = some k → ad k + 0 = H.size + i := fun i k h => by
  have h2 := hsl i k h
  omega
theorem tab_of {p : Program} {l : Launch} {y : MethodName} {S : Spec} {cc : ByteArray} {maxL : Nat} {ret : Option FieldType} {hh : List (Nat × Nat × Nat × Nat)} {e : Env} {s : State} {m : MethodId} {args : Array Value} {below : List Frame} {meth : Method} {c : Code} {s₁ : State} (B : BodyLoose p l y S cc maxL ret e s m args below meth c s₁) (h : (Cond.codeWith y cc maxL ret hh).before args s = true) : c.exceptionTable.toList.map (fun x => (x.startPc, x.endPc, x.handlerPc, x.catchType)) = hh := by
  obtain ⟨m9, meth9, c9, h1, h2, h3, -, -, h4, -⟩ := Cond.codeWith_spec h
  obtain rfl : m9 = m := Option.some.inj (h1.symm.trans B.named)
  obtain rfl : meth9 = meth := Option.some.inj (h2.symm.trans B.method)
  have X := Stand.of_body B
  obtain rfl : c9 = c := Option.some.inj (h3.symm.trans X.code)
  exact h4
theorem stL_row {u : Mr} {k n : Nat} {i : Int32} {x : Int64} (hin : vp_in i n) (hn : n < 2 ^ 31) (j : Nat) (hj : j < n) : vp_updL (fun j => u.2.2 k (nI j)) i.toNatClampNeg x j = (stL u k i x).2.2 k (nI j) := by
  have hlt : i.toNatClampNeg < n := Nat.not_le.mp fun q => hin (Or.inr q)
  have e1 := in_nI hin
  unfold vp_updL stL
  by_cases h : j = i.toNatClampNeg
  · subst h
    simp [e1]
  · have h2 : ¬ nI j = i := fun q => h (nI_inj (by omega) (by omega) (q.trans e1.symm))
    simp [h, h2]
section
variable {p : Program} {l : Launch} {e : Env} {R : Room} {s : State} {m : MethodId} {args : Array Value} {below : List Frame} {meth : Method} {c : Code} {H : Heap} {locs : List Loc} {cells slots pc : Nat} {Q : State → Prop} {cc : ByteArray} {ls : Array Slot} {rest : List Value} {D : va_G} {cA : Nat → ClassId} {ad : Nat → Nat} {L : List Nat} {rs : va_W} {u : Mr} {A : Nat → Prop} {k T : Nat}
theorem x_lald (hx : p.tables.exec = Jvm.exec) (hb : c.code = cc) (hK : va_K D vwCl (tyl cA) s) (hP : va_P D vwCl (ww ad cA L rs u) H) (hk : k ∈ L) (hT : k / 64 = T) (t : Nat) {n : Nat} (hE : ∀ row rr lr, Eg ad cA T row rr lr = .inl (cA t, n, .inr (.inl (fun j => lr (nI j))))) (ht : (tyl cA)[t]? = some (cA t, .long)) {i : Int32} (hin : vp_in i n) (hdg : decode cc pc = .ok (.laload, 1))
    (kk : W p l e R s m args below meth c H locs cells slots Q (F0 m (pc + 1) ls (.long (u.2.2 k i) :: rest))) : W p l e R s m args below meth c H locs cells slots Q (F0 m pc ls (.int i :: .ref (ad k) :: rest)) := by
  obtain ⟨q0, hq⟩ := ww_in hk
  refine va_lald (f := fun j => u.2.2 k (nI j)) (n := n) hx hb hK hP q0 t (by rw [ww_at hq, hT, hE]) ht hin hdg ?_
  show W p l e R s m args below meth c H locs cells slots Q (F0 m (pc + 1) ls (.long (u.2.2 k (nI i.toNatClampNeg)) :: rest))
  rw [in_nI hin]
  exact kk
theorem x_last (hx : p.tables.exec = Jvm.exec) (hb : c.code = cc) (hK : va_K D vwCl (tyl cA) s) (hD : ∀ v : Mr, va_D A (ww ad cA L rs v)) (hN : L.Nodup) (hP : va_P D vwCl (ww ad cA L rs u) H) (hS : va_S A s.heap H locs) (hk : k ∈ L) (hT : k / 64 = T) (t : Nat) {n : Nat} (hE : ∀ row rr lr, Eg ad cA T row rr lr = .inl (cA t, n, .inr (.inl (fun j => lr (nI j))))) (ht : (tyl cA)[t]? = some (cA t, .long)) (hn : n < 2 ^ 31) {i : Int32} {x : Int64} (hin : vp_in i n) (hdg : decode cc pc = .ok (.lastore, 1))
    (kk : ∀ (H1 : Heap) (locs1 : List Loc), va_P D vwCl (ww ad cA L rs (stL u k i x)) H1 → va_S A s.heap H1 locs1 → W p l e R s m args below meth c H1 locs1 cells slots Q (F0 m (pc + 1) ls rest)) : W p l e R s m args below meth c H locs cells slots Q (F0 m pc ls (.long x :: .int i :: .ref (ad k) :: rest)) := by
  obtain ⟨q0, hq⟩ := ww_in hk
  refine va_last (f := fun j => u.2.2 k (nI j)) (n := n) hx hb hK hP (hD u) hS q0 t (by rw [ww_at hq, hT, hE]) ht hin hdg (fun H1 locs1 hP1 _ hS1 => ?_)
  refine kk H1 locs1 (ww_P hN hq hP1 (fun h => ?_) stL_o) hS1
  rw [hT, hE]
  have h2 : H1[ad k]? = some (arrV (cA t) n (fun j => .long (vp_updL (fun j => u.2.2 k (nI j)) i.toNatClampNeg x j))) := h
  show H1[ad k]? = some (arrV (cA t) n (fun j => .long ((stL u k i x).2.2 k (nI j))))
  rw [h2, arrV_cg (fun j hj => by rw [stL_row hin hn j hj])]
end
theorem tw_244 : (Jvm.Cond.codeWith ({ cls := "ImageForgeLaw", name := "put", desc := "(LImageForge;IIJI[J)I" } : Jvm.MethodName) method_3_code (8 : Nat) (Option.some Jvm.ClassFile.FieldType.int) [((0 : Nat), (14 : Nat), (17 : Nat), (13 : Nat)), ((0 : Nat), (14 : Nat), (21 : Nat), (15 : Nat))]) ∈ bw := bw_t (List.mem_of_getElem? (i := 244) (by decide +kernel)) (by decide +kernel)
theorem tw_245 : (Jvm.Cond.classLink "ImageForgeLaw" (13 : Nat) "java/lang/IllegalArgumentException") ∈ bw := bw_t (List.mem_of_getElem? (i := 245) (by decide +kernel)) (by decide +kernel)
theorem tw_246 : (Jvm.Cond.classLink "ImageForgeLaw" (15 : Nat) "java/lang/IllegalStateException") ∈ bw := bw_t (List.mem_of_getElem? (i := 246) (by decide +kernel)) (by decide +kernel)
theorem tw_247 : (Jvm.Cond.methodLink "ImageForgeLaw" (7 : Nat) ({ cls := "ImageForge", name := "put", desc := "(IIJI)I" } : Jvm.MethodName)) ∈ bw := bw_t (List.mem_of_getElem? (i := 247) (by decide +kernel)) (by decide +kernel)
theorem tw_248 : (Jvm.Cond.instanceMethod ({ cls := "ImageForge", name := "put", desc := "(IIJI)I" } : Jvm.MethodName)) ∈ bw := bw_t (List.mem_of_getElem? (i := 248) (by decide +kernel)) (by decide +kernel)
theorem tw_249 : (Jvm.Cond.selects "ImageForge" ({ cls := "ImageForge", name := "put", desc := "(IIJI)I" } : Jvm.MethodName) ({ cls := "ImageForge", name := "put", desc := "(IIJI)I" } : Jvm.MethodName)) ∈ bw := bw_t (List.mem_of_getElem? (i := 249) (by decide +kernel)) (by decide +kernel)
theorem tw_343 : (Jvm.Cond.codeWith ({ cls := "ImageForgeLaw", name := "define", desc := "(LImageForge;IIII)I" } : Jvm.MethodName) method_4_code (6 : Nat) (Option.some Jvm.ClassFile.FieldType.int) [((0 : Nat), (9 : Nat), (12 : Nat), (13 : Nat)), ((0 : Nat), (9 : Nat), (16 : Nat), (15 : Nat))]) ∈ bw := bw_t (List.mem_of_getElem? (i := 343) (by decide +kernel)) (by decide +kernel)
theorem tw_344 : (Jvm.Cond.methodLink "ImageForgeLaw" (17 : Nat) ({ cls := "ImageForge", name := "define", desc := "(IIII)V" } : Jvm.MethodName)) ∈ bw := bw_t (List.mem_of_getElem? (i := 344) (by decide +kernel)) (by decide +kernel)
theorem tw_345 : (Jvm.Cond.instanceMethod ({ cls := "ImageForge", name := "define", desc := "(IIII)V" } : Jvm.MethodName)) ∈ bw := bw_t (List.mem_of_getElem? (i := 345) (by decide +kernel)) (by decide +kernel)
theorem tw_346 : (Jvm.Cond.selects "ImageForge" ({ cls := "ImageForge", name := "define", desc := "(IIII)V" } : Jvm.MethodName) ({ cls := "ImageForge", name := "define", desc := "(IIII)V" } : Jvm.MethodName)) ∈ bw := bw_t (List.mem_of_getElem? (i := 346) (by decide +kernel)) (by decide +kernel)
theorem tw_357 : (Jvm.Cond.codeWith ({ cls := "ImageForgeLaw", name := "refer", desc := "(LImageForge;IIIII)I" } : Jvm.MethodName) method_5_code (7 : Nat) (Option.some Jvm.ClassFile.FieldType.int) [((0 : Nat), (11 : Nat), (14 : Nat), (13 : Nat)), ((0 : Nat), (11 : Nat), (18 : Nat), (15 : Nat))]) ∈ bw := bw_t (List.mem_of_getElem? (i := 357) (by decide +kernel)) (by decide +kernel)
theorem tw_358 : (Jvm.Cond.methodLink "ImageForgeLaw" (21 : Nat) ({ cls := "ImageForge", name := "refer", desc := "(IIIII)V" } : Jvm.MethodName)) ∈ bw := bw_t (List.mem_of_getElem? (i := 358) (by decide +kernel)) (by decide +kernel)
theorem tw_359 : (Jvm.Cond.instanceMethod ({ cls := "ImageForge", name := "refer", desc := "(IIIII)V" } : Jvm.MethodName)) ∈ bw := bw_t (List.mem_of_getElem? (i := 359) (by decide +kernel)) (by decide +kernel)
theorem tw_360 : (Jvm.Cond.selects "ImageForge" ({ cls := "ImageForge", name := "refer", desc := "(IIIII)V" } : Jvm.MethodName) ({ cls := "ImageForge", name := "refer", desc := "(IIIII)V" } : Jvm.MethodName)) ∈ bw := bw_t (List.mem_of_getElem? (i := 360) (by decide +kernel)) (by decide +kernel)
theorem tw_488 : (Jvm.Cond.codeWith ({ cls := "ImageForgeLaw", name := "imported", desc := "(LImageForge;III)I" } : Jvm.MethodName) method_6_code (5 : Nat) (Option.some Jvm.ClassFile.FieldType.int) [((0 : Nat), (7 : Nat), (10 : Nat), (13 : Nat))]) ∈ bw := bw_t (List.mem_of_getElem? (i := 488) (by decide +kernel)) (by decide +kernel)
theorem tw_489 : (Jvm.Cond.methodLink "ImageForgeLaw" (25 : Nat) ({ cls := "ImageForge", name := "imported", desc := "(III)V" } : Jvm.MethodName)) ∈ bw := bw_t (List.mem_of_getElem? (i := 489) (by decide +kernel)) (by decide +kernel)
theorem tw_490 : (Jvm.Cond.instanceMethod ({ cls := "ImageForge", name := "imported", desc := "(III)V" } : Jvm.MethodName)) ∈ bw := bw_t (List.mem_of_getElem? (i := 490) (by decide +kernel)) (by decide +kernel)
theorem tw_491 : (Jvm.Cond.selects "ImageForge" ({ cls := "ImageForge", name := "imported", desc := "(III)V" } : Jvm.MethodName) ({ cls := "ImageForge", name := "imported", desc := "(III)V" } : Jvm.MethodName)) ∈ bw := bw_t (List.mem_of_getElem? (i := 491) (by decide +kernel)) (by decide +kernel)
theorem tw_499 : (Jvm.Cond.codeWith ({ cls := "ImageForgeLaw", name := "exported", desc := "(LImageForge;IZ)I" } : Jvm.MethodName) method_7_code (4 : Nat) (Option.some Jvm.ClassFile.FieldType.int) [((0 : Nat), (6 : Nat), (9 : Nat), (13 : Nat))]) ∈ bw := bw_t (List.mem_of_getElem? (i := 499) (by decide +kernel)) (by decide +kernel)
theorem tw_500 : (Jvm.Cond.methodLink "ImageForgeLaw" (29 : Nat) ({ cls := "ImageForge", name := "exported", desc := "(IZ)V" } : Jvm.MethodName)) ∈ bw := bw_t (List.mem_of_getElem? (i := 500) (by decide +kernel)) (by decide +kernel)
theorem tw_501 : (Jvm.Cond.instanceMethod ({ cls := "ImageForge", name := "exported", desc := "(IZ)V" } : Jvm.MethodName)) ∈ bw := bw_t (List.mem_of_getElem? (i := 501) (by decide +kernel)) (by decide +kernel)
theorem tw_502 : (Jvm.Cond.selects "ImageForge" ({ cls := "ImageForge", name := "exported", desc := "(IZ)V" } : Jvm.MethodName) ({ cls := "ImageForge", name := "exported", desc := "(IZ)V" } : Jvm.MethodName)) ∈ bw := bw_t (List.mem_of_getElem? (i := 502) (by decide +kernel)) (by decide +kernel)
theorem tw_507 : (Jvm.Cond.codeWith ({ cls := "ImageForgeLaw", name := "link", desc := "(LImageForge;[J)I" } : Jvm.MethodName) method_8_code (3 : Nat) (Option.some Jvm.ClassFile.FieldType.int) [((0 : Nat), (8 : Nat), (11 : Nat), (15 : Nat)), ((0 : Nat), (8 : Nat), (14 : Nat), (37 : Nat))]) ∈ bw := bw_t (List.mem_of_getElem? (i := 507) (by decide +kernel)) (by decide +kernel)
theorem tw_508 : (Jvm.Cond.classLink "ImageForgeLaw" (37 : Nat) "java/util/NoSuchElementException") ∈ bw := bw_t (List.mem_of_getElem? (i := 508) (by decide +kernel)) (by decide +kernel)
theorem tw_509 : (Jvm.Cond.methodLink "ImageForgeLaw" (33 : Nat) ({ cls := "ImageForge", name := "link", desc := "()I" } : Jvm.MethodName)) ∈ bw := bw_t (List.mem_of_getElem? (i := 509) (by decide +kernel)) (by decide +kernel)
theorem tw_510 : (Jvm.Cond.instanceMethod ({ cls := "ImageForge", name := "link", desc := "()I" } : Jvm.MethodName)) ∈ bw := bw_t (List.mem_of_getElem? (i := 510) (by decide +kernel)) (by decide +kernel)
theorem tw_511 : (Jvm.Cond.selects "ImageForge" ({ cls := "ImageForge", name := "link", desc := "()I" } : Jvm.MethodName) ({ cls := "ImageForge", name := "link", desc := "()I" } : Jvm.MethodName)) ∈ bw := bw_t (List.mem_of_getElem? (i := 511) (by decide +kernel)) (by decide +kernel)
theorem tw_666 : (Jvm.Cond.codeWith ({ cls := "ImageForgeLaw", name := "image", desc := "(LImageForge;I[J)I" } : Jvm.MethodName) method_9_code (4 : Nat) (Option.some Jvm.ClassFile.FieldType.int) [((0 : Nat), (9 : Nat), (12 : Nat), (37 : Nat))]) ∈ bw := bw_t (List.mem_of_getElem? (i := 666) (by decide +kernel)) (by decide +kernel)
theorem tw_667 : (Jvm.Cond.methodLink "ImageForgeLaw" (39 : Nat) ({ cls := "ImageForge", name := "image", desc := "(I)I" } : Jvm.MethodName)) ∈ bw := bw_t (List.mem_of_getElem? (i := 667) (by decide +kernel)) (by decide +kernel)
theorem tw_668 : (Jvm.Cond.instanceMethod ({ cls := "ImageForge", name := "image", desc := "(I)I" } : Jvm.MethodName)) ∈ bw := bw_t (List.mem_of_getElem? (i := 668) (by decide +kernel)) (by decide +kernel)
theorem tw_669 : (Jvm.Cond.selects "ImageForge" ({ cls := "ImageForge", name := "image", desc := "(I)I" } : Jvm.MethodName) ({ cls := "ImageForge", name := "image", desc := "(I)I" } : Jvm.MethodName)) ∈ bw := bw_t (List.mem_of_getElem? (i := 669) (by decide +kernel)) (by decide +kernel)
theorem tw_675 : (Jvm.Cond.codeWith ({ cls := "ImageForgeLaw", name := "spoil", desc := "(LImageForge;II)I" } : Jvm.MethodName) method_10_code (4 : Nat) (Option.some Jvm.ClassFile.FieldType.int) [((0 : Nat), (6 : Nat), (9 : Nat), (37 : Nat))]) ∈ bw := bw_t (List.mem_of_getElem? (i := 675) (by decide +kernel)) (by decide +kernel)
theorem tw_676 : (Jvm.Cond.methodLink "ImageForgeLaw" (43 : Nat) ({ cls := "ImageForge", name := "spoil", desc := "(II)V" } : Jvm.MethodName)) ∈ bw := bw_t (List.mem_of_getElem? (i := 676) (by decide +kernel)) (by decide +kernel)
theorem tw_677 : (Jvm.Cond.instanceMethod ({ cls := "ImageForge", name := "spoil", desc := "(II)V" } : Jvm.MethodName)) ∈ bw := bw_t (List.mem_of_getElem? (i := 677) (by decide +kernel)) (by decide +kernel)
theorem tw_678 : (Jvm.Cond.selects "ImageForge" ({ cls := "ImageForge", name := "spoil", desc := "(II)V" } : Jvm.MethodName) ({ cls := "ImageForge", name := "spoil", desc := "(II)V" } : Jvm.MethodName)) ∈ bw := bw_t (List.mem_of_getElem? (i := 678) (by decide +kernel)) (by decide +kernel)
theorem tw_686 : (Jvm.Cond.codeWith ({ cls := "ImageForgeLaw", name := "seal", desc := "(LImageForge;[J)I" } : Jvm.MethodName) method_11_code (3 : Nat) (Option.some Jvm.ClassFile.FieldType.int) [((0 : Nat), (8 : Nat), (11 : Nat), (15 : Nat))]) ∈ bw := bw_t (List.mem_of_getElem? (i := 686) (by decide +kernel)) (by decide +kernel)
theorem tw_687 : (Jvm.Cond.methodLink "ImageForgeLaw" (47 : Nat) ({ cls := "ImageForge", name := "seal", desc := "()I" } : Jvm.MethodName)) ∈ bw := bw_t (List.mem_of_getElem? (i := 687) (by decide +kernel)) (by decide +kernel)
theorem tw_688 : (Jvm.Cond.instanceMethod ({ cls := "ImageForge", name := "seal", desc := "()I" } : Jvm.MethodName)) ∈ bw := bw_t (List.mem_of_getElem? (i := 688) (by decide +kernel)) (by decide +kernel)
theorem tw_689 : (Jvm.Cond.selects "ImageForge" ({ cls := "ImageForge", name := "seal", desc := "()I" } : Jvm.MethodName) ({ cls := "ImageForge", name := "seal", desc := "()I" } : Jvm.MethodName)) ∈ bw := bw_t (List.mem_of_getElem? (i := 689) (by decide +kernel)) (by decide +kernel)
theorem tw_700 : (Jvm.Cond.codeWith ({ cls := "ImageForgeLaw", name := "offer", desc := "(LImageForge;III)I" } : Jvm.MethodName) method_12_code (5 : Nat) (Option.some Jvm.ClassFile.FieldType.int) [((0 : Nat), (7 : Nat), (10 : Nat), (13 : Nat))]) ∈ bw := bw_t (List.mem_of_getElem? (i := 700) (by decide +kernel)) (by decide +kernel)
theorem tw_701 : (Jvm.Cond.methodLink "ImageForgeLaw" (50 : Nat) ({ cls := "ImageForge", name := "offer", desc := "(III)V" } : Jvm.MethodName)) ∈ bw := bw_t (List.mem_of_getElem? (i := 701) (by decide +kernel)) (by decide +kernel)
theorem tw_702 : (Jvm.Cond.instanceMethod ({ cls := "ImageForge", name := "offer", desc := "(III)V" } : Jvm.MethodName)) ∈ bw := bw_t (List.mem_of_getElem? (i := 702) (by decide +kernel)) (by decide +kernel)
theorem tw_703 : (Jvm.Cond.selects "ImageForge" ({ cls := "ImageForge", name := "offer", desc := "(III)V" } : Jvm.MethodName) ({ cls := "ImageForge", name := "offer", desc := "(III)V" } : Jvm.MethodName)) ∈ bw := bw_t (List.mem_of_getElem? (i := 703) (by decide +kernel)) (by decide +kernel)
theorem tw_708 : (Jvm.Cond.codeWith ({ cls := "ImageForgeLaw", name := "load", desc := "(LImageForge;I[J)I" } : Jvm.MethodName) method_13_code (4 : Nat) (Option.some Jvm.ClassFile.FieldType.int) [((0 : Nat), (9 : Nat), (12 : Nat), (13 : Nat)), ((0 : Nat), (9 : Nat), (15 : Nat), (15 : Nat))]) ∈ bw := bw_t (List.mem_of_getElem? (i := 708) (by decide +kernel)) (by decide +kernel)
theorem tw_709 : (Jvm.Cond.methodLink "ImageForgeLaw" (53 : Nat) ({ cls := "ImageForge", name := "load", desc := "(I)I" } : Jvm.MethodName)) ∈ bw := bw_t (List.mem_of_getElem? (i := 709) (by decide +kernel)) (by decide +kernel)
theorem tw_710 : (Jvm.Cond.instanceMethod ({ cls := "ImageForge", name := "load", desc := "(I)I" } : Jvm.MethodName)) ∈ bw := bw_t (List.mem_of_getElem? (i := 710) (by decide +kernel)) (by decide +kernel)
theorem tw_711 : (Jvm.Cond.selects "ImageForge" ({ cls := "ImageForge", name := "load", desc := "(I)I" } : Jvm.MethodName) ({ cls := "ImageForge", name := "load", desc := "(I)I" } : Jvm.MethodName)) ∈ bw := bw_t (List.mem_of_getElem? (i := 711) (by decide +kernel)) (by decide +kernel)

/-! The law's helpers: they call, catch, and answer which was thrown. -/
abbrev Ch (l : Launch) (s : State) (c : Code) (A : Nat → Prop) (hh : List (Nat × Nat × Nat × Nat)) : Prop := l.stackTraces = false ∧ c.exceptionTable.toList.map (fun x => (x.startPc, x.endPc, x.handlerPc, x.catchType)) = hh ∧ zL Bundle.tN "UNASSIGNED_STACK" Bundle.steD A s s.heap ∧ zL Bundle.tN "SUPPRESSED_SENTINEL" Bundle.listD A s s.heap ∧ Ny s ∧ Nq s
abbrev PrH (D : va_G) (cA : Nat → ClassId) (ad : Nat → Nat) (L : List Nat) (rs : va_W) (u : Mr) (sz : Nat) (U : State) : Prop := PrX D cA ad L rs u sz U ∧ Nq U
abbrev PrHn (D : va_G) (cA : Nat → ClassId) (ad : Nat → Nat) (L : List Nat) (rs : va_W) (u : Mr) (sz : Nat) (U : State) : Prop := PrNX D cA ad L rs u sz U ∧ Nq U
abbrev QIh (below : List Frame) (args : Array Value) (s : State) (D : va_G) (cA : Nat → ClassId) (ad : Nat → Nat) (L : List Nat) (rs : va_W) (A : Nat → Prop) (out : Mr × Int32) : State → Prop := MQ below (va_Qi (fun (r : Int32) (v : Mr) => r = out.2 ∧ v = out.1) (fun v t => va_P D vwCl (ww ad cA L rs v) t.heap) A) args s 1 6 A
def CtH (l : Launch) (y : MethodName) (ws : List Cond) (rm : Room) (as : List Value) (D : va_G) (cA : Nat → ClassId) (ad : Nat → Nat) (L : List Nat) (rs : va_W) (u : Mr) (out : Mr × Int32) : Prop :=
  ∀ sz : Nat, Met l y ws rm (va_Pc as (PrH D cA ad L rs u sz)) (va_Qi (fun (r : Int32) (v : Mr) => r = out.2 ∧ v = out.1) (fun v t => va_P D vwCl (ww ad cA L rs v) t.heap) (va_A (ww ad cA L rs u) sz)) 1 6 (va_A (ww ad cA L rs u) sz)
abbrev BhQ (D : va_G) (cA : Nat → ClassId) (ad : Nat → Nat) (L L' : List Nat) (rs : va_W) (A : Nat → Prop) (out : Mr × Int32) (v : Mr) (t : State) : Prop := (out.2 = 0 ∧ BnQ D cA ad L' rs A v t) ∨ (out.2 ≠ 0 ∧ va_P D vwCl (ww ad cA L rs v) t.heap)
abbrev QIhn (below : List Frame) (args : Array Value) (s : State) (D : va_G) (cA : Nat → ClassId) (ad : Nat → Nat) (L L' : List Nat) (rs : va_W) (A : Nat → Prop) (out : Mr × Int32) (kc ks : Nat) : State → Prop := MQ below (va_Qi (fun (r : Int32) (v : Mr) => r = out.2 ∧ v = out.1) (fun v t => BhQ D cA ad L L' rs A out v t) A) args s kc ks A
def CtHn (l : Launch) (y : MethodName) (ws : List Cond) (rm : Room) (as : List Value) (D : va_G) (cA : Nat → ClassId) (ad : Nat → Nat) (L L' : List Nat) (rs : va_W) (u : Mr) (out : Mr × Int32) (kc ks sz : Nat) : Prop :=
  Met l y ws rm (va_Pc as (PrHn D cA ad L rs u sz)) (va_Qi (fun (r : Int32) (v : Mr) => r = out.2 ∧ v = out.1) (fun v t => BhQ D cA ad L L' rs (va_A (ww ad cA L rs u) sz) out v t) (va_A (ww ad cA L rs u) sz)) kc ks (va_A (ww ad cA L rs u) sz)
section
variable {p : Program} {l : Launch} {e : Env} {R : Room} {s : State} {m : MethodId} {args : Array Value} {below : List Frame} {meth : Method} {c : Code} {H : Heap} {locs : List Loc} {cells slots pc : Nat} {Q Q' : State → Prop} {cc : ByteArray} {ls : Array Slot} {rest st0 : List Value} {D : va_G} {cA : Nat → ClassId} {ad : Nat → Nat} {L L' : List Nat} {rs : va_W} {u : Mr} {A : Nat → Prop} {k T kc ks : Nat}
theorem x_iretH {v : Int32} {out : Mr × Int32} (hx : p.tables.exec = Jvm.exec) (hb : c.code = cc) (hr : meth.sig.returnType = some .int) (hlocks : meth.locks = false) (h : some (u, v) = some out) (hP : va_P D vwCl (ww ad cA L rs u) H) (hS : va_S A s.heap H locs) (hc : cells ≤ 1) (hs : slots ≤ 6) (hdg : decode cc pc = .ok (.ireturn, 1)) : W p l e R s m args below meth c H locs cells slots (QIh below args s D cA ad L rs A out) (F0 m pc ls [.int v]) := by
  have e9 := Option.some.inj h
  exact W.widen hc hs (W.iret hx hb hr (fun t ht hW => ⟨⟨v, u, rfl, ⟨congrArg Prod.snd e9, congrArg Prod.fst e9⟩, x_hp hP ht⟩, hS.F ht⟩) hS.2.2 hdg hlocks)
theorem x_iretHr {v : Int32} {out : Mr × Int32} (hx : p.tables.exec = Jvm.exec) (hb : c.code = cc) (hr : meth.sig.returnType = some .int) (hlocks : meth.locks = false) (h : some (u, v) = some out) (hv : v = 0) (hP : va_P D vwCl (ww ad cA L' rs u) H) (hD : ∀ v : Mr, va_D A (ww ad cA L' rs v)) (hN : L'.Nodup) (hS : va_S A s.heap H locs) (hc : cells ≤ kc) (hs : slots ≤ ks) (hdg : decode cc pc = .ok (.ireturn, 1)) : W p l e R s m args below meth c H locs cells slots (QIhn below args s D cA ad L L' rs A out kc ks) (F0 m pc ls [.int v]) := by
  have e9 := Option.some.inj h
  exact W.widen hc hs (W.iret hx hb hr (fun t ht hW => ⟨⟨v, u, rfl, ⟨congrArg Prod.snd e9, congrArg Prod.fst e9⟩, Or.inl ⟨by rw [← e9]; exact hv, x_hp hP ht, hD, hN⟩⟩, hS.F ht⟩) hS.2.2 hdg hlocks)
theorem x_iretHt {v : Int32} {out : Mr × Int32} (hx : p.tables.exec = Jvm.exec) (hb : c.code = cc) (hr : meth.sig.returnType = some .int) (hlocks : meth.locks = false) (h : some (u, v) = some out) (hv : v ≠ 0) (hP : va_P D vwCl (ww ad cA L rs u) H) (hS : va_S A s.heap H locs) (hc : cells ≤ kc) (hs : slots ≤ ks) (hdg : decode cc pc = .ok (.ireturn, 1)) : W p l e R s m args below meth c H locs cells slots (QIhn below args s D cA ad L L' rs A out kc ks) (F0 m pc ls [.int v]) := by
  have e9 := Option.some.inj h
  exact W.widen hc hs (W.iret hx hb hr (fun t ht hW => ⟨⟨v, u, rfl, ⟨congrArg Prod.snd e9, congrArg Prod.fst e9⟩, Or.inr ⟨by rw [← e9]; exact hv, x_hp hP ht⟩⟩, hS.F ht⟩) hS.2.2 hdg hlocks)
theorem zL_to {C n d : String} {U : State} (hA : ∀ q, s.heap.size ≤ q → A q) (hD : ∀ v : Mr, va_D A (ww ad cA L rs v)) (hS : va_S A s.heap H locs) (hU : U.heap = H) (hW : s.WarmedH U.vm) (h : zL C n d A s s.heap) : zL C n d (va_A (ww ad cA L rs u) H.size) U U.heap := by
  rw [hU]
  exact zL.narrow (zL.moved hW.alike (h.kept hS.2.1)) (fun a _ q => x_aw hA hD hS a q)
theorem x_blX {as : List Value} {sz : Nat} : FrameBlind (va_Pc as (PrX D cA ad L rs u sz)) := fun a U g mk q => by
  obtain ⟨q0, ⟨q1, qP, qK, qD, qN⟩, z1, z2, qy⟩ := q
  exact ⟨q0, ⟨q1, qP, va_K.moved (u := U) (U := U.calling g mk a) (Vm.Alike.refl U.vm) qK, qD, Nx.same rfl qN⟩, zL.moved (u := U) (U := U.calling g mk a) (Vm.Alike.refl U.vm) z1, zL.moved (u := U) (U := U.calling g mk a) (Vm.Alike.refl U.vm) z2, Ny.same rfl qy⟩
theorem x_preVX {as : List Value} (hK : va_K D vwCl (tyl cA) s) (hD : ∀ v : Mr, va_D A (ww ad cA L rs v)) (hNx : Nx s) (hP : va_P D vwCl (ww ad cA L rs u) H) (hS : va_S A s.heap H locs) (hA : ∀ q, s.heap.size ≤ q → A q) (hz1 : zL Bundle.tN "UNASSIGNED_STACK" Bundle.steD A s s.heap) (hz2 : zL Bundle.tN "SUPPRESSED_SENTINEL" Bundle.listD A s s.heap) (hny : Ny s) (hk : k ∈ L) (hT : k / 64 = T) {ci : Nat} {fs : List Value} {r : vw_C} (hE : Eg ad cA T (u.1 k) (u.2.1 k) (u.2.2 k) = .inr (ci, fs)) (hc : vwCl[ci]? = some r) : PreV s H r.1 (ad k) (va_Pc (.ref (ad k) :: as) (PrX D cA ad L rs u H.size)) as := by
  obtain ⟨q0, hq⟩ := ww_in hk
  refine ⟨x_blX, va_recv (fs := fs) hK hP hc (q0 := q0) (by rw [ww_at hq, hT, hE]), fun U hU hW => ?_⟩
  exact ⟨rfl, (x_pre (as := []) hK hD hNx hP U hU hW).2, zL_to hA hD hS hU hW hz1, zL_to hA hD hS hU hW hz2, hny.warm hW⟩
theorem x_blNX {as : List Value} {sz : Nat} : FrameBlind (va_Pc as (PrNX D cA ad L rs u sz)) := fun a U g mk q => by
  obtain ⟨q0, q1, z1, z2⟩ := q
  exact ⟨q0, (x_blN (as := as) a U g mk ⟨q0, q1⟩).2, zL.moved (u := U) (U := U.calling g mk a) (Vm.Alike.refl U.vm) z1, zL.moved (u := U) (U := U.calling g mk a) (Vm.Alike.refl U.vm) z2⟩
theorem x_preVNX {as : List Value} (hK : va_K D vwCl (tyl cA) s) (hD : ∀ v : Mr, va_D A (ww ad cA L rs v)) (hNx : Nx s) (hP : va_P D vwCl (ww ad cA L rs u) H) (hS : va_S A s.heap H locs) (hA : ∀ q, s.heap.size ≤ q → A q) (hdZ : dZ ad A s s.heap) (hdT : dT ad A s s.heap) (hno : No s) (hny : Ny s) (hz1 : zL Bundle.tN "UNASSIGNED_STACK" Bundle.steD A s s.heap) (hz2 : zL Bundle.tN "SUPPRESSED_SENTINEL" Bundle.listD A s s.heap) (hk : k ∈ L) (hT : k / 64 = T) {ci : Nat} {fs : List Value} {r : vw_C} (hE : Eg ad cA T (u.1 k) (u.2.1 k) (u.2.2 k) = .inr (ci, fs)) (hc : vwCl[ci]? = some r) : PreV s H r.1 (ad k) (va_Pc (.ref (ad k) :: as) (PrNX D cA ad L rs u H.size)) as := by
  obtain ⟨q0, hq⟩ := ww_in hk
  refine ⟨x_blNX, va_recv (fs := fs) hK hP hc (q0 := q0) (by rw [ww_at hq, hT, hE]), fun U hU hW => ?_⟩
  exact ⟨rfl, (x_preN (as := []) hK hD hNx hP hS hA hdZ hdT hno hny U hU hW).2, zL_to hA hD hS hU hW hz1, zL_to hA hD hS hU hW hz2⟩
theorem x_preSH {as : List Value} (hK : va_K D vwCl (tyl cA) s) (hD : ∀ v : Mr, va_D A (ww ad cA L rs v)) (hNx : Nx s) (hP : va_P D vwCl (ww ad cA L rs u) H) (hS : va_S A s.heap H locs) (hA : ∀ q, s.heap.size ≤ q → A q) (hz1 : zL Bundle.tN "UNASSIGNED_STACK" Bundle.steD A s s.heap) (hz2 : zL Bundle.tN "SUPPRESSED_SENTINEL" Bundle.listD A s s.heap) (hny : Ny s) (hnq : Nq s) : PreS s H (va_Pc as (PrH D cA ad L rs u H.size)) as := by
  refine ⟨fun a U g mk q => ?_, fun U hU hW => ?_⟩
  · obtain ⟨q0, q1, q2⟩ := q
    exact ⟨q0, (x_blX (as := as) a U g mk ⟨q0, q1⟩).2, Nq.moved (u := U) (U := U.calling g mk a) (Vm.Alike.refl U.vm) q2⟩
  · exact ⟨rfl, ⟨(x_pre (as := []) hK hD hNx hP U hU hW).2, zL_to hA hD hS hU hW hz1, zL_to hA hD hS hU hW hz2, hny.warm hW⟩, hnq.moved hW.alike⟩
theorem x_preSHn {as : List Value} (hK : va_K D vwCl (tyl cA) s) (hD : ∀ v : Mr, va_D A (ww ad cA L rs v)) (hNx : Nx s) (hP : va_P D vwCl (ww ad cA L rs u) H) (hS : va_S A s.heap H locs) (hA : ∀ q, s.heap.size ≤ q → A q) (hdZ : dZ ad A s s.heap) (hdT : dT ad A s s.heap) (hno : No s) (hny : Ny s) (hz1 : zL Bundle.tN "UNASSIGNED_STACK" Bundle.steD A s s.heap) (hz2 : zL Bundle.tN "SUPPRESSED_SENTINEL" Bundle.listD A s s.heap) (hnq : Nq s) : PreS s H (va_Pc as (PrHn D cA ad L rs u H.size)) as := by
  refine ⟨fun a U g mk q => ?_, fun U hU hW => ?_⟩
  · obtain ⟨q0, q1, q2⟩ := q
    exact ⟨q0, (x_blNX (as := as) a U g mk ⟨q0, q1⟩).2, Nq.moved (u := U) (U := U.calling g mk a) (Vm.Alike.refl U.vm) q2⟩
  · exact ⟨rfl, ⟨(x_preN (as := []) hK hD hNx hP hS hA hdZ hdT hno hny U hU hW).2, zL_to hA hD hS hU hW hz1, zL_to hA hD hS hU hW hz2⟩, hnq.moved hW.alike⟩
/-- a call of a static method with an exception table -/
theorem x_runSW {own : String} {index n nL mc ms : Nat} {y : MethodName} {bytes : ByteArray} {maxL : Nat} {ret : Option FieldType} {hh : List (Nat × Nat × Nat × Nat)} {ws ws' : List Cond} {rm : Room} {Ts : List Cond} {Pc : Array Value → State → Prop} {Qc : Array Value → State → Outcome → State → Prop} {free : Addr → Prop} {As : List Value} {g : JFrame} (S : CallFix p m c cc nL s args Ts own) (hM : Met l y ws rm Pc Qc mc ms free) (hG : GoodIn Ts ws) (hw : ws = Cond.codeWith y bytes maxL ret hh :: ws') (hrc : rm.cells = mc) (hrs : rm.slots = ms) (hini : (Cond.initialized y.cls).before args s = true) (hl : (Cond.methodLink own index y).before args s = true)
    (hd : y.cls ≠ "java/lang/invoke/MethodHandle" ∧ y.cls ≠ "java/lang/invoke/VarHandle" ∧ (parseMethodDescriptor y.desc).map (fun d => d.parameters.length) = some n) (hR : rm.frames + 1 ≤ R.frames ∧ 8 + (maxL + 11) + rm.locals ≤ R.locals) (hstat : (Cond.static y).before args s = true) (hp : PreS s H Pc As) (hg : g.method = m) (hn : As.length = n) (hsize : g.locals.size = nL) (hstack : g.stack = As.reverse ++ rest) (hW : 2 * g.monitorRoom + (rest.map fun v => v.category).sum ≤ 8) (hdg : decode cc g.pc = .ok (.invokestatic index, 3)) (hf : cells + mc ≤ R.cells ∧ slots + ms ≤ R.slots) :
    va_Run p l e R s m args below meth c H locs cells slots mc ms g rest (Qc As.toArray) free := by
  obtain ⟨hx, hb, hml, ho, hts⟩ := S
  have hc : Cond.codeWith y bytes maxL ret hh ∈ ws := by rw [hw]; exact List.mem_cons_self
  have hcode : (Cond.codeWith y bytes maxL ret hh).before args s = true := hts _ (hG _ hc).1
  have hK : Back l R p e below s args y 3 8 (PreOf R mc ms Pc) (PostOf Qc mc ms free) := va_backW hM hp.1 hrc hrs hR.1 hR.2 (pay_in hts hG) hc (fun a' U hW => word_at hW (Or.inl (by first | rfl | simp [Cond.onTables, Cond.keeps, Cond.steady])) hini)
  obtain ⟨m9, methM, cM, hnamed, hmethM, -, -, -, -, -, -, hsigM⟩ := Cond.codeWith_spec hcode
  have hstatic : methM.isStatic = true := Cond.static_spec hnamed hmethM hstat
  obtain ⟨kP, hkP, -⟩ := className_of_methodNamed hnamed
  have hinitP : kP.init = .initialized := Cond.initialized_spec (findClass_of_methodNamed hnamed) hkP hini
  have hlen : As.length = methM.sig.parameters.length := by
    have h1 := hd.2.2
    rw [hsigM] at h1
    rw [hn]
    exact (Option.some.inj h1).symm
  intro T hT X
  obtain ⟨vm₁, X₁, hstep₁⟩ := X.invokestatic hx ho hl hnamed hmethM hstatic hkP hinitP ⟨hd.1, hd.2.1⟩ (g := g) hg (argsL := As) (rest := rest) hlen hstack (by rw [hb]; exact hdg)
  obtain ⟨v, ⟨U', l2, c2, s2⟩, X', ⟨g', mk, t, L, e1, e2, hq, h1, hL, h2, h3⟩, hsteps⟩ := hK m meth c ⟨T.setVm vm₁, locs, cells, slots⟩ { g with stack := rest } (.invokestatic index) m9 As.toArray X₁ hg (hsize.trans hml.symm) (by rw [hb]; exact hdg) hW (X₁.named hnamed) ⟨hf.1, hf.2, hp.2 (T.setVm vm₁) hT X₁.warmed⟩
  dsimp only [Pt.U, Pt.locs, Pt.cells, Pt.slots] at X' e1 e2 h1 h2 h3 hsteps
  subst h1; subst h2; subst h3
  exact ⟨v, (T.setVm vm₁).calling g' mk As.toArray, t, U', L, hT, X', hL, e1, e2, hq, fun target h => hstep₁ _ fun acts => by rw [doInvoke_state]; exact hsteps.trans h⟩
end

abbrev yLw_put : MethodName := ⟨"ImageForgeLaw", "put", "(LImageForge;IIJI[J)I"⟩
abbrev cLw_put : ByteArray := method_3_code
abbrev wsLw_put : List Cond := .codeWith yLw_put cLw_put 8 (some .int) [((0 : Nat), (14 : Nat), (17 : Nat), (13 : Nat)), ((0 : Nat), (14 : Nat), (21 : Nat), (15 : Nat))] :: bw
theorem gdLw_put : GoodIn bw wsLw_put := gd_of tw_244
theorem hdLw_put : yLw_put.cls ≠ "java/lang/invoke/MethodHandle" ∧ yLw_put.cls ≠ "java/lang/invoke/VarHandle" ∧ (parseMethodDescriptor yLw_put.desc).map (fun d => d.parameters.length) = some 6 := by decide +kernel
theorem dLw_put_0 : decode cLw_put 0 = .ok (.aload 6, 2) := by decide +kernel
theorem dLw_put_2 : decode cLw_put 2 = .ok (.iconst 0, 1) := by decide +kernel
theorem dLw_put_3 : decode cLw_put 3 = .ok (.aload_n 0, 1) := by decide +kernel
theorem dLw_put_4 : decode cLw_put 4 = .ok (.iload_n 1, 1) := by decide +kernel
theorem dLw_put_5 : decode cLw_put 5 = .ok (.iload_n 2, 1) := by decide +kernel
theorem dLw_put_6 : decode cLw_put 6 = .ok (.lload_n 3, 1) := by decide +kernel
theorem dLw_put_7 : decode cLw_put 7 = .ok (.iload 5, 2) := by decide +kernel
theorem dLw_put_9 : decode cLw_put 9 = .ok (.invokevirtual 7, 3) := by decide +kernel
theorem dLw_put_12 : decode cLw_put 12 = .ok (.i2l, 1) := by decide +kernel
theorem dLw_put_13 : decode cLw_put 13 = .ok (.lastore, 1) := by decide +kernel
theorem dLw_put_14 : decode cLw_put 14 = .ok (.goto 11, 3) := by decide +kernel
theorem dLw_put_17 : decode cLw_put 17 = .ok (.astore 7, 2) := by decide +kernel
theorem dLw_put_19 : decode cLw_put 19 = .ok (.iconst 1, 1) := by decide +kernel
theorem dLw_put_20 : decode cLw_put 20 = .ok (.ireturn, 1) := by decide +kernel
theorem dLw_put_21 : decode cLw_put 21 = .ok (.astore 7, 2) := by decide +kernel
theorem dLw_put_23 : decode cLw_put 23 = .ok (.iconst 2, 1) := by decide +kernel
theorem dLw_put_24 : decode cLw_put 24 = .ok (.ireturn, 1) := by decide +kernel
theorem dLw_put_25 : decode cLw_put 25 = .ok (.iconst 0, 1) := by decide +kernel
theorem dLw_put_26 : decode cLw_put 26 = .ok (.ireturn, 1) := by decide +kernel
section
variable {p : Program} {l : Launch} {e : Env} {s : State} {m : MethodId} {args : Array Value} {below : List Frame} {meth : Method} {c : Code} {D : va_G} {cA : Nat → ClassId} {ad : Nat → Nat} {L : List Nat} {rs : va_W} {al : Nat → Bool} {sl : Nat → Option Nat} {A : Nat → Prop}
abbrev rm_Lw_put : Room := { frames := 7, cells := 1, slots := 6, locals := 126 }
def bk_Lw_put_0 (F : Nat) (al : Nat → Bool) (u : Mr) (x0 : Nat) (x1 : Int32) (x2 : Int32) (x3 : Int64) (x5 : Int32) (x6 : Nat) : Option (Mr × Int32) := bd2 (fn_Fg_put F al u x0 x1 x2 x3 x5) fun u1 r1 => (if r1.1 = 0 then (some (stL u1 x6 (0 : Int32) r1.2.toInt64, (0 : Int32))) else (if r1.1 = 1 then (some (u1, (1 : Int32))) else (if r1.1 = 2 then (some (u1, (2 : Int32))) else (none))))
set_option maxHeartbeats 4000000 in
set_option maxRecDepth 100000 in
theorem wk_Lw_put_0 (cx : Cx p l e s m args below meth c cLw_put 8 bw "ImageForgeLaw" (some .int) D cA ad L rs al A) (ch : Ch l s c A [(0, 14, 17, 13), (0, 14, 21, 15)]) (F : Nat) (out : Mr × Int32) : ∀ (u : Mr) (x0 : Nat) (x1 : Int32) (x2 : Int32) (x3 : Int64) (x5 : Int32) (x6 : Nat), bk_Lw_put_0 F al u x0 x1 x2 x3 x5 x6 = some out → okk al 1 x0 = true → okk al 22 x6 = true → Wb p l e rm_Lw_put s m args below meth c D cA ad L rs A (QIh below args s D cA ad L rs A out) 8 0 [(0, .ref (ad x0)), (1, .int x1), (2, .int x2), (3, .long x3), (5, .int x5), (6, .ref (ad x6))] [] u := by
  obtain ⟨hx, hb, hml, hown, hts, hr, hlocks, hK, hA, hD, hN, hal, hNx⟩ := cx
  obtain ⟨hlt, htab, hz1, hz2, hny, hnq⟩ := ch
  intro u x0 x1 x2 x3 x5 x6 h q0 q6 H locs ls hl hP hS
  unfold bk_Lw_put_0 at h
  refine lv_aload hx hb dLw_put_0 (lv_at hl 5 rfl) ?_
  refine lv_iconst (v := 0) hx hb dLw_put_2 (by decide) ?_
  refine lv_aload_n hx hb dLw_put_3 rfl (lv_at hl 0 rfl) ?_
  refine lv_iload_n hx hb dLw_put_4 rfl (lv_at hl 1 rfl) ?_
  refine lv_iload_n hx hb dLw_put_5 rfl (lv_at hl 2 rfl) ?_
  refine lv_lload_n hx hb dLw_put_6 rfl (lv_at hl 3 rfl) ?_
  refine lv_iload hx hb dLw_put_7 (lv_at hl 4 rfl) ?_
  obtain ⟨u1, r1, hc1, h⟩ := bd2_some h
  refine x_callX (As := [.int x1, .int x2, .long x3, .int x5]) (rest := [.int (0 : Int32), .ref (ad x6)]) (u := u) (out := (u1, r1)) ⟨hx, hb, hml, hown, hts⟩ hA hD hS (ct_Fg_put hlt hal hN F u x0 x1 x2 x3 x5 (u1, r1) hc1 q0) ⟨callB_of 4 hts gdFg_put rfl rfl rfl (hts _ tw_1) (hts _ tw_247) hdFg_put ⟨Nat.le_of_ble_eq_true rfl, Nat.le_of_ble_eq_true rfl⟩, (hts _ tw_248), (hts _ tw_249)⟩ (x_preVX hK hD hNx hP hS hA hz1 hz2 hny (hal _ (okk_al q0)) (okk_t q0) rfl rfl) rfl hl.1 rfl (lv_room (Nat.le_of_ble_eq_true rfl)) dLw_put_9 ⟨Nat.le_of_ble_eq_true rfl, Nat.le_of_ble_eq_true rfl⟩ (fun hk H locs hP hS => ?_) (fun hk => ?_)
  · replace h := it_t h hk
    refine lv_i2l (v := r1.2.toInt64) hx hb dLw_put_12 rfl ?_
    refine x_last hx hb hK hD hN hP hS (hal _ (okk_al q6)) (okk_t q6) 3 (fun _ _ _ => rfl) rfl (by decide) (inb_in (show inb (0 : Int32) 1 = true by decide)) dLw_put_13 (fun H locs hP hS => ?_)
    refine lv_goto (tgt := 25) hx hb dLw_put_14 rfl ?_
    refine lv_iconst (v := 0) hx hb dLw_put_25 (by decide) ?_
    exact x_iretH hx hb hr hlocks h hP hS (Nat.le_of_ble_eq_true rfl) (Nat.le_of_ble_eq_true rfl) dLw_put_26
  · replace h := it_f h hk
    obtain ⟨xA, xB, htl, ⟨a1, a2, a3, a4⟩, b1, b2, b3, b4⟩ := tab2 htab
    by_cases hk0 : r1.1 = 1
    · replace h := it_t h hk0
      refine ⟨[], xA, [xB], "java/lang/IllegalArgumentException", htl, by simp only [covers, a1, a2]; decide, by rw [a4]; decide, by rw [a4]; exact (hts _ tw_245), ?_, ?_, ?_⟩
      · show (Cond.castable (exn r1.1) _).before _ _ = true
        rw [hk0]
        exact va_Nw.use rfl (hny.2.1 ("java/lang/IllegalArgumentException", "java/lang/IllegalArgumentException") (by decide +kernel))
      · intro y hy
        cases hy
      · intro q9 H locs hP hS
        rw [a3]
        refine lv_astore (lv' := [(7, .ref q9), (0, .ref (ad x0)), (1, .int x1), (2, .int x2), (3, .long x3), (5, .int x5), (6, .ref (ad x6))]) hx hb dLw_put_17 hl (by decide) rfl (fun ls hl => ?_)
        refine lv_iconst (v := 1) hx hb dLw_put_19 (by decide) ?_
        exact x_iretH hx hb hr hlocks h hP hS (Nat.le_of_ble_eq_true rfl) (Nat.le_of_ble_eq_true rfl) dLw_put_20
    replace h := it_f h hk0
    by_cases hk1 : r1.1 = 2
    · replace h := it_t h hk1
      refine ⟨[xA], xB, [], "java/lang/IllegalStateException", htl, by simp only [covers, b1, b2]; decide, by rw [b4]; decide, by rw [b4]; exact (hts _ tw_246), ?_, ?_, ?_⟩
      · show (Cond.castable (exn r1.1) _).before _ _ = true
        rw [hk1]
        exact va_Nw.use rfl (hny.2.1 ("java/lang/IllegalStateException", "java/lang/IllegalStateException") (by decide +kernel))
      · intro y hy
        obtain rfl := List.mem_singleton.mp hy
        refine ⟨by rw [a4]; decide, "java/lang/IllegalArgumentException", by rw [a4]; exact (hts _ tw_245), ?_⟩
        show va_Nc (exn r1.1) _ s
        rw [hk1]
        exact hnq ("java/lang/IllegalStateException", "java/lang/IllegalArgumentException") (by decide +kernel)
      · intro q9 H locs hP hS
        rw [b3]
        refine lv_astore (lv' := [(7, .ref q9), (0, .ref (ad x0)), (1, .int x1), (2, .int x2), (3, .long x3), (5, .int x5), (6, .ref (ad x6))]) hx hb dLw_put_21 hl (by decide) rfl (fun ls hl => ?_)
        refine lv_iconst (v := 2) hx hb dLw_put_23 (by decide) ?_
        exact x_iretH hx hb hr hlocks h hP hS (Nat.le_of_ble_eq_true rfl) (Nat.le_of_ble_eq_true rfl) dLw_put_24
    replace h := it_f h hk1
    cases h
def fn_Lw_put (F : Nat) (al : Nat → Bool) (u : Mr) (x0 : Nat) (x1 : Int32) (x2 : Int32) (x3 : Int64) (x5 : Int32) (x6 : Nat) : Option (Mr × Int32) := bk_Lw_put_0 F al u x0 x1 x2 x3 x5 x6
set_option maxHeartbeats 4000000 in
set_option maxRecDepth 100000 in
theorem ct_Lw_put {l : Launch} (hlt : l.stackTraces = false) {D : va_G} {cA : Nat → ClassId} {ad : Nat → Nat} {L : List Nat} {rs : va_W} {al : Nat → Bool} (hal : ∀ k, al k = true → k ∈ L) (hN : L.Nodup) (F : Nat) (u : Mr) (x0 : Nat) (x1 : Int32) (x2 : Int32) (x3 : Int64) (x5 : Int32) (x6 : Nat) (out : Mr × Int32) (h : fn_Lw_put F al u x0 x1 x2 x3 x5 x6 = some out) (q0 : okk al 1 x0 = true) (q6 : okk al 22 x6 = true) : CtH l yLw_put wsLw_put rm_Lw_put [.ref (ad x0), .int x1, .int x2, .long x3, .int x5, .ref (ad x6)] D cA ad L rs u out := by
  intro sz
  refine va_MetW (cc := cLw_put) (maxL := 8) (ret := some .int) (hh := [(0, 14, 17, 13), (0, 14, 21, 15)]) (by decide) rfl ?_
  intro p e s m args below meth c s₁ B hml hv
  obtain ⟨rfl, ⟨⟨hsz, hP, hK, hD0, hNx⟩, hz1, hz2, hny⟩, hnq⟩ := hv
  subst hsz
  have hD := hD0.self (sz := s.heap.size)
  generalize hAe : va_A (ww ad cA L rs u) s.heap.size = A at hD hz1 hz2 ⊢
  have hA : ∀ q, s.heap.size ≤ q → A q := fun q h => by rw [← hAe]; exact Or.inr h
  have hl := lv_entry ([.ref (ad x0), .int x1, .int x2, .long x3, .int x5, .ref (ad x6)]) (n := 8) (Nat.le_of_ble_eq_true rfl)
  rw [lg_entry_eq]
  generalize (lg_sl ([.ref (ad x0), .int x1, .int x2, .long x3, .int x5, .ref (ad x6)]) ++ List.replicate (8 - (lg_sl ([.ref (ad x0), .int x1, .int x2, .long x3, .int x5, .ref (ad x6)])).length) Slot.unset).toArray = ls at hl ⊢
  have hpre := atoms_spec (ws := wsLw_put) B.pre
  have hnm : meth.name = "put" := (name_of_methodNamed B.named B.method).1
  have htab := tab_of B (hpre _ List.mem_cons_self)
  exact wk_Lw_put_0 ⟨B.exec, B.bytes, hml, findClass_of_methodNamed B.named, hts_bw hpre, B.returns, B.notSynchronized, hK, hA, fun v => ww_D hD, hN, hal, hNx⟩ ⟨hlt, htab, hz1, hz2, hny, hnq⟩ F out u x0 x1 x2 x3 x5 x6 h q0 q6 _ _ _ (lv_sub hl [0, 1, 2, 3, 4, 5] rfl) hP va_S.rf
end
abbrev yLw_define : MethodName := ⟨"ImageForgeLaw", "define", "(LImageForge;IIII)I"⟩
abbrev cLw_define : ByteArray := method_4_code
abbrev wsLw_define : List Cond := .codeWith yLw_define cLw_define 6 (some .int) [((0 : Nat), (9 : Nat), (12 : Nat), (13 : Nat)), ((0 : Nat), (9 : Nat), (16 : Nat), (15 : Nat))] :: bw
theorem gdLw_define : GoodIn bw wsLw_define := gd_of tw_343
theorem hdLw_define : yLw_define.cls ≠ "java/lang/invoke/MethodHandle" ∧ yLw_define.cls ≠ "java/lang/invoke/VarHandle" ∧ (parseMethodDescriptor yLw_define.desc).map (fun d => d.parameters.length) = some 5 := by decide +kernel
theorem dLw_define_0 : decode cLw_define 0 = .ok (.aload_n 0, 1) := by decide +kernel
theorem dLw_define_1 : decode cLw_define 1 = .ok (.iload_n 1, 1) := by decide +kernel
theorem dLw_define_2 : decode cLw_define 2 = .ok (.iload_n 2, 1) := by decide +kernel
theorem dLw_define_3 : decode cLw_define 3 = .ok (.iload_n 3, 1) := by decide +kernel
theorem dLw_define_4 : decode cLw_define 4 = .ok (.iload 4, 2) := by decide +kernel
theorem dLw_define_6 : decode cLw_define 6 = .ok (.invokevirtual 17, 3) := by decide +kernel
theorem dLw_define_9 : decode cLw_define 9 = .ok (.goto 11, 3) := by decide +kernel
theorem dLw_define_12 : decode cLw_define 12 = .ok (.astore 5, 2) := by decide +kernel
theorem dLw_define_14 : decode cLw_define 14 = .ok (.iconst 1, 1) := by decide +kernel
theorem dLw_define_15 : decode cLw_define 15 = .ok (.ireturn, 1) := by decide +kernel
theorem dLw_define_16 : decode cLw_define 16 = .ok (.astore 5, 2) := by decide +kernel
theorem dLw_define_18 : decode cLw_define 18 = .ok (.iconst 2, 1) := by decide +kernel
theorem dLw_define_19 : decode cLw_define 19 = .ok (.ireturn, 1) := by decide +kernel
theorem dLw_define_20 : decode cLw_define 20 = .ok (.iconst 0, 1) := by decide +kernel
theorem dLw_define_21 : decode cLw_define 21 = .ok (.ireturn, 1) := by decide +kernel
section
variable {p : Program} {l : Launch} {e : Env} {s : State} {m : MethodId} {args : Array Value} {below : List Frame} {meth : Method} {c : Code} {D : va_G} {cA : Nat → ClassId} {ad : Nat → Nat} {L : List Nat} {rs : va_W} {al : Nat → Bool} {sl : Nat → Option Nat} {A : Nat → Prop}
abbrev rm_Lw_define : Room := { frames := 7, cells := 1, slots := 6, locals := 125 }
def bk_Lw_define_0 (F : Nat) (al : Nat → Bool) (u : Mr) (x0 : Nat) (x1 : Int32) (x2 : Int32) (x3 : Int32) (x4 : Int32) : Option (Mr × Int32) := bd2 (fn_Fg_define F al u x0 x1 x2 x3 x4) fun u1 r1 => (if r1.1 = 0 then (some (u1, (0 : Int32))) else (if r1.1 = 1 then (some (u1, (1 : Int32))) else (if r1.1 = 2 then (some (u1, (2 : Int32))) else (none))))
set_option maxHeartbeats 4000000 in
set_option maxRecDepth 100000 in
theorem wk_Lw_define_0 (cx : Cx p l e s m args below meth c cLw_define 6 bw "ImageForgeLaw" (some .int) D cA ad L rs al A) (ch : Ch l s c A [(0, 9, 12, 13), (0, 9, 16, 15)]) (F : Nat) (out : Mr × Int32) : ∀ (u : Mr) (x0 : Nat) (x1 : Int32) (x2 : Int32) (x3 : Int32) (x4 : Int32), bk_Lw_define_0 F al u x0 x1 x2 x3 x4 = some out → okk al 1 x0 = true → Wb p l e rm_Lw_define s m args below meth c D cA ad L rs A (QIh below args s D cA ad L rs A out) 6 0 [(0, .ref (ad x0)), (1, .int x1), (2, .int x2), (3, .int x3), (4, .int x4)] [] u := by
  obtain ⟨hx, hb, hml, hown, hts, hr, hlocks, hK, hA, hD, hN, hal, hNx⟩ := cx
  obtain ⟨hlt, htab, hz1, hz2, hny, hnq⟩ := ch
  intro u x0 x1 x2 x3 x4 h q0 H locs ls hl hP hS
  unfold bk_Lw_define_0 at h
  refine lv_aload_n hx hb dLw_define_0 rfl (lv_at hl 0 rfl) ?_
  refine lv_iload_n hx hb dLw_define_1 rfl (lv_at hl 1 rfl) ?_
  refine lv_iload_n hx hb dLw_define_2 rfl (lv_at hl 2 rfl) ?_
  refine lv_iload_n hx hb dLw_define_3 rfl (lv_at hl 3 rfl) ?_
  refine lv_iload hx hb dLw_define_4 (lv_at hl 4 rfl) ?_
  obtain ⟨u1, r1, hc1, h⟩ := bd2_some h
  refine x_callX (As := [.int x1, .int x2, .int x3, .int x4]) (rest := []) (u := u) (out := (u1, r1)) ⟨hx, hb, hml, hown, hts⟩ hA hD hS (ct_Fg_define hlt hal hN F u x0 x1 x2 x3 x4 (u1, r1) hc1 q0) ⟨callB_of 4 hts gdFg_define rfl rfl rfl (hts _ tw_1) (hts _ tw_344) hdFg_define ⟨Nat.le_of_ble_eq_true rfl, Nat.le_of_ble_eq_true rfl⟩, (hts _ tw_345), (hts _ tw_346)⟩ (x_preVX hK hD hNx hP hS hA hz1 hz2 hny (hal _ (okk_al q0)) (okk_t q0) rfl rfl) rfl hl.1 rfl (lv_room (Nat.le_of_ble_eq_true rfl)) dLw_define_6 ⟨Nat.le_of_ble_eq_true rfl, Nat.le_of_ble_eq_true rfl⟩ (fun hk H locs hP hS => ?_) (fun hk => ?_)
  · replace h := it_t h hk
    refine lv_goto (tgt := 20) hx hb dLw_define_9 rfl ?_
    refine lv_iconst (v := 0) hx hb dLw_define_20 (by decide) ?_
    exact x_iretH hx hb hr hlocks h hP hS (Nat.le_of_ble_eq_true rfl) (Nat.le_of_ble_eq_true rfl) dLw_define_21
  · replace h := it_f h hk
    obtain ⟨xA, xB, htl, ⟨a1, a2, a3, a4⟩, b1, b2, b3, b4⟩ := tab2 htab
    by_cases hk0 : r1.1 = 1
    · replace h := it_t h hk0
      refine ⟨[], xA, [xB], "java/lang/IllegalArgumentException", htl, by simp only [covers, a1, a2]; decide, by rw [a4]; decide, by rw [a4]; exact (hts _ tw_245), ?_, ?_, ?_⟩
      · show (Cond.castable (exn r1.1) _).before _ _ = true
        rw [hk0]
        exact va_Nw.use rfl (hny.2.1 ("java/lang/IllegalArgumentException", "java/lang/IllegalArgumentException") (by decide +kernel))
      · intro y hy
        cases hy
      · intro q9 H locs hP hS
        rw [a3]
        refine lv_astore (lv' := [(5, .ref q9), (0, .ref (ad x0)), (1, .int x1), (2, .int x2), (3, .int x3), (4, .int x4)]) hx hb dLw_define_12 hl (by decide) rfl (fun ls hl => ?_)
        refine lv_iconst (v := 1) hx hb dLw_define_14 (by decide) ?_
        exact x_iretH hx hb hr hlocks h hP hS (Nat.le_of_ble_eq_true rfl) (Nat.le_of_ble_eq_true rfl) dLw_define_15
    replace h := it_f h hk0
    by_cases hk1 : r1.1 = 2
    · replace h := it_t h hk1
      refine ⟨[xA], xB, [], "java/lang/IllegalStateException", htl, by simp only [covers, b1, b2]; decide, by rw [b4]; decide, by rw [b4]; exact (hts _ tw_246), ?_, ?_, ?_⟩
      · show (Cond.castable (exn r1.1) _).before _ _ = true
        rw [hk1]
        exact va_Nw.use rfl (hny.2.1 ("java/lang/IllegalStateException", "java/lang/IllegalStateException") (by decide +kernel))
      · intro y hy
        obtain rfl := List.mem_singleton.mp hy
        refine ⟨by rw [a4]; decide, "java/lang/IllegalArgumentException", by rw [a4]; exact (hts _ tw_245), ?_⟩
        show va_Nc (exn r1.1) _ s
        rw [hk1]
        exact hnq ("java/lang/IllegalStateException", "java/lang/IllegalArgumentException") (by decide +kernel)
      · intro q9 H locs hP hS
        rw [b3]
        refine lv_astore (lv' := [(5, .ref q9), (0, .ref (ad x0)), (1, .int x1), (2, .int x2), (3, .int x3), (4, .int x4)]) hx hb dLw_define_16 hl (by decide) rfl (fun ls hl => ?_)
        refine lv_iconst (v := 2) hx hb dLw_define_18 (by decide) ?_
        exact x_iretH hx hb hr hlocks h hP hS (Nat.le_of_ble_eq_true rfl) (Nat.le_of_ble_eq_true rfl) dLw_define_19
    replace h := it_f h hk1
    cases h
def fn_Lw_define (F : Nat) (al : Nat → Bool) (u : Mr) (x0 : Nat) (x1 : Int32) (x2 : Int32) (x3 : Int32) (x4 : Int32) : Option (Mr × Int32) := bk_Lw_define_0 F al u x0 x1 x2 x3 x4
set_option maxHeartbeats 4000000 in
set_option maxRecDepth 100000 in
theorem ct_Lw_define {l : Launch} (hlt : l.stackTraces = false) {D : va_G} {cA : Nat → ClassId} {ad : Nat → Nat} {L : List Nat} {rs : va_W} {al : Nat → Bool} (hal : ∀ k, al k = true → k ∈ L) (hN : L.Nodup) (F : Nat) (u : Mr) (x0 : Nat) (x1 : Int32) (x2 : Int32) (x3 : Int32) (x4 : Int32) (out : Mr × Int32) (h : fn_Lw_define F al u x0 x1 x2 x3 x4 = some out) (q0 : okk al 1 x0 = true) : CtH l yLw_define wsLw_define rm_Lw_define [.ref (ad x0), .int x1, .int x2, .int x3, .int x4] D cA ad L rs u out := by
  intro sz
  refine va_MetW (cc := cLw_define) (maxL := 6) (ret := some .int) (hh := [(0, 9, 12, 13), (0, 9, 16, 15)]) (by decide) rfl ?_
  intro p e s m args below meth c s₁ B hml hv
  obtain ⟨rfl, ⟨⟨hsz, hP, hK, hD0, hNx⟩, hz1, hz2, hny⟩, hnq⟩ := hv
  subst hsz
  have hD := hD0.self (sz := s.heap.size)
  generalize hAe : va_A (ww ad cA L rs u) s.heap.size = A at hD hz1 hz2 ⊢
  have hA : ∀ q, s.heap.size ≤ q → A q := fun q h => by rw [← hAe]; exact Or.inr h
  have hl := lv_entry ([.ref (ad x0), .int x1, .int x2, .int x3, .int x4]) (n := 6) (Nat.le_of_ble_eq_true rfl)
  rw [lg_entry_eq]
  generalize (lg_sl ([.ref (ad x0), .int x1, .int x2, .int x3, .int x4]) ++ List.replicate (6 - (lg_sl ([.ref (ad x0), .int x1, .int x2, .int x3, .int x4])).length) Slot.unset).toArray = ls at hl ⊢
  have hpre := atoms_spec (ws := wsLw_define) B.pre
  have hnm : meth.name = "define" := (name_of_methodNamed B.named B.method).1
  have htab := tab_of B (hpre _ List.mem_cons_self)
  exact wk_Lw_define_0 ⟨B.exec, B.bytes, hml, findClass_of_methodNamed B.named, hts_bw hpre, B.returns, B.notSynchronized, hK, hA, fun v => ww_D hD, hN, hal, hNx⟩ ⟨hlt, htab, hz1, hz2, hny, hnq⟩ F out u x0 x1 x2 x3 x4 h q0 _ _ _ (lv_sub hl [0, 1, 2, 3, 4] rfl) hP va_S.rf
end
abbrev yLw_imported : MethodName := ⟨"ImageForgeLaw", "imported", "(LImageForge;III)I"⟩
abbrev cLw_imported : ByteArray := method_6_code
abbrev wsLw_imported : List Cond := .codeWith yLw_imported cLw_imported 5 (some .int) [((0 : Nat), (7 : Nat), (10 : Nat), (13 : Nat))] :: bw
theorem gdLw_imported : GoodIn bw wsLw_imported := gd_of tw_488
theorem hdLw_imported : yLw_imported.cls ≠ "java/lang/invoke/MethodHandle" ∧ yLw_imported.cls ≠ "java/lang/invoke/VarHandle" ∧ (parseMethodDescriptor yLw_imported.desc).map (fun d => d.parameters.length) = some 4 := by decide +kernel
theorem dLw_imported_0 : decode cLw_imported 0 = .ok (.aload_n 0, 1) := by decide +kernel
theorem dLw_imported_1 : decode cLw_imported 1 = .ok (.iload_n 1, 1) := by decide +kernel
theorem dLw_imported_2 : decode cLw_imported 2 = .ok (.iload_n 2, 1) := by decide +kernel
theorem dLw_imported_3 : decode cLw_imported 3 = .ok (.iload_n 3, 1) := by decide +kernel
theorem dLw_imported_4 : decode cLw_imported 4 = .ok (.invokevirtual 25, 3) := by decide +kernel
theorem dLw_imported_7 : decode cLw_imported 7 = .ok (.goto 7, 3) := by decide +kernel
theorem dLw_imported_10 : decode cLw_imported 10 = .ok (.astore 4, 2) := by decide +kernel
theorem dLw_imported_12 : decode cLw_imported 12 = .ok (.iconst 1, 1) := by decide +kernel
theorem dLw_imported_13 : decode cLw_imported 13 = .ok (.ireturn, 1) := by decide +kernel
theorem dLw_imported_14 : decode cLw_imported 14 = .ok (.iconst 0, 1) := by decide +kernel
theorem dLw_imported_15 : decode cLw_imported 15 = .ok (.ireturn, 1) := by decide +kernel
section
variable {p : Program} {l : Launch} {e : Env} {s : State} {m : MethodId} {args : Array Value} {below : List Frame} {meth : Method} {c : Code} {D : va_G} {cA : Nat → ClassId} {ad : Nat → Nat} {L : List Nat} {rs : va_W} {al : Nat → Bool} {sl : Nat → Option Nat} {A : Nat → Prop}
abbrev rm_Lw_imported : Room := { frames := 7, cells := 1, slots := 6, locals := 124 }
def bk_Lw_imported_0 (F : Nat) (al : Nat → Bool) (u : Mr) (x0 : Nat) (x1 : Int32) (x2 : Int32) (x3 : Int32) : Option (Mr × Int32) := bd2 (fn_Fg_imported F al u x0 x1 x2 x3) fun u1 r1 => (if r1.1 = 0 then (some (u1, (0 : Int32))) else (if r1.1 = 1 then (some (u1, (1 : Int32))) else (none)))
set_option maxHeartbeats 4000000 in
set_option maxRecDepth 100000 in
theorem wk_Lw_imported_0 (cx : Cx p l e s m args below meth c cLw_imported 5 bw "ImageForgeLaw" (some .int) D cA ad L rs al A) (ch : Ch l s c A [(0, 7, 10, 13)]) (F : Nat) (out : Mr × Int32) : ∀ (u : Mr) (x0 : Nat) (x1 : Int32) (x2 : Int32) (x3 : Int32), bk_Lw_imported_0 F al u x0 x1 x2 x3 = some out → okk al 1 x0 = true → Wb p l e rm_Lw_imported s m args below meth c D cA ad L rs A (QIh below args s D cA ad L rs A out) 5 0 [(0, .ref (ad x0)), (1, .int x1), (2, .int x2), (3, .int x3)] [] u := by
  obtain ⟨hx, hb, hml, hown, hts, hr, hlocks, hK, hA, hD, hN, hal, hNx⟩ := cx
  obtain ⟨hlt, htab, hz1, hz2, hny, hnq⟩ := ch
  intro u x0 x1 x2 x3 h q0 H locs ls hl hP hS
  unfold bk_Lw_imported_0 at h
  refine lv_aload_n hx hb dLw_imported_0 rfl (lv_at hl 0 rfl) ?_
  refine lv_iload_n hx hb dLw_imported_1 rfl (lv_at hl 1 rfl) ?_
  refine lv_iload_n hx hb dLw_imported_2 rfl (lv_at hl 2 rfl) ?_
  refine lv_iload_n hx hb dLw_imported_3 rfl (lv_at hl 3 rfl) ?_
  obtain ⟨u1, r1, hc1, h⟩ := bd2_some h
  refine x_callX (As := [.int x1, .int x2, .int x3]) (rest := []) (u := u) (out := (u1, r1)) ⟨hx, hb, hml, hown, hts⟩ hA hD hS (ct_Fg_imported hlt hal hN F u x0 x1 x2 x3 (u1, r1) hc1 q0) ⟨callB_of 3 hts gdFg_imported rfl rfl rfl (hts _ tw_1) (hts _ tw_489) hdFg_imported ⟨Nat.le_of_ble_eq_true rfl, Nat.le_of_ble_eq_true rfl⟩, (hts _ tw_490), (hts _ tw_491)⟩ (x_preVX hK hD hNx hP hS hA hz1 hz2 hny (hal _ (okk_al q0)) (okk_t q0) rfl rfl) rfl hl.1 rfl (lv_room (Nat.le_of_ble_eq_true rfl)) dLw_imported_4 ⟨Nat.le_of_ble_eq_true rfl, Nat.le_of_ble_eq_true rfl⟩ (fun hk H locs hP hS => ?_) (fun hk => ?_)
  · replace h := it_t h hk
    refine lv_goto (tgt := 14) hx hb dLw_imported_7 rfl ?_
    refine lv_iconst (v := 0) hx hb dLw_imported_14 (by decide) ?_
    exact x_iretH hx hb hr hlocks h hP hS (Nat.le_of_ble_eq_true rfl) (Nat.le_of_ble_eq_true rfl) dLw_imported_15
  · replace h := it_f h hk
    obtain ⟨xA, htl, a1, a2, a3, a4⟩ := tab1 htab
    by_cases hk0 : r1.1 = 1
    · replace h := it_t h hk0
      refine ⟨[], xA, [], "java/lang/IllegalArgumentException", htl, by simp only [covers, a1, a2]; decide, by rw [a4]; decide, by rw [a4]; exact (hts _ tw_245), ?_, ?_, ?_⟩
      · show (Cond.castable (exn r1.1) _).before _ _ = true
        rw [hk0]
        exact va_Nw.use rfl (hny.2.1 ("java/lang/IllegalArgumentException", "java/lang/IllegalArgumentException") (by decide +kernel))
      · intro y hy
        cases hy
      · intro q9 H locs hP hS
        rw [a3]
        refine lv_astore (lv' := [(4, .ref q9), (0, .ref (ad x0)), (1, .int x1), (2, .int x2), (3, .int x3)]) hx hb dLw_imported_10 hl (by decide) rfl (fun ls hl => ?_)
        refine lv_iconst (v := 1) hx hb dLw_imported_12 (by decide) ?_
        exact x_iretH hx hb hr hlocks h hP hS (Nat.le_of_ble_eq_true rfl) (Nat.le_of_ble_eq_true rfl) dLw_imported_13
    replace h := it_f h hk0
    cases h
def fn_Lw_imported (F : Nat) (al : Nat → Bool) (u : Mr) (x0 : Nat) (x1 : Int32) (x2 : Int32) (x3 : Int32) : Option (Mr × Int32) := bk_Lw_imported_0 F al u x0 x1 x2 x3
set_option maxHeartbeats 4000000 in
set_option maxRecDepth 100000 in
theorem ct_Lw_imported {l : Launch} (hlt : l.stackTraces = false) {D : va_G} {cA : Nat → ClassId} {ad : Nat → Nat} {L : List Nat} {rs : va_W} {al : Nat → Bool} (hal : ∀ k, al k = true → k ∈ L) (hN : L.Nodup) (F : Nat) (u : Mr) (x0 : Nat) (x1 : Int32) (x2 : Int32) (x3 : Int32) (out : Mr × Int32) (h : fn_Lw_imported F al u x0 x1 x2 x3 = some out) (q0 : okk al 1 x0 = true) : CtH l yLw_imported wsLw_imported rm_Lw_imported [.ref (ad x0), .int x1, .int x2, .int x3] D cA ad L rs u out := by
  intro sz
  refine va_MetW (cc := cLw_imported) (maxL := 5) (ret := some .int) (hh := [(0, 7, 10, 13)]) (by decide) rfl ?_
  intro p e s m args below meth c s₁ B hml hv
  obtain ⟨rfl, ⟨⟨hsz, hP, hK, hD0, hNx⟩, hz1, hz2, hny⟩, hnq⟩ := hv
  subst hsz
  have hD := hD0.self (sz := s.heap.size)
  generalize hAe : va_A (ww ad cA L rs u) s.heap.size = A at hD hz1 hz2 ⊢
  have hA : ∀ q, s.heap.size ≤ q → A q := fun q h => by rw [← hAe]; exact Or.inr h
  have hl := lv_entry ([.ref (ad x0), .int x1, .int x2, .int x3]) (n := 5) (Nat.le_of_ble_eq_true rfl)
  rw [lg_entry_eq]
  generalize (lg_sl ([.ref (ad x0), .int x1, .int x2, .int x3]) ++ List.replicate (5 - (lg_sl ([.ref (ad x0), .int x1, .int x2, .int x3])).length) Slot.unset).toArray = ls at hl ⊢
  have hpre := atoms_spec (ws := wsLw_imported) B.pre
  have hnm : meth.name = "imported" := (name_of_methodNamed B.named B.method).1
  have htab := tab_of B (hpre _ List.mem_cons_self)
  exact wk_Lw_imported_0 ⟨B.exec, B.bytes, hml, findClass_of_methodNamed B.named, hts_bw hpre, B.returns, B.notSynchronized, hK, hA, fun v => ww_D hD, hN, hal, hNx⟩ ⟨hlt, htab, hz1, hz2, hny, hnq⟩ F out u x0 x1 x2 x3 h q0 _ _ _ (lv_sub hl [0, 1, 2, 3] rfl) hP va_S.rf
end
abbrev yLw_exported : MethodName := ⟨"ImageForgeLaw", "exported", "(LImageForge;IZ)I"⟩
abbrev cLw_exported : ByteArray := method_7_code
abbrev wsLw_exported : List Cond := .codeWith yLw_exported cLw_exported 4 (some .int) [((0 : Nat), (6 : Nat), (9 : Nat), (13 : Nat))] :: bw
theorem gdLw_exported : GoodIn bw wsLw_exported := gd_of tw_499
theorem hdLw_exported : yLw_exported.cls ≠ "java/lang/invoke/MethodHandle" ∧ yLw_exported.cls ≠ "java/lang/invoke/VarHandle" ∧ (parseMethodDescriptor yLw_exported.desc).map (fun d => d.parameters.length) = some 3 := by decide +kernel
theorem dLw_exported_0 : decode cLw_exported 0 = .ok (.aload_n 0, 1) := by decide +kernel
theorem dLw_exported_1 : decode cLw_exported 1 = .ok (.iload_n 1, 1) := by decide +kernel
theorem dLw_exported_2 : decode cLw_exported 2 = .ok (.iload_n 2, 1) := by decide +kernel
theorem dLw_exported_3 : decode cLw_exported 3 = .ok (.invokevirtual 29, 3) := by decide +kernel
theorem dLw_exported_6 : decode cLw_exported 6 = .ok (.goto 6, 3) := by decide +kernel
theorem dLw_exported_9 : decode cLw_exported 9 = .ok (.astore_n 3, 1) := by decide +kernel
theorem dLw_exported_10 : decode cLw_exported 10 = .ok (.iconst 1, 1) := by decide +kernel
theorem dLw_exported_11 : decode cLw_exported 11 = .ok (.ireturn, 1) := by decide +kernel
theorem dLw_exported_12 : decode cLw_exported 12 = .ok (.iconst 0, 1) := by decide +kernel
theorem dLw_exported_13 : decode cLw_exported 13 = .ok (.ireturn, 1) := by decide +kernel
section
variable {p : Program} {l : Launch} {e : Env} {s : State} {m : MethodId} {args : Array Value} {below : List Frame} {meth : Method} {c : Code} {D : va_G} {cA : Nat → ClassId} {ad : Nat → Nat} {L : List Nat} {rs : va_W} {al : Nat → Bool} {sl : Nat → Option Nat} {A : Nat → Prop}
abbrev rm_Lw_exported : Room := { frames := 7, cells := 1, slots := 6, locals := 122 }
def bk_Lw_exported_0 (F : Nat) (al : Nat → Bool) (u : Mr) (x0 : Nat) (x1 : Int32) (x2 : Int32) : Option (Mr × Int32) := bd2 (fn_Fg_exported F al u x0 x1 x2) fun u1 r1 => (if r1.1 = 0 then (some (u1, (0 : Int32))) else (if r1.1 = 1 then (some (u1, (1 : Int32))) else (none)))
set_option maxHeartbeats 4000000 in
set_option maxRecDepth 100000 in
theorem wk_Lw_exported_0 (cx : Cx p l e s m args below meth c cLw_exported 4 bw "ImageForgeLaw" (some .int) D cA ad L rs al A) (ch : Ch l s c A [(0, 6, 9, 13)]) (F : Nat) (out : Mr × Int32) : ∀ (u : Mr) (x0 : Nat) (x1 : Int32) (x2 : Int32), bk_Lw_exported_0 F al u x0 x1 x2 = some out → okk al 1 x0 = true → Wb p l e rm_Lw_exported s m args below meth c D cA ad L rs A (QIh below args s D cA ad L rs A out) 4 0 [(0, .ref (ad x0)), (1, .int x1), (2, .int x2)] [] u := by
  obtain ⟨hx, hb, hml, hown, hts, hr, hlocks, hK, hA, hD, hN, hal, hNx⟩ := cx
  obtain ⟨hlt, htab, hz1, hz2, hny, hnq⟩ := ch
  intro u x0 x1 x2 h q0 H locs ls hl hP hS
  unfold bk_Lw_exported_0 at h
  refine lv_aload_n hx hb dLw_exported_0 rfl (lv_at hl 0 rfl) ?_
  refine lv_iload_n hx hb dLw_exported_1 rfl (lv_at hl 1 rfl) ?_
  refine lv_iload_n hx hb dLw_exported_2 rfl (lv_at hl 2 rfl) ?_
  obtain ⟨u1, r1, hc1, h⟩ := bd2_some h
  refine x_callX (As := [.int x1, .int x2]) (rest := []) (u := u) (out := (u1, r1)) ⟨hx, hb, hml, hown, hts⟩ hA hD hS (ct_Fg_exported hlt hal hN F u x0 x1 x2 (u1, r1) hc1 q0) ⟨callB_of 2 hts gdFg_exported rfl rfl rfl (hts _ tw_1) (hts _ tw_500) hdFg_exported ⟨Nat.le_of_ble_eq_true rfl, Nat.le_of_ble_eq_true rfl⟩, (hts _ tw_501), (hts _ tw_502)⟩ (x_preVX hK hD hNx hP hS hA hz1 hz2 hny (hal _ (okk_al q0)) (okk_t q0) rfl rfl) rfl hl.1 rfl (lv_room (Nat.le_of_ble_eq_true rfl)) dLw_exported_3 ⟨Nat.le_of_ble_eq_true rfl, Nat.le_of_ble_eq_true rfl⟩ (fun hk H locs hP hS => ?_) (fun hk => ?_)
  · replace h := it_t h hk
    refine lv_goto (tgt := 12) hx hb dLw_exported_6 rfl ?_
    refine lv_iconst (v := 0) hx hb dLw_exported_12 (by decide) ?_
    exact x_iretH hx hb hr hlocks h hP hS (Nat.le_of_ble_eq_true rfl) (Nat.le_of_ble_eq_true rfl) dLw_exported_13
  · replace h := it_f h hk
    obtain ⟨xA, htl, a1, a2, a3, a4⟩ := tab1 htab
    by_cases hk0 : r1.1 = 1
    · replace h := it_t h hk0
      refine ⟨[], xA, [], "java/lang/IllegalArgumentException", htl, by simp only [covers, a1, a2]; decide, by rw [a4]; decide, by rw [a4]; exact (hts _ tw_245), ?_, ?_, ?_⟩
      · show (Cond.castable (exn r1.1) _).before _ _ = true
        rw [hk0]
        exact va_Nw.use rfl (hny.2.1 ("java/lang/IllegalArgumentException", "java/lang/IllegalArgumentException") (by decide +kernel))
      · intro y hy
        cases hy
      · intro q9 H locs hP hS
        rw [a3]
        refine lv_astore_n (lv' := [(3, .ref q9), (0, .ref (ad x0)), (1, .int x1), (2, .int x2)]) hx hb dLw_exported_9 rfl hl (by decide) rfl (fun ls hl => ?_)
        refine lv_iconst (v := 1) hx hb dLw_exported_10 (by decide) ?_
        exact x_iretH hx hb hr hlocks h hP hS (Nat.le_of_ble_eq_true rfl) (Nat.le_of_ble_eq_true rfl) dLw_exported_11
    replace h := it_f h hk0
    cases h
def fn_Lw_exported (F : Nat) (al : Nat → Bool) (u : Mr) (x0 : Nat) (x1 : Int32) (x2 : Int32) : Option (Mr × Int32) := bk_Lw_exported_0 F al u x0 x1 x2
set_option maxHeartbeats 4000000 in
set_option maxRecDepth 100000 in
theorem ct_Lw_exported {l : Launch} (hlt : l.stackTraces = false) {D : va_G} {cA : Nat → ClassId} {ad : Nat → Nat} {L : List Nat} {rs : va_W} {al : Nat → Bool} (hal : ∀ k, al k = true → k ∈ L) (hN : L.Nodup) (F : Nat) (u : Mr) (x0 : Nat) (x1 : Int32) (x2 : Int32) (out : Mr × Int32) (h : fn_Lw_exported F al u x0 x1 x2 = some out) (q0 : okk al 1 x0 = true) : CtH l yLw_exported wsLw_exported rm_Lw_exported [.ref (ad x0), .int x1, .int x2] D cA ad L rs u out := by
  intro sz
  refine va_MetW (cc := cLw_exported) (maxL := 4) (ret := some .int) (hh := [(0, 6, 9, 13)]) (by decide) rfl ?_
  intro p e s m args below meth c s₁ B hml hv
  obtain ⟨rfl, ⟨⟨hsz, hP, hK, hD0, hNx⟩, hz1, hz2, hny⟩, hnq⟩ := hv
  subst hsz
  have hD := hD0.self (sz := s.heap.size)
  generalize hAe : va_A (ww ad cA L rs u) s.heap.size = A at hD hz1 hz2 ⊢
  have hA : ∀ q, s.heap.size ≤ q → A q := fun q h => by rw [← hAe]; exact Or.inr h
  have hl := lv_entry ([.ref (ad x0), .int x1, .int x2]) (n := 4) (Nat.le_of_ble_eq_true rfl)
  rw [lg_entry_eq]
  generalize (lg_sl ([.ref (ad x0), .int x1, .int x2]) ++ List.replicate (4 - (lg_sl ([.ref (ad x0), .int x1, .int x2])).length) Slot.unset).toArray = ls at hl ⊢
  have hpre := atoms_spec (ws := wsLw_exported) B.pre
  have hnm : meth.name = "exported" := (name_of_methodNamed B.named B.method).1
  have htab := tab_of B (hpre _ List.mem_cons_self)
  exact wk_Lw_exported_0 ⟨B.exec, B.bytes, hml, findClass_of_methodNamed B.named, hts_bw hpre, B.returns, B.notSynchronized, hK, hA, fun v => ww_D hD, hN, hal, hNx⟩ ⟨hlt, htab, hz1, hz2, hny, hnq⟩ F out u x0 x1 x2 h q0 _ _ _ (lv_sub hl [0, 1, 2] rfl) hP va_S.rf
end
abbrev yLw_link : MethodName := ⟨"ImageForgeLaw", "link", "(LImageForge;[J)I"⟩
abbrev cLw_link : ByteArray := method_8_code
abbrev wsLw_link : List Cond := .codeWith yLw_link cLw_link 3 (some .int) [((0 : Nat), (8 : Nat), (11 : Nat), (15 : Nat)), ((0 : Nat), (8 : Nat), (14 : Nat), (37 : Nat))] :: bw
theorem gdLw_link : GoodIn bw wsLw_link := gd_of tw_507
theorem hdLw_link : yLw_link.cls ≠ "java/lang/invoke/MethodHandle" ∧ yLw_link.cls ≠ "java/lang/invoke/VarHandle" ∧ (parseMethodDescriptor yLw_link.desc).map (fun d => d.parameters.length) = some 2 := by decide +kernel
theorem dLw_link_0 : decode cLw_link 0 = .ok (.aload_n 1, 1) := by decide +kernel
theorem dLw_link_1 : decode cLw_link 1 = .ok (.iconst 0, 1) := by decide +kernel
theorem dLw_link_2 : decode cLw_link 2 = .ok (.aload_n 0, 1) := by decide +kernel
theorem dLw_link_3 : decode cLw_link 3 = .ok (.invokevirtual 33, 3) := by decide +kernel
theorem dLw_link_6 : decode cLw_link 6 = .ok (.i2l, 1) := by decide +kernel
theorem dLw_link_7 : decode cLw_link 7 = .ok (.lastore, 1) := by decide +kernel
theorem dLw_link_8 : decode cLw_link 8 = .ok (.goto 9, 3) := by decide +kernel
theorem dLw_link_11 : decode cLw_link 11 = .ok (.astore_n 2, 1) := by decide +kernel
theorem dLw_link_12 : decode cLw_link 12 = .ok (.iconst 1, 1) := by decide +kernel
theorem dLw_link_13 : decode cLw_link 13 = .ok (.ireturn, 1) := by decide +kernel
theorem dLw_link_14 : decode cLw_link 14 = .ok (.astore_n 2, 1) := by decide +kernel
theorem dLw_link_15 : decode cLw_link 15 = .ok (.iconst 2, 1) := by decide +kernel
theorem dLw_link_16 : decode cLw_link 16 = .ok (.ireturn, 1) := by decide +kernel
theorem dLw_link_17 : decode cLw_link 17 = .ok (.iconst 0, 1) := by decide +kernel
theorem dLw_link_18 : decode cLw_link 18 = .ok (.ireturn, 1) := by decide +kernel
section
variable {p : Program} {l : Launch} {e : Env} {s : State} {m : MethodId} {args : Array Value} {below : List Frame} {meth : Method} {c : Code} {D : va_G} {cA : Nat → ClassId} {ad : Nat → Nat} {L : List Nat} {rs : va_W} {al : Nat → Bool} {sl : Nat → Option Nat} {A : Nat → Prop}
abbrev rm_Lw_link : Room := { frames := 7, cells := 1, slots := 6, locals := 135 }
def bk_Lw_link_0 (F : Nat) (al : Nat → Bool) (u : Mr) (x0 : Nat) (x1 : Nat) : Option (Mr × Int32) := bd2 (fn_Fg_link F al u x0) fun u1 r1 => (if r1.1 = 0 then (some (stL u1 x1 (0 : Int32) r1.2.toInt64, (0 : Int32))) else (if r1.1 = 2 then (some (u1, (1 : Int32))) else (if r1.1 = 3 then (some (u1, (2 : Int32))) else (none))))
set_option maxHeartbeats 4000000 in
set_option maxRecDepth 100000 in
theorem wk_Lw_link_0 (cx : Cx p l e s m args below meth c cLw_link 3 bw "ImageForgeLaw" (some .int) D cA ad L rs al A) (ch : Ch l s c A [(0, 8, 11, 15), (0, 8, 14, 37)]) (F : Nat) (out : Mr × Int32) : ∀ (u : Mr) (x0 : Nat) (x1 : Nat), bk_Lw_link_0 F al u x0 x1 = some out → okk al 1 x0 = true → okk al 22 x1 = true → Wb p l e rm_Lw_link s m args below meth c D cA ad L rs A (QIh below args s D cA ad L rs A out) 3 0 [(0, .ref (ad x0)), (1, .ref (ad x1))] [] u := by
  obtain ⟨hx, hb, hml, hown, hts, hr, hlocks, hK, hA, hD, hN, hal, hNx⟩ := cx
  obtain ⟨hlt, htab, hz1, hz2, hny, hnq⟩ := ch
  intro u x0 x1 h q0 q1 H locs ls hl hP hS
  unfold bk_Lw_link_0 at h
  refine lv_aload_n hx hb dLw_link_0 rfl (lv_at hl 1 rfl) ?_
  refine lv_iconst (v := 0) hx hb dLw_link_1 (by decide) ?_
  refine lv_aload_n hx hb dLw_link_2 rfl (lv_at hl 0 rfl) ?_
  obtain ⟨u1, r1, hc1, h⟩ := bd2_some h
  refine x_callX (As := []) (rest := [.int (0 : Int32), .ref (ad x1)]) (u := u) (out := (u1, r1)) ⟨hx, hb, hml, hown, hts⟩ hA hD hS (ct_Fg_link hlt hal hN F u x0 (u1, r1) hc1 q0) ⟨callB_of 0 hts gdFg_link rfl rfl rfl (hts _ tw_1) (hts _ tw_509) hdFg_link ⟨Nat.le_of_ble_eq_true rfl, Nat.le_of_ble_eq_true rfl⟩, (hts _ tw_510), (hts _ tw_511)⟩ (x_preVX hK hD hNx hP hS hA hz1 hz2 hny (hal _ (okk_al q0)) (okk_t q0) rfl rfl) rfl hl.1 rfl (lv_room (Nat.le_of_ble_eq_true rfl)) dLw_link_3 ⟨Nat.le_of_ble_eq_true rfl, Nat.le_of_ble_eq_true rfl⟩ (fun hk H locs hP hS => ?_) (fun hk => ?_)
  · replace h := it_t h hk
    refine lv_i2l (v := r1.2.toInt64) hx hb dLw_link_6 rfl ?_
    refine x_last hx hb hK hD hN hP hS (hal _ (okk_al q1)) (okk_t q1) 3 (fun _ _ _ => rfl) rfl (by decide) (inb_in (show inb (0 : Int32) 1 = true by decide)) dLw_link_7 (fun H locs hP hS => ?_)
    refine lv_goto (tgt := 17) hx hb dLw_link_8 rfl ?_
    refine lv_iconst (v := 0) hx hb dLw_link_17 (by decide) ?_
    exact x_iretH hx hb hr hlocks h hP hS (Nat.le_of_ble_eq_true rfl) (Nat.le_of_ble_eq_true rfl) dLw_link_18
  · replace h := it_f h hk
    obtain ⟨xA, xB, htl, ⟨a1, a2, a3, a4⟩, b1, b2, b3, b4⟩ := tab2 htab
    by_cases hk0 : r1.1 = 2
    · replace h := it_t h hk0
      refine ⟨[], xA, [xB], "java/lang/IllegalStateException", htl, by simp only [covers, a1, a2]; decide, by rw [a4]; decide, by rw [a4]; exact (hts _ tw_246), ?_, ?_, ?_⟩
      · show (Cond.castable (exn r1.1) _).before _ _ = true
        rw [hk0]
        exact va_Nw.use rfl (hny.2.1 ("java/lang/IllegalStateException", "java/lang/IllegalStateException") (by decide +kernel))
      · intro y hy
        cases hy
      · intro q9 H locs hP hS
        rw [a3]
        refine lv_astore_n (lv' := [(2, .ref q9), (0, .ref (ad x0)), (1, .ref (ad x1))]) hx hb dLw_link_11 rfl hl (by decide) rfl (fun ls hl => ?_)
        refine lv_iconst (v := 1) hx hb dLw_link_12 (by decide) ?_
        exact x_iretH hx hb hr hlocks h hP hS (Nat.le_of_ble_eq_true rfl) (Nat.le_of_ble_eq_true rfl) dLw_link_13
    replace h := it_f h hk0
    by_cases hk1 : r1.1 = 3
    · replace h := it_t h hk1
      refine ⟨[xA], xB, [], "java/util/NoSuchElementException", htl, by simp only [covers, b1, b2]; decide, by rw [b4]; decide, by rw [b4]; exact (hts _ tw_508), ?_, ?_, ?_⟩
      · show (Cond.castable (exn r1.1) _).before _ _ = true
        rw [hk1]
        exact va_Nw.use rfl (hny.2.1 ("java/util/NoSuchElementException", "java/util/NoSuchElementException") (by decide +kernel))
      · intro y hy
        obtain rfl := List.mem_singleton.mp hy
        refine ⟨by rw [a4]; decide, "java/lang/IllegalStateException", by rw [a4]; exact (hts _ tw_246), ?_⟩
        show va_Nc (exn r1.1) _ s
        rw [hk1]
        exact hnq ("java/util/NoSuchElementException", "java/lang/IllegalStateException") (by decide +kernel)
      · intro q9 H locs hP hS
        rw [b3]
        refine lv_astore_n (lv' := [(2, .ref q9), (0, .ref (ad x0)), (1, .ref (ad x1))]) hx hb dLw_link_14 rfl hl (by decide) rfl (fun ls hl => ?_)
        refine lv_iconst (v := 2) hx hb dLw_link_15 (by decide) ?_
        exact x_iretH hx hb hr hlocks h hP hS (Nat.le_of_ble_eq_true rfl) (Nat.le_of_ble_eq_true rfl) dLw_link_16
    replace h := it_f h hk1
    cases h
def fn_Lw_link (F : Nat) (al : Nat → Bool) (u : Mr) (x0 : Nat) (x1 : Nat) : Option (Mr × Int32) := bk_Lw_link_0 F al u x0 x1
set_option maxHeartbeats 4000000 in
set_option maxRecDepth 100000 in
theorem ct_Lw_link {l : Launch} (hlt : l.stackTraces = false) {D : va_G} {cA : Nat → ClassId} {ad : Nat → Nat} {L : List Nat} {rs : va_W} {al : Nat → Bool} (hal : ∀ k, al k = true → k ∈ L) (hN : L.Nodup) (F : Nat) (u : Mr) (x0 : Nat) (x1 : Nat) (out : Mr × Int32) (h : fn_Lw_link F al u x0 x1 = some out) (q0 : okk al 1 x0 = true) (q1 : okk al 22 x1 = true) : CtH l yLw_link wsLw_link rm_Lw_link [.ref (ad x0), .ref (ad x1)] D cA ad L rs u out := by
  intro sz
  refine va_MetW (cc := cLw_link) (maxL := 3) (ret := some .int) (hh := [(0, 8, 11, 15), (0, 8, 14, 37)]) (by decide) rfl ?_
  intro p e s m args below meth c s₁ B hml hv
  obtain ⟨rfl, ⟨⟨hsz, hP, hK, hD0, hNx⟩, hz1, hz2, hny⟩, hnq⟩ := hv
  subst hsz
  have hD := hD0.self (sz := s.heap.size)
  generalize hAe : va_A (ww ad cA L rs u) s.heap.size = A at hD hz1 hz2 ⊢
  have hA : ∀ q, s.heap.size ≤ q → A q := fun q h => by rw [← hAe]; exact Or.inr h
  have hl := lv_entry ([.ref (ad x0), .ref (ad x1)]) (n := 3) (Nat.le_of_ble_eq_true rfl)
  rw [lg_entry_eq]
  generalize (lg_sl ([.ref (ad x0), .ref (ad x1)]) ++ List.replicate (3 - (lg_sl ([.ref (ad x0), .ref (ad x1)])).length) Slot.unset).toArray = ls at hl ⊢
  have hpre := atoms_spec (ws := wsLw_link) B.pre
  have hnm : meth.name = "link" := (name_of_methodNamed B.named B.method).1
  have htab := tab_of B (hpre _ List.mem_cons_self)
  exact wk_Lw_link_0 ⟨B.exec, B.bytes, hml, findClass_of_methodNamed B.named, hts_bw hpre, B.returns, B.notSynchronized, hK, hA, fun v => ww_D hD, hN, hal, hNx⟩ ⟨hlt, htab, hz1, hz2, hny, hnq⟩ F out u x0 x1 h q0 q1 _ _ _ (lv_sub hl [0, 1] rfl) hP va_S.rf
end
abbrev yLw_image : MethodName := ⟨"ImageForgeLaw", "image", "(LImageForge;I[J)I"⟩
abbrev cLw_image : ByteArray := method_9_code
abbrev wsLw_image : List Cond := .codeWith yLw_image cLw_image 4 (some .int) [((0 : Nat), (9 : Nat), (12 : Nat), (37 : Nat))] :: bw
theorem gdLw_image : GoodIn bw wsLw_image := gd_of tw_666
theorem hdLw_image : yLw_image.cls ≠ "java/lang/invoke/MethodHandle" ∧ yLw_image.cls ≠ "java/lang/invoke/VarHandle" ∧ (parseMethodDescriptor yLw_image.desc).map (fun d => d.parameters.length) = some 3 := by decide +kernel
theorem dLw_image_0 : decode cLw_image 0 = .ok (.aload_n 2, 1) := by decide +kernel
theorem dLw_image_1 : decode cLw_image 1 = .ok (.iconst 0, 1) := by decide +kernel
theorem dLw_image_2 : decode cLw_image 2 = .ok (.aload_n 0, 1) := by decide +kernel
theorem dLw_image_3 : decode cLw_image 3 = .ok (.iload_n 1, 1) := by decide +kernel
theorem dLw_image_4 : decode cLw_image 4 = .ok (.invokevirtual 39, 3) := by decide +kernel
theorem dLw_image_7 : decode cLw_image 7 = .ok (.i2l, 1) := by decide +kernel
theorem dLw_image_8 : decode cLw_image 8 = .ok (.lastore, 1) := by decide +kernel
theorem dLw_image_9 : decode cLw_image 9 = .ok (.goto 6, 3) := by decide +kernel
theorem dLw_image_12 : decode cLw_image 12 = .ok (.astore_n 3, 1) := by decide +kernel
theorem dLw_image_13 : decode cLw_image 13 = .ok (.iconst 1, 1) := by decide +kernel
theorem dLw_image_14 : decode cLw_image 14 = .ok (.ireturn, 1) := by decide +kernel
theorem dLw_image_15 : decode cLw_image 15 = .ok (.iconst 0, 1) := by decide +kernel
theorem dLw_image_16 : decode cLw_image 16 = .ok (.ireturn, 1) := by decide +kernel
section
variable {p : Program} {l : Launch} {e : Env} {s : State} {m : MethodId} {args : Array Value} {below : List Frame} {meth : Method} {c : Code} {D : va_G} {cA : Nat → ClassId} {ad : Nat → Nat} {L : List Nat} {rs : va_W} {al : Nat → Bool} {sl : Nat → Option Nat} {A : Nat → Prop}
abbrev rm_Lw_image : Room := { frames := 7, cells := 1, slots := 6, locals := 121 }
def bk_Lw_image_0 (F : Nat) (al : Nat → Bool) (u : Mr) (x0 : Nat) (x1 : Int32) (x2 : Nat) : Option (Mr × Int32) := bd2 (fn_Fg_image F al u x0 x1) fun u1 r1 => (if r1.1 = 0 then (some (stL u1 x2 (0 : Int32) r1.2.toInt64, (0 : Int32))) else (if r1.1 = 3 then (some (u1, (1 : Int32))) else (none)))
set_option maxHeartbeats 4000000 in
set_option maxRecDepth 100000 in
theorem wk_Lw_image_0 (cx : Cx p l e s m args below meth c cLw_image 4 bw "ImageForgeLaw" (some .int) D cA ad L rs al A) (ch : Ch l s c A [(0, 9, 12, 37)]) (F : Nat) (out : Mr × Int32) : ∀ (u : Mr) (x0 : Nat) (x1 : Int32) (x2 : Nat), bk_Lw_image_0 F al u x0 x1 x2 = some out → okk al 1 x0 = true → okk al 22 x2 = true → Wb p l e rm_Lw_image s m args below meth c D cA ad L rs A (QIh below args s D cA ad L rs A out) 4 0 [(0, .ref (ad x0)), (1, .int x1), (2, .ref (ad x2))] [] u := by
  obtain ⟨hx, hb, hml, hown, hts, hr, hlocks, hK, hA, hD, hN, hal, hNx⟩ := cx
  obtain ⟨hlt, htab, hz1, hz2, hny, hnq⟩ := ch
  intro u x0 x1 x2 h q0 q2 H locs ls hl hP hS
  unfold bk_Lw_image_0 at h
  refine lv_aload_n hx hb dLw_image_0 rfl (lv_at hl 2 rfl) ?_
  refine lv_iconst (v := 0) hx hb dLw_image_1 (by decide) ?_
  refine lv_aload_n hx hb dLw_image_2 rfl (lv_at hl 0 rfl) ?_
  refine lv_iload_n hx hb dLw_image_3 rfl (lv_at hl 1 rfl) ?_
  obtain ⟨u1, r1, hc1, h⟩ := bd2_some h
  refine x_callX (As := [.int x1]) (rest := [.int (0 : Int32), .ref (ad x2)]) (u := u) (out := (u1, r1)) ⟨hx, hb, hml, hown, hts⟩ hA hD hS (ct_Fg_image hlt hal hN F u x0 x1 (u1, r1) hc1 q0) ⟨callB_of 1 hts gdFg_image rfl rfl rfl (hts _ tw_1) (hts _ tw_667) hdFg_image ⟨Nat.le_of_ble_eq_true rfl, Nat.le_of_ble_eq_true rfl⟩, (hts _ tw_668), (hts _ tw_669)⟩ (x_preVX hK hD hNx hP hS hA hz1 hz2 hny (hal _ (okk_al q0)) (okk_t q0) rfl rfl) rfl hl.1 rfl (lv_room (Nat.le_of_ble_eq_true rfl)) dLw_image_4 ⟨Nat.le_of_ble_eq_true rfl, Nat.le_of_ble_eq_true rfl⟩ (fun hk H locs hP hS => ?_) (fun hk => ?_)
  · replace h := it_t h hk
    refine lv_i2l (v := r1.2.toInt64) hx hb dLw_image_7 rfl ?_
    refine x_last hx hb hK hD hN hP hS (hal _ (okk_al q2)) (okk_t q2) 3 (fun _ _ _ => rfl) rfl (by decide) (inb_in (show inb (0 : Int32) 1 = true by decide)) dLw_image_8 (fun H locs hP hS => ?_)
    refine lv_goto (tgt := 15) hx hb dLw_image_9 rfl ?_
    refine lv_iconst (v := 0) hx hb dLw_image_15 (by decide) ?_
    exact x_iretH hx hb hr hlocks h hP hS (Nat.le_of_ble_eq_true rfl) (Nat.le_of_ble_eq_true rfl) dLw_image_16
  · replace h := it_f h hk
    obtain ⟨xA, htl, a1, a2, a3, a4⟩ := tab1 htab
    by_cases hk0 : r1.1 = 3
    · replace h := it_t h hk0
      refine ⟨[], xA, [], "java/util/NoSuchElementException", htl, by simp only [covers, a1, a2]; decide, by rw [a4]; decide, by rw [a4]; exact (hts _ tw_508), ?_, ?_, ?_⟩
      · show (Cond.castable (exn r1.1) _).before _ _ = true
        rw [hk0]
        exact va_Nw.use rfl (hny.2.1 ("java/util/NoSuchElementException", "java/util/NoSuchElementException") (by decide +kernel))
      · intro y hy
        cases hy
      · intro q9 H locs hP hS
        rw [a3]
        refine lv_astore_n (lv' := [(3, .ref q9), (0, .ref (ad x0)), (1, .int x1), (2, .ref (ad x2))]) hx hb dLw_image_12 rfl hl (by decide) rfl (fun ls hl => ?_)
        refine lv_iconst (v := 1) hx hb dLw_image_13 (by decide) ?_
        exact x_iretH hx hb hr hlocks h hP hS (Nat.le_of_ble_eq_true rfl) (Nat.le_of_ble_eq_true rfl) dLw_image_14
    replace h := it_f h hk0
    cases h
def fn_Lw_image (F : Nat) (al : Nat → Bool) (u : Mr) (x0 : Nat) (x1 : Int32) (x2 : Nat) : Option (Mr × Int32) := bk_Lw_image_0 F al u x0 x1 x2
set_option maxHeartbeats 4000000 in
set_option maxRecDepth 100000 in
theorem ct_Lw_image {l : Launch} (hlt : l.stackTraces = false) {D : va_G} {cA : Nat → ClassId} {ad : Nat → Nat} {L : List Nat} {rs : va_W} {al : Nat → Bool} (hal : ∀ k, al k = true → k ∈ L) (hN : L.Nodup) (F : Nat) (u : Mr) (x0 : Nat) (x1 : Int32) (x2 : Nat) (out : Mr × Int32) (h : fn_Lw_image F al u x0 x1 x2 = some out) (q0 : okk al 1 x0 = true) (q2 : okk al 22 x2 = true) : CtH l yLw_image wsLw_image rm_Lw_image [.ref (ad x0), .int x1, .ref (ad x2)] D cA ad L rs u out := by
  intro sz
  refine va_MetW (cc := cLw_image) (maxL := 4) (ret := some .int) (hh := [(0, 9, 12, 37)]) (by decide) rfl ?_
  intro p e s m args below meth c s₁ B hml hv
  obtain ⟨rfl, ⟨⟨hsz, hP, hK, hD0, hNx⟩, hz1, hz2, hny⟩, hnq⟩ := hv
  subst hsz
  have hD := hD0.self (sz := s.heap.size)
  generalize hAe : va_A (ww ad cA L rs u) s.heap.size = A at hD hz1 hz2 ⊢
  have hA : ∀ q, s.heap.size ≤ q → A q := fun q h => by rw [← hAe]; exact Or.inr h
  have hl := lv_entry ([.ref (ad x0), .int x1, .ref (ad x2)]) (n := 4) (Nat.le_of_ble_eq_true rfl)
  rw [lg_entry_eq]
  generalize (lg_sl ([.ref (ad x0), .int x1, .ref (ad x2)]) ++ List.replicate (4 - (lg_sl ([.ref (ad x0), .int x1, .ref (ad x2)])).length) Slot.unset).toArray = ls at hl ⊢
  have hpre := atoms_spec (ws := wsLw_image) B.pre
  have hnm : meth.name = "image" := (name_of_methodNamed B.named B.method).1
  have htab := tab_of B (hpre _ List.mem_cons_self)
  exact wk_Lw_image_0 ⟨B.exec, B.bytes, hml, findClass_of_methodNamed B.named, hts_bw hpre, B.returns, B.notSynchronized, hK, hA, fun v => ww_D hD, hN, hal, hNx⟩ ⟨hlt, htab, hz1, hz2, hny, hnq⟩ F out u x0 x1 x2 h q0 q2 _ _ _ (lv_sub hl [0, 1, 2] rfl) hP va_S.rf
end
abbrev yLw_spoil : MethodName := ⟨"ImageForgeLaw", "spoil", "(LImageForge;II)I"⟩
abbrev cLw_spoil : ByteArray := method_10_code
abbrev wsLw_spoil : List Cond := .codeWith yLw_spoil cLw_spoil 4 (some .int) [((0 : Nat), (6 : Nat), (9 : Nat), (37 : Nat))] :: bw
theorem gdLw_spoil : GoodIn bw wsLw_spoil := gd_of tw_675
theorem hdLw_spoil : yLw_spoil.cls ≠ "java/lang/invoke/MethodHandle" ∧ yLw_spoil.cls ≠ "java/lang/invoke/VarHandle" ∧ (parseMethodDescriptor yLw_spoil.desc).map (fun d => d.parameters.length) = some 3 := by decide +kernel
theorem dLw_spoil_0 : decode cLw_spoil 0 = .ok (.aload_n 0, 1) := by decide +kernel
theorem dLw_spoil_1 : decode cLw_spoil 1 = .ok (.iload_n 1, 1) := by decide +kernel
theorem dLw_spoil_2 : decode cLw_spoil 2 = .ok (.iload_n 2, 1) := by decide +kernel
theorem dLw_spoil_3 : decode cLw_spoil 3 = .ok (.invokevirtual 43, 3) := by decide +kernel
theorem dLw_spoil_6 : decode cLw_spoil 6 = .ok (.goto 6, 3) := by decide +kernel
theorem dLw_spoil_9 : decode cLw_spoil 9 = .ok (.astore_n 3, 1) := by decide +kernel
theorem dLw_spoil_10 : decode cLw_spoil 10 = .ok (.iconst 1, 1) := by decide +kernel
theorem dLw_spoil_11 : decode cLw_spoil 11 = .ok (.ireturn, 1) := by decide +kernel
theorem dLw_spoil_12 : decode cLw_spoil 12 = .ok (.iconst 0, 1) := by decide +kernel
theorem dLw_spoil_13 : decode cLw_spoil 13 = .ok (.ireturn, 1) := by decide +kernel
section
variable {p : Program} {l : Launch} {e : Env} {s : State} {m : MethodId} {args : Array Value} {below : List Frame} {meth : Method} {c : Code} {D : va_G} {cA : Nat → ClassId} {ad : Nat → Nat} {L : List Nat} {rs : va_W} {al : Nat → Bool} {sl : Nat → Option Nat} {A : Nat → Prop}
abbrev rm_Lw_spoil : Room := { frames := 7, cells := 1, slots := 6, locals := 122 }
def bk_Lw_spoil_0 (F : Nat) (al : Nat → Bool) (u : Mr) (x0 : Nat) (x1 : Int32) (x2 : Int32) : Option (Mr × Int32) := bd2 (fn_Fg_spoil F al u x0 x1 x2) fun u1 r1 => (if r1.1 = 0 then (some (u1, (0 : Int32))) else (if r1.1 = 3 then (some (u1, (1 : Int32))) else (none)))
set_option maxHeartbeats 4000000 in
set_option maxRecDepth 100000 in
theorem wk_Lw_spoil_0 (cx : Cx p l e s m args below meth c cLw_spoil 4 bw "ImageForgeLaw" (some .int) D cA ad L rs al A) (ch : Ch l s c A [(0, 6, 9, 37)]) (F : Nat) (out : Mr × Int32) : ∀ (u : Mr) (x0 : Nat) (x1 : Int32) (x2 : Int32), bk_Lw_spoil_0 F al u x0 x1 x2 = some out → okk al 1 x0 = true → Wb p l e rm_Lw_spoil s m args below meth c D cA ad L rs A (QIh below args s D cA ad L rs A out) 4 0 [(0, .ref (ad x0)), (1, .int x1), (2, .int x2)] [] u := by
  obtain ⟨hx, hb, hml, hown, hts, hr, hlocks, hK, hA, hD, hN, hal, hNx⟩ := cx
  obtain ⟨hlt, htab, hz1, hz2, hny, hnq⟩ := ch
  intro u x0 x1 x2 h q0 H locs ls hl hP hS
  unfold bk_Lw_spoil_0 at h
  refine lv_aload_n hx hb dLw_spoil_0 rfl (lv_at hl 0 rfl) ?_
  refine lv_iload_n hx hb dLw_spoil_1 rfl (lv_at hl 1 rfl) ?_
  refine lv_iload_n hx hb dLw_spoil_2 rfl (lv_at hl 2 rfl) ?_
  obtain ⟨u1, r1, hc1, h⟩ := bd2_some h
  refine x_callX (As := [.int x1, .int x2]) (rest := []) (u := u) (out := (u1, r1)) ⟨hx, hb, hml, hown, hts⟩ hA hD hS (ct_Fg_spoil hlt hal hN F u x0 x1 x2 (u1, r1) hc1 q0) ⟨callB_of 2 hts gdFg_spoil rfl rfl rfl (hts _ tw_1) (hts _ tw_676) hdFg_spoil ⟨Nat.le_of_ble_eq_true rfl, Nat.le_of_ble_eq_true rfl⟩, (hts _ tw_677), (hts _ tw_678)⟩ (x_preVX hK hD hNx hP hS hA hz1 hz2 hny (hal _ (okk_al q0)) (okk_t q0) rfl rfl) rfl hl.1 rfl (lv_room (Nat.le_of_ble_eq_true rfl)) dLw_spoil_3 ⟨Nat.le_of_ble_eq_true rfl, Nat.le_of_ble_eq_true rfl⟩ (fun hk H locs hP hS => ?_) (fun hk => ?_)
  · replace h := it_t h hk
    refine lv_goto (tgt := 12) hx hb dLw_spoil_6 rfl ?_
    refine lv_iconst (v := 0) hx hb dLw_spoil_12 (by decide) ?_
    exact x_iretH hx hb hr hlocks h hP hS (Nat.le_of_ble_eq_true rfl) (Nat.le_of_ble_eq_true rfl) dLw_spoil_13
  · replace h := it_f h hk
    obtain ⟨xA, htl, a1, a2, a3, a4⟩ := tab1 htab
    by_cases hk0 : r1.1 = 3
    · replace h := it_t h hk0
      refine ⟨[], xA, [], "java/util/NoSuchElementException", htl, by simp only [covers, a1, a2]; decide, by rw [a4]; decide, by rw [a4]; exact (hts _ tw_508), ?_, ?_, ?_⟩
      · show (Cond.castable (exn r1.1) _).before _ _ = true
        rw [hk0]
        exact va_Nw.use rfl (hny.2.1 ("java/util/NoSuchElementException", "java/util/NoSuchElementException") (by decide +kernel))
      · intro y hy
        cases hy
      · intro q9 H locs hP hS
        rw [a3]
        refine lv_astore_n (lv' := [(3, .ref q9), (0, .ref (ad x0)), (1, .int x1), (2, .int x2)]) hx hb dLw_spoil_9 rfl hl (by decide) rfl (fun ls hl => ?_)
        refine lv_iconst (v := 1) hx hb dLw_spoil_10 (by decide) ?_
        exact x_iretH hx hb hr hlocks h hP hS (Nat.le_of_ble_eq_true rfl) (Nat.le_of_ble_eq_true rfl) dLw_spoil_11
    replace h := it_f h hk0
    cases h
def fn_Lw_spoil (F : Nat) (al : Nat → Bool) (u : Mr) (x0 : Nat) (x1 : Int32) (x2 : Int32) : Option (Mr × Int32) := bk_Lw_spoil_0 F al u x0 x1 x2
set_option maxHeartbeats 4000000 in
set_option maxRecDepth 100000 in
theorem ct_Lw_spoil {l : Launch} (hlt : l.stackTraces = false) {D : va_G} {cA : Nat → ClassId} {ad : Nat → Nat} {L : List Nat} {rs : va_W} {al : Nat → Bool} (hal : ∀ k, al k = true → k ∈ L) (hN : L.Nodup) (F : Nat) (u : Mr) (x0 : Nat) (x1 : Int32) (x2 : Int32) (out : Mr × Int32) (h : fn_Lw_spoil F al u x0 x1 x2 = some out) (q0 : okk al 1 x0 = true) : CtH l yLw_spoil wsLw_spoil rm_Lw_spoil [.ref (ad x0), .int x1, .int x2] D cA ad L rs u out := by
  intro sz
  refine va_MetW (cc := cLw_spoil) (maxL := 4) (ret := some .int) (hh := [(0, 6, 9, 37)]) (by decide) rfl ?_
  intro p e s m args below meth c s₁ B hml hv
  obtain ⟨rfl, ⟨⟨hsz, hP, hK, hD0, hNx⟩, hz1, hz2, hny⟩, hnq⟩ := hv
  subst hsz
  have hD := hD0.self (sz := s.heap.size)
  generalize hAe : va_A (ww ad cA L rs u) s.heap.size = A at hD hz1 hz2 ⊢
  have hA : ∀ q, s.heap.size ≤ q → A q := fun q h => by rw [← hAe]; exact Or.inr h
  have hl := lv_entry ([.ref (ad x0), .int x1, .int x2]) (n := 4) (Nat.le_of_ble_eq_true rfl)
  rw [lg_entry_eq]
  generalize (lg_sl ([.ref (ad x0), .int x1, .int x2]) ++ List.replicate (4 - (lg_sl ([.ref (ad x0), .int x1, .int x2])).length) Slot.unset).toArray = ls at hl ⊢
  have hpre := atoms_spec (ws := wsLw_spoil) B.pre
  have hnm : meth.name = "spoil" := (name_of_methodNamed B.named B.method).1
  have htab := tab_of B (hpre _ List.mem_cons_self)
  exact wk_Lw_spoil_0 ⟨B.exec, B.bytes, hml, findClass_of_methodNamed B.named, hts_bw hpre, B.returns, B.notSynchronized, hK, hA, fun v => ww_D hD, hN, hal, hNx⟩ ⟨hlt, htab, hz1, hz2, hny, hnq⟩ F out u x0 x1 x2 h q0 _ _ _ (lv_sub hl [0, 1, 2] rfl) hP va_S.rf
end
abbrev yLw_seal : MethodName := ⟨"ImageForgeLaw", "seal", "(LImageForge;[J)I"⟩
abbrev cLw_seal : ByteArray := method_11_code
abbrev wsLw_seal : List Cond := .codeWith yLw_seal cLw_seal 3 (some .int) [((0 : Nat), (8 : Nat), (11 : Nat), (15 : Nat))] :: bw
theorem gdLw_seal : GoodIn bw wsLw_seal := gd_of tw_686
theorem hdLw_seal : yLw_seal.cls ≠ "java/lang/invoke/MethodHandle" ∧ yLw_seal.cls ≠ "java/lang/invoke/VarHandle" ∧ (parseMethodDescriptor yLw_seal.desc).map (fun d => d.parameters.length) = some 2 := by decide +kernel
theorem dLw_seal_0 : decode cLw_seal 0 = .ok (.aload_n 1, 1) := by decide +kernel
theorem dLw_seal_1 : decode cLw_seal 1 = .ok (.iconst 0, 1) := by decide +kernel
theorem dLw_seal_2 : decode cLw_seal 2 = .ok (.aload_n 0, 1) := by decide +kernel
theorem dLw_seal_3 : decode cLw_seal 3 = .ok (.invokevirtual 47, 3) := by decide +kernel
theorem dLw_seal_6 : decode cLw_seal 6 = .ok (.i2l, 1) := by decide +kernel
theorem dLw_seal_7 : decode cLw_seal 7 = .ok (.lastore, 1) := by decide +kernel
theorem dLw_seal_8 : decode cLw_seal 8 = .ok (.goto 6, 3) := by decide +kernel
theorem dLw_seal_11 : decode cLw_seal 11 = .ok (.astore_n 2, 1) := by decide +kernel
theorem dLw_seal_12 : decode cLw_seal 12 = .ok (.iconst 1, 1) := by decide +kernel
theorem dLw_seal_13 : decode cLw_seal 13 = .ok (.ireturn, 1) := by decide +kernel
theorem dLw_seal_14 : decode cLw_seal 14 = .ok (.iconst 0, 1) := by decide +kernel
theorem dLw_seal_15 : decode cLw_seal 15 = .ok (.ireturn, 1) := by decide +kernel
section
variable {p : Program} {l : Launch} {e : Env} {s : State} {m : MethodId} {args : Array Value} {below : List Frame} {meth : Method} {c : Code} {D : va_G} {cA : Nat → ClassId} {ad : Nat → Nat} {L : List Nat} {rs : va_W} {al : Nat → Bool} {sl : Nat → Option Nat} {A : Nat → Prop}
abbrev rm_Lw_seal : Room := { frames := 7, cells := 1, slots := 6, locals := 121 }
def bk_Lw_seal_0 (F : Nat) (al : Nat → Bool) (u : Mr) (x0 : Nat) (x1 : Nat) : Option (Mr × Int32) := bd2 (fn_Fg_seal F al u x0) fun u1 r1 => (if r1.1 = 0 then (some (stL u1 x1 (0 : Int32) r1.2.toInt64, (0 : Int32))) else (if r1.1 = 2 then (some (u1, (1 : Int32))) else (none)))
set_option maxHeartbeats 4000000 in
set_option maxRecDepth 100000 in
theorem wk_Lw_seal_0 (cx : Cx p l e s m args below meth c cLw_seal 3 bw "ImageForgeLaw" (some .int) D cA ad L rs al A) (ch : Ch l s c A [(0, 8, 11, 15)]) (F : Nat) (out : Mr × Int32) : ∀ (u : Mr) (x0 : Nat) (x1 : Nat), bk_Lw_seal_0 F al u x0 x1 = some out → okk al 1 x0 = true → okk al 22 x1 = true → Wb p l e rm_Lw_seal s m args below meth c D cA ad L rs A (QIh below args s D cA ad L rs A out) 3 0 [(0, .ref (ad x0)), (1, .ref (ad x1))] [] u := by
  obtain ⟨hx, hb, hml, hown, hts, hr, hlocks, hK, hA, hD, hN, hal, hNx⟩ := cx
  obtain ⟨hlt, htab, hz1, hz2, hny, hnq⟩ := ch
  intro u x0 x1 h q0 q1 H locs ls hl hP hS
  unfold bk_Lw_seal_0 at h
  refine lv_aload_n hx hb dLw_seal_0 rfl (lv_at hl 1 rfl) ?_
  refine lv_iconst (v := 0) hx hb dLw_seal_1 (by decide) ?_
  refine lv_aload_n hx hb dLw_seal_2 rfl (lv_at hl 0 rfl) ?_
  obtain ⟨u1, r1, hc1, h⟩ := bd2_some h
  refine x_callX (As := []) (rest := [.int (0 : Int32), .ref (ad x1)]) (u := u) (out := (u1, r1)) ⟨hx, hb, hml, hown, hts⟩ hA hD hS (ct_Fg_seal hlt hal hN F u x0 (u1, r1) hc1 q0) ⟨callB_of 0 hts gdFg_seal rfl rfl rfl (hts _ tw_1) (hts _ tw_687) hdFg_seal ⟨Nat.le_of_ble_eq_true rfl, Nat.le_of_ble_eq_true rfl⟩, (hts _ tw_688), (hts _ tw_689)⟩ (x_preVX hK hD hNx hP hS hA hz1 hz2 hny (hal _ (okk_al q0)) (okk_t q0) rfl rfl) rfl hl.1 rfl (lv_room (Nat.le_of_ble_eq_true rfl)) dLw_seal_3 ⟨Nat.le_of_ble_eq_true rfl, Nat.le_of_ble_eq_true rfl⟩ (fun hk H locs hP hS => ?_) (fun hk => ?_)
  · replace h := it_t h hk
    refine lv_i2l (v := r1.2.toInt64) hx hb dLw_seal_6 rfl ?_
    refine x_last hx hb hK hD hN hP hS (hal _ (okk_al q1)) (okk_t q1) 3 (fun _ _ _ => rfl) rfl (by decide) (inb_in (show inb (0 : Int32) 1 = true by decide)) dLw_seal_7 (fun H locs hP hS => ?_)
    refine lv_goto (tgt := 14) hx hb dLw_seal_8 rfl ?_
    refine lv_iconst (v := 0) hx hb dLw_seal_14 (by decide) ?_
    exact x_iretH hx hb hr hlocks h hP hS (Nat.le_of_ble_eq_true rfl) (Nat.le_of_ble_eq_true rfl) dLw_seal_15
  · replace h := it_f h hk
    obtain ⟨xA, htl, a1, a2, a3, a4⟩ := tab1 htab
    by_cases hk0 : r1.1 = 2
    · replace h := it_t h hk0
      refine ⟨[], xA, [], "java/lang/IllegalStateException", htl, by simp only [covers, a1, a2]; decide, by rw [a4]; decide, by rw [a4]; exact (hts _ tw_246), ?_, ?_, ?_⟩
      · show (Cond.castable (exn r1.1) _).before _ _ = true
        rw [hk0]
        exact va_Nw.use rfl (hny.2.1 ("java/lang/IllegalStateException", "java/lang/IllegalStateException") (by decide +kernel))
      · intro y hy
        cases hy
      · intro q9 H locs hP hS
        rw [a3]
        refine lv_astore_n (lv' := [(2, .ref q9), (0, .ref (ad x0)), (1, .ref (ad x1))]) hx hb dLw_seal_11 rfl hl (by decide) rfl (fun ls hl => ?_)
        refine lv_iconst (v := 1) hx hb dLw_seal_12 (by decide) ?_
        exact x_iretH hx hb hr hlocks h hP hS (Nat.le_of_ble_eq_true rfl) (Nat.le_of_ble_eq_true rfl) dLw_seal_13
    replace h := it_f h hk0
    cases h
def fn_Lw_seal (F : Nat) (al : Nat → Bool) (u : Mr) (x0 : Nat) (x1 : Nat) : Option (Mr × Int32) := bk_Lw_seal_0 F al u x0 x1
set_option maxHeartbeats 4000000 in
set_option maxRecDepth 100000 in
theorem ct_Lw_seal {l : Launch} (hlt : l.stackTraces = false) {D : va_G} {cA : Nat → ClassId} {ad : Nat → Nat} {L : List Nat} {rs : va_W} {al : Nat → Bool} (hal : ∀ k, al k = true → k ∈ L) (hN : L.Nodup) (F : Nat) (u : Mr) (x0 : Nat) (x1 : Nat) (out : Mr × Int32) (h : fn_Lw_seal F al u x0 x1 = some out) (q0 : okk al 1 x0 = true) (q1 : okk al 22 x1 = true) : CtH l yLw_seal wsLw_seal rm_Lw_seal [.ref (ad x0), .ref (ad x1)] D cA ad L rs u out := by
  intro sz
  refine va_MetW (cc := cLw_seal) (maxL := 3) (ret := some .int) (hh := [(0, 8, 11, 15)]) (by decide) rfl ?_
  intro p e s m args below meth c s₁ B hml hv
  obtain ⟨rfl, ⟨⟨hsz, hP, hK, hD0, hNx⟩, hz1, hz2, hny⟩, hnq⟩ := hv
  subst hsz
  have hD := hD0.self (sz := s.heap.size)
  generalize hAe : va_A (ww ad cA L rs u) s.heap.size = A at hD hz1 hz2 ⊢
  have hA : ∀ q, s.heap.size ≤ q → A q := fun q h => by rw [← hAe]; exact Or.inr h
  have hl := lv_entry ([.ref (ad x0), .ref (ad x1)]) (n := 3) (Nat.le_of_ble_eq_true rfl)
  rw [lg_entry_eq]
  generalize (lg_sl ([.ref (ad x0), .ref (ad x1)]) ++ List.replicate (3 - (lg_sl ([.ref (ad x0), .ref (ad x1)])).length) Slot.unset).toArray = ls at hl ⊢
  have hpre := atoms_spec (ws := wsLw_seal) B.pre
  have hnm : meth.name = "seal" := (name_of_methodNamed B.named B.method).1
  have htab := tab_of B (hpre _ List.mem_cons_self)
  exact wk_Lw_seal_0 ⟨B.exec, B.bytes, hml, findClass_of_methodNamed B.named, hts_bw hpre, B.returns, B.notSynchronized, hK, hA, fun v => ww_D hD, hN, hal, hNx⟩ ⟨hlt, htab, hz1, hz2, hny, hnq⟩ F out u x0 x1 h q0 q1 _ _ _ (lv_sub hl [0, 1] rfl) hP va_S.rf
end
abbrev yLw_offer : MethodName := ⟨"ImageForgeLaw", "offer", "(LImageForge;III)I"⟩
abbrev cLw_offer : ByteArray := method_12_code
abbrev wsLw_offer : List Cond := .codeWith yLw_offer cLw_offer 5 (some .int) [((0 : Nat), (7 : Nat), (10 : Nat), (13 : Nat))] :: bw
theorem gdLw_offer : GoodIn bw wsLw_offer := gd_of tw_700
theorem hdLw_offer : yLw_offer.cls ≠ "java/lang/invoke/MethodHandle" ∧ yLw_offer.cls ≠ "java/lang/invoke/VarHandle" ∧ (parseMethodDescriptor yLw_offer.desc).map (fun d => d.parameters.length) = some 4 := by decide +kernel
theorem dLw_offer_0 : decode cLw_offer 0 = .ok (.aload_n 0, 1) := by decide +kernel
theorem dLw_offer_1 : decode cLw_offer 1 = .ok (.iload_n 1, 1) := by decide +kernel
theorem dLw_offer_2 : decode cLw_offer 2 = .ok (.iload_n 2, 1) := by decide +kernel
theorem dLw_offer_3 : decode cLw_offer 3 = .ok (.iload_n 3, 1) := by decide +kernel
theorem dLw_offer_4 : decode cLw_offer 4 = .ok (.invokevirtual 50, 3) := by decide +kernel
theorem dLw_offer_7 : decode cLw_offer 7 = .ok (.goto 7, 3) := by decide +kernel
theorem dLw_offer_10 : decode cLw_offer 10 = .ok (.astore 4, 2) := by decide +kernel
theorem dLw_offer_12 : decode cLw_offer 12 = .ok (.iconst 1, 1) := by decide +kernel
theorem dLw_offer_13 : decode cLw_offer 13 = .ok (.ireturn, 1) := by decide +kernel
theorem dLw_offer_14 : decode cLw_offer 14 = .ok (.iconst 0, 1) := by decide +kernel
theorem dLw_offer_15 : decode cLw_offer 15 = .ok (.ireturn, 1) := by decide +kernel
section
variable {p : Program} {l : Launch} {e : Env} {s : State} {m : MethodId} {args : Array Value} {below : List Frame} {meth : Method} {c : Code} {D : va_G} {cA : Nat → ClassId} {ad : Nat → Nat} {L : List Nat} {rs : va_W} {al : Nat → Bool} {sl : Nat → Option Nat} {A : Nat → Prop}
abbrev rm_Lw_offer : Room := { frames := 7, cells := 1, slots := 6, locals := 123 }
def bk_Lw_offer_0 (F : Nat) (al : Nat → Bool) (u : Mr) (x0 : Nat) (x1 : Int32) (x2 : Int32) (x3 : Int32) : Option (Mr × Int32) := bd2 (fn_Fg_offer F al u x0 x1 x2 x3) fun u1 r1 => (if r1.1 = 0 then (some (u1, (0 : Int32))) else (if r1.1 = 1 then (some (u1, (1 : Int32))) else (none)))
set_option maxHeartbeats 4000000 in
set_option maxRecDepth 100000 in
theorem wk_Lw_offer_0 (cx : Cx p l e s m args below meth c cLw_offer 5 bw "ImageForgeLaw" (some .int) D cA ad L rs al A) (ch : Ch l s c A [(0, 7, 10, 13)]) (F : Nat) (out : Mr × Int32) : ∀ (u : Mr) (x0 : Nat) (x1 : Int32) (x2 : Int32) (x3 : Int32), bk_Lw_offer_0 F al u x0 x1 x2 x3 = some out → okk al 1 x0 = true → Wb p l e rm_Lw_offer s m args below meth c D cA ad L rs A (QIh below args s D cA ad L rs A out) 5 0 [(0, .ref (ad x0)), (1, .int x1), (2, .int x2), (3, .int x3)] [] u := by
  obtain ⟨hx, hb, hml, hown, hts, hr, hlocks, hK, hA, hD, hN, hal, hNx⟩ := cx
  obtain ⟨hlt, htab, hz1, hz2, hny, hnq⟩ := ch
  intro u x0 x1 x2 x3 h q0 H locs ls hl hP hS
  unfold bk_Lw_offer_0 at h
  refine lv_aload_n hx hb dLw_offer_0 rfl (lv_at hl 0 rfl) ?_
  refine lv_iload_n hx hb dLw_offer_1 rfl (lv_at hl 1 rfl) ?_
  refine lv_iload_n hx hb dLw_offer_2 rfl (lv_at hl 2 rfl) ?_
  refine lv_iload_n hx hb dLw_offer_3 rfl (lv_at hl 3 rfl) ?_
  obtain ⟨u1, r1, hc1, h⟩ := bd2_some h
  refine x_callX (As := [.int x1, .int x2, .int x3]) (rest := []) (u := u) (out := (u1, r1)) ⟨hx, hb, hml, hown, hts⟩ hA hD hS (ct_Fg_offer hlt hal hN F u x0 x1 x2 x3 (u1, r1) hc1 q0) ⟨callB_of 3 hts gdFg_offer rfl rfl rfl (hts _ tw_1) (hts _ tw_701) hdFg_offer ⟨Nat.le_of_ble_eq_true rfl, Nat.le_of_ble_eq_true rfl⟩, (hts _ tw_702), (hts _ tw_703)⟩ (x_preVX hK hD hNx hP hS hA hz1 hz2 hny (hal _ (okk_al q0)) (okk_t q0) rfl rfl) rfl hl.1 rfl (lv_room (Nat.le_of_ble_eq_true rfl)) dLw_offer_4 ⟨Nat.le_of_ble_eq_true rfl, Nat.le_of_ble_eq_true rfl⟩ (fun hk H locs hP hS => ?_) (fun hk => ?_)
  · replace h := it_t h hk
    refine lv_goto (tgt := 14) hx hb dLw_offer_7 rfl ?_
    refine lv_iconst (v := 0) hx hb dLw_offer_14 (by decide) ?_
    exact x_iretH hx hb hr hlocks h hP hS (Nat.le_of_ble_eq_true rfl) (Nat.le_of_ble_eq_true rfl) dLw_offer_15
  · replace h := it_f h hk
    obtain ⟨xA, htl, a1, a2, a3, a4⟩ := tab1 htab
    by_cases hk0 : r1.1 = 1
    · replace h := it_t h hk0
      refine ⟨[], xA, [], "java/lang/IllegalArgumentException", htl, by simp only [covers, a1, a2]; decide, by rw [a4]; decide, by rw [a4]; exact (hts _ tw_245), ?_, ?_, ?_⟩
      · show (Cond.castable (exn r1.1) _).before _ _ = true
        rw [hk0]
        exact va_Nw.use rfl (hny.2.1 ("java/lang/IllegalArgumentException", "java/lang/IllegalArgumentException") (by decide +kernel))
      · intro y hy
        cases hy
      · intro q9 H locs hP hS
        rw [a3]
        refine lv_astore (lv' := [(4, .ref q9), (0, .ref (ad x0)), (1, .int x1), (2, .int x2), (3, .int x3)]) hx hb dLw_offer_10 hl (by decide) rfl (fun ls hl => ?_)
        refine lv_iconst (v := 1) hx hb dLw_offer_12 (by decide) ?_
        exact x_iretH hx hb hr hlocks h hP hS (Nat.le_of_ble_eq_true rfl) (Nat.le_of_ble_eq_true rfl) dLw_offer_13
    replace h := it_f h hk0
    cases h
def fn_Lw_offer (F : Nat) (al : Nat → Bool) (u : Mr) (x0 : Nat) (x1 : Int32) (x2 : Int32) (x3 : Int32) : Option (Mr × Int32) := bk_Lw_offer_0 F al u x0 x1 x2 x3
set_option maxHeartbeats 4000000 in
set_option maxRecDepth 100000 in
theorem ct_Lw_offer {l : Launch} (hlt : l.stackTraces = false) {D : va_G} {cA : Nat → ClassId} {ad : Nat → Nat} {L : List Nat} {rs : va_W} {al : Nat → Bool} (hal : ∀ k, al k = true → k ∈ L) (hN : L.Nodup) (F : Nat) (u : Mr) (x0 : Nat) (x1 : Int32) (x2 : Int32) (x3 : Int32) (out : Mr × Int32) (h : fn_Lw_offer F al u x0 x1 x2 x3 = some out) (q0 : okk al 1 x0 = true) : CtH l yLw_offer wsLw_offer rm_Lw_offer [.ref (ad x0), .int x1, .int x2, .int x3] D cA ad L rs u out := by
  intro sz
  refine va_MetW (cc := cLw_offer) (maxL := 5) (ret := some .int) (hh := [(0, 7, 10, 13)]) (by decide) rfl ?_
  intro p e s m args below meth c s₁ B hml hv
  obtain ⟨rfl, ⟨⟨hsz, hP, hK, hD0, hNx⟩, hz1, hz2, hny⟩, hnq⟩ := hv
  subst hsz
  have hD := hD0.self (sz := s.heap.size)
  generalize hAe : va_A (ww ad cA L rs u) s.heap.size = A at hD hz1 hz2 ⊢
  have hA : ∀ q, s.heap.size ≤ q → A q := fun q h => by rw [← hAe]; exact Or.inr h
  have hl := lv_entry ([.ref (ad x0), .int x1, .int x2, .int x3]) (n := 5) (Nat.le_of_ble_eq_true rfl)
  rw [lg_entry_eq]
  generalize (lg_sl ([.ref (ad x0), .int x1, .int x2, .int x3]) ++ List.replicate (5 - (lg_sl ([.ref (ad x0), .int x1, .int x2, .int x3])).length) Slot.unset).toArray = ls at hl ⊢
  have hpre := atoms_spec (ws := wsLw_offer) B.pre
  have hnm : meth.name = "offer" := (name_of_methodNamed B.named B.method).1
  have htab := tab_of B (hpre _ List.mem_cons_self)
  exact wk_Lw_offer_0 ⟨B.exec, B.bytes, hml, findClass_of_methodNamed B.named, hts_bw hpre, B.returns, B.notSynchronized, hK, hA, fun v => ww_D hD, hN, hal, hNx⟩ ⟨hlt, htab, hz1, hz2, hny, hnq⟩ F out u x0 x1 x2 x3 h q0 _ _ _ (lv_sub hl [0, 1, 2, 3] rfl) hP va_S.rf
end
abbrev yLw_load : MethodName := ⟨"ImageForgeLaw", "load", "(LImageForge;I[J)I"⟩
abbrev cLw_load : ByteArray := method_13_code
abbrev wsLw_load : List Cond := .codeWith yLw_load cLw_load 4 (some .int) [((0 : Nat), (9 : Nat), (12 : Nat), (13 : Nat)), ((0 : Nat), (9 : Nat), (15 : Nat), (15 : Nat))] :: bw
theorem gdLw_load : GoodIn bw wsLw_load := gd_of tw_708
theorem hdLw_load : yLw_load.cls ≠ "java/lang/invoke/MethodHandle" ∧ yLw_load.cls ≠ "java/lang/invoke/VarHandle" ∧ (parseMethodDescriptor yLw_load.desc).map (fun d => d.parameters.length) = some 3 := by decide +kernel
theorem dLw_load_0 : decode cLw_load 0 = .ok (.aload_n 2, 1) := by decide +kernel
theorem dLw_load_1 : decode cLw_load 1 = .ok (.iconst 0, 1) := by decide +kernel
theorem dLw_load_2 : decode cLw_load 2 = .ok (.aload_n 0, 1) := by decide +kernel
theorem dLw_load_3 : decode cLw_load 3 = .ok (.iload_n 1, 1) := by decide +kernel
theorem dLw_load_4 : decode cLw_load 4 = .ok (.invokevirtual 53, 3) := by decide +kernel
theorem dLw_load_7 : decode cLw_load 7 = .ok (.i2l, 1) := by decide +kernel
theorem dLw_load_8 : decode cLw_load 8 = .ok (.lastore, 1) := by decide +kernel
theorem dLw_load_9 : decode cLw_load 9 = .ok (.goto 9, 3) := by decide +kernel
theorem dLw_load_12 : decode cLw_load 12 = .ok (.astore_n 3, 1) := by decide +kernel
theorem dLw_load_13 : decode cLw_load 13 = .ok (.iconst 1, 1) := by decide +kernel
theorem dLw_load_14 : decode cLw_load 14 = .ok (.ireturn, 1) := by decide +kernel
theorem dLw_load_15 : decode cLw_load 15 = .ok (.astore_n 3, 1) := by decide +kernel
theorem dLw_load_16 : decode cLw_load 16 = .ok (.iconst 2, 1) := by decide +kernel
theorem dLw_load_17 : decode cLw_load 17 = .ok (.ireturn, 1) := by decide +kernel
theorem dLw_load_18 : decode cLw_load 18 = .ok (.iconst 0, 1) := by decide +kernel
theorem dLw_load_19 : decode cLw_load 19 = .ok (.ireturn, 1) := by decide +kernel
section
variable {p : Program} {l : Launch} {e : Env} {s : State} {m : MethodId} {args : Array Value} {below : List Frame} {meth : Method} {c : Code} {D : va_G} {cA : Nat → ClassId} {ad : Nat → Nat} {L : List Nat} {rs : va_W} {al : Nat → Bool} {sl : Nat → Option Nat} {A : Nat → Prop}
abbrev rm_Lw_load : Room := { frames := 7, cells := 1, slots := 6, locals := 169 }
def bk_Lw_load_0 (F : Nat) (al : Nat → Bool) (u : Mr) (x0 : Nat) (x1 : Int32) (x2 : Nat) : Option (Mr × Int32) := bd2 (fn_Fg_load F al u x0 x1) fun u1 r1 => (if r1.1 = 0 then (some (stL u1 x2 (0 : Int32) r1.2.toInt64, (0 : Int32))) else (if r1.1 = 1 then (some (u1, (1 : Int32))) else (if r1.1 = 2 then (some (u1, (2 : Int32))) else (none))))
set_option maxHeartbeats 4000000 in
set_option maxRecDepth 100000 in
theorem wk_Lw_load_0 (cx : Cx p l e s m args below meth c cLw_load 4 bw "ImageForgeLaw" (some .int) D cA ad L rs al A) (ch : Ch l s c A [(0, 9, 12, 13), (0, 9, 15, 15)]) (F : Nat) (out : Mr × Int32) : ∀ (u : Mr) (x0 : Nat) (x1 : Int32) (x2 : Nat), bk_Lw_load_0 F al u x0 x1 x2 = some out → okk al 1 x0 = true → okk al 22 x2 = true → Wb p l e rm_Lw_load s m args below meth c D cA ad L rs A (QIh below args s D cA ad L rs A out) 4 0 [(0, .ref (ad x0)), (1, .int x1), (2, .ref (ad x2))] [] u := by
  obtain ⟨hx, hb, hml, hown, hts, hr, hlocks, hK, hA, hD, hN, hal, hNx⟩ := cx
  obtain ⟨hlt, htab, hz1, hz2, hny, hnq⟩ := ch
  intro u x0 x1 x2 h q0 q2 H locs ls hl hP hS
  unfold bk_Lw_load_0 at h
  refine lv_aload_n hx hb dLw_load_0 rfl (lv_at hl 2 rfl) ?_
  refine lv_iconst (v := 0) hx hb dLw_load_1 (by decide) ?_
  refine lv_aload_n hx hb dLw_load_2 rfl (lv_at hl 0 rfl) ?_
  refine lv_iload_n hx hb dLw_load_3 rfl (lv_at hl 1 rfl) ?_
  obtain ⟨u1, r1, hc1, h⟩ := bd2_some h
  refine x_callX (As := [.int x1]) (rest := [.int (0 : Int32), .ref (ad x2)]) (u := u) (out := (u1, r1)) ⟨hx, hb, hml, hown, hts⟩ hA hD hS (ct_Fg_load hlt hal hN F u x0 x1 (u1, r1) hc1 q0) ⟨callB_of 1 hts gdFg_load rfl rfl rfl (hts _ tw_1) (hts _ tw_709) hdFg_load ⟨Nat.le_of_ble_eq_true rfl, Nat.le_of_ble_eq_true rfl⟩, (hts _ tw_710), (hts _ tw_711)⟩ (x_preVX hK hD hNx hP hS hA hz1 hz2 hny (hal _ (okk_al q0)) (okk_t q0) rfl rfl) rfl hl.1 rfl (lv_room (Nat.le_of_ble_eq_true rfl)) dLw_load_4 ⟨Nat.le_of_ble_eq_true rfl, Nat.le_of_ble_eq_true rfl⟩ (fun hk H locs hP hS => ?_) (fun hk => ?_)
  · replace h := it_t h hk
    refine lv_i2l (v := r1.2.toInt64) hx hb dLw_load_7 rfl ?_
    refine x_last hx hb hK hD hN hP hS (hal _ (okk_al q2)) (okk_t q2) 3 (fun _ _ _ => rfl) rfl (by decide) (inb_in (show inb (0 : Int32) 1 = true by decide)) dLw_load_8 (fun H locs hP hS => ?_)
    refine lv_goto (tgt := 18) hx hb dLw_load_9 rfl ?_
    refine lv_iconst (v := 0) hx hb dLw_load_18 (by decide) ?_
    exact x_iretH hx hb hr hlocks h hP hS (Nat.le_of_ble_eq_true rfl) (Nat.le_of_ble_eq_true rfl) dLw_load_19
  · replace h := it_f h hk
    obtain ⟨xA, xB, htl, ⟨a1, a2, a3, a4⟩, b1, b2, b3, b4⟩ := tab2 htab
    by_cases hk0 : r1.1 = 1
    · replace h := it_t h hk0
      refine ⟨[], xA, [xB], "java/lang/IllegalArgumentException", htl, by simp only [covers, a1, a2]; decide, by rw [a4]; decide, by rw [a4]; exact (hts _ tw_245), ?_, ?_, ?_⟩
      · show (Cond.castable (exn r1.1) _).before _ _ = true
        rw [hk0]
        exact va_Nw.use rfl (hny.2.1 ("java/lang/IllegalArgumentException", "java/lang/IllegalArgumentException") (by decide +kernel))
      · intro y hy
        cases hy
      · intro q9 H locs hP hS
        rw [a3]
        refine lv_astore_n (lv' := [(3, .ref q9), (0, .ref (ad x0)), (1, .int x1), (2, .ref (ad x2))]) hx hb dLw_load_12 rfl hl (by decide) rfl (fun ls hl => ?_)
        refine lv_iconst (v := 1) hx hb dLw_load_13 (by decide) ?_
        exact x_iretH hx hb hr hlocks h hP hS (Nat.le_of_ble_eq_true rfl) (Nat.le_of_ble_eq_true rfl) dLw_load_14
    replace h := it_f h hk0
    by_cases hk1 : r1.1 = 2
    · replace h := it_t h hk1
      refine ⟨[xA], xB, [], "java/lang/IllegalStateException", htl, by simp only [covers, b1, b2]; decide, by rw [b4]; decide, by rw [b4]; exact (hts _ tw_246), ?_, ?_, ?_⟩
      · show (Cond.castable (exn r1.1) _).before _ _ = true
        rw [hk1]
        exact va_Nw.use rfl (hny.2.1 ("java/lang/IllegalStateException", "java/lang/IllegalStateException") (by decide +kernel))
      · intro y hy
        obtain rfl := List.mem_singleton.mp hy
        refine ⟨by rw [a4]; decide, "java/lang/IllegalArgumentException", by rw [a4]; exact (hts _ tw_245), ?_⟩
        show va_Nc (exn r1.1) _ s
        rw [hk1]
        exact hnq ("java/lang/IllegalStateException", "java/lang/IllegalArgumentException") (by decide +kernel)
      · intro q9 H locs hP hS
        rw [b3]
        refine lv_astore_n (lv' := [(3, .ref q9), (0, .ref (ad x0)), (1, .int x1), (2, .ref (ad x2))]) hx hb dLw_load_15 rfl hl (by decide) rfl (fun ls hl => ?_)
        refine lv_iconst (v := 2) hx hb dLw_load_16 (by decide) ?_
        exact x_iretH hx hb hr hlocks h hP hS (Nat.le_of_ble_eq_true rfl) (Nat.le_of_ble_eq_true rfl) dLw_load_17
    replace h := it_f h hk1
    cases h
def fn_Lw_load (F : Nat) (al : Nat → Bool) (u : Mr) (x0 : Nat) (x1 : Int32) (x2 : Nat) : Option (Mr × Int32) := bk_Lw_load_0 F al u x0 x1 x2
set_option maxHeartbeats 4000000 in
set_option maxRecDepth 100000 in
theorem ct_Lw_load {l : Launch} (hlt : l.stackTraces = false) {D : va_G} {cA : Nat → ClassId} {ad : Nat → Nat} {L : List Nat} {rs : va_W} {al : Nat → Bool} (hal : ∀ k, al k = true → k ∈ L) (hN : L.Nodup) (F : Nat) (u : Mr) (x0 : Nat) (x1 : Int32) (x2 : Nat) (out : Mr × Int32) (h : fn_Lw_load F al u x0 x1 x2 = some out) (q0 : okk al 1 x0 = true) (q2 : okk al 22 x2 = true) : CtH l yLw_load wsLw_load rm_Lw_load [.ref (ad x0), .int x1, .ref (ad x2)] D cA ad L rs u out := by
  intro sz
  refine va_MetW (cc := cLw_load) (maxL := 4) (ret := some .int) (hh := [(0, 9, 12, 13), (0, 9, 15, 15)]) (by decide) rfl ?_
  intro p e s m args below meth c s₁ B hml hv
  obtain ⟨rfl, ⟨⟨hsz, hP, hK, hD0, hNx⟩, hz1, hz2, hny⟩, hnq⟩ := hv
  subst hsz
  have hD := hD0.self (sz := s.heap.size)
  generalize hAe : va_A (ww ad cA L rs u) s.heap.size = A at hD hz1 hz2 ⊢
  have hA : ∀ q, s.heap.size ≤ q → A q := fun q h => by rw [← hAe]; exact Or.inr h
  have hl := lv_entry ([.ref (ad x0), .int x1, .ref (ad x2)]) (n := 4) (Nat.le_of_ble_eq_true rfl)
  rw [lg_entry_eq]
  generalize (lg_sl ([.ref (ad x0), .int x1, .ref (ad x2)]) ++ List.replicate (4 - (lg_sl ([.ref (ad x0), .int x1, .ref (ad x2)])).length) Slot.unset).toArray = ls at hl ⊢
  have hpre := atoms_spec (ws := wsLw_load) B.pre
  have hnm : meth.name = "load" := (name_of_methodNamed B.named B.method).1
  have htab := tab_of B (hpre _ List.mem_cons_self)
  exact wk_Lw_load_0 ⟨B.exec, B.bytes, hml, findClass_of_methodNamed B.named, hts_bw hpre, B.returns, B.notSynchronized, hK, hA, fun v => ww_D hD, hN, hal, hNx⟩ ⟨hlt, htab, hz1, hz2, hny, hnq⟩ F out u x0 x1 x2 h q0 q2 _ _ _ (lv_sub hl [0, 1, 2] rfl) hP va_S.rf
end
abbrev yLw_refer : MethodName := ⟨"ImageForgeLaw", "refer", "(LImageForge;IIIII)I"⟩
abbrev cLw_refer : ByteArray := method_5_code
abbrev wsLw_refer : List Cond := .codeWith yLw_refer cLw_refer 7 (some .int) [((0 : Nat), (11 : Nat), (14 : Nat), (13 : Nat)), ((0 : Nat), (11 : Nat), (18 : Nat), (15 : Nat))] :: bw
theorem gdLw_refer : GoodIn bw wsLw_refer := gd_of tw_357
theorem hdLw_refer : yLw_refer.cls ≠ "java/lang/invoke/MethodHandle" ∧ yLw_refer.cls ≠ "java/lang/invoke/VarHandle" ∧ (parseMethodDescriptor yLw_refer.desc).map (fun d => d.parameters.length) = some 6 := by decide +kernel
theorem dLw_refer_0 : decode cLw_refer 0 = .ok (.aload_n 0, 1) := by decide +kernel
theorem dLw_refer_1 : decode cLw_refer 1 = .ok (.iload_n 1, 1) := by decide +kernel
theorem dLw_refer_2 : decode cLw_refer 2 = .ok (.iload_n 2, 1) := by decide +kernel
theorem dLw_refer_3 : decode cLw_refer 3 = .ok (.iload_n 3, 1) := by decide +kernel
theorem dLw_refer_4 : decode cLw_refer 4 = .ok (.iload 4, 2) := by decide +kernel
theorem dLw_refer_6 : decode cLw_refer 6 = .ok (.iload 5, 2) := by decide +kernel
theorem dLw_refer_8 : decode cLw_refer 8 = .ok (.invokevirtual 21, 3) := by decide +kernel
theorem dLw_refer_11 : decode cLw_refer 11 = .ok (.goto 11, 3) := by decide +kernel
theorem dLw_refer_14 : decode cLw_refer 14 = .ok (.astore 6, 2) := by decide +kernel
theorem dLw_refer_16 : decode cLw_refer 16 = .ok (.iconst 1, 1) := by decide +kernel
theorem dLw_refer_17 : decode cLw_refer 17 = .ok (.ireturn, 1) := by decide +kernel
theorem dLw_refer_18 : decode cLw_refer 18 = .ok (.astore 6, 2) := by decide +kernel
theorem dLw_refer_20 : decode cLw_refer 20 = .ok (.iconst 2, 1) := by decide +kernel
theorem dLw_refer_21 : decode cLw_refer 21 = .ok (.ireturn, 1) := by decide +kernel
theorem dLw_refer_22 : decode cLw_refer 22 = .ok (.iconst 0, 1) := by decide +kernel
theorem dLw_refer_23 : decode cLw_refer 23 = .ok (.ireturn, 1) := by decide +kernel
section
variable {p : Program} {l : Launch} {e : Env} {s : State} {m : MethodId} {args : Array Value} {below : List Frame} {meth : Method} {c : Code} {D : va_G} {cA : Nat → ClassId} {ad : Nat → Nat} {L : List Nat} {rs : va_W} {al : Nat → Bool} {sl : Nat → Option Nat} {A : Nat → Prop}
abbrev rm_Lw_refer : Room := { frames := 7, cells := 1, slots := 6, locals := 126 }
def bk_Lw_refer_0 (F : Nat) (al : Nat → Bool) (sl : Nat → Option Nat) (u : Mr) (x0 : Nat) (x1 : Int32) (x2 : Int32) (x3 : Int32) (x4 : Int32) (x5 : Int32) : Option (Mr × Int32) := bd2 (fn_Fg_refer F al sl 0 u x0 x1 x2 x3 x4 x5) fun u1 r1 => (if r1.1 = 0 then (some (u1, (0 : Int32))) else (if r1.1 = 1 then (some (u1, (1 : Int32))) else (if r1.1 = 2 then (some (u1, (2 : Int32))) else (none))))
set_option maxHeartbeats 4000000 in
set_option maxRecDepth 100000 in
theorem wk_Lw_refer_0 (cx : Cx p l e s m args below meth c cLw_refer 7 bw "ImageForgeLaw" (some .int) D cA ad (Ln sl 0 L) rs (aln al sl 0) A) (ch : Ch l s c A [(0, 11, 14, 13), (0, 11, 18, 15)]) (cz : Cz s meth "refer" ad L al sl 0 A) (F : Nat) (out : Mr × Int32) : ∀ (u : Mr) (x0 : Nat) (x1 : Int32) (x2 : Int32) (x3 : Int32) (x4 : Int32) (x5 : Int32), bk_Lw_refer_0 F al sl u x0 x1 x2 x3 x4 x5 = some out → okk (aln al sl 0) 1 x0 = true → Wb p l e rm_Lw_refer s m args below meth c D cA ad (Ln sl 0 L) rs A (QIhn below args s D cA ad (Ln sl 0 L) (Ln sl 1 L) rs A out 1 6) 7 0 [(0, .ref (ad x0)), (1, .int x1), (2, .int x2), (3, .int x3), (4, .int x4), (5, .int x5)] [] u := by
  obtain ⟨hx, hb, hml, hown, hts, hr, hlocks, hK, hA, hD, hN, hal, hNx⟩ := cx
  obtain ⟨hlt, htab, hz1, hz2, hny, hnq⟩ := ch
  obtain ⟨hal0, hla, hsl, hnm, hdZ, hdT, hno, hny⟩ := cz
  intro u x0 x1 x2 x3 x4 x5 h q0 H locs ls hl hP hS
  unfold bk_Lw_refer_0 at h
  refine lv_aload_n hx hb dLw_refer_0 rfl (lv_at hl 0 rfl) ?_
  refine lv_iload_n hx hb dLw_refer_1 rfl (lv_at hl 1 rfl) ?_
  refine lv_iload_n hx hb dLw_refer_2 rfl (lv_at hl 2 rfl) ?_
  refine lv_iload_n hx hb dLw_refer_3 rfl (lv_at hl 3 rfl) ?_
  refine lv_iload hx hb dLw_refer_4 (lv_at hl 4 rfl) ?_
  refine lv_iload hx hb dLw_refer_6 (lv_at hl 5 rfl) ?_
  obtain ⟨u1, r1, hc1, h⟩ := bd2_some h
  refine x_size hS.1 (fun hz => ?_)
  refine x_callXn (As := [.int x1, .int x2, .int x3, .int x4, .int x5]) (rest := []) (u := u) (out := (u1, r1)) ⟨hx, hb, hml, hown, hts⟩ hA hD hS (ct_Fg_refer hlt hal0 hla hN (sz := H.size) (x_hsl0 hsl hz) F u x0 x1 x2 x3 x4 x5 (u1, r1) hc1 q0) ⟨callB_of 5 hts gdFg_refer rfl rfl rfl (hts _ tw_1) (hts _ tw_358) hdFg_refer ⟨Nat.le_of_ble_eq_true rfl, Nat.le_of_ble_eq_true rfl⟩, (hts _ tw_359), (hts _ tw_360)⟩ (x_preVNX hK hD hNx hP hS hA hdZ hdT hno hny hz1 hz2 (hal _ (okk_al q0)) (okk_t q0) rfl rfl) rfl hl.1 rfl (lv_room (Nat.le_of_ble_eq_true rfl)) dLw_refer_8 ⟨Nat.le_of_ble_eq_true rfl, Nat.le_of_ble_eq_true rfl⟩ (fun hk H locs hP hD hN hS => ?_) (fun hk => ?_)
  · replace h := it_t h hk
    refine lv_goto (tgt := 22) hx hb dLw_refer_11 rfl ?_
    refine lv_iconst (v := 0) hx hb dLw_refer_22 (by decide) ?_
    exact x_iretHr hx hb hr hlocks h rfl hP hD hN hS (Nat.le_of_ble_eq_true rfl) (Nat.le_of_ble_eq_true rfl) dLw_refer_23
  · replace h := it_f h hk
    obtain ⟨xA, xB, htl, ⟨a1, a2, a3, a4⟩, b1, b2, b3, b4⟩ := tab2 htab
    by_cases hk0 : r1.1 = 1
    · replace h := it_t h hk0
      refine ⟨[], xA, [xB], "java/lang/IllegalArgumentException", htl, by simp only [covers, a1, a2]; decide, by rw [a4]; decide, by rw [a4]; exact (hts _ tw_245), ?_, ?_, ?_⟩
      · show (Cond.castable (exn r1.1) _).before _ _ = true
        rw [hk0]
        exact va_Nw.use rfl (hny.2.1 ("java/lang/IllegalArgumentException", "java/lang/IllegalArgumentException") (by decide +kernel))
      · intro y hy
        cases hy
      · intro q9 H locs hP hS
        rw [a3]
        refine lv_astore (lv' := [(6, .ref q9), (0, .ref (ad x0)), (1, .int x1), (2, .int x2), (3, .int x3), (4, .int x4), (5, .int x5)]) hx hb dLw_refer_14 hl (by decide) rfl (fun ls hl => ?_)
        refine lv_iconst (v := 1) hx hb dLw_refer_16 (by decide) ?_
        exact x_iretHt hx hb hr hlocks h (by decide) hP hS (Nat.le_of_ble_eq_true rfl) (Nat.le_of_ble_eq_true rfl) dLw_refer_17
    replace h := it_f h hk0
    by_cases hk1 : r1.1 = 2
    · replace h := it_t h hk1
      refine ⟨[xA], xB, [], "java/lang/IllegalStateException", htl, by simp only [covers, b1, b2]; decide, by rw [b4]; decide, by rw [b4]; exact (hts _ tw_246), ?_, ?_, ?_⟩
      · show (Cond.castable (exn r1.1) _).before _ _ = true
        rw [hk1]
        exact va_Nw.use rfl (hny.2.1 ("java/lang/IllegalStateException", "java/lang/IllegalStateException") (by decide +kernel))
      · intro y hy
        obtain rfl := List.mem_singleton.mp hy
        refine ⟨by rw [a4]; decide, "java/lang/IllegalArgumentException", by rw [a4]; exact (hts _ tw_245), ?_⟩
        show va_Nc (exn r1.1) _ s
        rw [hk1]
        exact hnq ("java/lang/IllegalStateException", "java/lang/IllegalArgumentException") (by decide +kernel)
      · intro q9 H locs hP hS
        rw [b3]
        refine lv_astore (lv' := [(6, .ref q9), (0, .ref (ad x0)), (1, .int x1), (2, .int x2), (3, .int x3), (4, .int x4), (5, .int x5)]) hx hb dLw_refer_18 hl (by decide) rfl (fun ls hl => ?_)
        refine lv_iconst (v := 2) hx hb dLw_refer_20 (by decide) ?_
        exact x_iretHt hx hb hr hlocks h (by decide) hP hS (Nat.le_of_ble_eq_true rfl) (Nat.le_of_ble_eq_true rfl) dLw_refer_21
    replace h := it_f h hk1
    cases h
def fn_Lw_refer (F : Nat) (al : Nat → Bool) (sl : Nat → Option Nat) (u : Mr) (x0 : Nat) (x1 : Int32) (x2 : Int32) (x3 : Int32) (x4 : Int32) (x5 : Int32) : Option (Mr × Int32) := bk_Lw_refer_0 F al sl u x0 x1 x2 x3 x4 x5
set_option maxHeartbeats 4000000 in
set_option maxRecDepth 100000 in
theorem ct_Lw_refer {l : Launch} (hlt : l.stackTraces = false) {D : va_G} {cA : Nat → ClassId} {ad : Nat → Nat} {L : List Nat} {rs : va_W} {al : Nat → Bool} {sl : Nat → Option Nat} {sz : Nat} (hal0 : ∀ k, al k = true → k ∈ L) (hla : ∀ k, k ∈ L → al k = true) (hN : (Ln sl 0 L).Nodup) (hsl : ∀ i k, sl i = some k → ad k + 0 = sz + i) (F : Nat) (u : Mr) (x0 : Nat) (x1 : Int32) (x2 : Int32) (x3 : Int32) (x4 : Int32) (x5 : Int32) (out : Mr × Int32) (h : fn_Lw_refer F al sl u x0 x1 x2 x3 x4 x5 = some out) (q0 : okk (aln al sl 0) 1 x0 = true) : CtHn l yLw_refer wsLw_refer rm_Lw_refer [.ref (ad x0), .int x1, .int x2, .int x3, .int x4, .int x5] D cA ad (Ln sl 0 L) (Ln sl 1 L) rs u out 1 6 sz := by
  refine va_MetW (cc := cLw_refer) (maxL := 7) (ret := some .int) (hh := [(0, 11, 14, 13), (0, 11, 18, 15)]) (by decide) rfl ?_
  intro p e s m args below meth c s₁ B hml hv
  obtain ⟨rfl, ⟨⟨⟨hsz, hP, hK, hD0, hNx⟩, hdZ, hdT, hno, hny⟩, hz1, hz2⟩, hnq⟩ := hv
  subst hsz
  have hD := hD0.self (sz := s.heap.size)
  generalize hAe : va_A (ww ad cA (Ln sl 0 L) rs u) s.heap.size = A at hD hdZ hdT hz1 hz2 ⊢
  have hA : ∀ q, s.heap.size ≤ q → A q := fun q h => by rw [← hAe]; exact Or.inr h
  have hl := lv_entry ([.ref (ad x0), .int x1, .int x2, .int x3, .int x4, .int x5]) (n := 7) (Nat.le_of_ble_eq_true rfl)
  rw [lg_entry_eq]
  generalize (lg_sl ([.ref (ad x0), .int x1, .int x2, .int x3, .int x4, .int x5]) ++ List.replicate (7 - (lg_sl ([.ref (ad x0), .int x1, .int x2, .int x3, .int x4, .int x5])).length) Slot.unset).toArray = ls at hl ⊢
  have hpre := atoms_spec (ws := wsLw_refer) B.pre
  have hnm : meth.name = "refer" := (name_of_methodNamed B.named B.method).1
  have htab := tab_of B (hpre _ List.mem_cons_self)
  exact wk_Lw_refer_0 ⟨B.exec, B.bytes, hml, findClass_of_methodNamed B.named, hts_bw hpre, B.returns, B.notSynchronized, hK, hA, fun v => ww_D hD, hN, (aln_in hal0 0), hNx⟩ ⟨hlt, htab, hz1, hz2, hny, hnq⟩ ⟨hal0, hla, hsl, hnm, hdZ, hdT, hno, hny⟩ F out u x0 x1 x2 x3 x4 x5 h q0 _ _ _ (lv_sub hl [0, 1, 2, 3, 4, 5] rfl) hP va_S.rf
end
abbrev yLw_referB : MethodName := ⟨"ImageForgeLaw", "refer", "(LImageForge;IIIII)I"⟩
abbrev cLw_referB : ByteArray := method_5_code
abbrev wsLw_referB : List Cond := .codeWith yLw_referB cLw_referB 7 (some .int) [((0 : Nat), (11 : Nat), (14 : Nat), (13 : Nat)), ((0 : Nat), (11 : Nat), (18 : Nat), (15 : Nat))] :: bw
theorem gdLw_referB : GoodIn bw wsLw_referB := gd_of tw_357
theorem hdLw_referB : yLw_referB.cls ≠ "java/lang/invoke/MethodHandle" ∧ yLw_referB.cls ≠ "java/lang/invoke/VarHandle" ∧ (parseMethodDescriptor yLw_referB.desc).map (fun d => d.parameters.length) = some 6 := by decide +kernel
theorem dLw_referB_0 : decode cLw_referB 0 = .ok (.aload_n 0, 1) := by decide +kernel
theorem dLw_referB_1 : decode cLw_referB 1 = .ok (.iload_n 1, 1) := by decide +kernel
theorem dLw_referB_2 : decode cLw_referB 2 = .ok (.iload_n 2, 1) := by decide +kernel
theorem dLw_referB_3 : decode cLw_referB 3 = .ok (.iload_n 3, 1) := by decide +kernel
theorem dLw_referB_4 : decode cLw_referB 4 = .ok (.iload 4, 2) := by decide +kernel
theorem dLw_referB_6 : decode cLw_referB 6 = .ok (.iload 5, 2) := by decide +kernel
theorem dLw_referB_8 : decode cLw_referB 8 = .ok (.invokevirtual 21, 3) := by decide +kernel
theorem dLw_referB_11 : decode cLw_referB 11 = .ok (.goto 11, 3) := by decide +kernel
theorem dLw_referB_14 : decode cLw_referB 14 = .ok (.astore 6, 2) := by decide +kernel
theorem dLw_referB_16 : decode cLw_referB 16 = .ok (.iconst 1, 1) := by decide +kernel
theorem dLw_referB_17 : decode cLw_referB 17 = .ok (.ireturn, 1) := by decide +kernel
theorem dLw_referB_18 : decode cLw_referB 18 = .ok (.astore 6, 2) := by decide +kernel
theorem dLw_referB_20 : decode cLw_referB 20 = .ok (.iconst 2, 1) := by decide +kernel
theorem dLw_referB_21 : decode cLw_referB 21 = .ok (.ireturn, 1) := by decide +kernel
theorem dLw_referB_22 : decode cLw_referB 22 = .ok (.iconst 0, 1) := by decide +kernel
theorem dLw_referB_23 : decode cLw_referB 23 = .ok (.ireturn, 1) := by decide +kernel
section
variable {p : Program} {l : Launch} {e : Env} {s : State} {m : MethodId} {args : Array Value} {below : List Frame} {meth : Method} {c : Code} {D : va_G} {cA : Nat → ClassId} {ad : Nat → Nat} {L : List Nat} {rs : va_W} {al : Nat → Bool} {sl : Nat → Option Nat} {A : Nat → Prop}
abbrev rm_Lw_referB : Room := { frames := 7, cells := 2, slots := 14, locals := 143 }
def bk_Lw_referB_0 (F : Nat) (al : Nat → Bool) (sl : Nat → Option Nat) (u : Mr) (x0 : Nat) (x1 : Int32) (x2 : Int32) (x3 : Int32) (x4 : Int32) (x5 : Int32) : Option (Mr × Int32) := bd2 (fn_Fg_referB F al sl 0 u x0 x1 x2 x3 x4 x5) fun u1 r1 => (if r1.1 = 0 then (some (u1, (0 : Int32))) else (if r1.1 = 1 then (some (u1, (1 : Int32))) else (if r1.1 = 2 then (some (u1, (2 : Int32))) else (none))))
set_option maxHeartbeats 4000000 in
set_option maxRecDepth 100000 in
theorem wk_Lw_referB_0 (cx : Cx p l e s m args below meth c cLw_referB 7 bw "ImageForgeLaw" (some .int) D cA ad (Ln sl 0 L) rs (aln al sl 0) A) (ch : Ch l s c A [(0, 11, 14, 13), (0, 11, 18, 15)]) (cz : Cz s meth "refer" ad L al sl 0 A) (F : Nat) (out : Mr × Int32) : ∀ (u : Mr) (x0 : Nat) (x1 : Int32) (x2 : Int32) (x3 : Int32) (x4 : Int32) (x5 : Int32), bk_Lw_referB_0 F al sl u x0 x1 x2 x3 x4 x5 = some out → okk (aln al sl 0) 1 x0 = true → Wb p l e rm_Lw_referB s m args below meth c D cA ad (Ln sl 0 L) rs A (QIhn below args s D cA ad (Ln sl 0 L) (Ln sl 2 L) rs A out 2 14) 7 0 [(0, .ref (ad x0)), (1, .int x1), (2, .int x2), (3, .int x3), (4, .int x4), (5, .int x5)] [] u := by
  obtain ⟨hx, hb, hml, hown, hts, hr, hlocks, hK, hA, hD, hN, hal, hNx⟩ := cx
  obtain ⟨hlt, htab, hz1, hz2, hny, hnq⟩ := ch
  obtain ⟨hal0, hla, hsl, hnm, hdZ, hdT, hno, hny⟩ := cz
  intro u x0 x1 x2 x3 x4 x5 h q0 H locs ls hl hP hS
  unfold bk_Lw_referB_0 at h
  refine lv_aload_n hx hb dLw_referB_0 rfl (lv_at hl 0 rfl) ?_
  refine lv_iload_n hx hb dLw_referB_1 rfl (lv_at hl 1 rfl) ?_
  refine lv_iload_n hx hb dLw_referB_2 rfl (lv_at hl 2 rfl) ?_
  refine lv_iload_n hx hb dLw_referB_3 rfl (lv_at hl 3 rfl) ?_
  refine lv_iload hx hb dLw_referB_4 (lv_at hl 4 rfl) ?_
  refine lv_iload hx hb dLw_referB_6 (lv_at hl 5 rfl) ?_
  obtain ⟨u1, r1, hc1, h⟩ := bd2_some h
  refine x_size hS.1 (fun hz => ?_)
  refine x_callXn (As := [.int x1, .int x2, .int x3, .int x4, .int x5]) (rest := []) (u := u) (out := (u1, r1)) ⟨hx, hb, hml, hown, hts⟩ hA hD hS (ct_Fg_referB hlt hal0 hla hN (sz := H.size) (x_hsl0 hsl hz) F u x0 x1 x2 x3 x4 x5 (u1, r1) hc1 q0) ⟨callB_of 5 hts gdFg_referB rfl rfl rfl (hts _ tw_1) (hts _ tw_358) hdFg_referB ⟨Nat.le_of_ble_eq_true rfl, Nat.le_of_ble_eq_true rfl⟩, (hts _ tw_359), (hts _ tw_360)⟩ (x_preVNX hK hD hNx hP hS hA hdZ hdT hno hny hz1 hz2 (hal _ (okk_al q0)) (okk_t q0) rfl rfl) rfl hl.1 rfl (lv_room (Nat.le_of_ble_eq_true rfl)) dLw_referB_8 ⟨Nat.le_of_ble_eq_true rfl, Nat.le_of_ble_eq_true rfl⟩ (fun hk H locs hP hD hN hS => ?_) (fun hk => ?_)
  · replace h := it_t h hk
    refine lv_goto (tgt := 22) hx hb dLw_referB_11 rfl ?_
    refine lv_iconst (v := 0) hx hb dLw_referB_22 (by decide) ?_
    exact x_iretHr hx hb hr hlocks h rfl hP hD hN hS (Nat.le_of_ble_eq_true rfl) (Nat.le_of_ble_eq_true rfl) dLw_referB_23
  · replace h := it_f h hk
    obtain ⟨xA, xB, htl, ⟨a1, a2, a3, a4⟩, b1, b2, b3, b4⟩ := tab2 htab
    by_cases hk0 : r1.1 = 1
    · replace h := it_t h hk0
      refine ⟨[], xA, [xB], "java/lang/IllegalArgumentException", htl, by simp only [covers, a1, a2]; decide, by rw [a4]; decide, by rw [a4]; exact (hts _ tw_245), ?_, ?_, ?_⟩
      · show (Cond.castable (exn r1.1) _).before _ _ = true
        rw [hk0]
        exact va_Nw.use rfl (hny.2.1 ("java/lang/IllegalArgumentException", "java/lang/IllegalArgumentException") (by decide +kernel))
      · intro y hy
        cases hy
      · intro q9 H locs hP hS
        rw [a3]
        refine lv_astore (lv' := [(6, .ref q9), (0, .ref (ad x0)), (1, .int x1), (2, .int x2), (3, .int x3), (4, .int x4), (5, .int x5)]) hx hb dLw_referB_14 hl (by decide) rfl (fun ls hl => ?_)
        refine lv_iconst (v := 1) hx hb dLw_referB_16 (by decide) ?_
        exact x_iretHt hx hb hr hlocks h (by decide) hP hS (Nat.le_of_ble_eq_true rfl) (Nat.le_of_ble_eq_true rfl) dLw_referB_17
    replace h := it_f h hk0
    by_cases hk1 : r1.1 = 2
    · replace h := it_t h hk1
      refine ⟨[xA], xB, [], "java/lang/IllegalStateException", htl, by simp only [covers, b1, b2]; decide, by rw [b4]; decide, by rw [b4]; exact (hts _ tw_246), ?_, ?_, ?_⟩
      · show (Cond.castable (exn r1.1) _).before _ _ = true
        rw [hk1]
        exact va_Nw.use rfl (hny.2.1 ("java/lang/IllegalStateException", "java/lang/IllegalStateException") (by decide +kernel))
      · intro y hy
        obtain rfl := List.mem_singleton.mp hy
        refine ⟨by rw [a4]; decide, "java/lang/IllegalArgumentException", by rw [a4]; exact (hts _ tw_245), ?_⟩
        show va_Nc (exn r1.1) _ s
        rw [hk1]
        exact hnq ("java/lang/IllegalStateException", "java/lang/IllegalArgumentException") (by decide +kernel)
      · intro q9 H locs hP hS
        rw [b3]
        refine lv_astore (lv' := [(6, .ref q9), (0, .ref (ad x0)), (1, .int x1), (2, .int x2), (3, .int x3), (4, .int x4), (5, .int x5)]) hx hb dLw_referB_18 hl (by decide) rfl (fun ls hl => ?_)
        refine lv_iconst (v := 2) hx hb dLw_referB_20 (by decide) ?_
        exact x_iretHt hx hb hr hlocks h (by decide) hP hS (Nat.le_of_ble_eq_true rfl) (Nat.le_of_ble_eq_true rfl) dLw_referB_21
    replace h := it_f h hk1
    cases h
def fn_Lw_referB (F : Nat) (al : Nat → Bool) (sl : Nat → Option Nat) (u : Mr) (x0 : Nat) (x1 : Int32) (x2 : Int32) (x3 : Int32) (x4 : Int32) (x5 : Int32) : Option (Mr × Int32) := bk_Lw_referB_0 F al sl u x0 x1 x2 x3 x4 x5
set_option maxHeartbeats 4000000 in
set_option maxRecDepth 100000 in
theorem ct_Lw_referB {l : Launch} (hlt : l.stackTraces = false) {D : va_G} {cA : Nat → ClassId} {ad : Nat → Nat} {L : List Nat} {rs : va_W} {al : Nat → Bool} {sl : Nat → Option Nat} {sz : Nat} (hal0 : ∀ k, al k = true → k ∈ L) (hla : ∀ k, k ∈ L → al k = true) (hN : (Ln sl 0 L).Nodup) (hsl : ∀ i k, sl i = some k → ad k + 0 = sz + i) (F : Nat) (u : Mr) (x0 : Nat) (x1 : Int32) (x2 : Int32) (x3 : Int32) (x4 : Int32) (x5 : Int32) (out : Mr × Int32) (h : fn_Lw_referB F al sl u x0 x1 x2 x3 x4 x5 = some out) (q0 : okk (aln al sl 0) 1 x0 = true) : CtHn l yLw_referB wsLw_referB rm_Lw_referB [.ref (ad x0), .int x1, .int x2, .int x3, .int x4, .int x5] D cA ad (Ln sl 0 L) (Ln sl 2 L) rs u out 2 14 sz := by
  refine va_MetW (cc := cLw_referB) (maxL := 7) (ret := some .int) (hh := [(0, 11, 14, 13), (0, 11, 18, 15)]) (by decide) rfl ?_
  intro p e s m args below meth c s₁ B hml hv
  obtain ⟨rfl, ⟨⟨⟨hsz, hP, hK, hD0, hNx⟩, hdZ, hdT, hno, hny⟩, hz1, hz2⟩, hnq⟩ := hv
  subst hsz
  have hD := hD0.self (sz := s.heap.size)
  generalize hAe : va_A (ww ad cA (Ln sl 0 L) rs u) s.heap.size = A at hD hdZ hdT hz1 hz2 ⊢
  have hA : ∀ q, s.heap.size ≤ q → A q := fun q h => by rw [← hAe]; exact Or.inr h
  have hl := lv_entry ([.ref (ad x0), .int x1, .int x2, .int x3, .int x4, .int x5]) (n := 7) (Nat.le_of_ble_eq_true rfl)
  rw [lg_entry_eq]
  generalize (lg_sl ([.ref (ad x0), .int x1, .int x2, .int x3, .int x4, .int x5]) ++ List.replicate (7 - (lg_sl ([.ref (ad x0), .int x1, .int x2, .int x3, .int x4, .int x5])).length) Slot.unset).toArray = ls at hl ⊢
  have hpre := atoms_spec (ws := wsLw_referB) B.pre
  have hnm : meth.name = "refer" := (name_of_methodNamed B.named B.method).1
  have htab := tab_of B (hpre _ List.mem_cons_self)
  exact wk_Lw_referB_0 ⟨B.exec, B.bytes, hml, findClass_of_methodNamed B.named, hts_bw hpre, B.returns, B.notSynchronized, hK, hA, fun v => ww_D hD, hN, (aln_in hal0 0), hNx⟩ ⟨hlt, htab, hz1, hz2, hny, hnq⟩ ⟨hal0, hla, hsl, hnm, hdZ, hdT, hno, hny⟩ F out u x0 x1 x2 x3 x4 x5 h q0 _ _ _ (lv_sub hl [0, 1, 2, 3, 4, 5] rfl) hP va_S.rf
end

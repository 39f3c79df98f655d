section
variable {p : Program} {l : Launch} {e : Env} {s : State} {m : MethodId} {args : Array Value} {below : List Frame} {meth : Method} {c : Code} {D : va_G} {cA : Nat → ClassId} {ad : Nat → Nat} {L : List Nat} {rs : va_W} {al : Nat → Bool} {A : Nat → Prop}
abbrev rm_Im_isNone : Room := { frames := 0, cells := 0, slots := 0, locals := 0 }
def bk_Im_isNone_0 (F : Nat) (al : Nat → Bool) (u : Mr) (x0 : Nat) : Option (Mr × Int32) := if (u.1 x0 1) = 0 then (some (u, (1 : Int32))) else (some (u, (0 : Int32)))
set_option maxHeartbeats 4000000 in
set_option maxRecDepth 100000 in
theorem wk_Im_isNone_0 (cx : Cx p l e s m args below meth c cIm_isNone 1 bw "ImageForge$Image" (some .boolean) D cA ad L rs al A) (F : Nat) (out : Mr × Int32) : ∀ (u : Mr) (x0 : Nat), bk_Im_isNone_0 F al u x0 = some out → okk al 6 x0 = true → Wb p l e rm_Im_isNone s m args below meth c D cA ad L rs A (QI below args s D cA ad L rs A out) 1 0 [(0, .ref (ad x0))] [] u := by
  obtain ⟨hx, hb, hml, hown, hts, hr, hlocks, hK, hA, hD, hN, hal, hNx⟩ := cx
  intro u x0 h q0 H locs ls hl hP hS
  unfold bk_Im_isNone_0 at h
  refine lv_aload_n hx hb dIm_isNone_0 rfl (lv_at hl 0 rfl) ?_
  refine x_get hx hb hts in_Im hown hK hP (hal _ (okk_al q0)) (okk_t q0) rfl rfl 1 (by decide) (hts _ tw_49) (fun _ h9 => h9) rfl dIm_isNone_1 ?_
  refine lv_if_ne (tgt := 11) hx hb dIm_isNone_4 rfl (fun hc => ?_) (fun hc => ?_)
  · replace h := it_f h hc
    refine lv_iconst (v := 0) hx hb dIm_isNone_11 (by decide) ?_
    exact x_zret hx hb hr hlocks rfl h hP hS dIm_isNone_12
  · replace h := it_t h hc
    refine lv_iconst (v := 1) hx hb dIm_isNone_7 (by decide) ?_
    refine lv_goto (tgt := 12) hx hb dIm_isNone_8 rfl ?_
    exact x_zret hx hb hr hlocks rfl h hP hS dIm_isNone_12
def fn_Im_isNone (F : Nat) (al : Nat → Bool) (u : Mr) (x0 : Nat) : Option (Mr × Int32) := bk_Im_isNone_0 F al u x0
set_option maxHeartbeats 4000000 in
set_option maxRecDepth 100000 in
theorem ct_Im_isNone {l : Launch} {D : va_G} {cA : Nat → ClassId} {ad : Nat → Nat} {L : List Nat} {rs : va_W} {al : Nat → Bool} (hal : ∀ k, al k = true → k ∈ L) (hN : L.Nodup) (F : Nat) (u : Mr) (x0 : Nat) (out : Mr × Int32) (h : fn_Im_isNone F al u x0 = some out) (q0 : okk al 6 x0 = true) : CtI l yIm_isNone wsIm_isNone rm_Im_isNone [.ref (ad x0)] D cA ad L rs u out := by
  intro sz
  refine Met.ofW (cc := cIm_isNone) (maxL := 1) (ret := (some .boolean)) (by decide) rfl ?_
  intro p e s m args below meth c s₁ B hml hv
  obtain ⟨rfl, hsz, hP, hK, hD0, hNx⟩ := hv
  subst hsz
  have hD := hD0.self (sz := s.heap.size)
  generalize hAe : va_A (ww ad cA L rs u) s.heap.size = A at hD ⊢
  have hA : ∀ q, s.heap.size ≤ q → A q := fun q h => by rw [← hAe]; exact Or.inr h
  have hl := lv_entry ([.ref (ad x0)]) (n := 1) (Nat.le_of_ble_eq_true rfl)
  rw [lg_entry_eq]
  generalize (lg_sl ([.ref (ad x0)]) ++ List.replicate (1 - (lg_sl ([.ref (ad x0)])).length) Slot.unset).toArray = ls at hl ⊢
  exact wk_Im_isNone_0 ⟨B.exec, B.bytes, hml, findClass_of_methodNamed B.named, hts_bw (atoms_spec (ws := wsIm_isNone) B.pre), B.returns, B.notSynchronized, hK, hA, fun v => ww_D hD, hN, hal, hNx⟩ F out u x0 h q0 _ _ _ (lv_sub hl [0] rfl) hP va_S.rf
abbrev rm_Im_byteAt : Room := { frames := 0, cells := 0, slots := 0, locals := 0 }
def bk_Im_byteAt_0 (F : Nat) (al : Nat → Bool) (u : Mr) (x0 : Nat) (x1 : Int32) : Option (Mr × Int32) := bd1 (rdR al u x0 0 7) fun y1 => (ck (inb x1 896) (some (u, (u.1 y1 x1) &&& (255 : Int32))))
set_option maxHeartbeats 4000000 in
set_option maxRecDepth 100000 in
theorem wk_Im_byteAt_0 (cx : Cx p l e s m args below meth c cIm_byteAt 2 bw "ImageForge$Image" (some .int) D cA ad L rs al A) (F : Nat) (out : Mr × Int32) : ∀ (u : Mr) (x0 : Nat) (x1 : Int32), bk_Im_byteAt_0 F al u x0 x1 = some out → okk al 6 x0 = true → Wb p l e rm_Im_byteAt s m args below meth c D cA ad L rs A (QI below args s D cA ad L rs A out) 2 0 [(0, .ref (ad x0)), (1, .int x1)] [] u := by
  obtain ⟨hx, hb, hml, hown, hts, hr, hlocks, hK, hA, hD, hN, hal, hNx⟩ := cx
  intro u x0 x1 h q0 H locs ls hl hP hS
  unfold bk_Im_byteAt_0 at h
  refine lv_aload_n hx hb dIm_byteAt_0 rfl (lv_at hl 0 rfl) ?_
  obtain ⟨y1, hy2, h⟩ := bd1_some h
  obtain ⟨hy2a, hy2⟩ := rdR_some hy2
  refine x_get hx hb hts in_Im hown hK hP (hal _ (okk_al q0)) (okk_t q0) rfl rfl 0 (by decide) (hts _ tw_47) (fun _ h9 => h9) (congrArg some (x_rf hy2a)) dIm_byteAt_1 ?_
  refine lv_iload_n hx hb dIm_byteAt_4 rfl (lv_at hl 1 rfl) ?_
  obtain ⟨hi3, h⟩ := ck_some h
  refine x_bald hx hb hK hP (hal _ (okk_al hy2)) (okk_t hy2) 1 (fun _ _ _ => rfl) rfl (inb_in hi3) dIm_byteAt_5 ?_
  refine lv_sipush (v := 255) hx hb dIm_byteAt_6 (by decide) ?_
  refine lv_iand hx hb dIm_byteAt_9 ?_
  exact x_iret hx hb hr hlocks h hP hS dIm_byteAt_10
def fn_Im_byteAt (F : Nat) (al : Nat → Bool) (u : Mr) (x0 : Nat) (x1 : Int32) : Option (Mr × Int32) := bk_Im_byteAt_0 F al u x0 x1
set_option maxHeartbeats 4000000 in
set_option maxRecDepth 100000 in
theorem ct_Im_byteAt {l : Launch} {D : va_G} {cA : Nat → ClassId} {ad : Nat → Nat} {L : List Nat} {rs : va_W} {al : Nat → Bool} (hal : ∀ k, al k = true → k ∈ L) (hN : L.Nodup) (F : Nat) (u : Mr) (x0 : Nat) (x1 : Int32) (out : Mr × Int32) (h : fn_Im_byteAt F al u x0 x1 = some out) (q0 : okk al 6 x0 = true) : CtI l yIm_byteAt wsIm_byteAt rm_Im_byteAt [.ref (ad x0), .int x1] D cA ad L rs u out := by
  intro sz
  refine Met.ofW (cc := cIm_byteAt) (maxL := 2) (ret := (some .int)) (by decide) rfl ?_
  intro p e s m args below meth c s₁ B hml hv
  obtain ⟨rfl, hsz, hP, hK, hD0, hNx⟩ := hv
  subst hsz
  have hD := hD0.self (sz := s.heap.size)
  generalize hAe : va_A (ww ad cA L rs u) s.heap.size = A at hD ⊢
  have hA : ∀ q, s.heap.size ≤ q → A q := fun q h => by rw [← hAe]; exact Or.inr h
  have hl := lv_entry ([.ref (ad x0), .int x1]) (n := 2) (Nat.le_of_ble_eq_true rfl)
  rw [lg_entry_eq]
  generalize (lg_sl ([.ref (ad x0), .int x1]) ++ List.replicate (2 - (lg_sl ([.ref (ad x0), .int x1])).length) Slot.unset).toArray = ls at hl ⊢
  exact wk_Im_byteAt_0 ⟨B.exec, B.bytes, hml, findClass_of_methodNamed B.named, hts_bw (atoms_spec (ws := wsIm_byteAt) B.pre), B.returns, B.notSynchronized, hK, hA, fun v => ww_D hD, hN, hal, hNx⟩ F out u x0 x1 h q0 _ _ _ (lv_sub hl [0, 1] rfl) hP va_S.rf
abbrev rm_Im_setByte : Room := { frames := 0, cells := 0, slots := 0, locals := 0 }
def bk_Im_setByte_0 (F : Nat) (al : Nat → Bool) (u : Mr) (x0 : Nat) (x1 : Int32) (x2 : Int32) : Option (Mr × Int32) := bd1 (rdR al u x0 0 7) fun y1 => (ck (inb x1 896) (some (stI u y1 x1 x2.toInt8.toInt32, 0)))
set_option maxHeartbeats 4000000 in
set_option maxRecDepth 100000 in
theorem wk_Im_setByte_0 (cx : Cx p l e s m args below meth c cIm_setByte 3 bw "ImageForge$Image" none D cA ad L rs al A) (F : Nat) (out : Mr × Int32) : ∀ (u : Mr) (x0 : Nat) (x1 : Int32) (x2 : Int32), bk_Im_setByte_0 F al u x0 x1 x2 = some out → okk al 6 x0 = true → Wb p l e rm_Im_setByte s m args below meth c D cA ad L rs A (QV below args s D cA ad L rs A out) 3 0 [(0, .ref (ad x0)), (1, .int x1), (2, .int x2)] [] u := by
  obtain ⟨hx, hb, hml, hown, hts, hr, hlocks, hK, hA, hD, hN, hal, hNx⟩ := cx
  intro u x0 x1 x2 h q0 H locs ls hl hP hS
  unfold bk_Im_setByte_0 at h
  refine lv_aload_n hx hb dIm_setByte_0 rfl (lv_at hl 0 rfl) ?_
  obtain ⟨y1, hy2, h⟩ := bd1_some h
  obtain ⟨hy2a, hy2⟩ := rdR_some hy2
  refine x_get hx hb hts in_Im hown hK hP (hal _ (okk_al q0)) (okk_t q0) rfl rfl 0 (by decide) (hts _ tw_47) (fun _ h9 => h9) (congrArg some (x_rf hy2a)) dIm_setByte_1 ?_
  refine lv_iload_n hx hb dIm_setByte_4 rfl (lv_at hl 1 rfl) ?_
  refine lv_iload_n hx hb dIm_setByte_5 rfl (lv_at hl 2 rfl) ?_
  refine lv_i2b (v := x2.toInt8.toInt32) hx hb dIm_setByte_6 rfl ?_
  obtain ⟨hi3, h⟩ := ck_some h
  refine x_bastB hx hb hK hD hN hP hS (hal _ (okk_al hy2)) (okk_t hy2) 1 (fun _ _ _ => rfl) rfl (by decide) (inb_in hi3) dIm_setByte_7 (fun H locs hP hS => ?_)
  exact x_vret hx hb hr hlocks h hP hS dIm_setByte_8
def fn_Im_setByte (F : Nat) (al : Nat → Bool) (u : Mr) (x0 : Nat) (x1 : Int32) (x2 : Int32) : Option (Mr × Int32) := bk_Im_setByte_0 F al u x0 x1 x2
set_option maxHeartbeats 4000000 in
set_option maxRecDepth 100000 in
theorem ct_Im_setByte {l : Launch} {D : va_G} {cA : Nat → ClassId} {ad : Nat → Nat} {L : List Nat} {rs : va_W} {al : Nat → Bool} (hal : ∀ k, al k = true → k ∈ L) (hN : L.Nodup) (F : Nat) (u : Mr) (x0 : Nat) (x1 : Int32) (x2 : Int32) (out : Mr × Int32) (h : fn_Im_setByte F al u x0 x1 x2 = some out) (q0 : okk al 6 x0 = true) : CtV l yIm_setByte wsIm_setByte rm_Im_setByte [.ref (ad x0), .int x1, .int x2] D cA ad L rs u out := by
  intro sz
  refine Met.ofW (cc := cIm_setByte) (maxL := 3) (ret := none) (by decide) rfl ?_
  intro p e s m args below meth c s₁ B hml hv
  obtain ⟨rfl, hsz, hP, hK, hD0, hNx⟩ := hv
  subst hsz
  have hD := hD0.self (sz := s.heap.size)
  generalize hAe : va_A (ww ad cA L rs u) s.heap.size = A at hD ⊢
  have hA : ∀ q, s.heap.size ≤ q → A q := fun q h => by rw [← hAe]; exact Or.inr h
  have hl := lv_entry ([.ref (ad x0), .int x1, .int x2]) (n := 3) (Nat.le_of_ble_eq_true rfl)
  rw [lg_entry_eq]
  generalize (lg_sl ([.ref (ad x0), .int x1, .int x2]) ++ List.replicate (3 - (lg_sl ([.ref (ad x0), .int x1, .int x2])).length) Slot.unset).toArray = ls at hl ⊢
  exact wk_Im_setByte_0 ⟨B.exec, B.bytes, hml, findClass_of_methodNamed B.named, hts_bw (atoms_spec (ws := wsIm_setByte) B.pre), B.returns, B.notSynchronized, hK, hA, fun v => ww_D hD, hN, hal, hNx⟩ F out u x0 x1 x2 h q0 _ _ _ (lv_sub hl [0, 1, 2] rfl) hP va_S.rf
abbrev rm_Im_halfAt : Room := { frames := 0, cells := 0, slots := 0, locals := 0 }
def bk_Im_halfAt_0 (F : Nat) (al : Nat → Bool) (u : Mr) (x0 : Nat) (x1 : Int32) : Option (Mr × Int32) := bd1 (rdR al u x0 0 7) fun y1 => (ck (inb x1 896) (bd1 (rdR al u x0 0 7) fun y4 => (ck (inb (x1 + (1 : Int32)) 896) (some (u, ((u.1 y1 x1) &&& (255 : Int32)) ||| (((u.1 y4 (x1 + (1 : Int32))) &&& (255 : Int32)) <<< ((8 : Int32) &&& 31)))))))
set_option maxHeartbeats 4000000 in
set_option maxRecDepth 100000 in
theorem wk_Im_halfAt_0 (cx : Cx p l e s m args below meth c cIm_halfAt 2 bw "ImageForge$Image" (some .int) D cA ad L rs al A) (F : Nat) (out : Mr × Int32) : ∀ (u : Mr) (x0 : Nat) (x1 : Int32), bk_Im_halfAt_0 F al u x0 x1 = some out → okk al 6 x0 = true → Wb p l e rm_Im_halfAt s m args below meth c D cA ad L rs A (QI below args s D cA ad L rs A out) 2 0 [(0, .ref (ad x0)), (1, .int x1)] [] u := by
  obtain ⟨hx, hb, hml, hown, hts, hr, hlocks, hK, hA, hD, hN, hal, hNx⟩ := cx
  intro u x0 x1 h q0 H locs ls hl hP hS
  unfold bk_Im_halfAt_0 at h
  refine lv_aload_n hx hb dIm_halfAt_0 rfl (lv_at hl 0 rfl) ?_
  obtain ⟨y1, hy2, h⟩ := bd1_some h
  obtain ⟨hy2a, hy2⟩ := rdR_some hy2
  refine x_get hx hb hts in_Im hown hK hP (hal _ (okk_al q0)) (okk_t q0) rfl rfl 0 (by decide) (hts _ tw_47) (fun _ h9 => h9) (congrArg some (x_rf hy2a)) dIm_halfAt_1 ?_
  refine lv_iload_n hx hb dIm_halfAt_4 rfl (lv_at hl 1 rfl) ?_
  obtain ⟨hi3, h⟩ := ck_some h
  refine x_bald hx hb hK hP (hal _ (okk_al hy2)) (okk_t hy2) 1 (fun _ _ _ => rfl) rfl (inb_in hi3) dIm_halfAt_5 ?_
  refine lv_sipush (v := 255) hx hb dIm_halfAt_6 (by decide) ?_
  refine lv_iand hx hb dIm_halfAt_9 ?_
  refine lv_aload_n hx hb dIm_halfAt_10 rfl (lv_at hl 0 rfl) ?_
  obtain ⟨y4, hy5, h⟩ := bd1_some h
  obtain ⟨hy5a, hy5⟩ := rdR_some hy5
  refine x_get hx hb hts in_Im hown hK hP (hal _ (okk_al q0)) (okk_t q0) rfl rfl 0 (by decide) (hts _ tw_47) (fun _ h9 => h9) (congrArg some (x_rf hy5a)) dIm_halfAt_11 ?_
  refine lv_iload_n hx hb dIm_halfAt_14 rfl (lv_at hl 1 rfl) ?_
  refine lv_iconst (v := 1) hx hb dIm_halfAt_15 (by decide) ?_
  refine lv_iadd hx hb dIm_halfAt_16 ?_
  obtain ⟨hi6, h⟩ := ck_some h
  refine x_bald hx hb hK hP (hal _ (okk_al hy5)) (okk_t hy5) 1 (fun _ _ _ => rfl) rfl (inb_in hi6) dIm_halfAt_17 ?_
  refine lv_sipush (v := 255) hx hb dIm_halfAt_18 (by decide) ?_
  refine lv_iand hx hb dIm_halfAt_21 ?_
  refine lv_bipush (v := 8) hx hb dIm_halfAt_22 (by decide) ?_
  refine lv_ishl hx hb dIm_halfAt_24 ?_
  refine lv_ior hx hb dIm_halfAt_25 ?_
  exact x_iret hx hb hr hlocks h hP hS dIm_halfAt_26
def fn_Im_halfAt (F : Nat) (al : Nat → Bool) (u : Mr) (x0 : Nat) (x1 : Int32) : Option (Mr × Int32) := bk_Im_halfAt_0 F al u x0 x1
set_option maxHeartbeats 4000000 in
set_option maxRecDepth 100000 in
theorem ct_Im_halfAt {l : Launch} {D : va_G} {cA : Nat → ClassId} {ad : Nat → Nat} {L : List Nat} {rs : va_W} {al : Nat → Bool} (hal : ∀ k, al k = true → k ∈ L) (hN : L.Nodup) (F : Nat) (u : Mr) (x0 : Nat) (x1 : Int32) (out : Mr × Int32) (h : fn_Im_halfAt F al u x0 x1 = some out) (q0 : okk al 6 x0 = true) : CtI l yIm_halfAt wsIm_halfAt rm_Im_halfAt [.ref (ad x0), .int x1] D cA ad L rs u out := by
  intro sz
  refine Met.ofW (cc := cIm_halfAt) (maxL := 2) (ret := (some .int)) (by decide) rfl ?_
  intro p e s m args below meth c s₁ B hml hv
  obtain ⟨rfl, hsz, hP, hK, hD0, hNx⟩ := hv
  subst hsz
  have hD := hD0.self (sz := s.heap.size)
  generalize hAe : va_A (ww ad cA L rs u) s.heap.size = A at hD ⊢
  have hA : ∀ q, s.heap.size ≤ q → A q := fun q h => by rw [← hAe]; exact Or.inr h
  have hl := lv_entry ([.ref (ad x0), .int x1]) (n := 2) (Nat.le_of_ble_eq_true rfl)
  rw [lg_entry_eq]
  generalize (lg_sl ([.ref (ad x0), .int x1]) ++ List.replicate (2 - (lg_sl ([.ref (ad x0), .int x1])).length) Slot.unset).toArray = ls at hl ⊢
  exact wk_Im_halfAt_0 ⟨B.exec, B.bytes, hml, findClass_of_methodNamed B.named, hts_bw (atoms_spec (ws := wsIm_halfAt) B.pre), B.returns, B.notSynchronized, hK, hA, fun v => ww_D hD, hN, hal, hNx⟩ F out u x0 x1 h q0 _ _ _ (lv_sub hl [0, 1] rfl) hP va_S.rf
abbrev rm_Im_setHalf : Room := { frames := 0, cells := 0, slots := 0, locals := 0 }
def bk_Im_setHalf_0 (F : Nat) (al : Nat → Bool) (u : Mr) (x0 : Nat) (x1 : Int32) (x2 : Int32) : Option (Mr × Int32) := bd1 (rdR al u x0 0 7) fun y1 => (ck (inb x1 896) (bd1 (rdR al (stI u y1 x1 x2.toInt8.toInt32) x0 0 7) fun y4 => (ck (inb (x1 + (1 : Int32)) 896) (some (stI (stI u y1 x1 x2.toInt8.toInt32) y4 (x1 + (1 : Int32)) ((x2 >>> ((8 : Int32) &&& 31)).toInt8.toInt32), 0)))))
set_option maxHeartbeats 4000000 in
set_option maxRecDepth 100000 in
theorem wk_Im_setHalf_0 (cx : Cx p l e s m args below meth c cIm_setHalf 3 bw "ImageForge$Image" none D cA ad L rs al A) (F : Nat) (out : Mr × Int32) : ∀ (u : Mr) (x0 : Nat) (x1 : Int32) (x2 : Int32), bk_Im_setHalf_0 F al u x0 x1 x2 = some out → okk al 6 x0 = true → Wb p l e rm_Im_setHalf s m args below meth c D cA ad L rs A (QV below args s D cA ad L rs A out) 3 0 [(0, .ref (ad x0)), (1, .int x1), (2, .int x2)] [] u := by
  obtain ⟨hx, hb, hml, hown, hts, hr, hlocks, hK, hA, hD, hN, hal, hNx⟩ := cx
  intro u x0 x1 x2 h q0 H locs ls hl hP hS
  unfold bk_Im_setHalf_0 at h
  refine lv_aload_n hx hb dIm_setHalf_0 rfl (lv_at hl 0 rfl) ?_
  obtain ⟨y1, hy2, h⟩ := bd1_some h
  obtain ⟨hy2a, hy2⟩ := rdR_some hy2
  refine x_get hx hb hts in_Im hown hK hP (hal _ (okk_al q0)) (okk_t q0) rfl rfl 0 (by decide) (hts _ tw_47) (fun _ h9 => h9) (congrArg some (x_rf hy2a)) dIm_setHalf_1 ?_
  refine lv_iload_n hx hb dIm_setHalf_4 rfl (lv_at hl 1 rfl) ?_
  refine lv_iload_n hx hb dIm_setHalf_5 rfl (lv_at hl 2 rfl) ?_
  refine lv_i2b (v := x2.toInt8.toInt32) hx hb dIm_setHalf_6 rfl ?_
  obtain ⟨hi3, h⟩ := ck_some h
  refine x_bastB hx hb hK hD hN hP hS (hal _ (okk_al hy2)) (okk_t hy2) 1 (fun _ _ _ => rfl) rfl (by decide) (inb_in hi3) dIm_setHalf_7 (fun H locs hP hS => ?_)
  refine lv_aload_n hx hb dIm_setHalf_8 rfl (lv_at hl 0 rfl) ?_
  obtain ⟨y4, hy5, h⟩ := bd1_some h
  obtain ⟨hy5a, hy5⟩ := rdR_some hy5
  refine x_get hx hb hts in_Im hown hK hP (hal _ (okk_al q0)) (okk_t q0) rfl rfl 0 (by decide) (hts _ tw_47) (fun _ h9 => h9) (congrArg some (x_rf hy5a)) dIm_setHalf_9 ?_
  refine lv_iload_n hx hb dIm_setHalf_12 rfl (lv_at hl 1 rfl) ?_
  refine lv_iconst (v := 1) hx hb dIm_setHalf_13 (by decide) ?_
  refine lv_iadd hx hb dIm_setHalf_14 ?_
  refine lv_iload_n hx hb dIm_setHalf_15 rfl (lv_at hl 2 rfl) ?_
  refine lv_bipush (v := 8) hx hb dIm_setHalf_16 (by decide) ?_
  refine lv_ishr hx hb dIm_setHalf_18 ?_
  refine lv_i2b (v := (x2 >>> ((8 : Int32) &&& 31)).toInt8.toInt32) hx hb dIm_setHalf_19 rfl ?_
  obtain ⟨hi6, h⟩ := ck_some h
  refine x_bastB hx hb hK hD hN hP hS (hal _ (okk_al hy5)) (okk_t hy5) 1 (fun _ _ _ => rfl) rfl (by decide) (inb_in hi6) dIm_setHalf_20 (fun H locs hP hS => ?_)
  exact x_vret hx hb hr hlocks h hP hS dIm_setHalf_21
def fn_Im_setHalf (F : Nat) (al : Nat → Bool) (u : Mr) (x0 : Nat) (x1 : Int32) (x2 : Int32) : Option (Mr × Int32) := bk_Im_setHalf_0 F al u x0 x1 x2
set_option maxHeartbeats 4000000 in
set_option maxRecDepth 100000 in
theorem ct_Im_setHalf {l : Launch} {D : va_G} {cA : Nat → ClassId} {ad : Nat → Nat} {L : List Nat} {rs : va_W} {al : Nat → Bool} (hal : ∀ k, al k = true → k ∈ L) (hN : L.Nodup) (F : Nat) (u : Mr) (x0 : Nat) (x1 : Int32) (x2 : Int32) (out : Mr × Int32) (h : fn_Im_setHalf F al u x0 x1 x2 = some out) (q0 : okk al 6 x0 = true) : CtV l yIm_setHalf wsIm_setHalf rm_Im_setHalf [.ref (ad x0), .int x1, .int x2] D cA ad L rs u out := by
  intro sz
  refine Met.ofW (cc := cIm_setHalf) (maxL := 3) (ret := none) (by decide) rfl ?_
  intro p e s m args below meth c s₁ B hml hv
  obtain ⟨rfl, hsz, hP, hK, hD0, hNx⟩ := hv
  subst hsz
  have hD := hD0.self (sz := s.heap.size)
  generalize hAe : va_A (ww ad cA L rs u) s.heap.size = A at hD ⊢
  have hA : ∀ q, s.heap.size ≤ q → A q := fun q h => by rw [← hAe]; exact Or.inr h
  have hl := lv_entry ([.ref (ad x0), .int x1, .int x2]) (n := 3) (Nat.le_of_ble_eq_true rfl)
  rw [lg_entry_eq]
  generalize (lg_sl ([.ref (ad x0), .int x1, .int x2]) ++ List.replicate (3 - (lg_sl ([.ref (ad x0), .int x1, .int x2])).length) Slot.unset).toArray = ls at hl ⊢
  exact wk_Im_setHalf_0 ⟨B.exec, B.bytes, hml, findClass_of_methodNamed B.named, hts_bw (atoms_spec (ws := wsIm_setHalf) B.pre), B.returns, B.notSynchronized, hK, hA, fun v => ww_D hD, hN, hal, hNx⟩ F out u x0 x1 x2 h q0 _ _ _ (lv_sub hl [0, 1, 2] rfl) hP va_S.rf
abbrev rm_Im_wordAt : Room := { frames := 0, cells := 0, slots := 0, locals := 0 }
def bk_Im_wordAt_0 (F : Nat) (al : Nat → Bool) (u : Mr) (x0 : Nat) (x1 : Int32) : Option (Mr × Int32) := bd1 (rdR al u x0 0 7) fun y1 => (ck (inb x1 896) (bd1 (rdR al u x0 0 7) fun y4 => (ck (inb (x1 + (1 : Int32)) 896) (bd1 (rdR al u x0 0 7) fun y7 => (ck (inb (x1 + (2 : Int32)) 896) (bd1 (rdR al u x0 0 7) fun y10 => (ck (inb (x1 + (3 : Int32)) 896) (some (u, ((((u.1 y1 x1) &&& (255 : Int32)) ||| (((u.1 y4 (x1 + (1 : Int32))) &&& (255 : Int32)) <<< ((8 : Int32) &&& 31))) ||| (((u.1 y7 (x1 + (2 : Int32))) &&& (255 : Int32)) <<< ((16 : Int32) &&& 31))) ||| (((u.1 y10 (x1 + (3 : Int32))) &&& (255 : Int32)) <<< ((24 : Int32) &&& 31)))))))))))
set_option maxHeartbeats 4000000 in
set_option maxRecDepth 100000 in
theorem wk_Im_wordAt_0 (cx : Cx p l e s m args below meth c cIm_wordAt 2 bw "ImageForge$Image" (some .int) D cA ad L rs al A) (F : Nat) (out : Mr × Int32) : ∀ (u : Mr) (x0 : Nat) (x1 : Int32), bk_Im_wordAt_0 F al u x0 x1 = some out → okk al 6 x0 = true → Wb p l e rm_Im_wordAt s m args below meth c D cA ad L rs A (QI below args s D cA ad L rs A out) 2 0 [(0, .ref (ad x0)), (1, .int x1)] [] u := by
  obtain ⟨hx, hb, hml, hown, hts, hr, hlocks, hK, hA, hD, hN, hal, hNx⟩ := cx
  intro u x0 x1 h q0 H locs ls hl hP hS
  unfold bk_Im_wordAt_0 at h
  refine lv_aload_n hx hb dIm_wordAt_0 rfl (lv_at hl 0 rfl) ?_
  obtain ⟨y1, hy2, h⟩ := bd1_some h
  obtain ⟨hy2a, hy2⟩ := rdR_some hy2
  refine x_get hx hb hts in_Im hown hK hP (hal _ (okk_al q0)) (okk_t q0) rfl rfl 0 (by decide) (hts _ tw_47) (fun _ h9 => h9) (congrArg some (x_rf hy2a)) dIm_wordAt_1 ?_
  refine lv_iload_n hx hb dIm_wordAt_4 rfl (lv_at hl 1 rfl) ?_
  obtain ⟨hi3, h⟩ := ck_some h
  refine x_bald hx hb hK hP (hal _ (okk_al hy2)) (okk_t hy2) 1 (fun _ _ _ => rfl) rfl (inb_in hi3) dIm_wordAt_5 ?_
  refine lv_sipush (v := 255) hx hb dIm_wordAt_6 (by decide) ?_
  refine lv_iand hx hb dIm_wordAt_9 ?_
  refine lv_aload_n hx hb dIm_wordAt_10 rfl (lv_at hl 0 rfl) ?_
  obtain ⟨y4, hy5, h⟩ := bd1_some h
  obtain ⟨hy5a, hy5⟩ := rdR_some hy5
  refine x_get hx hb hts in_Im hown hK hP (hal _ (okk_al q0)) (okk_t q0) rfl rfl 0 (by decide) (hts _ tw_47) (fun _ h9 => h9) (congrArg some (x_rf hy5a)) dIm_wordAt_11 ?_
  refine lv_iload_n hx hb dIm_wordAt_14 rfl (lv_at hl 1 rfl) ?_
  refine lv_iconst (v := 1) hx hb dIm_wordAt_15 (by decide) ?_
  refine lv_iadd hx hb dIm_wordAt_16 ?_
  obtain ⟨hi6, h⟩ := ck_some h
  refine x_bald hx hb hK hP (hal _ (okk_al hy5)) (okk_t hy5) 1 (fun _ _ _ => rfl) rfl (inb_in hi6) dIm_wordAt_17 ?_
  refine lv_sipush (v := 255) hx hb dIm_wordAt_18 (by decide) ?_
  refine lv_iand hx hb dIm_wordAt_21 ?_
  refine lv_bipush (v := 8) hx hb dIm_wordAt_22 (by decide) ?_
  refine lv_ishl hx hb dIm_wordAt_24 ?_
  refine lv_ior hx hb dIm_wordAt_25 ?_
  refine lv_aload_n hx hb dIm_wordAt_26 rfl (lv_at hl 0 rfl) ?_
  obtain ⟨y7, hy8, h⟩ := bd1_some h
  obtain ⟨hy8a, hy8⟩ := rdR_some hy8
  refine x_get hx hb hts in_Im hown hK hP (hal _ (okk_al q0)) (okk_t q0) rfl rfl 0 (by decide) (hts _ tw_47) (fun _ h9 => h9) (congrArg some (x_rf hy8a)) dIm_wordAt_27 ?_
  refine lv_iload_n hx hb dIm_wordAt_30 rfl (lv_at hl 1 rfl) ?_
  refine lv_iconst (v := 2) hx hb dIm_wordAt_31 (by decide) ?_
  refine lv_iadd hx hb dIm_wordAt_32 ?_
  obtain ⟨hi9, h⟩ := ck_some h
  refine x_bald hx hb hK hP (hal _ (okk_al hy8)) (okk_t hy8) 1 (fun _ _ _ => rfl) rfl (inb_in hi9) dIm_wordAt_33 ?_
  refine lv_sipush (v := 255) hx hb dIm_wordAt_34 (by decide) ?_
  refine lv_iand hx hb dIm_wordAt_37 ?_
  refine lv_bipush (v := 16) hx hb dIm_wordAt_38 (by decide) ?_
  refine lv_ishl hx hb dIm_wordAt_40 ?_
  refine lv_ior hx hb dIm_wordAt_41 ?_
  refine lv_aload_n hx hb dIm_wordAt_42 rfl (lv_at hl 0 rfl) ?_
  obtain ⟨y10, hy11, h⟩ := bd1_some h
  obtain ⟨hy11a, hy11⟩ := rdR_some hy11
  refine x_get hx hb hts in_Im hown hK hP (hal _ (okk_al q0)) (okk_t q0) rfl rfl 0 (by decide) (hts _ tw_47) (fun _ h9 => h9) (congrArg some (x_rf hy11a)) dIm_wordAt_43 ?_
  refine lv_iload_n hx hb dIm_wordAt_46 rfl (lv_at hl 1 rfl) ?_
  refine lv_iconst (v := 3) hx hb dIm_wordAt_47 (by decide) ?_
  refine lv_iadd hx hb dIm_wordAt_48 ?_
  obtain ⟨hi12, h⟩ := ck_some h
  refine x_bald hx hb hK hP (hal _ (okk_al hy11)) (okk_t hy11) 1 (fun _ _ _ => rfl) rfl (inb_in hi12) dIm_wordAt_49 ?_
  refine lv_sipush (v := 255) hx hb dIm_wordAt_50 (by decide) ?_
  refine lv_iand hx hb dIm_wordAt_53 ?_
  refine lv_bipush (v := 24) hx hb dIm_wordAt_54 (by decide) ?_
  refine lv_ishl hx hb dIm_wordAt_56 ?_
  refine lv_ior hx hb dIm_wordAt_57 ?_
  exact x_iret hx hb hr hlocks h hP hS dIm_wordAt_58
def fn_Im_wordAt (F : Nat) (al : Nat → Bool) (u : Mr) (x0 : Nat) (x1 : Int32) : Option (Mr × Int32) := bk_Im_wordAt_0 F al u x0 x1
set_option maxHeartbeats 4000000 in
set_option maxRecDepth 100000 in
theorem ct_Im_wordAt {l : Launch} {D : va_G} {cA : Nat → ClassId} {ad : Nat → Nat} {L : List Nat} {rs : va_W} {al : Nat → Bool} (hal : ∀ k, al k = true → k ∈ L) (hN : L.Nodup) (F : Nat) (u : Mr) (x0 : Nat) (x1 : Int32) (out : Mr × Int32) (h : fn_Im_wordAt F al u x0 x1 = some out) (q0 : okk al 6 x0 = true) : CtI l yIm_wordAt wsIm_wordAt rm_Im_wordAt [.ref (ad x0), .int x1] D cA ad L rs u out := by
  intro sz
  refine Met.ofW (cc := cIm_wordAt) (maxL := 2) (ret := (some .int)) (by decide) rfl ?_
  intro p e s m args below meth c s₁ B hml hv
  obtain ⟨rfl, hsz, hP, hK, hD0, hNx⟩ := hv
  subst hsz
  have hD := hD0.self (sz := s.heap.size)
  generalize hAe : va_A (ww ad cA L rs u) s.heap.size = A at hD ⊢
  have hA : ∀ q, s.heap.size ≤ q → A q := fun q h => by rw [← hAe]; exact Or.inr h
  have hl := lv_entry ([.ref (ad x0), .int x1]) (n := 2) (Nat.le_of_ble_eq_true rfl)
  rw [lg_entry_eq]
  generalize (lg_sl ([.ref (ad x0), .int x1]) ++ List.replicate (2 - (lg_sl ([.ref (ad x0), .int x1])).length) Slot.unset).toArray = ls at hl ⊢
  exact wk_Im_wordAt_0 ⟨B.exec, B.bytes, hml, findClass_of_methodNamed B.named, hts_bw (atoms_spec (ws := wsIm_wordAt) B.pre), B.returns, B.notSynchronized, hK, hA, fun v => ww_D hD, hN, hal, hNx⟩ F out u x0 x1 h q0 _ _ _ (lv_sub hl [0, 1] rfl) hP va_S.rf
abbrev rm_Im_setWord : Room := { frames := 0, cells := 0, slots := 0, locals := 0 }
def bk_Im_setWord_2 (F : Nat) (al : Nat → Bool) : Nat → Mr → Nat → Int32 → Int32 → Int32 → Option (Mr × Int32)
  | 0, _, _, _, _, _ => none
  | n + 1, u, x0, x1, x2, x3 => if (4 : Int32) ≤ x3 then (some (u, 0)) else (bd1 (rdR al u x0 0 7) fun y1 => (ck (inb (x1 + x3) 896) (bk_Im_setWord_2 F al n (stI u y1 (x1 + x3) ((x2 >>> (((8 : Int32) * x3) &&& 31)).toInt8.toInt32)) x0 x1 x2 (x3 + (1 : Int32)))))
set_option maxHeartbeats 4000000 in
set_option maxRecDepth 100000 in
theorem wk_Im_setWord_2 (cx : Cx p l e s m args below meth c cIm_setWord 4 bw "ImageForge$Image" none D cA ad L rs al A) (F : Nat) (out : Mr × Int32) : ∀ n : Nat, ∀ (u : Mr) (x0 : Nat) (x1 : Int32) (x2 : Int32) (x3 : Int32), bk_Im_setWord_2 F al n u x0 x1 x2 x3 = some out → okk al 6 x0 = true → Wb p l e rm_Im_setWord s m args below meth c D cA ad L rs A (QV below args s D cA ad L rs A out) 4 2 [(0, .ref (ad x0)), (1, .int x1), (2, .int x2), (3, .int x3)] [] u := by
  obtain ⟨hx, hb, hml, hown, hts, hr, hlocks, hK, hA, hD, hN, hal, hNx⟩ := cx
  intro n
  induction n with
  | zero =>
    intro u x0 x1 x2 x3 h
    cases h
  | succ n ih =>
    intro u x0 x1 x2 x3 h q0 H locs ls hl hP hS
    rw [bk_Im_setWord_2] at h
    refine lv_iload_n hx hb dIm_setWord_2 rfl (lv_at hl 3 rfl) ?_
    refine lv_iconst (v := 4) hx hb dIm_setWord_3 (by decide) ?_
    refine lv_icmp_ge (tgt := 28) hx hb dIm_setWord_4 rfl (fun hc => ?_) (fun hc => ?_)
    · replace h := it_t h hc
      exact x_vret hx hb hr hlocks h hP hS dIm_setWord_28
    · replace h := it_f h hc
      refine lv_aload_n hx hb dIm_setWord_7 rfl (lv_at hl 0 rfl) ?_
      obtain ⟨y1, hy2, h⟩ := bd1_some h
      obtain ⟨hy2a, hy2⟩ := rdR_some hy2
      refine x_get hx hb hts in_Im hown hK hP (hal _ (okk_al q0)) (okk_t q0) rfl rfl 0 (by decide) (hts _ tw_47) (fun _ h9 => h9) (congrArg some (x_rf hy2a)) dIm_setWord_8 ?_
      refine lv_iload_n hx hb dIm_setWord_11 rfl (lv_at hl 1 rfl) ?_
      refine lv_iload_n hx hb dIm_setWord_12 rfl (lv_at hl 3 rfl) ?_
      refine lv_iadd hx hb dIm_setWord_13 ?_
      refine lv_iload_n hx hb dIm_setWord_14 rfl (lv_at hl 2 rfl) ?_
      refine lv_bipush (v := 8) hx hb dIm_setWord_15 (by decide) ?_
      refine lv_iload_n hx hb dIm_setWord_17 rfl (lv_at hl 3 rfl) ?_
      refine lv_imul hx hb dIm_setWord_18 ?_
      refine lv_ishr hx hb dIm_setWord_19 ?_
      refine lv_i2b (v := (x2 >>> (((8 : Int32) * x3) &&& 31)).toInt8.toInt32) hx hb dIm_setWord_20 rfl ?_
      obtain ⟨hi3, h⟩ := ck_some h
      refine x_bastB hx hb hK hD hN hP hS (hal _ (okk_al hy2)) (okk_t hy2) 1 (fun _ _ _ => rfl) rfl (by decide) (inb_in hi3) dIm_setWord_21 (fun H locs hP hS => ?_)
      refine lv_iinc (k := 3) (v := x3 + (1 : Int32)) (lv' := [(3, .int (x3 + (1 : Int32))), (0, .ref (ad x0)), (1, .int x1), (2, .int x2)]) hx hb dIm_setWord_22 hl rfl (congrArg (fun z => _ + z) (show Int32.ofInt 1 = 1 by decide)) (by decide) rfl (fun ls hl => ?_)
      refine lv_goto (tgt := 2) hx hb dIm_setWord_25 rfl ?_
      exact ih (stI u y1 (x1 + x3) ((x2 >>> (((8 : Int32) * x3) &&& 31)).toInt8.toInt32)) x0 x1 x2 (x3 + (1 : Int32)) h q0 _ _ _ (lv_sub hl [1, 2, 3, 0] rfl) hP hS
def bk_Im_setWord_0 (F : Nat) (al : Nat → Bool) (u : Mr) (x0 : Nat) (x1 : Int32) (x2 : Int32) : Option (Mr × Int32) := bk_Im_setWord_2 F al F u x0 x1 x2 (0 : Int32)
set_option maxHeartbeats 4000000 in
set_option maxRecDepth 100000 in
theorem wk_Im_setWord_0 (cx : Cx p l e s m args below meth c cIm_setWord 4 bw "ImageForge$Image" none D cA ad L rs al A) (F : Nat) (out : Mr × Int32) : ∀ (u : Mr) (x0 : Nat) (x1 : Int32) (x2 : Int32), bk_Im_setWord_0 F al u x0 x1 x2 = some out → okk al 6 x0 = true → Wb p l e rm_Im_setWord s m args below meth c D cA ad L rs A (QV below args s D cA ad L rs A out) 4 0 [(0, .ref (ad x0)), (1, .int x1), (2, .int x2)] [] u := by
  obtain ⟨hx, hb, hml, hown, hts, hr, hlocks, hK, hA, hD, hN, hal, hNx⟩ := cx
  intro u x0 x1 x2 h q0 H locs ls hl hP hS
  unfold bk_Im_setWord_0 at h
  refine lv_iconst (v := 0) hx hb dIm_setWord_0 (by decide) ?_
  refine lv_istore_n (lv' := [(3, .int (0 : Int32)), (0, .ref (ad x0)), (1, .int x1), (2, .int x2)]) hx hb dIm_setWord_1 rfl hl (by decide) rfl (fun ls hl => ?_)
  exact wk_Im_setWord_2 ⟨hx, hb, hml, hown, hts, hr, hlocks, hK, hA, hD, hN, hal, hNx⟩ F out F u x0 x1 x2 (0 : Int32) h q0 _ _ _ (lv_sub hl [1, 2, 3, 0] rfl) hP hS
def fn_Im_setWord (F : Nat) (al : Nat → Bool) (u : Mr) (x0 : Nat) (x1 : Int32) (x2 : Int32) : Option (Mr × Int32) := bk_Im_setWord_0 F al u x0 x1 x2
set_option maxHeartbeats 4000000 in
set_option maxRecDepth 100000 in
theorem ct_Im_setWord {l : Launch} {D : va_G} {cA : Nat → ClassId} {ad : Nat → Nat} {L : List Nat} {rs : va_W} {al : Nat → Bool} (hal : ∀ k, al k = true → k ∈ L) (hN : L.Nodup) (F : Nat) (u : Mr) (x0 : Nat) (x1 : Int32) (x2 : Int32) (out : Mr × Int32) (h : fn_Im_setWord F al u x0 x1 x2 = some out) (q0 : okk al 6 x0 = true) : CtV l yIm_setWord wsIm_setWord rm_Im_setWord [.ref (ad x0), .int x1, .int x2] D cA ad L rs u out := by
  intro sz
  refine Met.ofW (cc := cIm_setWord) (maxL := 4) (ret := none) (by decide) rfl ?_
  intro p e s m args below meth c s₁ B hml hv
  obtain ⟨rfl, hsz, hP, hK, hD0, hNx⟩ := hv
  subst hsz
  have hD := hD0.self (sz := s.heap.size)
  generalize hAe : va_A (ww ad cA L rs u) s.heap.size = A at hD ⊢
  have hA : ∀ q, s.heap.size ≤ q → A q := fun q h => by rw [← hAe]; exact Or.inr h
  have hl := lv_entry ([.ref (ad x0), .int x1, .int x2]) (n := 4) (Nat.le_of_ble_eq_true rfl)
  rw [lg_entry_eq]
  generalize (lg_sl ([.ref (ad x0), .int x1, .int x2]) ++ List.replicate (4 - (lg_sl ([.ref (ad x0), .int x1, .int x2])).length) Slot.unset).toArray = ls at hl ⊢
  exact wk_Im_setWord_0 ⟨B.exec, B.bytes, hml, findClass_of_methodNamed B.named, hts_bw (atoms_spec (ws := wsIm_setWord) B.pre), B.returns, B.notSynchronized, hK, hA, fun v => ww_D hD, hN, hal, hNx⟩ F out u x0 x1 x2 h q0 _ _ _ (lv_sub hl [0, 1, 2] rfl) hP va_S.rf
abbrev rm_Im_addToWord : Room := { frames := 1, cells := 0, slots := 0, locals := 23 }
def bk_Im_addToWord_0 (F : Nat) (al : Nat → Bool) (u : Mr) (x0 : Nat) (x1 : Int32) (x2 : Int32) : Option (Mr × Int32) := bd2 (fn_Im_wordAt F al u x0 x1) fun u1 v1 => (bd2 (fn_Im_setWord F al u1 x0 x1 (v1 + x2)) fun u2 v2 => (some (u2, 0)))
set_option maxHeartbeats 4000000 in
set_option maxRecDepth 100000 in
theorem wk_Im_addToWord_0 (cx : Cx p l e s m args below meth c cIm_addToWord 3 bw "ImageForge$Image" none D cA ad L rs al A) (F : Nat) (out : Mr × Int32) : ∀ (u : Mr) (x0 : Nat) (x1 : Int32) (x2 : Int32), bk_Im_addToWord_0 F al u x0 x1 x2 = some out → okk al 6 x0 = true → Wb p l e rm_Im_addToWord s m args below meth c D cA ad L rs A (QV below args s D cA ad L rs A out) 3 0 [(0, .ref (ad x0)), (1, .int x1), (2, .int x2)] [] u := by
  obtain ⟨hx, hb, hml, hown, hts, hr, hlocks, hK, hA, hD, hN, hal, hNx⟩ := cx
  intro u x0 x1 x2 h q0 H locs ls hl hP hS
  unfold bk_Im_addToWord_0 at h
  refine lv_aload_n hx hb dIm_addToWord_0 rfl (lv_at hl 0 rfl) ?_
  refine lv_iload_n hx hb dIm_addToWord_1 rfl (lv_at hl 1 rfl) ?_
  refine lv_aload_n hx hb dIm_addToWord_2 rfl (lv_at hl 0 rfl) ?_
  refine lv_iload_n hx hb dIm_addToWord_3 rfl (lv_at hl 1 rfl) ?_
  obtain ⟨u1, v1, hc1, h⟩ := bd2_some h
  refine x_ci (u := u) (out := (u1, v1)) hA hD hS (va_runV (As := [.int x1]) (rest := [.int x1, .ref (ad x0)]) ⟨hx, hb, hml, hown, hts⟩ (ct_Im_wordAt hal hN F u x0 x1 (u1, v1) hc1 q0 _) ⟨callB_of 1 hts gdIm_wordAt rfl rfl rfl (hts _ tw_2) (hts _ tw_637) hdIm_wordAt ⟨Nat.le_of_ble_eq_true rfl, Nat.le_of_ble_eq_true rfl⟩, (hts _ tw_240), (hts _ tp_3)⟩ (x_preV hK hD hNx hP (hal _ (okk_al q0)) (okk_t q0) rfl rfl) rfl rfl hl.1 rfl (lv_room (Nat.le_of_ble_eq_true rfl)) dIm_addToWord_4 ⟨Nat.zero_le _, Nat.zero_le _⟩) (fun H locs hP hS => ?_)
  refine lv_iload_n hx hb dIm_addToWord_7 rfl (lv_at hl 2 rfl) ?_
  refine lv_iadd hx hb dIm_addToWord_8 ?_
  obtain ⟨u2, v2, hc2, h⟩ := bd2_some h
  refine x_cv (u := u1) (out := (u2, v2)) hA hD hS (va_runV (As := [.int x1, .int (v1 + x2)]) (rest := []) ⟨hx, hb, hml, hown, hts⟩ (ct_Im_setWord hal hN F u1 x0 x1 (v1 + x2) (u2, v2) hc2 q0 _) ⟨callB_of 2 hts gdIm_setWord rfl rfl rfl (hts _ tw_2) (hts _ tw_582) hdIm_setWord ⟨Nat.le_of_ble_eq_true rfl, Nat.le_of_ble_eq_true rfl⟩, (hts _ tw_584), (hts _ tp_22)⟩ (x_preV hK hD hNx hP (hal _ (okk_al q0)) (okk_t q0) rfl rfl) rfl rfl hl.1 rfl (lv_room (Nat.le_of_ble_eq_true rfl)) dIm_addToWord_9 ⟨Nat.zero_le _, Nat.zero_le _⟩) (fun H locs hP hS => ?_)
  exact x_vret hx hb hr hlocks h hP hS dIm_addToWord_12
def fn_Im_addToWord (F : Nat) (al : Nat → Bool) (u : Mr) (x0 : Nat) (x1 : Int32) (x2 : Int32) : Option (Mr × Int32) := bk_Im_addToWord_0 F al u x0 x1 x2
set_option maxHeartbeats 4000000 in
set_option maxRecDepth 100000 in
theorem ct_Im_addToWord {l : Launch} {D : va_G} {cA : Nat → ClassId} {ad : Nat → Nat} {L : List Nat} {rs : va_W} {al : Nat → Bool} (hal : ∀ k, al k = true → k ∈ L) (hN : L.Nodup) (F : Nat) (u : Mr) (x0 : Nat) (x1 : Int32) (x2 : Int32) (out : Mr × Int32) (h : fn_Im_addToWord F al u x0 x1 x2 = some out) (q0 : okk al 6 x0 = true) : CtV l yIm_addToWord wsIm_addToWord rm_Im_addToWord [.ref (ad x0), .int x1, .int x2] D cA ad L rs u out := by
  intro sz
  refine Met.ofW (cc := cIm_addToWord) (maxL := 3) (ret := none) (by decide) rfl ?_
  intro p e s m args below meth c s₁ B hml hv
  obtain ⟨rfl, hsz, hP, hK, hD0, hNx⟩ := hv
  subst hsz
  have hD := hD0.self (sz := s.heap.size)
  generalize hAe : va_A (ww ad cA L rs u) s.heap.size = A at hD ⊢
  have hA : ∀ q, s.heap.size ≤ q → A q := fun q h => by rw [← hAe]; exact Or.inr h
  have hl := lv_entry ([.ref (ad x0), .int x1, .int x2]) (n := 3) (Nat.le_of_ble_eq_true rfl)
  rw [lg_entry_eq]
  generalize (lg_sl ([.ref (ad x0), .int x1, .int x2]) ++ List.replicate (3 - (lg_sl ([.ref (ad x0), .int x1, .int x2])).length) Slot.unset).toArray = ls at hl ⊢
  exact wk_Im_addToWord_0 ⟨B.exec, B.bytes, hml, findClass_of_methodNamed B.named, hts_bw (atoms_spec (ws := wsIm_addToWord) B.pre), B.returns, B.notSynchronized, hK, hA, fun v => ww_D hD, hN, hal, hNx⟩ F out u x0 x1 x2 h q0 _ _ _ (lv_sub hl [0, 1, 2] rfl) hP va_S.rf
abbrev rm_Im_holdsWord : Room := { frames := 0, cells := 0, slots := 0, locals := 0 }
def bk_Im_holdsWord_0 (F : Nat) (al : Nat → Bool) (u : Mr) (x0 : Nat) (x1 : Int64) : Option (Mr × Int32) := if (lg_cmp x1 (0 : Int64)) < 0 then (some (u, (0 : Int32))) else (if 0 < (lg_cmp x1 (((u.1 x0 1) - (4 : Int32)).toInt64)) then (some (u, (0 : Int32))) else (some (u, (1 : Int32))))
set_option maxHeartbeats 4000000 in
set_option maxRecDepth 100000 in
theorem wk_Im_holdsWord_0 (cx : Cx p l e s m args below meth c cIm_holdsWord 3 bw "ImageForge$Image" (some .boolean) D cA ad L rs al A) (F : Nat) (out : Mr × Int32) : ∀ (u : Mr) (x0 : Nat) (x1 : Int64), bk_Im_holdsWord_0 F al u x0 x1 = some out → okk al 6 x0 = true → Wb p l e rm_Im_holdsWord s m args below meth c D cA ad L rs A (QI below args s D cA ad L rs A out) 3 0 [(0, .ref (ad x0)), (1, .long x1)] [] u := by
  obtain ⟨hx, hb, hml, hown, hts, hr, hlocks, hK, hA, hD, hN, hal, hNx⟩ := cx
  intro u x0 x1 h q0 H locs ls hl hP hS
  unfold bk_Im_holdsWord_0 at h
  refine lv_lload_n hx hb dIm_holdsWord_0 rfl (lv_at hl 1 rfl) ?_
  refine lv_lconst (v := 0) hx hb dIm_holdsWord_1 rfl ?_
  refine W.lcmp hx hb dIm_holdsWord_2 ?_
  refine lv_if_lt (tgt := 22) hx hb dIm_holdsWord_3 rfl (fun hc => ?_) (fun hc => ?_)
  · replace h := it_t h hc
    refine lv_iconst (v := 0) hx hb dIm_holdsWord_22 (by decide) ?_
    exact x_zret hx hb hr hlocks rfl h hP hS dIm_holdsWord_23
  · replace h := it_f h hc
    refine lv_lload_n hx hb dIm_holdsWord_6 rfl (lv_at hl 1 rfl) ?_
    refine lv_aload_n hx hb dIm_holdsWord_7 rfl (lv_at hl 0 rfl) ?_
    refine x_get hx hb hts in_Im hown hK hP (hal _ (okk_al q0)) (okk_t q0) rfl rfl 1 (by decide) (hts _ tw_49) (fun _ h9 => h9) rfl dIm_holdsWord_8 ?_
    refine lv_iconst (v := 4) hx hb dIm_holdsWord_11 (by decide) ?_
    refine lv_isub hx hb dIm_holdsWord_12 ?_
    refine lv_i2l (v := ((u.1 x0 1) - (4 : Int32)).toInt64) hx hb dIm_holdsWord_13 rfl ?_
    refine W.lcmp hx hb dIm_holdsWord_14 ?_
    refine lv_if_gt (tgt := 22) hx hb dIm_holdsWord_15 rfl (fun hc => ?_) (fun hc => ?_)
    · replace h := it_t h hc
      refine lv_iconst (v := 0) hx hb dIm_holdsWord_22 (by decide) ?_
      exact x_zret hx hb hr hlocks rfl h hP hS dIm_holdsWord_23
    · replace h := it_f h hc
      refine lv_iconst (v := 1) hx hb dIm_holdsWord_18 (by decide) ?_
      refine lv_goto (tgt := 23) hx hb dIm_holdsWord_19 rfl ?_
      exact x_zret hx hb hr hlocks rfl h hP hS dIm_holdsWord_23
def fn_Im_holdsWord (F : Nat) (al : Nat → Bool) (u : Mr) (x0 : Nat) (x1 : Int64) : Option (Mr × Int32) := bk_Im_holdsWord_0 F al u x0 x1
set_option maxHeartbeats 4000000 in
set_option maxRecDepth 100000 in
theorem ct_Im_holdsWord {l : Launch} {D : va_G} {cA : Nat → ClassId} {ad : Nat → Nat} {L : List Nat} {rs : va_W} {al : Nat → Bool} (hal : ∀ k, al k = true → k ∈ L) (hN : L.Nodup) (F : Nat) (u : Mr) (x0 : Nat) (x1 : Int64) (out : Mr × Int32) (h : fn_Im_holdsWord F al u x0 x1 = some out) (q0 : okk al 6 x0 = true) : CtI l yIm_holdsWord wsIm_holdsWord rm_Im_holdsWord [.ref (ad x0), .long x1] D cA ad L rs u out := by
  intro sz
  refine Met.ofW (cc := cIm_holdsWord) (maxL := 3) (ret := (some .boolean)) (by decide) rfl ?_
  intro p e s m args below meth c s₁ B hml hv
  obtain ⟨rfl, hsz, hP, hK, hD0, hNx⟩ := hv
  subst hsz
  have hD := hD0.self (sz := s.heap.size)
  generalize hAe : va_A (ww ad cA L rs u) s.heap.size = A at hD ⊢
  have hA : ∀ q, s.heap.size ≤ q → A q := fun q h => by rw [← hAe]; exact Or.inr h
  have hl := lv_entry ([.ref (ad x0), .long x1]) (n := 3) (Nat.le_of_ble_eq_true rfl)
  rw [lg_entry_eq]
  generalize (lg_sl ([.ref (ad x0), .long x1]) ++ List.replicate (3 - (lg_sl ([.ref (ad x0), .long x1])).length) Slot.unset).toArray = ls at hl ⊢
  exact wk_Im_holdsWord_0 ⟨B.exec, B.bytes, hml, findClass_of_methodNamed B.named, hts_bw (atoms_spec (ws := wsIm_holdsWord) B.pre), B.returns, B.notSynchronized, hK, hA, fun v => ww_D hD, hN, hal, hNx⟩ F out u x0 x1 h q0 _ _ _ (lv_sub hl [0, 1] rfl) hP va_S.rf
abbrev rm_Im_sectionBegin : Room := { frames := 1, cells := 0, slots := 0, locals := 21 }
def bk_Im_sectionBegin_0 (F : Nat) (al : Nat → Bool) (u : Mr) (x0 : Nat) (x1 : Int32) : Option (Mr × Int32) := bd2 (fn_Im_wordAt F al u x0 ((24 : Int32) + (x1 * (8 : Int32)))) fun u1 v1 => (some (u1, v1))
set_option maxHeartbeats 4000000 in
set_option maxRecDepth 100000 in
theorem wk_Im_sectionBegin_0 (cx : Cx p l e s m args below meth c cIm_sectionBegin 2 bw "ImageForge$Image" (some .int) D cA ad L rs al A) (F : Nat) (out : Mr × Int32) : ∀ (u : Mr) (x0 : Nat) (x1 : Int32), bk_Im_sectionBegin_0 F al u x0 x1 = some out → okk al 6 x0 = true → Wb p l e rm_Im_sectionBegin s m args below meth c D cA ad L rs A (QI below args s D cA ad L rs A out) 2 0 [(0, .ref (ad x0)), (1, .int x1)] [] u := by
  obtain ⟨hx, hb, hml, hown, hts, hr, hlocks, hK, hA, hD, hN, hal, hNx⟩ := cx
  intro u x0 x1 h q0 H locs ls hl hP hS
  unfold bk_Im_sectionBegin_0 at h
  refine lv_aload_n hx hb dIm_sectionBegin_0 rfl (lv_at hl 0 rfl) ?_
  refine lv_bipush (v := 24) hx hb dIm_sectionBegin_1 (by decide) ?_
  refine lv_iload_n hx hb dIm_sectionBegin_3 rfl (lv_at hl 1 rfl) ?_
  refine lv_bipush (v := 8) hx hb dIm_sectionBegin_4 (by decide) ?_
  refine lv_imul hx hb dIm_sectionBegin_6 ?_
  refine lv_iadd hx hb dIm_sectionBegin_7 ?_
  obtain ⟨u1, v1, hc1, h⟩ := bd2_some h
  refine x_ci (u := u) (out := (u1, v1)) hA hD hS (va_runV (As := [.int ((24 : Int32) + (x1 * (8 : Int32)))]) (rest := []) ⟨hx, hb, hml, hown, hts⟩ (ct_Im_wordAt hal hN F u x0 ((24 : Int32) + (x1 * (8 : Int32))) (u1, v1) hc1 q0 _) ⟨callB_of 1 hts gdIm_wordAt rfl rfl rfl (hts _ tw_2) (hts _ tw_637) hdIm_wordAt ⟨Nat.le_of_ble_eq_true rfl, Nat.le_of_ble_eq_true rfl⟩, (hts _ tw_240), (hts _ tp_3)⟩ (x_preV hK hD hNx hP (hal _ (okk_al q0)) (okk_t q0) rfl rfl) rfl rfl hl.1 rfl (lv_room (Nat.le_of_ble_eq_true rfl)) dIm_sectionBegin_8 ⟨Nat.zero_le _, Nat.zero_le _⟩) (fun H locs hP hS => ?_)
  exact x_iret hx hb hr hlocks h hP hS dIm_sectionBegin_11
def fn_Im_sectionBegin (F : Nat) (al : Nat → Bool) (u : Mr) (x0 : Nat) (x1 : Int32) : Option (Mr × Int32) := bk_Im_sectionBegin_0 F al u x0 x1
set_option maxHeartbeats 4000000 in
set_option maxRecDepth 100000 in
theorem ct_Im_sectionBegin {l : Launch} {D : va_G} {cA : Nat → ClassId} {ad : Nat → Nat} {L : List Nat} {rs : va_W} {al : Nat → Bool} (hal : ∀ k, al k = true → k ∈ L) (hN : L.Nodup) (F : Nat) (u : Mr) (x0 : Nat) (x1 : Int32) (out : Mr × Int32) (h : fn_Im_sectionBegin F al u x0 x1 = some out) (q0 : okk al 6 x0 = true) : CtI l yIm_sectionBegin wsIm_sectionBegin rm_Im_sectionBegin [.ref (ad x0), .int x1] D cA ad L rs u out := by
  intro sz
  refine Met.ofW (cc := cIm_sectionBegin) (maxL := 2) (ret := (some .int)) (by decide) rfl ?_
  intro p e s m args below meth c s₁ B hml hv
  obtain ⟨rfl, hsz, hP, hK, hD0, hNx⟩ := hv
  subst hsz
  have hD := hD0.self (sz := s.heap.size)
  generalize hAe : va_A (ww ad cA L rs u) s.heap.size = A at hD ⊢
  have hA : ∀ q, s.heap.size ≤ q → A q := fun q h => by rw [← hAe]; exact Or.inr h
  have hl := lv_entry ([.ref (ad x0), .int x1]) (n := 2) (Nat.le_of_ble_eq_true rfl)
  rw [lg_entry_eq]
  generalize (lg_sl ([.ref (ad x0), .int x1]) ++ List.replicate (2 - (lg_sl ([.ref (ad x0), .int x1])).length) Slot.unset).toArray = ls at hl ⊢
  exact wk_Im_sectionBegin_0 ⟨B.exec, B.bytes, hml, findClass_of_methodNamed B.named, hts_bw (atoms_spec (ws := wsIm_sectionBegin) B.pre), B.returns, B.notSynchronized, hK, hA, fun v => ww_D hD, hN, hal, hNx⟩ F out u x0 x1 h q0 _ _ _ (lv_sub hl [0, 1] rfl) hP va_S.rf
abbrev rm_Im_sectionSize : Room := { frames := 1, cells := 0, slots := 0, locals := 21 }
def bk_Im_sectionSize_0 (F : Nat) (al : Nat → Bool) (u : Mr) (x0 : Nat) (x1 : Int32) : Option (Mr × Int32) := bd2 (fn_Im_wordAt F al u x0 (((24 : Int32) + (x1 * (8 : Int32))) + (4 : Int32))) fun u1 v1 => (some (u1, v1))
set_option maxHeartbeats 4000000 in
set_option maxRecDepth 100000 in
theorem wk_Im_sectionSize_0 (cx : Cx p l e s m args below meth c cIm_sectionSize 2 bw "ImageForge$Image" (some .int) D cA ad L rs al A) (F : Nat) (out : Mr × Int32) : ∀ (u : Mr) (x0 : Nat) (x1 : Int32), bk_Im_sectionSize_0 F al u x0 x1 = some out → okk al 6 x0 = true → Wb p l e rm_Im_sectionSize s m args below meth c D cA ad L rs A (QI below args s D cA ad L rs A out) 2 0 [(0, .ref (ad x0)), (1, .int x1)] [] u := by
  obtain ⟨hx, hb, hml, hown, hts, hr, hlocks, hK, hA, hD, hN, hal, hNx⟩ := cx
  intro u x0 x1 h q0 H locs ls hl hP hS
  unfold bk_Im_sectionSize_0 at h
  refine lv_aload_n hx hb dIm_sectionSize_0 rfl (lv_at hl 0 rfl) ?_
  refine lv_bipush (v := 24) hx hb dIm_sectionSize_1 (by decide) ?_
  refine lv_iload_n hx hb dIm_sectionSize_3 rfl (lv_at hl 1 rfl) ?_
  refine lv_bipush (v := 8) hx hb dIm_sectionSize_4 (by decide) ?_
  refine lv_imul hx hb dIm_sectionSize_6 ?_
  refine lv_iadd hx hb dIm_sectionSize_7 ?_
  refine lv_iconst (v := 4) hx hb dIm_sectionSize_8 (by decide) ?_
  refine lv_iadd hx hb dIm_sectionSize_9 ?_
  obtain ⟨u1, v1, hc1, h⟩ := bd2_some h
  refine x_ci (u := u) (out := (u1, v1)) hA hD hS (va_runV (As := [.int (((24 : Int32) + (x1 * (8 : Int32))) + (4 : Int32))]) (rest := []) ⟨hx, hb, hml, hown, hts⟩ (ct_Im_wordAt hal hN F u x0 (((24 : Int32) + (x1 * (8 : Int32))) + (4 : Int32)) (u1, v1) hc1 q0 _) ⟨callB_of 1 hts gdIm_wordAt rfl rfl rfl (hts _ tw_2) (hts _ tw_637) hdIm_wordAt ⟨Nat.le_of_ble_eq_true rfl, Nat.le_of_ble_eq_true rfl⟩, (hts _ tw_240), (hts _ tp_3)⟩ (x_preV hK hD hNx hP (hal _ (okk_al q0)) (okk_t q0) rfl rfl) rfl rfl hl.1 rfl (lv_room (Nat.le_of_ble_eq_true rfl)) dIm_sectionSize_10 ⟨Nat.zero_le _, Nat.zero_le _⟩) (fun H locs hP hS => ?_)
  exact x_iret hx hb hr hlocks h hP hS dIm_sectionSize_13
def fn_Im_sectionSize (F : Nat) (al : Nat → Bool) (u : Mr) (x0 : Nat) (x1 : Int32) : Option (Mr × Int32) := bk_Im_sectionSize_0 F al u x0 x1
set_option maxHeartbeats 4000000 in
set_option maxRecDepth 100000 in
theorem ct_Im_sectionSize {l : Launch} {D : va_G} {cA : Nat → ClassId} {ad : Nat → Nat} {L : List Nat} {rs : va_W} {al : Nat → Bool} (hal : ∀ k, al k = true → k ∈ L) (hN : L.Nodup) (F : Nat) (u : Mr) (x0 : Nat) (x1 : Int32) (out : Mr × Int32) (h : fn_Im_sectionSize F al u x0 x1 = some out) (q0 : okk al 6 x0 = true) : CtI l yIm_sectionSize wsIm_sectionSize rm_Im_sectionSize [.ref (ad x0), .int x1] D cA ad L rs u out := by
  intro sz
  refine Met.ofW (cc := cIm_sectionSize) (maxL := 2) (ret := (some .int)) (by decide) rfl ?_
  intro p e s m args below meth c s₁ B hml hv
  obtain ⟨rfl, hsz, hP, hK, hD0, hNx⟩ := hv
  subst hsz
  have hD := hD0.self (sz := s.heap.size)
  generalize hAe : va_A (ww ad cA L rs u) s.heap.size = A at hD ⊢
  have hA : ∀ q, s.heap.size ≤ q → A q := fun q h => by rw [← hAe]; exact Or.inr h
  have hl := lv_entry ([.ref (ad x0), .int x1]) (n := 2) (Nat.le_of_ble_eq_true rfl)
  rw [lg_entry_eq]
  generalize (lg_sl ([.ref (ad x0), .int x1]) ++ List.replicate (2 - (lg_sl ([.ref (ad x0), .int x1])).length) Slot.unset).toArray = ls at hl ⊢
  exact wk_Im_sectionSize_0 ⟨B.exec, B.bytes, hml, findClass_of_methodNamed B.named, hts_bw (atoms_spec (ws := wsIm_sectionSize) B.pre), B.returns, B.notSynchronized, hK, hA, fun v => ww_D hD, hN, hal, hNx⟩ F out u x0 x1 h q0 _ _ _ (lv_sub hl [0, 1] rfl) hP va_S.rf
abbrev rm_Im_setSection : Room := { frames := 1, cells := 0, slots := 0, locals := 23 }
def bk_Im_setSection_0 (F : Nat) (al : Nat → Bool) (u : Mr) (x0 : Nat) (x1 : Int32) (x2 : Int32) (x3 : Int32) : Option (Mr × Int32) := bd2 (fn_Im_setWord F al u x0 ((24 : Int32) + (x1 * (8 : Int32))) x2) fun u1 v1 => (bd2 (fn_Im_setWord F al u1 x0 (((24 : Int32) + (x1 * (8 : Int32))) + (4 : Int32)) x3) fun u2 v2 => (some (u2, 0)))
set_option maxHeartbeats 4000000 in
set_option maxRecDepth 100000 in
theorem wk_Im_setSection_0 (cx : Cx p l e s m args below meth c cIm_setSection 4 bw "ImageForge$Image" none D cA ad L rs al A) (F : Nat) (out : Mr × Int32) : ∀ (u : Mr) (x0 : Nat) (x1 : Int32) (x2 : Int32) (x3 : Int32), bk_Im_setSection_0 F al u x0 x1 x2 x3 = some out → okk al 6 x0 = true → Wb p l e rm_Im_setSection s m args below meth c D cA ad L rs A (QV below args s D cA ad L rs A out) 4 0 [(0, .ref (ad x0)), (1, .int x1), (2, .int x2), (3, .int x3)] [] u := by
  obtain ⟨hx, hb, hml, hown, hts, hr, hlocks, hK, hA, hD, hN, hal, hNx⟩ := cx
  intro u x0 x1 x2 x3 h q0 H locs ls hl hP hS
  unfold bk_Im_setSection_0 at h
  refine lv_aload_n hx hb dIm_setSection_0 rfl (lv_at hl 0 rfl) ?_
  refine lv_bipush (v := 24) hx hb dIm_setSection_1 (by decide) ?_
  refine lv_iload_n hx hb dIm_setSection_3 rfl (lv_at hl 1 rfl) ?_
  refine lv_bipush (v := 8) hx hb dIm_setSection_4 (by decide) ?_
  refine lv_imul hx hb dIm_setSection_6 ?_
  refine lv_iadd hx hb dIm_setSection_7 ?_
  refine lv_iload_n hx hb dIm_setSection_8 rfl (lv_at hl 2 rfl) ?_
  obtain ⟨u1, v1, hc1, h⟩ := bd2_some h
  refine x_cv (u := u) (out := (u1, v1)) hA hD hS (va_runV (As := [.int ((24 : Int32) + (x1 * (8 : Int32))), .int x2]) (rest := []) ⟨hx, hb, hml, hown, hts⟩ (ct_Im_setWord hal hN F u x0 ((24 : Int32) + (x1 * (8 : Int32))) x2 (u1, v1) hc1 q0 _) ⟨callB_of 2 hts gdIm_setWord rfl rfl rfl (hts _ tw_2) (hts _ tw_582) hdIm_setWord ⟨Nat.le_of_ble_eq_true rfl, Nat.le_of_ble_eq_true rfl⟩, (hts _ tw_584), (hts _ tp_22)⟩ (x_preV hK hD hNx hP (hal _ (okk_al q0)) (okk_t q0) rfl rfl) rfl rfl hl.1 rfl (lv_room (Nat.le_of_ble_eq_true rfl)) dIm_setSection_9 ⟨Nat.zero_le _, Nat.zero_le _⟩) (fun H locs hP hS => ?_)
  refine lv_aload_n hx hb dIm_setSection_12 rfl (lv_at hl 0 rfl) ?_
  refine lv_bipush (v := 24) hx hb dIm_setSection_13 (by decide) ?_
  refine lv_iload_n hx hb dIm_setSection_15 rfl (lv_at hl 1 rfl) ?_
  refine lv_bipush (v := 8) hx hb dIm_setSection_16 (by decide) ?_
  refine lv_imul hx hb dIm_setSection_18 ?_
  refine lv_iadd hx hb dIm_setSection_19 ?_
  refine lv_iconst (v := 4) hx hb dIm_setSection_20 (by decide) ?_
  refine lv_iadd hx hb dIm_setSection_21 ?_
  refine lv_iload_n hx hb dIm_setSection_22 rfl (lv_at hl 3 rfl) ?_
  obtain ⟨u2, v2, hc2, h⟩ := bd2_some h
  refine x_cv (u := u1) (out := (u2, v2)) hA hD hS (va_runV (As := [.int (((24 : Int32) + (x1 * (8 : Int32))) + (4 : Int32)), .int x3]) (rest := []) ⟨hx, hb, hml, hown, hts⟩ (ct_Im_setWord hal hN F u1 x0 (((24 : Int32) + (x1 * (8 : Int32))) + (4 : Int32)) x3 (u2, v2) hc2 q0 _) ⟨callB_of 2 hts gdIm_setWord rfl rfl rfl (hts _ tw_2) (hts _ tw_582) hdIm_setWord ⟨Nat.le_of_ble_eq_true rfl, Nat.le_of_ble_eq_true rfl⟩, (hts _ tw_584), (hts _ tp_22)⟩ (x_preV hK hD hNx hP (hal _ (okk_al q0)) (okk_t q0) rfl rfl) rfl rfl hl.1 rfl (lv_room (Nat.le_of_ble_eq_true rfl)) dIm_setSection_23 ⟨Nat.zero_le _, Nat.zero_le _⟩) (fun H locs hP hS => ?_)
  exact x_vret hx hb hr hlocks h hP hS dIm_setSection_26
def fn_Im_setSection (F : Nat) (al : Nat → Bool) (u : Mr) (x0 : Nat) (x1 : Int32) (x2 : Int32) (x3 : Int32) : Option (Mr × Int32) := bk_Im_setSection_0 F al u x0 x1 x2 x3
set_option maxHeartbeats 4000000 in
set_option maxRecDepth 100000 in
theorem ct_Im_setSection {l : Launch} {D : va_G} {cA : Nat → ClassId} {ad : Nat → Nat} {L : List Nat} {rs : va_W} {al : Nat → Bool} (hal : ∀ k, al k = true → k ∈ L) (hN : L.Nodup) (F : Nat) (u : Mr) (x0 : Nat) (x1 : Int32) (x2 : Int32) (x3 : Int32) (out : Mr × Int32) (h : fn_Im_setSection F al u x0 x1 x2 x3 = some out) (q0 : okk al 6 x0 = true) : CtV l yIm_setSection wsIm_setSection rm_Im_setSection [.ref (ad x0), .int x1, .int x2, .int x3] D cA ad L rs u out := by
  intro sz
  refine Met.ofW (cc := cIm_setSection) (maxL := 4) (ret := none) (by decide) rfl ?_
  intro p e s m args below meth c s₁ B hml hv
  obtain ⟨rfl, hsz, hP, hK, hD0, hNx⟩ := hv
  subst hsz
  have hD := hD0.self (sz := s.heap.size)
  generalize hAe : va_A (ww ad cA L rs u) s.heap.size = A at hD ⊢
  have hA : ∀ q, s.heap.size ≤ q → A q := fun q h => by rw [← hAe]; exact Or.inr h
  have hl := lv_entry ([.ref (ad x0), .int x1, .int x2, .int x3]) (n := 4) (Nat.le_of_ble_eq_true rfl)
  rw [lg_entry_eq]
  generalize (lg_sl ([.ref (ad x0), .int x1, .int x2, .int x3]) ++ List.replicate (4 - (lg_sl ([.ref (ad x0), .int x1, .int x2, .int x3])).length) Slot.unset).toArray = ls at hl ⊢
  exact wk_Im_setSection_0 ⟨B.exec, B.bytes, hml, findClass_of_methodNamed B.named, hts_bw (atoms_spec (ws := wsIm_setSection) B.pre), B.returns, B.notSynchronized, hK, hA, fun v => ww_D hD, hN, hal, hNx⟩ F out u x0 x1 x2 x3 h q0 _ _ _ (lv_sub hl [0, 1, 2, 3] rfl) hP va_S.rf
abbrev rm_Im_holdsSection : Room := { frames := 2, cells := 0, slots := 0, locals := 42 }
def bk_Im_holdsSection_0 (F : Nat) (al : Nat → Bool) (u : Mr) (x0 : Nat) (x1 : Int32) : Option (Mr × Int32) := bd2 (fn_Im_sectionBegin F al u x0 x1) fun u1 v1 => (bd2 (fn_Im_sectionSize F al u1 x0 x1) fun u2 v2 => (if v1 < 0 then (some (u2, (0 : Int32))) else (if v2 < 0 then (some (u2, (0 : Int32))) else (if 0 < (lg_cmp (v1.toInt64 + v2.toInt64) ((u2.1 x0 1).toInt64)) then (some (u2, (0 : Int32))) else (some (u2, (1 : Int32)))))))
set_option maxHeartbeats 4000000 in
set_option maxRecDepth 100000 in
theorem wk_Im_holdsSection_0 (cx : Cx p l e s m args below meth c cIm_holdsSection 4 bw "ImageForge$Image" (some .boolean) D cA ad L rs al A) (F : Nat) (out : Mr × Int32) : ∀ (u : Mr) (x0 : Nat) (x1 : Int32), bk_Im_holdsSection_0 F al u x0 x1 = some out → okk al 6 x0 = true → Wb p l e rm_Im_holdsSection s m args below meth c D cA ad L rs A (QI below args s D cA ad L rs A out) 4 0 [(0, .ref (ad x0)), (1, .int x1)] [] u := by
  obtain ⟨hx, hb, hml, hown, hts, hr, hlocks, hK, hA, hD, hN, hal, hNx⟩ := cx
  intro u x0 x1 h q0 H locs ls hl hP hS
  unfold bk_Im_holdsSection_0 at h
  refine lv_aload_n hx hb dIm_holdsSection_0 rfl (lv_at hl 0 rfl) ?_
  refine lv_iload_n hx hb dIm_holdsSection_1 rfl (lv_at hl 1 rfl) ?_
  obtain ⟨u1, v1, hc1, h⟩ := bd2_some h
  refine x_ci (u := u) (out := (u1, v1)) hA hD hS (va_runV (As := [.int x1]) (rest := []) ⟨hx, hb, hml, hown, hts⟩ (ct_Im_sectionBegin hal hN F u x0 x1 (u1, v1) hc1 q0 _) ⟨callB_of 1 hts gdIm_sectionBegin rfl rfl rfl (hts _ tw_2) (hts _ tw_741) hdIm_sectionBegin ⟨Nat.le_of_ble_eq_true rfl, Nat.le_of_ble_eq_true rfl⟩, (hts _ tw_743), (hts _ tp_45)⟩ (x_preV hK hD hNx hP (hal _ (okk_al q0)) (okk_t q0) rfl rfl) rfl rfl hl.1 rfl (lv_room (Nat.le_of_ble_eq_true rfl)) dIm_holdsSection_2 ⟨Nat.zero_le _, Nat.zero_le _⟩) (fun H locs hP hS => ?_)
  refine lv_istore_n (lv' := [(2, .int v1), (0, .ref (ad x0)), (1, .int x1)]) hx hb dIm_holdsSection_5 rfl hl (by decide) rfl (fun ls hl => ?_)
  refine lv_aload_n hx hb dIm_holdsSection_6 rfl (lv_at hl 1 rfl) ?_
  refine lv_iload_n hx hb dIm_holdsSection_7 rfl (lv_at hl 2 rfl) ?_
  obtain ⟨u2, v2, hc2, h⟩ := bd2_some h
  refine x_ci (u := u1) (out := (u2, v2)) hA hD hS (va_runV (As := [.int x1]) (rest := []) ⟨hx, hb, hml, hown, hts⟩ (ct_Im_sectionSize hal hN F u1 x0 x1 (u2, v2) hc2 q0 _) ⟨callB_of 1 hts gdIm_sectionSize rfl rfl rfl (hts _ tw_2) (hts _ tw_745) hdIm_sectionSize ⟨Nat.le_of_ble_eq_true rfl, Nat.le_of_ble_eq_true rfl⟩, (hts _ tw_747), (hts _ tp_46)⟩ (x_preV hK hD hNx hP (hal _ (okk_al q0)) (okk_t q0) rfl rfl) rfl rfl hl.1 rfl (lv_room (Nat.le_of_ble_eq_true rfl)) dIm_holdsSection_8 ⟨Nat.zero_le _, Nat.zero_le _⟩) (fun H locs hP hS => ?_)
  refine lv_istore_n (lv' := [(3, .int v2), (2, .int v1), (0, .ref (ad x0)), (1, .int x1)]) hx hb dIm_holdsSection_11 rfl hl (by decide) rfl (fun ls hl => ?_)
  refine lv_iload_n hx hb dIm_holdsSection_12 rfl (lv_at hl 1 rfl) ?_
  refine lv_if_lt (tgt := 38) hx hb dIm_holdsSection_13 rfl (fun hc => ?_) (fun hc => ?_)
  · replace h := it_t h hc
    refine lv_iconst (v := 0) hx hb dIm_holdsSection_38 (by decide) ?_
    exact x_zret hx hb hr hlocks rfl h hP hS dIm_holdsSection_39
  · replace h := it_f h hc
    refine lv_iload_n hx hb dIm_holdsSection_16 rfl (lv_at hl 0 rfl) ?_
    refine lv_if_lt (tgt := 38) hx hb dIm_holdsSection_17 rfl (fun hc => ?_) (fun hc => ?_)
    · replace h := it_t h hc
      refine lv_iconst (v := 0) hx hb dIm_holdsSection_38 (by decide) ?_
      exact x_zret hx hb hr hlocks rfl h hP hS dIm_holdsSection_39
    · replace h := it_f h hc
      refine lv_iload_n hx hb dIm_holdsSection_20 rfl (lv_at hl 1 rfl) ?_
      refine lv_i2l (v := v1.toInt64) hx hb dIm_holdsSection_21 rfl ?_
      refine lv_iload_n hx hb dIm_holdsSection_22 rfl (lv_at hl 0 rfl) ?_
      refine lv_i2l (v := v2.toInt64) hx hb dIm_holdsSection_23 rfl ?_
      refine lv_ladd hx hb dIm_holdsSection_24 ?_
      refine lv_aload_n hx hb dIm_holdsSection_25 rfl (lv_at hl 2 rfl) ?_
      refine x_get hx hb hts in_Im hown hK hP (hal _ (okk_al q0)) (okk_t q0) rfl rfl 1 (by decide) (hts _ tw_49) (fun _ h9 => h9) rfl dIm_holdsSection_26 ?_
      refine lv_i2l (v := (u2.1 x0 1).toInt64) hx hb dIm_holdsSection_29 rfl ?_
      refine W.lcmp hx hb dIm_holdsSection_30 ?_
      refine lv_if_gt (tgt := 38) hx hb dIm_holdsSection_31 rfl (fun hc => ?_) (fun hc => ?_)
      · replace h := it_t h hc
        refine lv_iconst (v := 0) hx hb dIm_holdsSection_38 (by decide) ?_
        exact x_zret hx hb hr hlocks rfl h hP hS dIm_holdsSection_39
      · replace h := it_f h hc
        refine lv_iconst (v := 1) hx hb dIm_holdsSection_34 (by decide) ?_
        refine lv_goto (tgt := 39) hx hb dIm_holdsSection_35 rfl ?_
        exact x_zret hx hb hr hlocks rfl h hP hS dIm_holdsSection_39
def fn_Im_holdsSection (F : Nat) (al : Nat → Bool) (u : Mr) (x0 : Nat) (x1 : Int32) : Option (Mr × Int32) := bk_Im_holdsSection_0 F al u x0 x1
set_option maxHeartbeats 4000000 in
set_option maxRecDepth 100000 in
theorem ct_Im_holdsSection {l : Launch} {D : va_G} {cA : Nat → ClassId} {ad : Nat → Nat} {L : List Nat} {rs : va_W} {al : Nat → Bool} (hal : ∀ k, al k = true → k ∈ L) (hN : L.Nodup) (F : Nat) (u : Mr) (x0 : Nat) (x1 : Int32) (out : Mr × Int32) (h : fn_Im_holdsSection F al u x0 x1 = some out) (q0 : okk al 6 x0 = true) : CtI l yIm_holdsSection wsIm_holdsSection rm_Im_holdsSection [.ref (ad x0), .int x1] D cA ad L rs u out := by
  intro sz
  refine Met.ofW (cc := cIm_holdsSection) (maxL := 4) (ret := (some .boolean)) (by decide) rfl ?_
  intro p e s m args below meth c s₁ B hml hv
  obtain ⟨rfl, hsz, hP, hK, hD0, hNx⟩ := hv
  subst hsz
  have hD := hD0.self (sz := s.heap.size)
  generalize hAe : va_A (ww ad cA L rs u) s.heap.size = A at hD ⊢
  have hA : ∀ q, s.heap.size ≤ q → A q := fun q h => by rw [← hAe]; exact Or.inr h
  have hl := lv_entry ([.ref (ad x0), .int x1]) (n := 4) (Nat.le_of_ble_eq_true rfl)
  rw [lg_entry_eq]
  generalize (lg_sl ([.ref (ad x0), .int x1]) ++ List.replicate (4 - (lg_sl ([.ref (ad x0), .int x1])).length) Slot.unset).toArray = ls at hl ⊢
  exact wk_Im_holdsSection_0 ⟨B.exec, B.bytes, hml, findClass_of_methodNamed B.named, hts_bw (atoms_spec (ws := wsIm_holdsSection) B.pre), B.returns, B.notSynchronized, hK, hA, fun v => ww_D hD, hN, hal, hNx⟩ F out u x0 x1 h q0 _ _ _ (lv_sub hl [0, 1] rfl) hP va_S.rf
abbrev rm_Im_checksum : Room := { frames := 1, cells := 0, slots := 0, locals := 21 }
def bk_Im_checksum_42 (F : Nat) (al : Nat → Bool) (k4 : Mr → Nat → Int32 → Int32 → Option (Mr × Int32)) (u : Mr) (x0 : Nat) (x1 : Int32) (x2 : Int32) : Option (Mr × Int32) := k4 u x0 x1 (x2 + (2 : Int32))
set_option maxHeartbeats 4000000 in
set_option maxRecDepth 100000 in
theorem wk_Im_checksum_42 (cx : Cx p l e s m args below meth c cIm_checksum 3 bw "ImageForge$Image" (some .int) D cA ad L rs al A) (F : Nat) (out : Mr × Int32) {k4 : Mr → Nat → Int32 → Int32 → Option (Mr × Int32)} (hk4 : ∀ (u : Mr) (x0 : Nat) (x1 : Int32) (x2 : Int32), k4 u x0 x1 x2 = some out → okk al 6 x0 = true → Wb p l e rm_Im_checksum s m args below meth c D cA ad L rs A (QI below args s D cA ad L rs A out) 3 4 [(0, .ref (ad x0)), (1, .int x1), (2, .int x2)] [] u) : ∀ (u : Mr) (x0 : Nat) (x1 : Int32) (x2 : Int32), bk_Im_checksum_42 F al k4 u x0 x1 x2 = some out → okk al 6 x0 = true → Wb p l e rm_Im_checksum s m args below meth c D cA ad L rs A (QI below args s D cA ad L rs A out) 3 42 [(0, .ref (ad x0)), (1, .int x1), (2, .int x2)] [] u := by
  obtain ⟨hx, hb, hml, hown, hts, hr, hlocks, hK, hA, hD, hN, hal, hNx⟩ := cx
  intro u x0 x1 x2 h q0 H locs ls hl hP hS
  unfold bk_Im_checksum_42 at h
  refine lv_iinc (k := 2) (v := x2 + (2 : Int32)) (lv' := [(2, .int (x2 + (2 : Int32))), (0, .ref (ad x0)), (1, .int x1)]) hx hb dIm_checksum_42 hl rfl (congrArg (fun z => _ + z) (show Int32.ofInt 2 = 2 by decide)) (by decide) rfl (fun ls hl => ?_)
  refine lv_goto (tgt := 4) hx hb dIm_checksum_45 rfl ?_
  exact hk4 u x0 x1 (x2 + (2 : Int32)) h q0 _ _ _ (lv_sub hl [1, 2, 0] rfl) hP hS
def bk_Im_checksum_24 (F : Nat) (al : Nat → Bool) (k4 : Mr → Nat → Int32 → Int32 → Option (Mr × Int32)) (u : Mr) (x0 : Nat) (x1 : Int32) (x2 : Int32) : Option (Mr × Int32) := bd2 (fn_Im_halfAt F al u x0 x2) fun u1 v1 => (bk_Im_checksum_42 F al k4 u1 x0 (((x1 + v1) &&& (65535 : Int32)) + ((x1 + v1) >>> ((16 : Int32) &&& 31))) x2)
set_option maxHeartbeats 4000000 in
set_option maxRecDepth 100000 in
theorem wk_Im_checksum_24 (cx : Cx p l e s m args below meth c cIm_checksum 3 bw "ImageForge$Image" (some .int) D cA ad L rs al A) (F : Nat) (out : Mr × Int32) {k4 : Mr → Nat → Int32 → Int32 → Option (Mr × Int32)} (hk4 : ∀ (u : Mr) (x0 : Nat) (x1 : Int32) (x2 : Int32), k4 u x0 x1 x2 = some out → okk al 6 x0 = true → Wb p l e rm_Im_checksum s m args below meth c D cA ad L rs A (QI below args s D cA ad L rs A out) 3 4 [(0, .ref (ad x0)), (1, .int x1), (2, .int x2)] [] u) : ∀ (u : Mr) (x0 : Nat) (x1 : Int32) (x2 : Int32), bk_Im_checksum_24 F al k4 u x0 x1 x2 = some out → okk al 6 x0 = true → Wb p l e rm_Im_checksum s m args below meth c D cA ad L rs A (QI below args s D cA ad L rs A out) 3 24 [(0, .ref (ad x0)), (1, .int x1), (2, .int x2)] [] u := by
  obtain ⟨hx, hb, hml, hown, hts, hr, hlocks, hK, hA, hD, hN, hal, hNx⟩ := cx
  intro u x0 x1 x2 h q0 H locs ls hl hP hS
  unfold bk_Im_checksum_24 at h
  refine lv_iload_n hx hb dIm_checksum_24 rfl (lv_at hl 1 rfl) ?_
  refine lv_aload_n hx hb dIm_checksum_25 rfl (lv_at hl 0 rfl) ?_
  refine lv_iload_n hx hb dIm_checksum_26 rfl (lv_at hl 2 rfl) ?_
  obtain ⟨u1, v1, hc1, h⟩ := bd2_some h
  refine x_ci (u := u) (out := (u1, v1)) hA hD hS (va_runV (As := [.int x2]) (rest := [.int x1]) ⟨hx, hb, hml, hown, hts⟩ (ct_Im_halfAt hal hN F u x0 x2 (u1, v1) hc1 q0 _) ⟨callB_of 1 hts gdIm_halfAt rfl rfl rfl (hts _ tw_2) (hts _ tw_659) hdIm_halfAt ⟨Nat.le_of_ble_eq_true rfl, Nat.le_of_ble_eq_true rfl⟩, (hts _ tw_661), (hts _ tp_36)⟩ (x_preV hK hD hNx hP (hal _ (okk_al q0)) (okk_t q0) rfl rfl) rfl rfl hl.1 rfl (lv_room (Nat.le_of_ble_eq_true rfl)) dIm_checksum_27 ⟨Nat.zero_le _, Nat.zero_le _⟩) (fun H locs hP hS => ?_)
  refine lv_iadd hx hb dIm_checksum_30 ?_
  refine lv_istore_n (lv' := [(1, .int (x1 + v1)), (0, .ref (ad x0)), (2, .int x2)]) hx hb dIm_checksum_31 rfl hl (by decide) rfl (fun ls hl => ?_)
  refine lv_iload_n hx hb dIm_checksum_32 rfl (lv_at hl 0 rfl) ?_
  refine lv_ldc (v := 65535) hx hb hown (hts _ tw_663) dIm_checksum_33 ?_
  refine lv_iand hx hb dIm_checksum_35 ?_
  refine lv_iload_n hx hb dIm_checksum_36 rfl (lv_at hl 0 rfl) ?_
  refine lv_bipush (v := 16) hx hb dIm_checksum_37 (by decide) ?_
  refine lv_ishr hx hb dIm_checksum_39 ?_
  refine lv_iadd hx hb dIm_checksum_40 ?_
  refine lv_istore_n (lv' := [(1, .int (((x1 + v1) &&& (65535 : Int32)) + ((x1 + v1) >>> ((16 : Int32) &&& 31)))), (0, .ref (ad x0)), (2, .int x2)]) hx hb dIm_checksum_41 rfl hl (by decide) rfl (fun ls hl => ?_)
  exact wk_Im_checksum_42 ⟨hx, hb, hml, hown, hts, hr, hlocks, hK, hA, hD, hN, hal, hNx⟩ F out hk4 u1 x0 (((x1 + v1) &&& (65535 : Int32)) + ((x1 + v1) >>> ((16 : Int32) &&& 31))) x2 h q0 _ _ _ (lv_sub hl [1, 0, 2] rfl) hP hS
def bk_Im_checksum_4 (F : Nat) (al : Nat → Bool) : Nat → Mr → Nat → Int32 → Int32 → Option (Mr × Int32)
  | 0, _, _, _, _ => none
  | n + 1, u, x0, x1, x2 => if (u.1 x0 1) ≤ x2 then (some (u, x1 + (u.1 x0 1))) else (if x2 < (20 : Int32) then (bk_Im_checksum_24 F al (bk_Im_checksum_4 F al n) u x0 x1 x2) else (if x2 < (24 : Int32) then (bk_Im_checksum_42 F al (bk_Im_checksum_4 F al n) u x0 x1 x2) else (bk_Im_checksum_24 F al (bk_Im_checksum_4 F al n) u x0 x1 x2)))
set_option maxHeartbeats 4000000 in
set_option maxRecDepth 100000 in
theorem wk_Im_checksum_4 (cx : Cx p l e s m args below meth c cIm_checksum 3 bw "ImageForge$Image" (some .int) D cA ad L rs al A) (F : Nat) (out : Mr × Int32) : ∀ n : Nat, ∀ (u : Mr) (x0 : Nat) (x1 : Int32) (x2 : Int32), bk_Im_checksum_4 F al n u x0 x1 x2 = some out → okk al 6 x0 = true → Wb p l e rm_Im_checksum s m args below meth c D cA ad L rs A (QI below args s D cA ad L rs A out) 3 4 [(0, .ref (ad x0)), (1, .int x1), (2, .int x2)] [] u := by
  obtain ⟨hx, hb, hml, hown, hts, hr, hlocks, hK, hA, hD, hN, hal, hNx⟩ := cx
  intro n
  induction n with
  | zero =>
    intro u x0 x1 x2 h
    cases h
  | succ n ih =>
    intro u x0 x1 x2 h q0 H locs ls hl hP hS
    rw [bk_Im_checksum_4] at h
    refine lv_iload_n hx hb dIm_checksum_4 rfl (lv_at hl 2 rfl) ?_
    refine lv_aload_n hx hb dIm_checksum_5 rfl (lv_at hl 0 rfl) ?_
    refine x_get hx hb hts in_Im hown hK hP (hal _ (okk_al q0)) (okk_t q0) rfl rfl 1 (by decide) (hts _ tw_49) (fun _ h9 => h9) rfl dIm_checksum_6 ?_
    refine lv_icmp_ge (tgt := 48) hx hb dIm_checksum_9 rfl (fun hc => ?_) (fun hc => ?_)
    · replace h := it_t h hc
      refine lv_iload_n hx hb dIm_checksum_48 rfl (lv_at hl 1 rfl) ?_
      refine lv_aload_n hx hb dIm_checksum_49 rfl (lv_at hl 0 rfl) ?_
      refine x_get hx hb hts in_Im hown hK hP (hal _ (okk_al q0)) (okk_t q0) rfl rfl 1 (by decide) (hts _ tw_49) (fun _ h9 => h9) rfl dIm_checksum_50 ?_
      refine lv_iadd hx hb dIm_checksum_53 ?_
      exact x_iret hx hb hr hlocks h hP hS dIm_checksum_54
    · replace h := it_f h hc
      refine lv_iload_n hx hb dIm_checksum_12 rfl (lv_at hl 2 rfl) ?_
      refine lv_bipush (v := 20) hx hb dIm_checksum_13 (by decide) ?_
      refine lv_icmp_lt (tgt := 24) hx hb dIm_checksum_15 rfl (fun hc => ?_) (fun hc => ?_)
      · replace h := it_t h hc
        exact wk_Im_checksum_24 ⟨hx, hb, hml, hown, hts, hr, hlocks, hK, hA, hD, hN, hal, hNx⟩ F out ih u x0 x1 x2 h q0 _ _ _ (lv_sub hl [0, 1, 2] rfl) hP hS
      · replace h := it_f h hc
        refine lv_iload_n hx hb dIm_checksum_18 rfl (lv_at hl 2 rfl) ?_
        refine lv_bipush (v := 24) hx hb dIm_checksum_19 (by decide) ?_
        refine lv_icmp_lt (tgt := 42) hx hb dIm_checksum_21 rfl (fun hc => ?_) (fun hc => ?_)
        · replace h := it_t h hc
          exact wk_Im_checksum_42 ⟨hx, hb, hml, hown, hts, hr, hlocks, hK, hA, hD, hN, hal, hNx⟩ F out ih u x0 x1 x2 h q0 _ _ _ (lv_sub hl [0, 1, 2] rfl) hP hS
        · replace h := it_f h hc
          exact wk_Im_checksum_24 ⟨hx, hb, hml, hown, hts, hr, hlocks, hK, hA, hD, hN, hal, hNx⟩ F out ih u x0 x1 x2 h q0 _ _ _ (lv_sub hl [0, 1, 2] rfl) hP hS
def bk_Im_checksum_0 (F : Nat) (al : Nat → Bool) (u : Mr) (x0 : Nat) : Option (Mr × Int32) := bk_Im_checksum_4 F al F u x0 (0 : Int32) (0 : Int32)
set_option maxHeartbeats 4000000 in
set_option maxRecDepth 100000 in
theorem wk_Im_checksum_0 (cx : Cx p l e s m args below meth c cIm_checksum 3 bw "ImageForge$Image" (some .int) D cA ad L rs al A) (F : Nat) (out : Mr × Int32) : ∀ (u : Mr) (x0 : Nat), bk_Im_checksum_0 F al u x0 = some out → okk al 6 x0 = true → Wb p l e rm_Im_checksum s m args below meth c D cA ad L rs A (QI below args s D cA ad L rs A out) 3 0 [(0, .ref (ad x0))] [] u := by
  obtain ⟨hx, hb, hml, hown, hts, hr, hlocks, hK, hA, hD, hN, hal, hNx⟩ := cx
  intro u x0 h q0 H locs ls hl hP hS
  unfold bk_Im_checksum_0 at h
  refine lv_iconst (v := 0) hx hb dIm_checksum_0 (by decide) ?_
  refine lv_istore_n (lv' := [(1, .int (0 : Int32)), (0, .ref (ad x0))]) hx hb dIm_checksum_1 rfl hl (by decide) rfl (fun ls hl => ?_)
  refine lv_iconst (v := 0) hx hb dIm_checksum_2 (by decide) ?_
  refine lv_istore_n (lv' := [(2, .int (0 : Int32)), (1, .int (0 : Int32)), (0, .ref (ad x0))]) hx hb dIm_checksum_3 rfl hl (by decide) rfl (fun ls hl => ?_)
  exact wk_Im_checksum_4 ⟨hx, hb, hml, hown, hts, hr, hlocks, hK, hA, hD, hN, hal, hNx⟩ F out F u x0 (0 : Int32) (0 : Int32) h q0 _ _ _ (lv_sub hl [2, 1, 0] rfl) hP hS
def fn_Im_checksum (F : Nat) (al : Nat → Bool) (u : Mr) (x0 : Nat) : Option (Mr × Int32) := bk_Im_checksum_0 F al u x0
set_option maxHeartbeats 4000000 in
set_option maxRecDepth 100000 in
theorem ct_Im_checksum {l : Launch} {D : va_G} {cA : Nat → ClassId} {ad : Nat → Nat} {L : List Nat} {rs : va_W} {al : Nat → Bool} (hal : ∀ k, al k = true → k ∈ L) (hN : L.Nodup) (F : Nat) (u : Mr) (x0 : Nat) (out : Mr × Int32) (h : fn_Im_checksum F al u x0 = some out) (q0 : okk al 6 x0 = true) : CtI l yIm_checksum wsIm_checksum rm_Im_checksum [.ref (ad x0)] D cA ad L rs u out := by
  intro sz
  refine Met.ofW (cc := cIm_checksum) (maxL := 3) (ret := (some .int)) (by decide) rfl ?_
  intro p e s m args below meth c s₁ B hml hv
  obtain ⟨rfl, hsz, hP, hK, hD0, hNx⟩ := hv
  subst hsz
  have hD := hD0.self (sz := s.heap.size)
  generalize hAe : va_A (ww ad cA L rs u) s.heap.size = A at hD ⊢
  have hA : ∀ q, s.heap.size ≤ q → A q := fun q h => by rw [← hAe]; exact Or.inr h
  have hl := lv_entry ([.ref (ad x0)]) (n := 3) (Nat.le_of_ble_eq_true rfl)
  rw [lg_entry_eq]
  generalize (lg_sl ([.ref (ad x0)]) ++ List.replicate (3 - (lg_sl ([.ref (ad x0)])).length) Slot.unset).toArray = ls at hl ⊢
  exact wk_Im_checksum_0 ⟨B.exec, B.bytes, hml, findClass_of_methodNamed B.named, hts_bw (atoms_spec (ws := wsIm_checksum) B.pre), B.returns, B.notSynchronized, hK, hA, fun v => ww_D hD, hN, hal, hNx⟩ F out u x0 h q0 _ _ _ (lv_sub hl [0] rfl) hP va_S.rf
end

abbrev yLd_hasHeader : MethodName := ⟨"ImageForge$Loader", "hasHeader", "(LImageForge$Image;)Z"⟩
abbrev cLd_hasHeader : ByteArray := prog_4_method_4_code
abbrev wsLd_hasHeader : List Cond := .code yLd_hasHeader cLd_hasHeader 2 (some .boolean) :: bw
theorem gdLd_hasHeader : GoodIn bw wsLd_hasHeader := gd_of tw_731
theorem hdLd_hasHeader : yLd_hasHeader.cls ≠ "java/lang/invoke/MethodHandle" ∧ yLd_hasHeader.cls ≠ "java/lang/invoke/VarHandle" ∧ (parseMethodDescriptor yLd_hasHeader.desc).map (fun d => d.parameters.length) = some 1 := by decide +kernel
theorem dLd_hasHeader_0 : decode cLd_hasHeader 0 = .ok (.aload_n 1, 1) := by decide +kernel
theorem dLd_hasHeader_1 : decode cLd_hasHeader 1 = .ok (.iconst 0, 1) := by decide +kernel
theorem dLd_hasHeader_2 : decode cLd_hasHeader 2 = .ok (.invokevirtual 50, 3) := by decide +kernel
theorem dLd_hasHeader_5 : decode cLd_hasHeader 5 = .ok (.sipush 23117, 3) := by decide +kernel
theorem dLd_hasHeader_8 : decode cLd_hasHeader 8 = .ok (.if_icmp .ne 29, 3) := by decide +kernel
theorem dLd_hasHeader_11 : decode cLd_hasHeader 11 = .ok (.aload_n 1, 1) := by decide +kernel
theorem dLd_hasHeader_12 : decode cLd_hasHeader 12 = .ok (.iconst 4, 1) := by decide +kernel
theorem dLd_hasHeader_13 : decode cLd_hasHeader 13 = .ok (.invokevirtual 50, 3) := by decide +kernel
theorem dLd_hasHeader_16 : decode cLd_hasHeader 16 = .ok (.iconst 5, 1) := by decide +kernel
theorem dLd_hasHeader_17 : decode cLd_hasHeader 17 = .ok (.if_icmp .ne 20, 3) := by decide +kernel
theorem dLd_hasHeader_20 : decode cLd_hasHeader 20 = .ok (.aload_n 1, 1) := by decide +kernel
theorem dLd_hasHeader_21 : decode cLd_hasHeader 21 = .ok (.bipush 12, 2) := by decide +kernel
theorem dLd_hasHeader_23 : decode cLd_hasHeader 23 = .ok (.invokevirtual 50, 3) := by decide +kernel
theorem dLd_hasHeader_26 : decode cLd_hasHeader 26 = .ok (.aload_n 1, 1) := by decide +kernel
theorem dLd_hasHeader_27 : decode cLd_hasHeader 27 = .ok (.getfield 68, 3) := by decide +kernel
theorem dLd_hasHeader_30 : decode cLd_hasHeader 30 = .ok (.if_icmp .ne 7, 3) := by decide +kernel
theorem dLd_hasHeader_33 : decode cLd_hasHeader 33 = .ok (.iconst 1, 1) := by decide +kernel
theorem dLd_hasHeader_34 : decode cLd_hasHeader 34 = .ok (.goto 4, 3) := by decide +kernel
theorem dLd_hasHeader_37 : decode cLd_hasHeader 37 = .ok (.iconst 0, 1) := by decide +kernel
theorem dLd_hasHeader_38 : decode cLd_hasHeader 38 = .ok (.ireturn, 1) := by decide +kernel
abbrev yLd_holdsSections : MethodName := ⟨"ImageForge$Loader", "holdsSections", "(LImageForge$Image;)Z"⟩
abbrev cLd_holdsSections : ByteArray := prog_4_method_5_code
abbrev wsLd_holdsSections : List Cond := .code yLd_holdsSections cLd_holdsSections 3 (some .boolean) :: bw
theorem gdLd_holdsSections : GoodIn bw wsLd_holdsSections := gd_of tw_736
theorem hdLd_holdsSections : yLd_holdsSections.cls ≠ "java/lang/invoke/MethodHandle" ∧ yLd_holdsSections.cls ≠ "java/lang/invoke/VarHandle" ∧ (parseMethodDescriptor yLd_holdsSections.desc).map (fun d => d.parameters.length) = some 1 := by decide +kernel
theorem dLd_holdsSections_0 : decode cLd_holdsSections 0 = .ok (.iconst 0, 1) := by decide +kernel
theorem dLd_holdsSections_1 : decode cLd_holdsSections 1 = .ok (.istore_n 2, 1) := by decide +kernel
theorem dLd_holdsSections_2 : decode cLd_holdsSections 2 = .ok (.iload_n 2, 1) := by decide +kernel
theorem dLd_holdsSections_3 : decode cLd_holdsSections 3 = .ok (.iconst 5, 1) := by decide +kernel
theorem dLd_holdsSections_4 : decode cLd_holdsSections 4 = .ok (.if_icmp .ge 19, 3) := by decide +kernel
theorem dLd_holdsSections_7 : decode cLd_holdsSections 7 = .ok (.aload_n 1, 1) := by decide +kernel
theorem dLd_holdsSections_8 : decode cLd_holdsSections 8 = .ok (.iload_n 2, 1) := by decide +kernel
theorem dLd_holdsSections_9 : decode cLd_holdsSections 9 = .ok (.invokevirtual 71, 3) := by decide +kernel
theorem dLd_holdsSections_12 : decode cLd_holdsSections 12 = .ok (.ifCond .ne 5, 3) := by decide +kernel
theorem dLd_holdsSections_15 : decode cLd_holdsSections 15 = .ok (.iconst 0, 1) := by decide +kernel
theorem dLd_holdsSections_16 : decode cLd_holdsSections 16 = .ok (.ireturn, 1) := by decide +kernel
theorem dLd_holdsSections_17 : decode cLd_holdsSections 17 = .ok (.iinc 2 1, 3) := by decide +kernel
theorem dLd_holdsSections_20 : decode cLd_holdsSections 20 = .ok (.goto (-18), 3) := by decide +kernel
theorem dLd_holdsSections_23 : decode cLd_holdsSections 23 = .ok (.iconst 1, 1) := by decide +kernel
theorem dLd_holdsSections_24 : decode cLd_holdsSections 24 = .ok (.ireturn, 1) := by decide +kernel
section
variable {p : Program} {l : Launch} {e : Env} {s : State} {m : MethodId} {args : Array Value} {below : List Frame} {meth : Method} {c : Code} {D : va_G} {cA : Nat → ClassId} {ad : Nat → Nat} {L : List Nat} {rs : va_W} {al : Nat → Bool} {A : Nat → Prop}
abbrev rm_Ld_hasHeader : Room := { frames := 1, cells := 0, slots := 0, locals := 21 }
def bk_Ld_hasHeader_0 (F : Nat) (al : Nat → Bool) (u : Mr) (x1 : Nat) : Option (Mr × Int32) := bd2 (fn_Im_wordAt F al u x1 (0 : Int32)) fun u1 v1 => (if v1 = (23117 : Int32) then (bd2 (fn_Im_wordAt F al u1 x1 (4 : Int32)) fun u2 v2 => (if v2 = (5 : Int32) then (bd2 (fn_Im_wordAt F al u2 x1 (12 : Int32)) fun u3 v3 => (if v3 = (u3.1 x1 1) then (some (u3, (1 : Int32))) else (some (u3, (0 : Int32))))) else (some (u2, (0 : Int32))))) else (some (u1, (0 : Int32))))
set_option maxHeartbeats 4000000 in
set_option maxRecDepth 100000 in
theorem wk_Ld_hasHeader_0 (cx : Cx p l e s m args below meth c cLd_hasHeader 2 bw "ImageForge$Loader" (some .boolean) D cA ad L rs al A) (F : Nat) (out : Mr × Int32) : ∀ (u : Mr) (x1 : Nat), bk_Ld_hasHeader_0 F al u x1 = some out → okk al 6 x1 = true → Wb p l e rm_Ld_hasHeader s m args below meth c D cA ad L rs A (QI below args s D cA ad L rs A out) 2 0 [(1, .ref (ad x1))] [] u := by
  obtain ⟨hx, hb, hml, hown, hts, hr, hlocks, hK, hA, hD, hN, hal, hNx⟩ := cx
  intro u x1 h q1 H locs ls hl hP hS
  unfold bk_Ld_hasHeader_0 at h
  refine lv_aload_n hx hb dLd_hasHeader_0 rfl (lv_at hl 0 rfl) ?_
  refine lv_iconst (v := 0) hx hb dLd_hasHeader_1 (by decide) ?_
  obtain ⟨u1, v1, hc1, h⟩ := bd2_some h
  refine x_ci (u := u) (out := (u1, v1)) hA hD hS (va_runVN (As := [.int (0 : Int32)]) (rest := []) ⟨hx, hb, hml, hown, hts⟩ (ct_Im_wordAt hal hN F u x1 (0 : Int32) (u1, v1) hc1 q1 _) ⟨va_cnB 1 hts gdIm_wordAt rfl rfl rfl (nn_10 hNx) (hts _ tw_2) hdIm_wordAt ⟨Nat.le_of_ble_eq_true rfl, Nat.le_of_ble_eq_true rfl⟩, (hts _ tw_240), (hts _ tp_3)⟩ (x_preV hK hD hNx hP (hal _ (okk_al q1)) (okk_t q1) rfl rfl) rfl rfl hl.1 rfl (lv_room (Nat.le_of_ble_eq_true rfl)) dLd_hasHeader_2 ⟨Nat.zero_le _, Nat.zero_le _⟩) (fun H locs hP hS => ?_)
  refine lv_sipush (v := 23117) hx hb dLd_hasHeader_5 (by decide) ?_
  refine lv_icmp_ne (tgt := 37) hx hb dLd_hasHeader_8 rfl (fun hc => ?_) (fun hc => ?_)
  · replace h := it_f h hc
    refine lv_iconst (v := 0) hx hb dLd_hasHeader_37 (by decide) ?_
    exact x_zret hx hb hr hlocks rfl h hP hS dLd_hasHeader_38
  · replace h := it_t h hc
    refine lv_aload_n hx hb dLd_hasHeader_11 rfl (lv_at hl 0 rfl) ?_
    refine lv_iconst (v := 4) hx hb dLd_hasHeader_12 (by decide) ?_
    obtain ⟨u2, v2, hc2, h⟩ := bd2_some h
    refine x_ci (u := u1) (out := (u2, v2)) hA hD hS (va_runVN (As := [.int (4 : Int32)]) (rest := []) ⟨hx, hb, hml, hown, hts⟩ (ct_Im_wordAt hal hN F u1 x1 (4 : Int32) (u2, v2) hc2 q1 _) ⟨va_cnB 1 hts gdIm_wordAt rfl rfl rfl (nn_10 hNx) (hts _ tw_2) hdIm_wordAt ⟨Nat.le_of_ble_eq_true rfl, Nat.le_of_ble_eq_true rfl⟩, (hts _ tw_240), (hts _ tp_3)⟩ (x_preV hK hD hNx hP (hal _ (okk_al q1)) (okk_t q1) rfl rfl) rfl rfl hl.1 rfl (lv_room (Nat.le_of_ble_eq_true rfl)) dLd_hasHeader_13 ⟨Nat.zero_le _, Nat.zero_le _⟩) (fun H locs hP hS => ?_)
    refine lv_iconst (v := 5) hx hb dLd_hasHeader_16 (by decide) ?_
    refine lv_icmp_ne (tgt := 37) hx hb dLd_hasHeader_17 rfl (fun hc => ?_) (fun hc => ?_)
    · replace h := it_f h hc
      refine lv_iconst (v := 0) hx hb dLd_hasHeader_37 (by decide) ?_
      exact x_zret hx hb hr hlocks rfl h hP hS dLd_hasHeader_38
    · replace h := it_t h hc
      refine lv_aload_n hx hb dLd_hasHeader_20 rfl (lv_at hl 0 rfl) ?_
      refine lv_bipush (v := 12) hx hb dLd_hasHeader_21 (by decide) ?_
      obtain ⟨u3, v3, hc3, h⟩ := bd2_some h
      refine x_ci (u := u2) (out := (u3, v3)) hA hD hS (va_runVN (As := [.int (12 : Int32)]) (rest := []) ⟨hx, hb, hml, hown, hts⟩ (ct_Im_wordAt hal hN F u2 x1 (12 : Int32) (u3, v3) hc3 q1 _) ⟨va_cnB 1 hts gdIm_wordAt rfl rfl rfl (nn_10 hNx) (hts _ tw_2) hdIm_wordAt ⟨Nat.le_of_ble_eq_true rfl, Nat.le_of_ble_eq_true rfl⟩, (hts _ tw_240), (hts _ tp_3)⟩ (x_preV hK hD hNx hP (hal _ (okk_al q1)) (okk_t q1) rfl rfl) rfl rfl hl.1 rfl (lv_room (Nat.le_of_ble_eq_true rfl)) dLd_hasHeader_23 ⟨Nat.zero_le _, Nat.zero_le _⟩) (fun H locs hP hS => ?_)
      refine lv_aload_n hx hb dLd_hasHeader_26 rfl (lv_at hl 0 rfl) ?_
      refine x_getN hx hb hts in_Im hown hK hP (hal _ (okk_al q1)) (okk_t q1) rfl rfl 1 (by decide) (nf_2 hNx) (fun _ h9 => h9) rfl dLd_hasHeader_27 ?_
      refine lv_icmp_ne (tgt := 37) hx hb dLd_hasHeader_30 rfl (fun hc => ?_) (fun hc => ?_)
      · replace h := it_f h hc
        refine lv_iconst (v := 0) hx hb dLd_hasHeader_37 (by decide) ?_
        exact x_zret hx hb hr hlocks rfl h hP hS dLd_hasHeader_38
      · replace h := it_t h hc
        refine lv_iconst (v := 1) hx hb dLd_hasHeader_33 (by decide) ?_
        refine lv_goto (tgt := 38) hx hb dLd_hasHeader_34 rfl ?_
        exact x_zret hx hb hr hlocks rfl h hP hS dLd_hasHeader_38
def fn_Ld_hasHeader (F : Nat) (al : Nat → Bool) (u : Mr) (x0 : Nat) (x1 : Nat) : Option (Mr × Int32) := bk_Ld_hasHeader_0 F al u x1
set_option maxHeartbeats 4000000 in
set_option maxRecDepth 100000 in
theorem ct_Ld_hasHeader {l : Launch} {D : va_G} {cA : Nat → ClassId} {ad : Nat → Nat} {L : List Nat} {rs : va_W} {al : Nat → Bool} (hal : ∀ k, al k = true → k ∈ L) (hN : L.Nodup) (F : Nat) (u : Mr) (x0 : Nat) (x1 : Nat) (out : Mr × Int32) (h : fn_Ld_hasHeader F al u x0 x1 = some out) (q0 : okk al 13 x0 = true) (q1 : okk al 6 x1 = true) : CtI l yLd_hasHeader wsLd_hasHeader rm_Ld_hasHeader [.ref (ad x0), .ref (ad x1)] D cA ad L rs u out := by
  intro sz
  refine Met.ofW (cc := cLd_hasHeader) (maxL := 2) (ret := (some .boolean)) (by decide) rfl ?_
  intro p e s m args below meth c s₁ B hml hv
  obtain ⟨rfl, hsz, hP, hK, hD0, hNx⟩ := hv
  subst hsz
  have hD := hD0.self (sz := s.heap.size)
  generalize hAe : va_A (ww ad cA L rs u) s.heap.size = A at hD ⊢
  have hA : ∀ q, s.heap.size ≤ q → A q := fun q h => by rw [← hAe]; exact Or.inr h
  have hl := lv_entry ([.ref (ad x0), .ref (ad x1)]) (n := 2) (Nat.le_of_ble_eq_true rfl)
  rw [lg_entry_eq]
  generalize (lg_sl ([.ref (ad x0), .ref (ad x1)]) ++ List.replicate (2 - (lg_sl ([.ref (ad x0), .ref (ad x1)])).length) Slot.unset).toArray = ls at hl ⊢
  exact wk_Ld_hasHeader_0 ⟨B.exec, B.bytes, hml, findClass_of_methodNamed B.named, hts_bw (atoms_spec (ws := wsLd_hasHeader) B.pre), B.returns, B.notSynchronized, hK, hA, fun v => ww_D hD, hN, hal, hNx⟩ F out u x1 h q1 _ _ _ (lv_sub hl [1] rfl) hP va_S.rf
abbrev rm_Ld_holdsSections : Room := { frames := 3, cells := 0, slots := 0, locals := 65 }
def bk_Ld_holdsSections_2 (F : Nat) (al : Nat → Bool) : Nat → Mr → Nat → Int32 → Option (Mr × Int32)
  | 0, _, _, _ => none
  | n + 1, u, x1, x2 => if (5 : Int32) ≤ x2 then (some (u, (1 : Int32))) else (bd2 (fn_Im_holdsSection F al u x1 x2) fun u1 v1 => (if v1 = 0 then (some (u1, (0 : Int32))) else (bk_Ld_holdsSections_2 F al n u1 x1 (x2 + (1 : Int32)))))
set_option maxHeartbeats 4000000 in
set_option maxRecDepth 100000 in
theorem wk_Ld_holdsSections_2 (cx : Cx p l e s m args below meth c cLd_holdsSections 3 bw "ImageForge$Loader" (some .boolean) D cA ad L rs al A) (F : Nat) (out : Mr × Int32) : ∀ n : Nat, ∀ (u : Mr) (x1 : Nat) (x2 : Int32), bk_Ld_holdsSections_2 F al n u x1 x2 = some out → okk al 6 x1 = true → Wb p l e rm_Ld_holdsSections s m args below meth c D cA ad L rs A (QI below args s D cA ad L rs A out) 3 2 [(1, .ref (ad x1)), (2, .int x2)] [] u := by
  obtain ⟨hx, hb, hml, hown, hts, hr, hlocks, hK, hA, hD, hN, hal, hNx⟩ := cx
  intro n
  induction n with
  | zero =>
    intro u x1 x2 h
    cases h
  | succ n ih =>
    intro u x1 x2 h q1 H locs ls hl hP hS
    rw [bk_Ld_holdsSections_2] at h
    refine lv_iload_n hx hb dLd_holdsSections_2 rfl (lv_at hl 1 rfl) ?_
    refine lv_iconst (v := 5) hx hb dLd_holdsSections_3 (by decide) ?_
    refine lv_icmp_ge (tgt := 23) hx hb dLd_holdsSections_4 rfl (fun hc => ?_) (fun hc => ?_)
    · replace h := it_t h hc
      refine lv_iconst (v := 1) hx hb dLd_holdsSections_23 (by decide) ?_
      exact x_zret hx hb hr hlocks rfl h hP hS dLd_holdsSections_24
    · replace h := it_f h hc
      refine lv_aload_n hx hb dLd_holdsSections_7 rfl (lv_at hl 0 rfl) ?_
      refine lv_iload_n hx hb dLd_holdsSections_8 rfl (lv_at hl 1 rfl) ?_
      obtain ⟨u1, v1, hc1, h⟩ := bd2_some h
      refine x_ci (u := u) (out := (u1, v1)) hA hD hS (va_runVN (As := [.int x2]) (rest := []) ⟨hx, hb, hml, hown, hts⟩ (ct_Im_holdsSection hal hN F u x1 x2 (u1, v1) hc1 q1 _) ⟨va_cnB 1 hts gdIm_holdsSection rfl rfl rfl (nn_36 hNx) (hts _ tw_2) hdIm_holdsSection ⟨Nat.le_of_ble_eq_true rfl, Nat.le_of_ble_eq_true rfl⟩, (hts _ tw_739), (hts _ tp_44)⟩ (x_preV hK hD hNx hP (hal _ (okk_al q1)) (okk_t q1) rfl rfl) rfl rfl hl.1 rfl (lv_room (Nat.le_of_ble_eq_true rfl)) dLd_holdsSections_9 ⟨Nat.zero_le _, Nat.zero_le _⟩) (fun H locs hP hS => ?_)
      refine lv_if_ne (tgt := 17) hx hb dLd_holdsSections_12 rfl (fun hc => ?_) (fun hc => ?_)
      · replace h := it_f h hc
        refine lv_iinc (k := 1) (v := x2 + (1 : Int32)) (lv' := [(2, .int (x2 + (1 : Int32))), (1, .ref (ad x1))]) hx hb dLd_holdsSections_17 hl rfl (congrArg (fun z => _ + z) (show Int32.ofInt 1 = 1 by decide)) (by decide) rfl (fun ls hl => ?_)
        refine lv_goto (tgt := 2) hx hb dLd_holdsSections_20 rfl ?_
        exact ih u1 x1 (x2 + (1 : Int32)) h q1 _ _ _ (lv_sub hl [1, 0] rfl) hP hS
      · replace h := it_t h hc
        refine lv_iconst (v := 0) hx hb dLd_holdsSections_15 (by decide) ?_
        exact x_zret hx hb hr hlocks rfl h hP hS dLd_holdsSections_16
def bk_Ld_holdsSections_0 (F : Nat) (al : Nat → Bool) (u : Mr) (x1 : Nat) : Option (Mr × Int32) := bk_Ld_holdsSections_2 F al F u x1 (0 : Int32)
set_option maxHeartbeats 4000000 in
set_option maxRecDepth 100000 in
theorem wk_Ld_holdsSections_0 (cx : Cx p l e s m args below meth c cLd_holdsSections 3 bw "ImageForge$Loader" (some .boolean) D cA ad L rs al A) (F : Nat) (out : Mr × Int32) : ∀ (u : Mr) (x1 : Nat), bk_Ld_holdsSections_0 F al u x1 = some out → okk al 6 x1 = true → Wb p l e rm_Ld_holdsSections s m args below meth c D cA ad L rs A (QI below args s D cA ad L rs A out) 3 0 [(1, .ref (ad x1))] [] u := by
  obtain ⟨hx, hb, hml, hown, hts, hr, hlocks, hK, hA, hD, hN, hal, hNx⟩ := cx
  intro u x1 h q1 H locs ls hl hP hS
  unfold bk_Ld_holdsSections_0 at h
  refine lv_iconst (v := 0) hx hb dLd_holdsSections_0 (by decide) ?_
  refine lv_istore_n (lv' := [(2, .int (0 : Int32)), (1, .ref (ad x1))]) hx hb dLd_holdsSections_1 rfl hl (by decide) rfl (fun ls hl => ?_)
  exact wk_Ld_holdsSections_2 ⟨hx, hb, hml, hown, hts, hr, hlocks, hK, hA, hD, hN, hal, hNx⟩ F out F u x1 (0 : Int32) h q1 _ _ _ (lv_sub hl [1, 0] rfl) hP hS
def fn_Ld_holdsSections (F : Nat) (al : Nat → Bool) (u : Mr) (x0 : Nat) (x1 : Nat) : Option (Mr × Int32) := bk_Ld_holdsSections_0 F al u x1
set_option maxHeartbeats 4000000 in
set_option maxRecDepth 100000 in
theorem ct_Ld_holdsSections {l : Launch} {D : va_G} {cA : Nat → ClassId} {ad : Nat → Nat} {L : List Nat} {rs : va_W} {al : Nat → Bool} (hal : ∀ k, al k = true → k ∈ L) (hN : L.Nodup) (F : Nat) (u : Mr) (x0 : Nat) (x1 : Nat) (out : Mr × Int32) (h : fn_Ld_holdsSections F al u x0 x1 = some out) (q0 : okk al 13 x0 = true) (q1 : okk al 6 x1 = true) : CtI l yLd_holdsSections wsLd_holdsSections rm_Ld_holdsSections [.ref (ad x0), .ref (ad x1)] D cA ad L rs u out := by
  intro sz
  refine Met.ofW (cc := cLd_holdsSections) (maxL := 3) (ret := (some .boolean)) (by decide) rfl ?_
  intro p e s m args below meth c s₁ B hml hv
  obtain ⟨rfl, hsz, hP, hK, hD0, hNx⟩ := hv
  subst hsz
  have hD := hD0.self (sz := s.heap.size)
  generalize hAe : va_A (ww ad cA L rs u) s.heap.size = A at hD ⊢
  have hA : ∀ q, s.heap.size ≤ q → A q := fun q h => by rw [← hAe]; exact Or.inr h
  have hl := lv_entry ([.ref (ad x0), .ref (ad x1)]) (n := 3) (Nat.le_of_ble_eq_true rfl)
  rw [lg_entry_eq]
  generalize (lg_sl ([.ref (ad x0), .ref (ad x1)]) ++ List.replicate (3 - (lg_sl ([.ref (ad x0), .ref (ad x1)])).length) Slot.unset).toArray = ls at hl ⊢
  exact wk_Ld_holdsSections_0 ⟨B.exec, B.bytes, hml, findClass_of_methodNamed B.named, hts_bw (atoms_spec (ws := wsLd_holdsSections) B.pre), B.returns, B.notSynchronized, hK, hA, fun v => ww_D hD, hN, hal, hNx⟩ F out u x1 h q1 _ _ _ (lv_sub hl [1] rfl) hP va_S.rf
end

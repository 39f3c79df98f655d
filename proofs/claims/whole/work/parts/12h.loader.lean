abbrev yLd_byteAt : MethodName := ⟨"ImageForge$Loader", "byteAt", "(I)I"⟩
abbrev cLd_byteAt : ByteArray := prog_4_method_10_code
abbrev wsLd_byteAt : List Cond := .code yLd_byteAt cLd_byteAt 2 (some .int) :: bw
theorem gdLd_byteAt : GoodIn bw wsLd_byteAt := gd_of tw_225
theorem hdLd_byteAt : yLd_byteAt.cls ≠ "java/lang/invoke/MethodHandle" ∧ yLd_byteAt.cls ≠ "java/lang/invoke/VarHandle" ∧ (parseMethodDescriptor yLd_byteAt.desc).map (fun d => d.parameters.length) = some 1 := by decide +kernel
theorem dLd_byteAt_0 : decode cLd_byteAt 0 = .ok (.iload_n 1, 1) := by decide +kernel
theorem dLd_byteAt_1 : decode cLd_byteAt 1 = .ok (.aload_n 0, 1) := by decide +kernel
theorem dLd_byteAt_2 : decode cLd_byteAt 2 = .ok (.getfield 29, 3) := by decide +kernel
theorem dLd_byteAt_5 : decode cLd_byteAt 5 = .ok (.if_icmp .lt 19, 3) := by decide +kernel
theorem dLd_byteAt_8 : decode cLd_byteAt 8 = .ok (.iload_n 1, 1) := by decide +kernel
theorem dLd_byteAt_9 : decode cLd_byteAt 9 = .ok (.aload_n 0, 1) := by decide +kernel
theorem dLd_byteAt_10 : decode cLd_byteAt 10 = .ok (.getfield 29, 3) := by decide +kernel
theorem dLd_byteAt_13 : decode cLd_byteAt 13 = .ok (.isub, 1) := by decide +kernel
theorem dLd_byteAt_14 : decode cLd_byteAt 14 = .ok (.aload_n 0, 1) := by decide +kernel
theorem dLd_byteAt_15 : decode cLd_byteAt 15 = .ok (.getfield 12, 3) := by decide +kernel
theorem dLd_byteAt_18 : decode cLd_byteAt 18 = .ok (.getfield 68, 3) := by decide +kernel
theorem dLd_byteAt_21 : decode cLd_byteAt 21 = .ok (.if_icmp .lt 5, 3) := by decide +kernel
theorem dLd_byteAt_24 : decode cLd_byteAt 24 = .ok (.iconst (-1), 1) := by decide +kernel
theorem dLd_byteAt_25 : decode cLd_byteAt 25 = .ok (.ireturn, 1) := by decide +kernel
theorem dLd_byteAt_26 : decode cLd_byteAt 26 = .ok (.aload_n 0, 1) := by decide +kernel
theorem dLd_byteAt_27 : decode cLd_byteAt 27 = .ok (.getfield 12, 3) := by decide +kernel
theorem dLd_byteAt_30 : decode cLd_byteAt 30 = .ok (.iload_n 1, 1) := by decide +kernel
theorem dLd_byteAt_31 : decode cLd_byteAt 31 = .ok (.aload_n 0, 1) := by decide +kernel
theorem dLd_byteAt_32 : decode cLd_byteAt 32 = .ok (.getfield 29, 3) := by decide +kernel
theorem dLd_byteAt_35 : decode cLd_byteAt 35 = .ok (.isub, 1) := by decide +kernel
theorem dLd_byteAt_36 : decode cLd_byteAt 36 = .ok (.invokevirtual 102, 3) := by decide +kernel
theorem dLd_byteAt_39 : decode cLd_byteAt 39 = .ok (.ireturn, 1) := by decide +kernel
abbrev yLd_addressOf : MethodName := ⟨"ImageForge$Loader", "addressOf", "(I)I"⟩
abbrev cLd_addressOf : ByteArray := prog_4_method_11_code
abbrev wsLd_addressOf : List Cond := .code yLd_addressOf cLd_addressOf 6 (some .int) :: bw
theorem gdLd_addressOf : GoodIn bw wsLd_addressOf := gd_of tw_237
theorem hdLd_addressOf : yLd_addressOf.cls ≠ "java/lang/invoke/MethodHandle" ∧ yLd_addressOf.cls ≠ "java/lang/invoke/VarHandle" ∧ (parseMethodDescriptor yLd_addressOf.desc).map (fun d => d.parameters.length) = some 1 := by decide +kernel
theorem dLd_addressOf_0 : decode cLd_addressOf 0 = .ok (.aload_n 0, 1) := by decide +kernel
theorem dLd_addressOf_1 : decode cLd_addressOf 1 = .ok (.getfield 43, 3) := by decide +kernel
theorem dLd_addressOf_4 : decode cLd_addressOf 4 = .ok (.iconst 4, 1) := by decide +kernel
theorem dLd_addressOf_5 : decode cLd_addressOf 5 = .ok (.if_icmp .ge 5, 3) := by decide +kernel
theorem dLd_addressOf_8 : decode cLd_addressOf 8 = .ok (.iconst 0, 1) := by decide +kernel
theorem dLd_addressOf_9 : decode cLd_addressOf 9 = .ok (.ireturn, 1) := by decide +kernel
theorem dLd_addressOf_10 : decode cLd_addressOf 10 = .ok (.aload_n 0, 1) := by decide +kernel
theorem dLd_addressOf_11 : decode cLd_addressOf 11 = .ok (.getfield 12, 3) := by decide +kernel
theorem dLd_addressOf_14 : decode cLd_addressOf 14 = .ok (.aload_n 0, 1) := by decide +kernel
theorem dLd_addressOf_15 : decode cLd_addressOf 15 = .ok (.getfield 37, 3) := by decide +kernel
theorem dLd_addressOf_18 : decode cLd_addressOf 18 = .ok (.invokevirtual 50, 3) := by decide +kernel
theorem dLd_addressOf_21 : decode cLd_addressOf 21 = .ok (.istore_n 2, 1) := by decide +kernel
theorem dLd_addressOf_22 : decode cLd_addressOf 22 = .ok (.aload_n 0, 1) := by decide +kernel
theorem dLd_addressOf_23 : decode cLd_addressOf 23 = .ok (.getfield 37, 3) := by decide +kernel
theorem dLd_addressOf_26 : decode cLd_addressOf 26 = .ok (.iconst 4, 1) := by decide +kernel
theorem dLd_addressOf_27 : decode cLd_addressOf 27 = .ok (.iadd, 1) := by decide +kernel
theorem dLd_addressOf_28 : decode cLd_addressOf 28 = .ok (.istore_n 3, 1) := by decide +kernel
theorem dLd_addressOf_29 : decode cLd_addressOf 29 = .ok (.aload_n 0, 1) := by decide +kernel
theorem dLd_addressOf_30 : decode cLd_addressOf 30 = .ok (.getfield 37, 3) := by decide +kernel
theorem dLd_addressOf_33 : decode cLd_addressOf 33 = .ok (.aload_n 0, 1) := by decide +kernel
theorem dLd_addressOf_34 : decode cLd_addressOf 34 = .ok (.getfield 43, 3) := by decide +kernel
theorem dLd_addressOf_37 : decode cLd_addressOf 37 = .ok (.iadd, 1) := by decide +kernel
theorem dLd_addressOf_38 : decode cLd_addressOf 38 = .ok (.bipush 8, 2) := by decide +kernel
theorem dLd_addressOf_40 : decode cLd_addressOf 40 = .ok (.isub, 1) := by decide +kernel
theorem dLd_addressOf_41 : decode cLd_addressOf 41 = .ok (.istore 4, 2) := by decide +kernel
theorem dLd_addressOf_43 : decode cLd_addressOf 43 = .ok (.iconst 0, 1) := by decide +kernel
theorem dLd_addressOf_44 : decode cLd_addressOf 44 = .ok (.istore 5, 2) := by decide +kernel
theorem dLd_addressOf_46 : decode cLd_addressOf 46 = .ok (.iload 5, 2) := by decide +kernel
theorem dLd_addressOf_48 : decode cLd_addressOf 48 = .ok (.iload_n 2, 1) := by decide +kernel
theorem dLd_addressOf_49 : decode cLd_addressOf 49 = .ok (.if_icmp .ge 46, 3) := by decide +kernel
theorem dLd_addressOf_52 : decode cLd_addressOf 52 = .ok (.iload_n 3, 1) := by decide +kernel
theorem dLd_addressOf_53 : decode cLd_addressOf 53 = .ok (.iload 4, 2) := by decide +kernel
theorem dLd_addressOf_55 : decode cLd_addressOf 55 = .ok (.if_icmp .gt 40, 3) := by decide +kernel
theorem dLd_addressOf_58 : decode cLd_addressOf 58 = .ok (.aload_n 0, 1) := by decide +kernel
theorem dLd_addressOf_59 : decode cLd_addressOf 59 = .ok (.getfield 12, 3) := by decide +kernel
theorem dLd_addressOf_62 : decode cLd_addressOf 62 = .ok (.iload_n 3, 1) := by decide +kernel
theorem dLd_addressOf_63 : decode cLd_addressOf 63 = .ok (.invokevirtual 50, 3) := by decide +kernel
theorem dLd_addressOf_66 : decode cLd_addressOf 66 = .ok (.iload_n 1, 1) := by decide +kernel
theorem dLd_addressOf_67 : decode cLd_addressOf 67 = .ok (.if_icmp .ne 19, 3) := by decide +kernel
theorem dLd_addressOf_70 : decode cLd_addressOf 70 = .ok (.aload_n 0, 1) := by decide +kernel
theorem dLd_addressOf_71 : decode cLd_addressOf 71 = .ok (.getfield 29, 3) := by decide +kernel
theorem dLd_addressOf_74 : decode cLd_addressOf 74 = .ok (.aload_n 0, 1) := by decide +kernel
theorem dLd_addressOf_75 : decode cLd_addressOf 75 = .ok (.getfield 12, 3) := by decide +kernel
theorem dLd_addressOf_78 : decode cLd_addressOf 78 = .ok (.iload_n 3, 1) := by decide +kernel
theorem dLd_addressOf_79 : decode cLd_addressOf 79 = .ok (.iconst 4, 1) := by decide +kernel
theorem dLd_addressOf_80 : decode cLd_addressOf 80 = .ok (.iadd, 1) := by decide +kernel
theorem dLd_addressOf_81 : decode cLd_addressOf 81 = .ok (.invokevirtual 50, 3) := by decide +kernel
theorem dLd_addressOf_84 : decode cLd_addressOf 84 = .ok (.iadd, 1) := by decide +kernel
theorem dLd_addressOf_85 : decode cLd_addressOf 85 = .ok (.ireturn, 1) := by decide +kernel
theorem dLd_addressOf_86 : decode cLd_addressOf 86 = .ok (.iinc 3 8, 3) := by decide +kernel
theorem dLd_addressOf_89 : decode cLd_addressOf 89 = .ok (.iinc 5 1, 3) := by decide +kernel
theorem dLd_addressOf_92 : decode cLd_addressOf 92 = .ok (.goto (-46), 3) := by decide +kernel
theorem dLd_addressOf_95 : decode cLd_addressOf 95 = .ok (.iconst 0, 1) := by decide +kernel
theorem dLd_addressOf_96 : decode cLd_addressOf 96 = .ok (.ireturn, 1) := by decide +kernel
section
variable {p : Program} {l : Launch} {e : Env} {s : State} {m : MethodId} {args : Array Value} {below : List Frame} {meth : Method} {c : Code} {D : va_G} {cA : Nat → ClassId} {ad : Nat → Nat} {L : List Nat} {rs : va_W} {al : Nat → Bool} {A : Nat → Prop}
abbrev rm_Ld_byteAt : Room := { frames := 1, cells := 0, slots := 0, locals := 21 }
def bk_Ld_byteAt_0 (F : Nat) (al : Nat → Bool) (u : Mr) (x0 : Nat) (x1 : Int32) : Option (Mr × Int32) := if x1 < (u.1 x0 2) then (some (u, (-1 : Int32))) else (bd1 (rdR al u x0 0 6) fun y1 => (if (x1 - (u.1 x0 2)) < (u.1 y1 1) then (bd1 (rdR al u x0 0 6) fun y3 => (bd2 (fn_Im_byteAt F al u y3 (x1 - (u.1 x0 2))) fun u5 v5 => (some (u5, v5)))) else (some (u, (-1 : Int32)))))
set_option maxHeartbeats 4000000 in
set_option maxRecDepth 100000 in
theorem wk_Ld_byteAt_0 (cx : Cx p l e s m args below meth c cLd_byteAt 2 bw "ImageForge$Loader" (some .int) D cA ad L rs al A) (F : Nat) (out : Mr × Int32) : ∀ (u : Mr) (x0 : Nat) (x1 : Int32), bk_Ld_byteAt_0 F al u x0 x1 = some out → okk al 13 x0 = true → Wb p l e rm_Ld_byteAt s m args below meth c D cA ad L rs A (QI below args s D cA ad L rs A out) 2 0 [(0, .ref (ad x0)), (1, .int x1)] [] u := by
  obtain ⟨hx, hb, hml, hown, hts, hr, hlocks, hK, hA, hD, hN, hal, hNx⟩ := cx
  intro u x0 x1 h q0 H locs ls hl hP hS
  unfold bk_Ld_byteAt_0 at h
  refine lv_iload_n hx hb dLd_byteAt_0 rfl (lv_at hl 1 rfl) ?_
  refine lv_aload_n hx hb dLd_byteAt_1 rfl (lv_at hl 0 rfl) ?_
  refine x_get hx hb hts in_Ld hown hK hP (hal _ (okk_al q0)) (okk_t q0) rfl rfl 2 (by decide) (hts _ tw_88) (fun _ h9 => h9) rfl dLd_byteAt_2 ?_
  refine lv_icmp_lt (tgt := 24) hx hb dLd_byteAt_5 rfl (fun hc => ?_) (fun hc => ?_)
  · replace h := it_t h hc
    refine lv_iconst (v := (-1)) hx hb dLd_byteAt_24 (by decide) ?_
    exact x_iret hx hb hr hlocks h hP hS dLd_byteAt_25
  · replace h := it_f h hc
    refine lv_iload_n hx hb dLd_byteAt_8 rfl (lv_at hl 1 rfl) ?_
    refine lv_aload_n hx hb dLd_byteAt_9 rfl (lv_at hl 0 rfl) ?_
    refine x_get hx hb hts in_Ld hown hK hP (hal _ (okk_al q0)) (okk_t q0) rfl rfl 2 (by decide) (hts _ tw_88) (fun _ h9 => h9) rfl dLd_byteAt_10 ?_
    refine lv_isub hx hb dLd_byteAt_13 ?_
    refine lv_aload_n hx hb dLd_byteAt_14 rfl (lv_at hl 0 rfl) ?_
    obtain ⟨y1, hy2, h⟩ := bd1_some h
    obtain ⟨hy2a, hy2⟩ := rdR_some hy2
    refine x_get hx hb hts in_Ld hown hK hP (hal _ (okk_al q0)) (okk_t q0) rfl rfl 0 (by decide) (hts _ tw_86) (fun _ h9 => h9) (congrArg some (x_rf hy2a)) dLd_byteAt_15 ?_
    refine x_getN hx hb hts in_Im hown hK hP (hal _ (okk_al hy2)) (okk_t hy2) rfl rfl 1 (by decide) (nf_2 hNx) (fun _ h9 => h9) rfl dLd_byteAt_18 ?_
    refine lv_icmp_lt (tgt := 26) hx hb dLd_byteAt_21 rfl (fun hc => ?_) (fun hc => ?_)
    · replace h := it_t h hc
      refine lv_aload_n hx hb dLd_byteAt_26 rfl (lv_at hl 0 rfl) ?_
      obtain ⟨y3, hy4, h⟩ := bd1_some h
      obtain ⟨hy4a, hy4⟩ := rdR_some hy4
      refine x_get hx hb hts in_Ld hown hK hP (hal _ (okk_al q0)) (okk_t q0) rfl rfl 0 (by decide) (hts _ tw_86) (fun _ h9 => h9) (congrArg some (x_rf hy4a)) dLd_byteAt_27 ?_
      refine lv_iload_n hx hb dLd_byteAt_30 rfl (lv_at hl 1 rfl) ?_
      refine lv_aload_n hx hb dLd_byteAt_31 rfl (lv_at hl 0 rfl) ?_
      refine x_get hx hb hts in_Ld hown hK hP (hal _ (okk_al q0)) (okk_t q0) rfl rfl 2 (by decide) (hts _ tw_88) (fun _ h9 => h9) rfl dLd_byteAt_32 ?_
      refine lv_isub hx hb dLd_byteAt_35 ?_
      obtain ⟨u5, v5, hc5, h⟩ := bd2_some h
      refine x_ci (u := u) (out := (u5, v5)) hA hD hS (va_runVN (As := [.int (x1 - (u.1 x0 2))]) (rest := []) ⟨hx, hb, hml, hown, hts⟩ (ct_Im_byteAt hal hN F u y3 (x1 - (u.1 x0 2)) (u5, v5) hc5 hy4 _) ⟨va_cnB 1 hts gdIm_byteAt rfl rfl rfl (nn_8 hNx) (hts _ tw_2) hdIm_byteAt ⟨Nat.le_of_ble_eq_true rfl, Nat.le_of_ble_eq_true rfl⟩, (hts _ tw_228), (hts _ tp_1)⟩ (x_preV hK hD hNx hP (hal _ (okk_al hy4)) (okk_t hy4) rfl rfl) rfl rfl hl.1 rfl (lv_room (Nat.le_of_ble_eq_true rfl)) dLd_byteAt_36 ⟨Nat.zero_le _, Nat.zero_le _⟩) (fun H locs hP hS => ?_)
      exact x_iret hx hb hr hlocks h hP hS dLd_byteAt_39
    · replace h := it_f h hc
      refine lv_iconst (v := (-1)) hx hb dLd_byteAt_24 (by decide) ?_
      exact x_iret hx hb hr hlocks h hP hS dLd_byteAt_25
def fn_Ld_byteAt (F : Nat) (al : Nat → Bool) (u : Mr) (x0 : Nat) (x1 : Int32) : Option (Mr × Int32) := bk_Ld_byteAt_0 F al u x0 x1
set_option maxHeartbeats 4000000 in
set_option maxRecDepth 100000 in
theorem ct_Ld_byteAt {l : Launch} {D : va_G} {cA : Nat → ClassId} {ad : Nat → Nat} {L : List Nat} {rs : va_W} {al : Nat → Bool} (hal : ∀ k, al k = true → k ∈ L) (hN : L.Nodup) (F : Nat) (u : Mr) (x0 : Nat) (x1 : Int32) (out : Mr × Int32) (h : fn_Ld_byteAt F al u x0 x1 = some out) (q0 : okk al 13 x0 = true) : CtI l yLd_byteAt wsLd_byteAt rm_Ld_byteAt [.ref (ad x0), .int x1] D cA ad L rs u out := by
  intro sz
  refine Met.ofW (cc := cLd_byteAt) (maxL := 2) (ret := (some .int)) (by decide) rfl ?_
  intro p e s m args below meth c s₁ B hml hv
  obtain ⟨rfl, hsz, hP, hK, hD0, hNx⟩ := hv
  subst hsz
  have hD := hD0.self (sz := s.heap.size)
  generalize hAe : va_A (ww ad cA L rs u) s.heap.size = A at hD ⊢
  have hA : ∀ q, s.heap.size ≤ q → A q := fun q h => by rw [← hAe]; exact Or.inr h
  have hl := lv_entry ([.ref (ad x0), .int x1]) (n := 2) (Nat.le_of_ble_eq_true rfl)
  rw [lg_entry_eq]
  generalize (lg_sl ([.ref (ad x0), .int x1]) ++ List.replicate (2 - (lg_sl ([.ref (ad x0), .int x1])).length) Slot.unset).toArray = ls at hl ⊢
  exact wk_Ld_byteAt_0 ⟨B.exec, B.bytes, hml, findClass_of_methodNamed B.named, hts_bw (atoms_spec (ws := wsLd_byteAt) B.pre), B.returns, B.notSynchronized, hK, hA, fun v => ww_D hD, hN, hal, hNx⟩ F out u x0 x1 h q0 _ _ _ (lv_sub hl [0, 1] rfl) hP va_S.rf
abbrev rm_Ld_addressOf : Room := { frames := 1, cells := 0, slots := 0, locals := 21 }
def bk_Ld_addressOf_46 (F : Nat) (al : Nat → Bool) : Nat → Mr → Nat → Int32 → Int32 → Int32 → Int32 → Int32 → Option (Mr × Int32)
  | 0, _, _, _, _, _, _, _ => none
  | n + 1, u, x0, x1, x2, x3, x4, x5 => if x2 ≤ x5 then (some (u, (0 : Int32))) else (if x4 < x3 then (some (u, (0 : Int32))) else (bd1 (rdR al u x0 0 6) fun y1 => (bd2 (fn_Im_wordAt F al u y1 x3) fun u3 v3 => (if v3 = x1 then (bd1 (rdR al u3 x0 0 6) fun y4 => (bd2 (fn_Im_wordAt F al u3 y4 (x3 + (4 : Int32))) fun u6 v6 => (some (u6, (u3.1 x0 2) + v6)))) else (bk_Ld_addressOf_46 F al n u3 x0 x1 x2 (x3 + (8 : Int32)) x4 (x5 + (1 : Int32)))))))
set_option maxHeartbeats 4000000 in
set_option maxRecDepth 100000 in
theorem wk_Ld_addressOf_46 (cx : Cx p l e s m args below meth c cLd_addressOf 6 bw "ImageForge$Loader" (some .int) D cA ad L rs al A) (F : Nat) (out : Mr × Int32) : ∀ n : Nat, ∀ (u : Mr) (x0 : Nat) (x1 : Int32) (x2 : Int32) (x3 : Int32) (x4 : Int32) (x5 : Int32), bk_Ld_addressOf_46 F al n u x0 x1 x2 x3 x4 x5 = some out → okk al 13 x0 = true → Wb p l e rm_Ld_addressOf s m args below meth c D cA ad L rs A (QI below args s D cA ad L rs A out) 6 46 [(0, .ref (ad x0)), (1, .int x1), (2, .int x2), (3, .int x3), (4, .int x4), (5, .int x5)] [] u := by
  obtain ⟨hx, hb, hml, hown, hts, hr, hlocks, hK, hA, hD, hN, hal, hNx⟩ := cx
  intro n
  induction n with
  | zero =>
    intro u x0 x1 x2 x3 x4 x5 h
    cases h
  | succ n ih =>
    intro u x0 x1 x2 x3 x4 x5 h q0 H locs ls hl hP hS
    rw [bk_Ld_addressOf_46] at h
    refine lv_iload hx hb dLd_addressOf_46 (lv_at hl 5 rfl) ?_
    refine lv_iload_n hx hb dLd_addressOf_48 rfl (lv_at hl 2 rfl) ?_
    refine lv_icmp_ge (tgt := 95) hx hb dLd_addressOf_49 rfl (fun hc => ?_) (fun hc => ?_)
    · replace h := it_t h hc
      refine lv_iconst (v := 0) hx hb dLd_addressOf_95 (by decide) ?_
      exact x_iret hx hb hr hlocks h hP hS dLd_addressOf_96
    · replace h := it_f h hc
      refine lv_iload_n hx hb dLd_addressOf_52 rfl (lv_at hl 3 rfl) ?_
      refine lv_iload hx hb dLd_addressOf_53 (lv_at hl 4 rfl) ?_
      refine lv_icmp_gt (tgt := 95) hx hb dLd_addressOf_55 rfl (fun hc => ?_) (fun hc => ?_)
      · replace h := it_t h hc
        refine lv_iconst (v := 0) hx hb dLd_addressOf_95 (by decide) ?_
        exact x_iret hx hb hr hlocks h hP hS dLd_addressOf_96
      · replace h := it_f h hc
        refine lv_aload_n hx hb dLd_addressOf_58 rfl (lv_at hl 0 rfl) ?_
        obtain ⟨y1, hy2, h⟩ := bd1_some h
        obtain ⟨hy2a, hy2⟩ := rdR_some hy2
        refine x_get hx hb hts in_Ld hown hK hP (hal _ (okk_al q0)) (okk_t q0) rfl rfl 0 (by decide) (hts _ tw_86) (fun _ h9 => h9) (congrArg some (x_rf hy2a)) dLd_addressOf_59 ?_
        refine lv_iload_n hx hb dLd_addressOf_62 rfl (lv_at hl 3 rfl) ?_
        obtain ⟨u3, v3, hc3, h⟩ := bd2_some h
        refine x_ci (u := u) (out := (u3, v3)) hA hD hS (va_runVN (As := [.int x3]) (rest := []) ⟨hx, hb, hml, hown, hts⟩ (ct_Im_wordAt hal hN F u y1 x3 (u3, v3) hc3 hy2 _) ⟨va_cnB 1 hts gdIm_wordAt rfl rfl rfl (nn_10 hNx) (hts _ tw_2) hdIm_wordAt ⟨Nat.le_of_ble_eq_true rfl, Nat.le_of_ble_eq_true rfl⟩, (hts _ tw_240), (hts _ tp_3)⟩ (x_preV hK hD hNx hP (hal _ (okk_al hy2)) (okk_t hy2) rfl rfl) rfl rfl hl.1 rfl (lv_room (Nat.le_of_ble_eq_true rfl)) dLd_addressOf_63 ⟨Nat.zero_le _, Nat.zero_le _⟩) (fun H locs hP hS => ?_)
        refine lv_iload_n hx hb dLd_addressOf_66 rfl (lv_at hl 1 rfl) ?_
        refine lv_icmp_ne (tgt := 86) hx hb dLd_addressOf_67 rfl (fun hc => ?_) (fun hc => ?_)
        · replace h := it_f h hc
          refine lv_iinc (k := 3) (v := x3 + (8 : Int32)) (lv' := [(3, .int (x3 + (8 : Int32))), (0, .ref (ad x0)), (1, .int x1), (2, .int x2), (4, .int x4), (5, .int x5)]) hx hb dLd_addressOf_86 hl rfl (congrArg (fun z => _ + z) (show Int32.ofInt 8 = 8 by decide)) (by decide) rfl (fun ls hl => ?_)
          refine lv_iinc (k := 5) (v := x5 + (1 : Int32)) (lv' := [(5, .int (x5 + (1 : Int32))), (3, .int (x3 + (8 : Int32))), (0, .ref (ad x0)), (1, .int x1), (2, .int x2), (4, .int x4)]) hx hb dLd_addressOf_89 hl rfl (congrArg (fun z => _ + z) (show Int32.ofInt 1 = 1 by decide)) (by decide) rfl (fun ls hl => ?_)
          refine lv_goto (tgt := 46) hx hb dLd_addressOf_92 rfl ?_
          exact ih u3 x0 x1 x2 (x3 + (8 : Int32)) x4 (x5 + (1 : Int32)) h q0 _ _ _ (lv_sub hl [2, 3, 4, 1, 5, 0] rfl) hP hS
        · replace h := it_t h hc
          refine lv_aload_n hx hb dLd_addressOf_70 rfl (lv_at hl 0 rfl) ?_
          refine x_get hx hb hts in_Ld hown hK hP (hal _ (okk_al q0)) (okk_t q0) rfl rfl 2 (by decide) (hts _ tw_88) (fun _ h9 => h9) rfl dLd_addressOf_71 ?_
          refine lv_aload_n hx hb dLd_addressOf_74 rfl (lv_at hl 0 rfl) ?_
          obtain ⟨y4, hy5, h⟩ := bd1_some h
          obtain ⟨hy5a, hy5⟩ := rdR_some hy5
          refine x_get hx hb hts in_Ld hown hK hP (hal _ (okk_al q0)) (okk_t q0) rfl rfl 0 (by decide) (hts _ tw_86) (fun _ h9 => h9) (congrArg some (x_rf hy5a)) dLd_addressOf_75 ?_
          refine lv_iload_n hx hb dLd_addressOf_78 rfl (lv_at hl 3 rfl) ?_
          refine lv_iconst (v := 4) hx hb dLd_addressOf_79 (by decide) ?_
          refine lv_iadd hx hb dLd_addressOf_80 ?_
          obtain ⟨u6, v6, hc6, h⟩ := bd2_some h
          refine x_ci (u := u3) (out := (u6, v6)) hA hD hS (va_runVN (As := [.int (x3 + (4 : Int32))]) (rest := [.int (u3.1 x0 2)]) ⟨hx, hb, hml, hown, hts⟩ (ct_Im_wordAt hal hN F u3 y4 (x3 + (4 : Int32)) (u6, v6) hc6 hy5 _) ⟨va_cnB 1 hts gdIm_wordAt rfl rfl rfl (nn_10 hNx) (hts _ tw_2) hdIm_wordAt ⟨Nat.le_of_ble_eq_true rfl, Nat.le_of_ble_eq_true rfl⟩, (hts _ tw_240), (hts _ tp_3)⟩ (x_preV hK hD hNx hP (hal _ (okk_al hy5)) (okk_t hy5) rfl rfl) rfl rfl hl.1 rfl (lv_room (Nat.le_of_ble_eq_true rfl)) dLd_addressOf_81 ⟨Nat.zero_le _, Nat.zero_le _⟩) (fun H locs hP hS => ?_)
          refine lv_iadd hx hb dLd_addressOf_84 ?_
          exact x_iret hx hb hr hlocks h hP hS dLd_addressOf_85
def bk_Ld_addressOf_0 (F : Nat) (al : Nat → Bool) (u : Mr) (x0 : Nat) (x1 : Int32) : Option (Mr × Int32) := if (4 : Int32) ≤ (u.1 x0 4) then (bd1 (rdR al u x0 0 6) fun y1 => (bd2 (fn_Im_wordAt F al u y1 (u.1 x0 3)) fun u3 v3 => (bk_Ld_addressOf_46 F al F u3 x0 x1 v3 ((u3.1 x0 3) + (4 : Int32)) (((u3.1 x0 3) + (u3.1 x0 4)) - (8 : Int32)) (0 : Int32)))) else (some (u, (0 : Int32)))
set_option maxHeartbeats 4000000 in
set_option maxRecDepth 100000 in
theorem wk_Ld_addressOf_0 (cx : Cx p l e s m args below meth c cLd_addressOf 6 bw "ImageForge$Loader" (some .int) D cA ad L rs al A) (F : Nat) (out : Mr × Int32) : ∀ (u : Mr) (x0 : Nat) (x1 : Int32), bk_Ld_addressOf_0 F al u x0 x1 = some out → okk al 13 x0 = true → Wb p l e rm_Ld_addressOf s m args below meth c D cA ad L rs A (QI below args s D cA ad L rs A out) 6 0 [(0, .ref (ad x0)), (1, .int x1)] [] u := by
  obtain ⟨hx, hb, hml, hown, hts, hr, hlocks, hK, hA, hD, hN, hal, hNx⟩ := cx
  intro u x0 x1 h q0 H locs ls hl hP hS
  unfold bk_Ld_addressOf_0 at h
  refine lv_aload_n hx hb dLd_addressOf_0 rfl (lv_at hl 0 rfl) ?_
  refine x_get hx hb hts in_Ld hown hK hP (hal _ (okk_al q0)) (okk_t q0) rfl rfl 4 (by decide) (hts _ tw_90) (fun _ h9 => h9) rfl dLd_addressOf_1 ?_
  refine lv_iconst (v := 4) hx hb dLd_addressOf_4 (by decide) ?_
  refine lv_icmp_ge (tgt := 10) hx hb dLd_addressOf_5 rfl (fun hc => ?_) (fun hc => ?_)
  · replace h := it_t h hc
    refine lv_aload_n hx hb dLd_addressOf_10 rfl (lv_at hl 0 rfl) ?_
    obtain ⟨y1, hy2, h⟩ := bd1_some h
    obtain ⟨hy2a, hy2⟩ := rdR_some hy2
    refine x_get hx hb hts in_Ld hown hK hP (hal _ (okk_al q0)) (okk_t q0) rfl rfl 0 (by decide) (hts _ tw_86) (fun _ h9 => h9) (congrArg some (x_rf hy2a)) dLd_addressOf_11 ?_
    refine lv_aload_n hx hb dLd_addressOf_14 rfl (lv_at hl 0 rfl) ?_
    refine x_get hx hb hts in_Ld hown hK hP (hal _ (okk_al q0)) (okk_t q0) rfl rfl 3 (by decide) (hts _ tw_89) (fun _ h9 => h9) rfl dLd_addressOf_15 ?_
    obtain ⟨u3, v3, hc3, h⟩ := bd2_some h
    refine x_ci (u := u) (out := (u3, v3)) hA hD hS (va_runVN (As := [.int (u.1 x0 3)]) (rest := []) ⟨hx, hb, hml, hown, hts⟩ (ct_Im_wordAt hal hN F u y1 (u.1 x0 3) (u3, v3) hc3 hy2 _) ⟨va_cnB 1 hts gdIm_wordAt rfl rfl rfl (nn_10 hNx) (hts _ tw_2) hdIm_wordAt ⟨Nat.le_of_ble_eq_true rfl, Nat.le_of_ble_eq_true rfl⟩, (hts _ tw_240), (hts _ tp_3)⟩ (x_preV hK hD hNx hP (hal _ (okk_al hy2)) (okk_t hy2) rfl rfl) rfl rfl hl.1 rfl (lv_room (Nat.le_of_ble_eq_true rfl)) dLd_addressOf_18 ⟨Nat.zero_le _, Nat.zero_le _⟩) (fun H locs hP hS => ?_)
    refine lv_istore_n (lv' := [(2, .int v3), (0, .ref (ad x0)), (1, .int x1)]) hx hb dLd_addressOf_21 rfl hl (by decide) rfl (fun ls hl => ?_)
    refine lv_aload_n hx hb dLd_addressOf_22 rfl (lv_at hl 1 rfl) ?_
    refine x_get hx hb hts in_Ld hown hK hP (hal _ (okk_al q0)) (okk_t q0) rfl rfl 3 (by decide) (hts _ tw_89) (fun _ h9 => h9) rfl dLd_addressOf_23 ?_
    refine lv_iconst (v := 4) hx hb dLd_addressOf_26 (by decide) ?_
    refine lv_iadd hx hb dLd_addressOf_27 ?_
    refine lv_istore_n (lv' := [(3, .int ((u3.1 x0 3) + (4 : Int32))), (2, .int v3), (0, .ref (ad x0)), (1, .int x1)]) hx hb dLd_addressOf_28 rfl hl (by decide) rfl (fun ls hl => ?_)
    refine lv_aload_n hx hb dLd_addressOf_29 rfl (lv_at hl 2 rfl) ?_
    refine x_get hx hb hts in_Ld hown hK hP (hal _ (okk_al q0)) (okk_t q0) rfl rfl 3 (by decide) (hts _ tw_89) (fun _ h9 => h9) rfl dLd_addressOf_30 ?_
    refine lv_aload_n hx hb dLd_addressOf_33 rfl (lv_at hl 2 rfl) ?_
    refine x_get hx hb hts in_Ld hown hK hP (hal _ (okk_al q0)) (okk_t q0) rfl rfl 4 (by decide) (hts _ tw_90) (fun _ h9 => h9) rfl dLd_addressOf_34 ?_
    refine lv_iadd hx hb dLd_addressOf_37 ?_
    refine lv_bipush (v := 8) hx hb dLd_addressOf_38 (by decide) ?_
    refine lv_isub hx hb dLd_addressOf_40 ?_
    refine lv_istore (lv' := [(4, .int (((u3.1 x0 3) + (u3.1 x0 4)) - (8 : Int32))), (3, .int ((u3.1 x0 3) + (4 : Int32))), (2, .int v3), (0, .ref (ad x0)), (1, .int x1)]) hx hb dLd_addressOf_41 hl (by decide) rfl (fun ls hl => ?_)
    refine lv_iconst (v := 0) hx hb dLd_addressOf_43 (by decide) ?_
    refine lv_istore (lv' := [(5, .int (0 : Int32)), (4, .int (((u3.1 x0 3) + (u3.1 x0 4)) - (8 : Int32))), (3, .int ((u3.1 x0 3) + (4 : Int32))), (2, .int v3), (0, .ref (ad x0)), (1, .int x1)]) hx hb dLd_addressOf_44 hl (by decide) rfl (fun ls hl => ?_)
    exact wk_Ld_addressOf_46 ⟨hx, hb, hml, hown, hts, hr, hlocks, hK, hA, hD, hN, hal, hNx⟩ F out F u3 x0 x1 v3 ((u3.1 x0 3) + (4 : Int32)) (((u3.1 x0 3) + (u3.1 x0 4)) - (8 : Int32)) (0 : Int32) h q0 _ _ _ (lv_sub hl [4, 5, 3, 2, 1, 0] rfl) hP hS
  · replace h := it_f h hc
    refine lv_iconst (v := 0) hx hb dLd_addressOf_8 (by decide) ?_
    exact x_iret hx hb hr hlocks h hP hS dLd_addressOf_9
def fn_Ld_addressOf (F : Nat) (al : Nat → Bool) (u : Mr) (x0 : Nat) (x1 : Int32) : Option (Mr × Int32) := bk_Ld_addressOf_0 F al u x0 x1
set_option maxHeartbeats 4000000 in
set_option maxRecDepth 100000 in
theorem ct_Ld_addressOf {l : Launch} {D : va_G} {cA : Nat → ClassId} {ad : Nat → Nat} {L : List Nat} {rs : va_W} {al : Nat → Bool} (hal : ∀ k, al k = true → k ∈ L) (hN : L.Nodup) (F : Nat) (u : Mr) (x0 : Nat) (x1 : Int32) (out : Mr × Int32) (h : fn_Ld_addressOf F al u x0 x1 = some out) (q0 : okk al 13 x0 = true) : CtI l yLd_addressOf wsLd_addressOf rm_Ld_addressOf [.ref (ad x0), .int x1] D cA ad L rs u out := by
  intro sz
  refine Met.ofW (cc := cLd_addressOf) (maxL := 6) (ret := (some .int)) (by decide) rfl ?_
  intro p e s m args below meth c s₁ B hml hv
  obtain ⟨rfl, hsz, hP, hK, hD0, hNx⟩ := hv
  subst hsz
  have hD := hD0.self (sz := s.heap.size)
  generalize hAe : va_A (ww ad cA L rs u) s.heap.size = A at hD ⊢
  have hA : ∀ q, s.heap.size ≤ q → A q := fun q h => by rw [← hAe]; exact Or.inr h
  have hl := lv_entry ([.ref (ad x0), .int x1]) (n := 6) (Nat.le_of_ble_eq_true rfl)
  rw [lg_entry_eq]
  generalize (lg_sl ([.ref (ad x0), .int x1]) ++ List.replicate (6 - (lg_sl ([.ref (ad x0), .int x1])).length) Slot.unset).toArray = ls at hl ⊢
  exact wk_Ld_addressOf_0 ⟨B.exec, B.bytes, hml, findClass_of_methodNamed B.named, hts_bw (atoms_spec (ws := wsLd_addressOf) B.pre), B.returns, B.notSynchronized, hK, hA, fun v => ww_D hD, hN, hal, hNx⟩ F out u x0 x1 h q0 _ _ _ (lv_sub hl [0, 1] rfl) hP va_S.rf
end

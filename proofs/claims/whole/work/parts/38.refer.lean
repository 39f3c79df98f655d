abbrev yFg_refer : MethodName := ⟨"ImageForge", "refer", "(IIIII)V"⟩
abbrev cFg_refer : ByteArray := prog_1_method_4_code
abbrev wsFg_refer : List Cond := .code yFg_refer cFg_refer 7 none :: bw
theorem gdFg_refer : GoodIn bw wsFg_refer := gd_of tw_361
theorem hdFg_refer : yFg_refer.cls ≠ "java/lang/invoke/MethodHandle" ∧ yFg_refer.cls ≠ "java/lang/invoke/VarHandle" ∧ (parseMethodDescriptor yFg_refer.desc).map (fun d => d.parameters.length) = some 5 := by decide +kernel
theorem dFg_refer_0 : decode cFg_refer 0 = .ok (.iload_n 1, 1) := by decide +kernel
theorem dFg_refer_1 : decode cFg_refer 1 = .ok (.iconst 4, 1) := by decide +kernel
theorem dFg_refer_2 : decode cFg_refer 2 = .ok (.invokestatic 49, 3) := by decide +kernel
theorem dFg_refer_5 : decode cFg_refer 5 = .ok (.ifCond .eq 30, 3) := by decide +kernel
theorem dFg_refer_8 : decode cFg_refer 8 = .ok (.iload_n 2, 1) := by decide +kernel
theorem dFg_refer_9 : decode cFg_refer 9 = .ok (.iconst 2, 1) := by decide +kernel
theorem dFg_refer_10 : decode cFg_refer 10 = .ok (.invokestatic 49, 3) := by decide +kernel
theorem dFg_refer_13 : decode cFg_refer 13 = .ok (.ifCond .eq 22, 3) := by decide +kernel
theorem dFg_refer_16 : decode cFg_refer 16 = .ok (.iload 4, 2) := by decide +kernel
theorem dFg_refer_18 : decode cFg_refer 18 = .ok (.iconst 3, 1) := by decide +kernel
theorem dFg_refer_19 : decode cFg_refer 19 = .ok (.invokestatic 49, 3) := by decide +kernel
theorem dFg_refer_22 : decode cFg_refer 22 = .ok (.ifCond .eq 13, 3) := by decide +kernel
theorem dFg_refer_25 : decode cFg_refer 25 = .ok (.iload 5, 2) := by decide +kernel
theorem dFg_refer_27 : decode cFg_refer 27 = .ok (.bipush 16, 2) := by decide +kernel
theorem dFg_refer_29 : decode cFg_refer 29 = .ok (.invokestatic 49, 3) := by decide +kernel
theorem dFg_refer_32 : decode cFg_refer 32 = .ok (.ifCond .ne 13, 3) := by decide +kernel
theorem dFg_refer_35 : decode cFg_refer 35 = .ok (.new 53, 3) := by decide +kernel
theorem dFg_refer_38 : decode cFg_refer 38 = .ok (.dup, 1) := by decide +kernel
theorem dFg_refer_39 : decode cFg_refer 39 = .ok (.ldc 92, 2) := by decide +kernel
theorem dFg_refer_41 : decode cFg_refer 41 = .ok (.invokespecial 57, 3) := by decide +kernel
theorem dFg_refer_44 : decode cFg_refer 44 = .ok (.athrow, 1) := by decide +kernel
theorem dFg_refer_45 : decode cFg_refer 45 = .ok (.aload_n 0, 1) := by decide +kernel
theorem dFg_refer_46 : decode cFg_refer 46 = .ok (.getfield 11, 3) := by decide +kernel
theorem dFg_refer_49 : decode cFg_refer 49 = .ok (.iload_n 1, 1) := by decide +kernel
theorem dFg_refer_50 : decode cFg_refer 50 = .ok (.aaload, 1) := by decide +kernel
theorem dFg_refer_51 : decode cFg_refer 51 = .ok (.astore 6, 2) := by decide +kernel
theorem dFg_refer_53 : decode cFg_refer 53 = .ok (.aload 6, 2) := by decide +kernel
theorem dFg_refer_55 : decode cFg_refer 55 = .ok (.getfield 60, 3) := by decide +kernel
theorem dFg_refer_58 : decode cFg_refer 58 = .ok (.iload_n 2, 1) := by decide +kernel
theorem dFg_refer_59 : decode cFg_refer 59 = .ok (.aaload, 1) := by decide +kernel
theorem dFg_refer_60 : decode cFg_refer 60 = .ok (.iload_n 3, 1) := by decide +kernel
theorem dFg_refer_61 : decode cFg_refer 61 = .ok (.invokevirtual 94, 3) := by decide +kernel
theorem dFg_refer_64 : decode cFg_refer 64 = .ok (.ifCond .eq 13, 3) := by decide +kernel
theorem dFg_refer_67 : decode cFg_refer 67 = .ok (.aload 6, 2) := by decide +kernel
theorem dFg_refer_69 : decode cFg_refer 69 = .ok (.iload_n 2, 1) := by decide +kernel
theorem dFg_refer_70 : decode cFg_refer 70 = .ok (.iload_n 3, 1) := by decide +kernel
theorem dFg_refer_71 : decode cFg_refer 71 = .ok (.invokevirtual 98, 3) := by decide +kernel
theorem dFg_refer_74 : decode cFg_refer 74 = .ok (.ifCond .eq 13, 3) := by decide +kernel
theorem dFg_refer_77 : decode cFg_refer 77 = .ok (.new 53, 3) := by decide +kernel
theorem dFg_refer_80 : decode cFg_refer 80 = .ok (.dup, 1) := by decide +kernel
theorem dFg_refer_81 : decode cFg_refer 81 = .ok (.ldc 101, 2) := by decide +kernel
theorem dFg_refer_83 : decode cFg_refer 83 = .ok (.invokespecial 57, 3) := by decide +kernel
theorem dFg_refer_86 : decode cFg_refer 86 = .ok (.athrow, 1) := by decide +kernel
theorem dFg_refer_87 : decode cFg_refer 87 = .ok (.aload 6, 2) := by decide +kernel
theorem dFg_refer_89 : decode cFg_refer 89 = .ok (.getfield 103, 3) := by decide +kernel
theorem dFg_refer_92 : decode cFg_refer 92 = .ok (.invokevirtual 107, 3) := by decide +kernel
theorem dFg_refer_95 : decode cFg_refer 95 = .ok (.bipush 8, 2) := by decide +kernel
theorem dFg_refer_97 : decode cFg_refer 97 = .ok (.if_icmp .lt 13, 3) := by decide +kernel
theorem dFg_refer_100 : decode cFg_refer 100 = .ok (.new 70, 3) := by decide +kernel
theorem dFg_refer_103 : decode cFg_refer 103 = .ok (.dup, 1) := by decide +kernel
theorem dFg_refer_104 : decode cFg_refer 104 = .ok (.ldc 112, 2) := by decide +kernel
theorem dFg_refer_106 : decode cFg_refer 106 = .ok (.invokespecial 74, 3) := by decide +kernel
theorem dFg_refer_109 : decode cFg_refer 109 = .ok (.athrow, 1) := by decide +kernel
theorem dFg_refer_110 : decode cFg_refer 110 = .ok (.aload 6, 2) := by decide +kernel
theorem dFg_refer_112 : decode cFg_refer 112 = .ok (.getfield 103, 3) := by decide +kernel
theorem dFg_refer_115 : decode cFg_refer 115 = .ok (.new 114, 3) := by decide +kernel
theorem dFg_refer_118 : decode cFg_refer 118 = .ok (.dup, 1) := by decide +kernel
theorem dFg_refer_119 : decode cFg_refer 119 = .ok (.iload_n 2, 1) := by decide +kernel
theorem dFg_refer_120 : decode cFg_refer 120 = .ok (.iload_n 3, 1) := by decide +kernel
theorem dFg_refer_121 : decode cFg_refer 121 = .ok (.iload 4, 2) := by decide +kernel
theorem dFg_refer_123 : decode cFg_refer 123 = .ok (.iload 5, 2) := by decide +kernel
theorem dFg_refer_125 : decode cFg_refer 125 = .ok (.invokespecial 116, 3) := by decide +kernel
theorem dFg_refer_128 : decode cFg_refer 128 = .ok (.invokevirtual 119, 3) := by decide +kernel
theorem dFg_refer_131 : decode cFg_refer 131 = .ok (.pop, 1) := by decide +kernel
theorem dFg_refer_132 : decode cFg_refer 132 = .ok (.return_, 1) := by decide +kernel
section
variable {p : Program} {l : Launch} {e : Env} {s : State} {m : MethodId} {args : Array Value} {below : List Frame} {meth : Method} {c : Code} {D : va_G} {cA : Nat → ClassId} {ad : Nat → Nat} {L : List Nat} {rs : va_W} {al : Nat → Bool} {sl : Nat → Option Nat} {n0 : Nat} {A : Nat → Prop}
abbrev rm_Fg_refer : Room := { frames := 6, cells := 1, slots := 6, locals := 100 }
def bk_Fg_refer_35 (F : Nat) (al : Nat → Bool) (sl : Nat → Option Nat) (n0 : Nat) (u : Mr) : Option (Mr × (Nat × Int32)) := some (u, 1, 0)
set_option maxHeartbeats 4000000 in
set_option maxRecDepth 100000 in
theorem wk_Fg_refer_35 (cx : Cx p l e s m args below meth c cFg_refer 7 bw "ImageForge" none D cA ad (Ln sl n0 L) rs (aln al sl n0) A) (cy : Cy l c s A) (cz : Cz s meth "refer" ad L al sl n0 A) (F : Nat) (out : Mr × (Nat × Int32)) : ∀ (u : Mr), bk_Fg_refer_35 F al sl n0 u = some out → Wb p l e rm_Fg_refer s m args below meth c D cA ad (Ln sl n0 L) rs A (QXn below s D cA ad (Ln sl (n0 + 1) L) (Ln sl n0 L) rs A (fun _ => none) out 1 6) 7 35 [] [] u := by
  obtain ⟨hx, hb, hml, hown, hts, hr, hlocks, hK, hA, hD, hN, hal, hNx⟩ := cx
  obtain ⟨hlt, hout, hz1, hz2, hny⟩ := cy
  obtain ⟨hal0, hla, hsl, hnm, hdZ, hdT, hno, hny⟩ := cz
  intro u h H locs ls hl hP hS
  unfold bk_Fg_refer_35 at h
  refine x_toN (by rw [← Option.some.inj h]; exact Nat.succ_ne_zero _) (by decide) (by decide) ?_
  obtain ⟨sa, hs1⟩ := ns_5 hny
  exact x_throw (k := 1) (v := 0) hx hb (by rw [hml]; exact hl.1.symm) hlt hlocks hown (rx := rx_1) (by decide) (by decide) (by decide) (by decide) (by decide) rfl (by decide) hout (hts _ tw_254) (hts _ tw_15) (hts _ tw_255) hs1 (hat_1 hts hny) hz1 hz2 h hP hS (by decide) (by decide) (by decide) (by decide) dFg_refer_35 dFg_refer_38 dFg_refer_39 dFg_refer_41 dFg_refer_44
def bk_Fg_refer_77 (F : Nat) (al : Nat → Bool) (sl : Nat → Option Nat) (n0 : Nat) (u : Mr) : Option (Mr × (Nat × Int32)) := some (u, 1, 0)
set_option maxHeartbeats 4000000 in
set_option maxRecDepth 100000 in
theorem wk_Fg_refer_77 (cx : Cx p l e s m args below meth c cFg_refer 7 bw "ImageForge" none D cA ad (Ln sl n0 L) rs (aln al sl n0) A) (cy : Cy l c s A) (cz : Cz s meth "refer" ad L al sl n0 A) (F : Nat) (out : Mr × (Nat × Int32)) : ∀ (u : Mr), bk_Fg_refer_77 F al sl n0 u = some out → Wb p l e rm_Fg_refer s m args below meth c D cA ad (Ln sl n0 L) rs A (QXn below s D cA ad (Ln sl (n0 + 1) L) (Ln sl n0 L) rs A (fun _ => none) out 1 6) 7 77 [] [] u := by
  obtain ⟨hx, hb, hml, hown, hts, hr, hlocks, hK, hA, hD, hN, hal, hNx⟩ := cx
  obtain ⟨hlt, hout, hz1, hz2, hny⟩ := cy
  obtain ⟨hal0, hla, hsl, hnm, hdZ, hdT, hno, hny⟩ := cz
  intro u h H locs ls hl hP hS
  unfold bk_Fg_refer_77 at h
  refine x_toN (by rw [← Option.some.inj h]; exact Nat.succ_ne_zero _) (by decide) (by decide) ?_
  obtain ⟨sa, hs1⟩ := ns_6 hny
  exact x_throw (k := 1) (v := 0) hx hb (by rw [hml]; exact hl.1.symm) hlt hlocks hown (rx := rx_1) (by decide) (by decide) (by decide) (by decide) (by decide) rfl (by decide) hout (hts _ tw_254) (hts _ tw_15) (hts _ tw_255) hs1 (hat_1 hts hny) hz1 hz2 h hP hS (by decide) (by decide) (by decide) (by decide) dFg_refer_77 dFg_refer_80 dFg_refer_81 dFg_refer_83 dFg_refer_86
def bk_Fg_refer_0 (F : Nat) (al : Nat → Bool) (sl : Nat → Option Nat) (n0 : Nat) (u : Mr) (x0 : Nat) (x1 : Int32) (x2 : Int32) (x3 : Int32) (x4 : Int32) (x5 : Int32) : Option (Mr × (Nat × Int32)) := bd2 (fn_Fg_isBelow F (aln al sl n0) u x1 (4 : Int32)) fun u1 v1 => (if v1 = 0 then (bk_Fg_refer_35 F al sl n0 u1) else (bd2 (fn_Fg_isBelow F (aln al sl n0) u1 x2 (2 : Int32)) fun u2 v2 => (if v2 = 0 then (bk_Fg_refer_35 F al sl n0 u2) else (bd2 (fn_Fg_isBelow F (aln al sl n0) u2 x4 (3 : Int32)) fun u3 v3 => (if v3 = 0 then (bk_Fg_refer_35 F al sl n0 u3) else (bd2 (fn_Fg_isBelow F (aln al sl n0) u3 x5 (16 : Int32)) fun u4 v4 => (if v4 = 0 then (bk_Fg_refer_35 F al sl n0 u4) else (bd1 (rdR (aln al sl n0) u4 x0 0 2) fun y5 => (ck (inb x1 4) (bd1 (rdR (aln al sl n0) u4 y5 x1 14) fun y8 => (bd1 (rdR (aln al sl n0) u4 y8 0 15) fun y10 => (ck (inb x2 2) (bd1 (rdR (aln al sl n0) u4 y10 x2 16) fun y13 => (bd2 (fn_Pt_holdsWord F (aln al sl n0) u4 y13 x3) fun u15 v15 => (if v15 = 0 then (bk_Fg_refer_77 F al sl n0 u15) else (bd2 (fn_Ob_overlaps F (aln al sl n0) u15 y8 x2 x3) fun u16 v16 => (if v16 = 0 then (bd1 (rdR (aln al sl n0) u16 y8 1 18) fun y17 => (bd2 (fn_Al_size F (aln al sl n0) u16 y17) fun u19 v19 => (if v19 < (8 : Int32) then (bd1 (rdR (aln al sl n0) u19 y8 1 18) fun y20 => (bd1 (alo al sl n0 21) fun y22 => (bd2 (fn_Rf_init F al sl (n0 + 1) (clr u19 y22) y22 x2 x3 x4 x5) fun u24 v24 => (bd2 (fn_Al_add F al sl (n0 + 1) u24 y20 y22) fun u25 v25 => (some (u25, 0, 0)))))) else (some (u19, 2, 0))))) else (bk_Fg_refer_77 F al sl n0 u16))))))))))))))))))
set_option maxHeartbeats 4000000 in
set_option maxRecDepth 100000 in
theorem wk_Fg_refer_0 (cx : Cx p l e s m args below meth c cFg_refer 7 bw "ImageForge" none D cA ad (Ln sl n0 L) rs (aln al sl n0) A) (cy : Cy l c s A) (cz : Cz s meth "refer" ad L al sl n0 A) (F : Nat) (out : Mr × (Nat × Int32)) : ∀ (u : Mr) (x0 : Nat) (x1 : Int32) (x2 : Int32) (x3 : Int32) (x4 : Int32) (x5 : Int32), bk_Fg_refer_0 F al sl n0 u x0 x1 x2 x3 x4 x5 = some out → okk (aln al sl n0) 1 x0 = true → Wb p l e rm_Fg_refer s m args below meth c D cA ad (Ln sl n0 L) rs A (QXn below s D cA ad (Ln sl (n0 + 1) L) (Ln sl n0 L) rs A (fun _ => none) out 1 6) 7 0 [(0, .ref (ad x0)), (1, .int x1), (2, .int x2), (3, .int x3), (4, .int x4), (5, .int x5)] [] u := by
  obtain ⟨hx, hb, hml, hown, hts, hr, hlocks, hK, hA, hD, hN, hal, hNx⟩ := cx
  obtain ⟨hlt, hout, hz1, hz2, hny⟩ := cy
  obtain ⟨hal0, hla, hsl, hnm, hdZ, hdT, hno, hny⟩ := cz
  intro u x0 x1 x2 x3 x4 x5 h q0 H locs ls hl hP hS
  unfold bk_Fg_refer_0 at h
  refine lv_iload_n hx hb dFg_refer_0 rfl (lv_at hl 1 rfl) ?_
  refine lv_iconst (v := 4) hx hb dFg_refer_1 (by decide) ?_
  replace h := bd2_some h
  obtain ⟨u1, v1, hc1, h⟩ := h
  refine z_ci (u := u) (out := (u1, v1)) hA hD hS (va_runS (As := [.int x1, .int (4 : Int32)]) (rest := []) ⟨hx, hb, hml, hown, hts⟩ (ct_Fg_isBelow hal hN F u x1 (4 : Int32) (u1, v1) hc1  _) ⟨callB_of 2 hts gdFg_isBelow rfl rfl rfl (hts _ tw_1) (hts _ tw_251) hdFg_isBelow ⟨Nat.le_of_ble_eq_true rfl, Nat.le_of_ble_eq_true rfl⟩, (hts _ tw_252)⟩ (x_preS hK hD hNx hP) rfl rfl hl.1 rfl (lv_room (Nat.le_of_ble_eq_true rfl)) dFg_refer_2 ⟨Nat.le_of_ble_eq_true rfl, Nat.le_of_ble_eq_true rfl⟩) (fun t9 locs hB hS9 => ?_)
  have hP9 := hB
  clear hP hS
  generalize t9.heap = H at hP9 hS9 ⊢
  have hP := hP9
  have hS := hS9
  clear hP9 hS9
  refine lv_if_eq (tgt := 35) hx hb dFg_refer_5 rfl (fun hc => ?_) (fun hc => ?_)
  · replace h := it_t h hc
    exact wk_Fg_refer_35 ⟨hx, hb, hml, hown, hts, hr, hlocks, hK, hA, hD, hN, hal, hNx⟩ ⟨hlt, hout, hz1, hz2, hny⟩ ⟨hal0, hla, hsl, hnm, hdZ, hdT, hno, hny⟩ F out u1 h _ _ _ (lv_sub hl [] rfl) hP hS
  · replace h := it_f h hc
    refine lv_iload_n hx hb dFg_refer_8 rfl (lv_at hl 2 rfl) ?_
    refine lv_iconst (v := 2) hx hb dFg_refer_9 (by decide) ?_
    replace h := bd2_some h
    obtain ⟨u2, v2, hc2, h⟩ := h
    refine z_ci (u := u1) (out := (u2, v2)) hA hD hS (va_runS (As := [.int x2, .int (2 : Int32)]) (rest := []) ⟨hx, hb, hml, hown, hts⟩ (ct_Fg_isBelow hal hN F u1 x2 (2 : Int32) (u2, v2) hc2  _) ⟨callB_of 2 hts gdFg_isBelow rfl rfl rfl (hts _ tw_1) (hts _ tw_251) hdFg_isBelow ⟨Nat.le_of_ble_eq_true rfl, Nat.le_of_ble_eq_true rfl⟩, (hts _ tw_252)⟩ (x_preS hK hD hNx hP) rfl rfl hl.1 rfl (lv_room (Nat.le_of_ble_eq_true rfl)) dFg_refer_10 ⟨Nat.le_of_ble_eq_true rfl, Nat.le_of_ble_eq_true rfl⟩) (fun t9 locs hB hS9 => ?_)
    have hP9 := hB
    clear hP hS
    generalize t9.heap = H at hP9 hS9 ⊢
    have hP := hP9
    have hS := hS9
    clear hP9 hS9
    refine lv_if_eq (tgt := 35) hx hb dFg_refer_13 rfl (fun hc => ?_) (fun hc => ?_)
    · replace h := it_t h hc
      exact wk_Fg_refer_35 ⟨hx, hb, hml, hown, hts, hr, hlocks, hK, hA, hD, hN, hal, hNx⟩ ⟨hlt, hout, hz1, hz2, hny⟩ ⟨hal0, hla, hsl, hnm, hdZ, hdT, hno, hny⟩ F out u2 h _ _ _ (lv_sub hl [] rfl) hP hS
    · replace h := it_f h hc
      refine lv_iload hx hb dFg_refer_16 (lv_at hl 4 rfl) ?_
      refine lv_iconst (v := 3) hx hb dFg_refer_18 (by decide) ?_
      replace h := bd2_some h
      obtain ⟨u3, v3, hc3, h⟩ := h
      refine z_ci (u := u2) (out := (u3, v3)) hA hD hS (va_runS (As := [.int x4, .int (3 : Int32)]) (rest := []) ⟨hx, hb, hml, hown, hts⟩ (ct_Fg_isBelow hal hN F u2 x4 (3 : Int32) (u3, v3) hc3  _) ⟨callB_of 2 hts gdFg_isBelow rfl rfl rfl (hts _ tw_1) (hts _ tw_251) hdFg_isBelow ⟨Nat.le_of_ble_eq_true rfl, Nat.le_of_ble_eq_true rfl⟩, (hts _ tw_252)⟩ (x_preS hK hD hNx hP) rfl rfl hl.1 rfl (lv_room (Nat.le_of_ble_eq_true rfl)) dFg_refer_19 ⟨Nat.le_of_ble_eq_true rfl, Nat.le_of_ble_eq_true rfl⟩) (fun t9 locs hB hS9 => ?_)
      have hP9 := hB
      clear hP hS
      generalize t9.heap = H at hP9 hS9 ⊢
      have hP := hP9
      have hS := hS9
      clear hP9 hS9
      refine lv_if_eq (tgt := 35) hx hb dFg_refer_22 rfl (fun hc => ?_) (fun hc => ?_)
      · replace h := it_t h hc
        exact wk_Fg_refer_35 ⟨hx, hb, hml, hown, hts, hr, hlocks, hK, hA, hD, hN, hal, hNx⟩ ⟨hlt, hout, hz1, hz2, hny⟩ ⟨hal0, hla, hsl, hnm, hdZ, hdT, hno, hny⟩ F out u3 h _ _ _ (lv_sub hl [] rfl) hP hS
      · replace h := it_f h hc
        refine lv_iload hx hb dFg_refer_25 (lv_at hl 5 rfl) ?_
        refine lv_bipush (v := 16) hx hb dFg_refer_27 (by decide) ?_
        replace h := bd2_some h
        obtain ⟨u4, v4, hc4, h⟩ := h
        refine z_ci (u := u3) (out := (u4, v4)) hA hD hS (va_runS (As := [.int x5, .int (16 : Int32)]) (rest := []) ⟨hx, hb, hml, hown, hts⟩ (ct_Fg_isBelow hal hN F u3 x5 (16 : Int32) (u4, v4) hc4  _) ⟨callB_of 2 hts gdFg_isBelow rfl rfl rfl (hts _ tw_1) (hts _ tw_251) hdFg_isBelow ⟨Nat.le_of_ble_eq_true rfl, Nat.le_of_ble_eq_true rfl⟩, (hts _ tw_252)⟩ (x_preS hK hD hNx hP) rfl rfl hl.1 rfl (lv_room (Nat.le_of_ble_eq_true rfl)) dFg_refer_29 ⟨Nat.le_of_ble_eq_true rfl, Nat.le_of_ble_eq_true rfl⟩) (fun t9 locs hB hS9 => ?_)
        have hP9 := hB
        clear hP hS
        generalize t9.heap = H at hP9 hS9 ⊢
        have hP := hP9
        have hS := hS9
        clear hP9 hS9
        refine lv_if_ne (tgt := 45) hx hb dFg_refer_32 rfl (fun hc => ?_) (fun hc => ?_)
        · replace h := it_f h hc
          refine lv_aload_n hx hb dFg_refer_45 rfl (lv_at hl 0 rfl) ?_
          obtain ⟨y5, hy6, h⟩ := bd1_some h
          obtain ⟨hy6a, hy6⟩ := rdR_some hy6
          refine x_get hx hb hts in_Fg hown hK hP (hal _ (okk_al q0)) (okk_t q0) rfl rfl 0 (by decide) (hts _ tw_199) (fun _ h9 => h9) (congrArg some (x_rf hy6a)) dFg_refer_46 ?_
          refine lv_iload_n hx hb dFg_refer_49 rfl (lv_at hl 1 rfl) ?_
          obtain ⟨hi7, h⟩ := ck_some h
          obtain ⟨y8, hy9, h⟩ := bd1_some h
          obtain ⟨hy9a, hy9⟩ := rdR_some hy9
          refine x_aald hx hb hK hP (hal _ (okk_al hy6)) (okk_t hy6) 4 (fun _ _ _ => rfl) rfl rfl (inb_in hi7) hy9a dFg_refer_50 ?_
          refine lv_astore (lv' := [(6, .ref (ad y8)), (0, .ref (ad x0)), (1, .int x1), (2, .int x2), (3, .int x3), (4, .int x4), (5, .int x5)]) hx hb dFg_refer_51 hl (by decide) rfl (fun ls hl => ?_)
          refine lv_aload hx hb dFg_refer_53 (lv_at hl 0 rfl) ?_
          obtain ⟨y10, hy11, h⟩ := bd1_some h
          obtain ⟨hy11a, hy11⟩ := rdR_some hy11
          refine x_getN hx hb hts in_Ob hown hK hP (hal _ (okk_al hy9)) (okk_t hy9) rfl rfl 0 (by decide) (nf_7 hNx) (fun _ h9 => h9) (congrArg some (x_rf hy11a)) dFg_refer_55 ?_
          refine lv_iload_n hx hb dFg_refer_58 rfl (lv_at hl 3 rfl) ?_
          obtain ⟨hi12, h⟩ := ck_some h
          obtain ⟨y13, hy14, h⟩ := bd1_some h
          obtain ⟨hy14a, hy14⟩ := rdR_some hy14
          refine x_aald hx hb hK hP (hal _ (okk_al hy11)) (okk_t hy11) 6 (fun _ _ _ => rfl) rfl rfl (inb_in hi12) hy14a dFg_refer_59 ?_
          refine lv_iload_n hx hb dFg_refer_60 rfl (lv_at hl 4 rfl) ?_
          replace h := bd2_some h
          obtain ⟨u15, v15, hc15, h⟩ := h
          refine z_ci (u := u4) (out := (u15, v15)) hA hD hS (va_runVN (As := [.int x3]) (rest := []) ⟨hx, hb, hml, hown, hts⟩ (ct_Pt_holdsWord hal hN F u4 y13 x3 (u15, v15) hc15 hy14 _) ⟨va_cnB 1 hts gdPt_holdsWord rfl rfl rfl (nn_13 hNx) (hts _ tw_6) hdPt_holdsWord ⟨Nat.le_of_ble_eq_true rfl, Nat.le_of_ble_eq_true rfl⟩, (hts _ tw_365), (hts _ tp_7)⟩ (x_preV hK hD hNx hP (hal _ (okk_al hy14)) (okk_t hy14) rfl rfl) rfl rfl hl.1 rfl (lv_room (Nat.le_of_ble_eq_true rfl)) dFg_refer_61 ⟨Nat.le_of_ble_eq_true rfl, Nat.le_of_ble_eq_true rfl⟩) (fun t9 locs hB hS9 => ?_)
          have hP9 := hB
          clear hP hS
          generalize t9.heap = H at hP9 hS9 ⊢
          have hP := hP9
          have hS := hS9
          clear hP9 hS9
          refine lv_if_eq (tgt := 77) hx hb dFg_refer_64 rfl (fun hc => ?_) (fun hc => ?_)
          · replace h := it_t h hc
            exact wk_Fg_refer_77 ⟨hx, hb, hml, hown, hts, hr, hlocks, hK, hA, hD, hN, hal, hNx⟩ ⟨hlt, hout, hz1, hz2, hny⟩ ⟨hal0, hla, hsl, hnm, hdZ, hdT, hno, hny⟩ F out u15 h _ _ _ (lv_sub hl [] rfl) hP hS
          · replace h := it_f h hc
            refine lv_aload hx hb dFg_refer_67 (lv_at hl 0 rfl) ?_
            refine lv_iload_n hx hb dFg_refer_69 rfl (lv_at hl 3 rfl) ?_
            refine lv_iload_n hx hb dFg_refer_70 rfl (lv_at hl 4 rfl) ?_
            replace h := bd2_some h
            obtain ⟨u16, v16, hc16, h⟩ := h
            refine z_ci (u := u15) (out := (u16, v16)) hA hD hS (va_runVN (As := [.int x2, .int x3]) (rest := []) ⟨hx, hb, hml, hown, hts⟩ (ct_Ob_overlaps hal hN F u15 y8 x2 x3 (u16, v16) hc16 hy9 _) ⟨va_cnB 2 hts gdOb_overlaps rfl rfl rfl (nn_14 hNx) (hts _ tw_5) hdOb_overlaps ⟨Nat.le_of_ble_eq_true rfl, Nat.le_of_ble_eq_true rfl⟩, (hts _ tw_369), (hts _ tp_8)⟩ (x_preV hK hD hNx hP (hal _ (okk_al hy9)) (okk_t hy9) rfl rfl) rfl rfl hl.1 rfl (lv_room (Nat.le_of_ble_eq_true rfl)) dFg_refer_71 ⟨Nat.le_of_ble_eq_true rfl, Nat.le_of_ble_eq_true rfl⟩) (fun t9 locs hB hS9 => ?_)
            have hP9 := hB
            clear hP hS
            generalize t9.heap = H at hP9 hS9 ⊢
            have hP := hP9
            have hS := hS9
            clear hP9 hS9
            refine lv_if_eq (tgt := 87) hx hb dFg_refer_74 rfl (fun hc => ?_) (fun hc => ?_)
            · replace h := it_t h hc
              refine lv_aload hx hb dFg_refer_87 (lv_at hl 0 rfl) ?_
              obtain ⟨y17, hy18, h⟩ := bd1_some h
              obtain ⟨hy18a, hy18⟩ := rdR_some hy18
              refine x_getN hx hb hts in_Ob hown hK hP (hal _ (okk_al hy9)) (okk_t hy9) rfl rfl 1 (by decide) (nf_9 hNx) (fun _ h9 => h9) (congrArg some (x_rf hy18a)) dFg_refer_89 ?_
              replace h := bd2_some h
              obtain ⟨u19, v19, hc19, h⟩ := h
              refine z_ci (u := u16) (out := (u19, v19)) hA hD hS (va_runV (As := []) (rest := []) ⟨hx, hb, hml, hown, hts⟩ (ct_Al_size hal hN F u16 y17 (u19, v19) hc19 hy18 _) ⟨callB_of 0 hts gdAl_size rfl rfl rfl (hts _ tw_9) (hts _ tw_402) hdAl_size ⟨Nat.le_of_ble_eq_true rfl, Nat.le_of_ble_eq_true rfl⟩, (hts _ tw_372), (hts _ tw_373)⟩ (x_preV hK hD hNx hP (hal _ (okk_al hy18)) (okk_t hy18) rfl rfl) rfl rfl hl.1 rfl (lv_room (Nat.le_of_ble_eq_true rfl)) dFg_refer_92 ⟨Nat.le_of_ble_eq_true rfl, Nat.le_of_ble_eq_true rfl⟩) (fun t9 locs hB hS9 => ?_)
              have hP9 := hB
              clear hP hS
              generalize t9.heap = H at hP9 hS9 ⊢
              have hP := hP9
              have hS := hS9
              clear hP9 hS9
              refine lv_bipush (v := 8) hx hb dFg_refer_95 (by decide) ?_
              refine lv_icmp_lt (tgt := 110) hx hb dFg_refer_97 rfl (fun hc => ?_) (fun hc => ?_)
              · replace h := it_t h hc
                refine lv_aload hx hb dFg_refer_110 (lv_at hl 0 rfl) ?_
                obtain ⟨y20, hy21, h⟩ := bd1_some h
                obtain ⟨hy21a, hy21⟩ := rdR_some hy21
                refine x_getN hx hb hts in_Ob hown hK hP (hal _ (okk_al hy9)) (okk_t hy9) rfl rfl 1 (by decide) (nf_9 hNx) (fun _ h9 => h9) (congrArg some (x_rf hy21a)) dFg_refer_112 ?_
                replace h := bd1_some h
                obtain ⟨y22, hy23, h⟩ := h
                obtain ⟨hy23a, hy23b, hy23t⟩ := alo_some hy23
                clear hy23
                refine x_size hS.1 (fun hz => ?_)
                refine x_new hx hb hts in_Rf t_Rf t_Rf_ok hown (hts _ tw_404) (hts _ tw_405) (hts _ tw_21) hK hD hP hS hA (aln_out hla hy23b) hy23t (x_had hsl hy23a hz rfl) rfl rfl df_Rf (Nat.le_of_ble_eq_true rfl) (Nat.le_of_ble_eq_true rfl) dFg_refer_115 (fun H hP hD hS => ?_)
                rw [Ln_s (show (n0 + 1) = n0 + 1 from rfl) hy23a] at hP hD
                replace hN : (Ln sl (n0 + 1) L).Nodup := Ln_nd rfl hy23a (aln_out hla hy23b) hN
                replace hal := aln_in (sl := sl) hal0 (n0 + 1)
                replace hy21 := okk_n (show n0 ≤ (n0 + 1) from Nat.le_add_right _ _) hy21
                replace hy9 := okk_n (show n0 ≤ (n0 + 1) from Nat.le_add_right _ _) hy9
                replace q0 := okk_n (show n0 ≤ (n0 + 1) from Nat.le_add_right _ _) q0
                have hy23f := okk_new (al := al) (n := (n0 + 1)) hy23a (Nat.lt_succ_self _) hy23t
                refine W.widen (k := 1) (n := 4) (Nat.le_of_ble_eq_true rfl) (Nat.le_of_ble_eq_true rfl) ?_
                refine lv_dup hx hb dFg_refer_118 rfl ?_
                refine lv_iload_n hx hb dFg_refer_119 rfl (lv_at hl 3 rfl) ?_
                refine lv_iload_n hx hb dFg_refer_120 rfl (lv_at hl 4 rfl) ?_
                refine lv_iload hx hb dFg_refer_121 (lv_at hl 5 rfl) ?_
                refine lv_iload hx hb dFg_refer_123 (lv_at hl 6 rfl) ?_
                replace h := bd2_some h
                obtain ⟨u24, v24, hc24, h⟩ := h
                refine x_size (x_lo hsl hP hy23a (Nat.lt_succ_self _) rfl) (fun hz => ?_)
                refine z_cv (u := clr u19 y22) (out := (u24, v24)) hA hD hS (va_runIN (As := [.int x2, .int x3, .int x4, .int x5]) (rest := [.ref (ad y22), .ref (ad y20)]) ⟨hx, hb, hml, hown, hts⟩ (ct_Rf_init hal0 hla hN (sz := H.size) (x_hsl hsl hz) F (clr u19 y22) y22 x2 x3 x4 x5 (u24, v24) hc24 hy23f) ⟨va_cnB 4 hts gdRf_init rfl rfl rfl (nn_15 hNx) (hts _ tw_21) hdRf_init ⟨Nat.le_of_ble_eq_true rfl, Nat.le_of_ble_eq_true rfl⟩, rfl, (hts _ tw_407)⟩ (x_preSN hK hD hNx hP hS hA hdZ hdT hno hny) rfl rfl hl.1 rfl (lv_room (Nat.le_of_ble_eq_true rfl)) dFg_refer_125 ⟨Nat.le_of_ble_eq_true rfl, Nat.le_of_ble_eq_true rfl⟩) (fun t9 locs hB hS9 => ?_)
                obtain ⟨hP9, hD9, hN9⟩ := hB
                replace hD := x_Dw hA hD hS hD9
                replace hN := hN9
                clear hP hS
                generalize t9.heap = H at hP9 hS9 ⊢
                have hP := hP9
                have hS := hS9
                clear hP9 hS9 hD9 hN9
                replace h := bd2_some h
                obtain ⟨u25, v25, hc25, h⟩ := h
                refine x_size (x_lo hsl hP hy23a (Nat.lt_succ_self _) rfl) (fun hz => ?_)
                refine z_ci (u := u24) (out := (u25, v25)) hA hD hS (va_runV (As := [.ref (ad y22)]) (rest := []) ⟨hx, hb, hml, hown, hts⟩ (ct_Al_add hal0 hla hN (sz := H.size) (x_hsl hsl hz) F u24 y20 y22 (u25, v25) hc25 hy21 hy23f) ⟨callB_of 1 hts gdAl_add rfl rfl rfl (hts _ tw_9) (hts _ tw_426) hdAl_add ⟨Nat.le_of_ble_eq_true rfl, Nat.le_of_ble_eq_true rfl⟩, (hts _ tw_427), (hts _ tw_428)⟩ (x_preVN hK hD hNx hP hS hA hdZ hdT hno hny (hal _ (okk_al hy21)) (okk_t hy21) rfl rfl) rfl rfl hl.1 rfl (lv_room (Nat.le_of_ble_eq_true rfl)) dFg_refer_128 ⟨Nat.le_of_ble_eq_true rfl, Nat.le_of_ble_eq_true rfl⟩) (fun t9 locs hB hS9 => ?_)
                obtain ⟨hP9, hD9, hN9⟩ := hB
                replace hD := x_Dw hA hD hS hD9
                replace hN := hN9
                clear hP hS
                generalize t9.heap = H at hP9 hS9 ⊢
                have hP := hP9
                have hS := hS9
                clear hP9 hS9 hD9 hN9
                refine lv_pop hx hb dFg_refer_131 rfl ?_
                exact x_vretXN hx hb hr hlocks h hP hD hN hS (Nat.le_of_ble_eq_true rfl) (Nat.le_of_ble_eq_true rfl) dFg_refer_132
              · replace h := it_f h hc
                refine x_toN (by rw [← Option.some.inj h]; exact Nat.succ_ne_zero _) (by decide) (by decide) ?_
                obtain ⟨sa, hs26⟩ := ns_7 hny
                exact x_throw (k := 2) (v := 0) hx hb (by rw [hml]; exact hl.1.symm) hlt hlocks hown (rx := rx_2) (by decide) (by decide) (by decide) (by decide) (by decide) rfl (by decide) hout (hts _ tw_321) (hts _ tw_16) (hts _ tw_322) hs26 (hat_2 hts hny) hz1 hz2 h hP hS (by decide) (by decide) (by decide) (by decide) dFg_refer_100 dFg_refer_103 dFg_refer_104 dFg_refer_106 dFg_refer_109
            · replace h := it_f h hc
              exact wk_Fg_refer_77 ⟨hx, hb, hml, hown, hts, hr, hlocks, hK, hA, hD, hN, hal, hNx⟩ ⟨hlt, hout, hz1, hz2, hny⟩ ⟨hal0, hla, hsl, hnm, hdZ, hdT, hno, hny⟩ F out u16 h _ _ _ (lv_sub hl [] rfl) hP hS
        · replace h := it_t h hc
          exact wk_Fg_refer_35 ⟨hx, hb, hml, hown, hts, hr, hlocks, hK, hA, hD, hN, hal, hNx⟩ ⟨hlt, hout, hz1, hz2, hny⟩ ⟨hal0, hla, hsl, hnm, hdZ, hdT, hno, hny⟩ F out u4 h _ _ _ (lv_sub hl [] rfl) hP hS
def fn_Fg_refer (F : Nat) (al : Nat → Bool) (sl : Nat → Option Nat) (n0 : Nat) (u : Mr) (x0 : Nat) (x1 : Int32) (x2 : Int32) (x3 : Int32) (x4 : Int32) (x5 : Int32) : Option (Mr × (Nat × Int32)) := bk_Fg_refer_0 F al sl n0 u x0 x1 x2 x3 x4 x5
set_option maxHeartbeats 4000000 in
set_option maxRecDepth 100000 in
theorem ct_Fg_refer {l : Launch} (hlt : l.stackTraces = false) {D : va_G} {cA : Nat → ClassId} {ad : Nat → Nat} {L : List Nat} {rs : va_W} {al : Nat → Bool} {sl : Nat → Option Nat} {n0 sz : Nat} (hal0 : ∀ k, al k = true → k ∈ L) (hla : ∀ k, k ∈ L → al k = true) (hN : (Ln sl n0 L).Nodup) (hsl : ∀ i k, sl i = some k → ad k + n0 = sz + i) (F : Nat) (u : Mr) (x0 : Nat) (x1 : Int32) (x2 : Int32) (x3 : Int32) (x4 : Int32) (x5 : Int32) (out : Mr × (Nat × Int32)) (h : fn_Fg_refer F al sl n0 u x0 x1 x2 x3 x4 x5 = some out) (q0 : okk (aln al sl n0) 1 x0 = true) : CtXn l yFg_refer wsFg_refer rm_Fg_refer [.ref (ad x0), .int x1, .int x2, .int x3, .int x4, .int x5] D cA ad (Ln sl n0 L) (Ln sl (n0 + 1) L) rs u (fun _ => none) out 1 6 sz := by
  refine MetX_ofW (cc := cFg_refer) (maxL := 7) (ret := none) (by decide) rfl ?_
  intro p e s m args below meth c s₁ B hml hv
  obtain ⟨rfl, ⟨⟨hsz, hP, hK, hD0, hNx⟩, hdZ, hdT, hno, hny⟩, hz1, hz2⟩ := hv
  subst hsz
  have hD := hD0.self (sz := s.heap.size)
  generalize hAe : va_A (ww ad cA (Ln sl n0 L) rs u) s.heap.size = A at hD hdZ hdT hz1 hz2 ⊢
  have hA : ∀ q, s.heap.size ≤ q → A q := fun q h => by rw [← hAe]; exact Or.inr h
  have hl := lv_entry ([.ref (ad x0), .int x1, .int x2, .int x3, .int x4, .int x5]) (n := 7) (Nat.le_of_ble_eq_true rfl)
  rw [lg_entry_eq]
  generalize (lg_sl ([.ref (ad x0), .int x1, .int x2, .int x3, .int x4, .int x5]) ++ List.replicate (7 - (lg_sl ([.ref (ad x0), .int x1, .int x2, .int x3, .int x4, .int x5])).length) Slot.unset).toArray = ls at hl ⊢
  have hpre := atoms_spec (ws := wsFg_refer) B.pre
  have hnm : meth.name = "refer" := (name_of_methodNamed B.named B.method).1
  exact wk_Fg_refer_0 ⟨B.exec, B.bytes, hml, findClass_of_methodNamed B.named, hts_bw hpre, B.returns, B.notSynchronized, hK, hA, fun v => ww_D hD, hN, aln_in hal0 n0, hNx⟩ ⟨hlt, B.noHandlers (hpre _ List.mem_cons_self), hz1, hz2, hny⟩ ⟨hal0, hla, hsl, hnm, hdZ, hdT, hno, hny⟩ F out u x0 x1 x2 x3 x4 x5 h q0 _ _ _ (lv_sub hl [0, 1, 2, 3, 4, 5] rfl) hP va_S.rf
end
abbrev yFg_referB : MethodName := ⟨"ImageForge", "refer", "(IIIII)V"⟩
abbrev cFg_referB : ByteArray := prog_1_method_4_code
abbrev wsFg_referB : List Cond := .code yFg_referB cFg_referB 7 none :: bw
theorem gdFg_referB : GoodIn bw wsFg_referB := gd_of tw_361
theorem hdFg_referB : yFg_referB.cls ≠ "java/lang/invoke/MethodHandle" ∧ yFg_referB.cls ≠ "java/lang/invoke/VarHandle" ∧ (parseMethodDescriptor yFg_referB.desc).map (fun d => d.parameters.length) = some 5 := by decide +kernel
theorem dFg_referB_0 : decode cFg_referB 0 = .ok (.iload_n 1, 1) := by decide +kernel
theorem dFg_referB_1 : decode cFg_referB 1 = .ok (.iconst 4, 1) := by decide +kernel
theorem dFg_referB_2 : decode cFg_referB 2 = .ok (.invokestatic 49, 3) := by decide +kernel
theorem dFg_referB_5 : decode cFg_referB 5 = .ok (.ifCond .eq 30, 3) := by decide +kernel
theorem dFg_referB_8 : decode cFg_referB 8 = .ok (.iload_n 2, 1) := by decide +kernel
theorem dFg_referB_9 : decode cFg_referB 9 = .ok (.iconst 2, 1) := by decide +kernel
theorem dFg_referB_10 : decode cFg_referB 10 = .ok (.invokestatic 49, 3) := by decide +kernel
theorem dFg_referB_13 : decode cFg_referB 13 = .ok (.ifCond .eq 22, 3) := by decide +kernel
theorem dFg_referB_16 : decode cFg_referB 16 = .ok (.iload 4, 2) := by decide +kernel
theorem dFg_referB_18 : decode cFg_referB 18 = .ok (.iconst 3, 1) := by decide +kernel
theorem dFg_referB_19 : decode cFg_referB 19 = .ok (.invokestatic 49, 3) := by decide +kernel
theorem dFg_referB_22 : decode cFg_referB 22 = .ok (.ifCond .eq 13, 3) := by decide +kernel
theorem dFg_referB_25 : decode cFg_referB 25 = .ok (.iload 5, 2) := by decide +kernel
theorem dFg_referB_27 : decode cFg_referB 27 = .ok (.bipush 16, 2) := by decide +kernel
theorem dFg_referB_29 : decode cFg_referB 29 = .ok (.invokestatic 49, 3) := by decide +kernel
theorem dFg_referB_32 : decode cFg_referB 32 = .ok (.ifCond .ne 13, 3) := by decide +kernel
theorem dFg_referB_35 : decode cFg_referB 35 = .ok (.new 53, 3) := by decide +kernel
theorem dFg_referB_38 : decode cFg_referB 38 = .ok (.dup, 1) := by decide +kernel
theorem dFg_referB_39 : decode cFg_referB 39 = .ok (.ldc 92, 2) := by decide +kernel
theorem dFg_referB_41 : decode cFg_referB 41 = .ok (.invokespecial 57, 3) := by decide +kernel
theorem dFg_referB_44 : decode cFg_referB 44 = .ok (.athrow, 1) := by decide +kernel
theorem dFg_referB_45 : decode cFg_referB 45 = .ok (.aload_n 0, 1) := by decide +kernel
theorem dFg_referB_46 : decode cFg_referB 46 = .ok (.getfield 11, 3) := by decide +kernel
theorem dFg_referB_49 : decode cFg_referB 49 = .ok (.iload_n 1, 1) := by decide +kernel
theorem dFg_referB_50 : decode cFg_referB 50 = .ok (.aaload, 1) := by decide +kernel
theorem dFg_referB_51 : decode cFg_referB 51 = .ok (.astore 6, 2) := by decide +kernel
theorem dFg_referB_53 : decode cFg_referB 53 = .ok (.aload 6, 2) := by decide +kernel
theorem dFg_referB_55 : decode cFg_referB 55 = .ok (.getfield 60, 3) := by decide +kernel
theorem dFg_referB_58 : decode cFg_referB 58 = .ok (.iload_n 2, 1) := by decide +kernel
theorem dFg_referB_59 : decode cFg_referB 59 = .ok (.aaload, 1) := by decide +kernel
theorem dFg_referB_60 : decode cFg_referB 60 = .ok (.iload_n 3, 1) := by decide +kernel
theorem dFg_referB_61 : decode cFg_referB 61 = .ok (.invokevirtual 94, 3) := by decide +kernel
theorem dFg_referB_64 : decode cFg_referB 64 = .ok (.ifCond .eq 13, 3) := by decide +kernel
theorem dFg_referB_67 : decode cFg_referB 67 = .ok (.aload 6, 2) := by decide +kernel
theorem dFg_referB_69 : decode cFg_referB 69 = .ok (.iload_n 2, 1) := by decide +kernel
theorem dFg_referB_70 : decode cFg_referB 70 = .ok (.iload_n 3, 1) := by decide +kernel
theorem dFg_referB_71 : decode cFg_referB 71 = .ok (.invokevirtual 98, 3) := by decide +kernel
theorem dFg_referB_74 : decode cFg_referB 74 = .ok (.ifCond .eq 13, 3) := by decide +kernel
theorem dFg_referB_77 : decode cFg_referB 77 = .ok (.new 53, 3) := by decide +kernel
theorem dFg_referB_80 : decode cFg_referB 80 = .ok (.dup, 1) := by decide +kernel
theorem dFg_referB_81 : decode cFg_referB 81 = .ok (.ldc 101, 2) := by decide +kernel
theorem dFg_referB_83 : decode cFg_referB 83 = .ok (.invokespecial 57, 3) := by decide +kernel
theorem dFg_referB_86 : decode cFg_referB 86 = .ok (.athrow, 1) := by decide +kernel
theorem dFg_referB_87 : decode cFg_referB 87 = .ok (.aload 6, 2) := by decide +kernel
theorem dFg_referB_89 : decode cFg_referB 89 = .ok (.getfield 103, 3) := by decide +kernel
theorem dFg_referB_92 : decode cFg_referB 92 = .ok (.invokevirtual 107, 3) := by decide +kernel
theorem dFg_referB_95 : decode cFg_referB 95 = .ok (.bipush 8, 2) := by decide +kernel
theorem dFg_referB_97 : decode cFg_referB 97 = .ok (.if_icmp .lt 13, 3) := by decide +kernel
theorem dFg_referB_100 : decode cFg_referB 100 = .ok (.new 70, 3) := by decide +kernel
theorem dFg_referB_103 : decode cFg_referB 103 = .ok (.dup, 1) := by decide +kernel
theorem dFg_referB_104 : decode cFg_referB 104 = .ok (.ldc 112, 2) := by decide +kernel
theorem dFg_referB_106 : decode cFg_referB 106 = .ok (.invokespecial 74, 3) := by decide +kernel
theorem dFg_referB_109 : decode cFg_referB 109 = .ok (.athrow, 1) := by decide +kernel
theorem dFg_referB_110 : decode cFg_referB 110 = .ok (.aload 6, 2) := by decide +kernel
theorem dFg_referB_112 : decode cFg_referB 112 = .ok (.getfield 103, 3) := by decide +kernel
theorem dFg_referB_115 : decode cFg_referB 115 = .ok (.new 114, 3) := by decide +kernel
theorem dFg_referB_118 : decode cFg_referB 118 = .ok (.dup, 1) := by decide +kernel
theorem dFg_referB_119 : decode cFg_referB 119 = .ok (.iload_n 2, 1) := by decide +kernel
theorem dFg_referB_120 : decode cFg_referB 120 = .ok (.iload_n 3, 1) := by decide +kernel
theorem dFg_referB_121 : decode cFg_referB 121 = .ok (.iload 4, 2) := by decide +kernel
theorem dFg_referB_123 : decode cFg_referB 123 = .ok (.iload 5, 2) := by decide +kernel
theorem dFg_referB_125 : decode cFg_referB 125 = .ok (.invokespecial 116, 3) := by decide +kernel
theorem dFg_referB_128 : decode cFg_referB 128 = .ok (.invokevirtual 119, 3) := by decide +kernel
theorem dFg_referB_131 : decode cFg_referB 131 = .ok (.pop, 1) := by decide +kernel
theorem dFg_referB_132 : decode cFg_referB 132 = .ok (.return_, 1) := by decide +kernel
section
variable {p : Program} {l : Launch} {e : Env} {s : State} {m : MethodId} {args : Array Value} {below : List Frame} {meth : Method} {c : Code} {D : va_G} {cA : Nat → ClassId} {ad : Nat → Nat} {L : List Nat} {rs : va_W} {al : Nat → Bool} {sl : Nat → Option Nat} {n0 : Nat} {A : Nat → Prop}
abbrev rm_Fg_referB : Room := { frames := 6, cells := 2, slots := 14, locals := 117 }
def bk_Fg_referB_35 (F : Nat) (al : Nat → Bool) (sl : Nat → Option Nat) (n0 : Nat) (u : Mr) : Option (Mr × (Nat × Int32)) := some (u, 1, 0)
set_option maxHeartbeats 4000000 in
set_option maxRecDepth 100000 in
theorem wk_Fg_referB_35 (cx : Cx p l e s m args below meth c cFg_referB 7 bw "ImageForge" none D cA ad (Ln sl n0 L) rs (aln al sl n0) A) (cy : Cy l c s A) (cz : Cz s meth "refer" ad L al sl n0 A) (F : Nat) (out : Mr × (Nat × Int32)) : ∀ (u : Mr), bk_Fg_referB_35 F al sl n0 u = some out → Wb p l e rm_Fg_referB s m args below meth c D cA ad (Ln sl n0 L) rs A (QXn below s D cA ad (Ln sl (n0 + 2) L) (Ln sl n0 L) rs A (fun _ => none) out 2 14) 7 35 [] [] u := by
  obtain ⟨hx, hb, hml, hown, hts, hr, hlocks, hK, hA, hD, hN, hal, hNx⟩ := cx
  obtain ⟨hlt, hout, hz1, hz2, hny⟩ := cy
  obtain ⟨hal0, hla, hsl, hnm, hdZ, hdT, hno, hny⟩ := cz
  intro u h H locs ls hl hP hS
  unfold bk_Fg_referB_35 at h
  refine x_toN (by rw [← Option.some.inj h]; exact Nat.succ_ne_zero _) (by decide) (by decide) ?_
  obtain ⟨sa, hs1⟩ := ns_5 hny
  exact x_throw (k := 1) (v := 0) hx hb (by rw [hml]; exact hl.1.symm) hlt hlocks hown (rx := rx_1) (by decide) (by decide) (by decide) (by decide) (by decide) rfl (by decide) hout (hts _ tw_254) (hts _ tw_15) (hts _ tw_255) hs1 (hat_1 hts hny) hz1 hz2 h hP hS (by decide) (by decide) (by decide) (by decide) dFg_referB_35 dFg_referB_38 dFg_referB_39 dFg_referB_41 dFg_referB_44
def bk_Fg_referB_77 (F : Nat) (al : Nat → Bool) (sl : Nat → Option Nat) (n0 : Nat) (u : Mr) : Option (Mr × (Nat × Int32)) := some (u, 1, 0)
set_option maxHeartbeats 4000000 in
set_option maxRecDepth 100000 in
theorem wk_Fg_referB_77 (cx : Cx p l e s m args below meth c cFg_referB 7 bw "ImageForge" none D cA ad (Ln sl n0 L) rs (aln al sl n0) A) (cy : Cy l c s A) (cz : Cz s meth "refer" ad L al sl n0 A) (F : Nat) (out : Mr × (Nat × Int32)) : ∀ (u : Mr), bk_Fg_referB_77 F al sl n0 u = some out → Wb p l e rm_Fg_referB s m args below meth c D cA ad (Ln sl n0 L) rs A (QXn below s D cA ad (Ln sl (n0 + 2) L) (Ln sl n0 L) rs A (fun _ => none) out 2 14) 7 77 [] [] u := by
  obtain ⟨hx, hb, hml, hown, hts, hr, hlocks, hK, hA, hD, hN, hal, hNx⟩ := cx
  obtain ⟨hlt, hout, hz1, hz2, hny⟩ := cy
  obtain ⟨hal0, hla, hsl, hnm, hdZ, hdT, hno, hny⟩ := cz
  intro u h H locs ls hl hP hS
  unfold bk_Fg_referB_77 at h
  refine x_toN (by rw [← Option.some.inj h]; exact Nat.succ_ne_zero _) (by decide) (by decide) ?_
  obtain ⟨sa, hs1⟩ := ns_6 hny
  exact x_throw (k := 1) (v := 0) hx hb (by rw [hml]; exact hl.1.symm) hlt hlocks hown (rx := rx_1) (by decide) (by decide) (by decide) (by decide) (by decide) rfl (by decide) hout (hts _ tw_254) (hts _ tw_15) (hts _ tw_255) hs1 (hat_1 hts hny) hz1 hz2 h hP hS (by decide) (by decide) (by decide) (by decide) dFg_referB_77 dFg_referB_80 dFg_referB_81 dFg_referB_83 dFg_referB_86
def bk_Fg_referB_0 (F : Nat) (al : Nat → Bool) (sl : Nat → Option Nat) (n0 : Nat) (u : Mr) (x0 : Nat) (x1 : Int32) (x2 : Int32) (x3 : Int32) (x4 : Int32) (x5 : Int32) : Option (Mr × (Nat × Int32)) := bd2 (fn_Fg_isBelow F (aln al sl n0) u x1 (4 : Int32)) fun u1 v1 => (if v1 = 0 then (bk_Fg_referB_35 F al sl n0 u1) else (bd2 (fn_Fg_isBelow F (aln al sl n0) u1 x2 (2 : Int32)) fun u2 v2 => (if v2 = 0 then (bk_Fg_referB_35 F al sl n0 u2) else (bd2 (fn_Fg_isBelow F (aln al sl n0) u2 x4 (3 : Int32)) fun u3 v3 => (if v3 = 0 then (bk_Fg_referB_35 F al sl n0 u3) else (bd2 (fn_Fg_isBelow F (aln al sl n0) u3 x5 (16 : Int32)) fun u4 v4 => (if v4 = 0 then (bk_Fg_referB_35 F al sl n0 u4) else (bd1 (rdR (aln al sl n0) u4 x0 0 2) fun y5 => (ck (inb x1 4) (bd1 (rdR (aln al sl n0) u4 y5 x1 14) fun y8 => (bd1 (rdR (aln al sl n0) u4 y8 0 15) fun y10 => (ck (inb x2 2) (bd1 (rdR (aln al sl n0) u4 y10 x2 16) fun y13 => (bd2 (fn_Pt_holdsWord F (aln al sl n0) u4 y13 x3) fun u15 v15 => (if v15 = 0 then (bk_Fg_referB_77 F al sl n0 u15) else (bd2 (fn_Ob_overlaps F (aln al sl n0) u15 y8 x2 x3) fun u16 v16 => (if v16 = 0 then (bd1 (rdR (aln al sl n0) u16 y8 1 18) fun y17 => (bd2 (fn_Al_size F (aln al sl n0) u16 y17) fun u19 v19 => (if v19 < (8 : Int32) then (bd1 (rdR (aln al sl n0) u19 y8 1 18) fun y20 => (bd1 (alo al sl n0 21) fun y22 => (bd2 (fn_Rf_init F al sl (n0 + 1) (clr u19 y22) y22 x2 x3 x4 x5) fun u24 v24 => (bd2 (fn_Al_addB F al sl (n0 + 1) u24 y20 y22) fun u25 v25 => ck (sl (n0 + 1)).isSome (some (u25, 0, 0)))))) else (some (u19, 2, 0))))) else (bk_Fg_referB_77 F al sl n0 u16))))))))))))))))))
set_option maxHeartbeats 4000000 in
set_option maxRecDepth 100000 in
theorem wk_Fg_referB_0 (cx : Cx p l e s m args below meth c cFg_referB 7 bw "ImageForge" none D cA ad (Ln sl n0 L) rs (aln al sl n0) A) (cy : Cy l c s A) (cz : Cz s meth "refer" ad L al sl n0 A) (F : Nat) (out : Mr × (Nat × Int32)) : ∀ (u : Mr) (x0 : Nat) (x1 : Int32) (x2 : Int32) (x3 : Int32) (x4 : Int32) (x5 : Int32), bk_Fg_referB_0 F al sl n0 u x0 x1 x2 x3 x4 x5 = some out → okk (aln al sl n0) 1 x0 = true → Wb p l e rm_Fg_referB s m args below meth c D cA ad (Ln sl n0 L) rs A (QXn below s D cA ad (Ln sl (n0 + 2) L) (Ln sl n0 L) rs A (fun _ => none) out 2 14) 7 0 [(0, .ref (ad x0)), (1, .int x1), (2, .int x2), (3, .int x3), (4, .int x4), (5, .int x5)] [] u := by
  obtain ⟨hx, hb, hml, hown, hts, hr, hlocks, hK, hA, hD, hN, hal, hNx⟩ := cx
  obtain ⟨hlt, hout, hz1, hz2, hny⟩ := cy
  obtain ⟨hal0, hla, hsl, hnm, hdZ, hdT, hno, hny⟩ := cz
  intro u x0 x1 x2 x3 x4 x5 h q0 H locs ls hl hP hS
  unfold bk_Fg_referB_0 at h
  refine lv_iload_n hx hb dFg_referB_0 rfl (lv_at hl 1 rfl) ?_
  refine lv_iconst (v := 4) hx hb dFg_referB_1 (by decide) ?_
  replace h := bd2_some h
  obtain ⟨u1, v1, hc1, h⟩ := h
  refine z_ci (u := u) (out := (u1, v1)) hA hD hS (va_runS (As := [.int x1, .int (4 : Int32)]) (rest := []) ⟨hx, hb, hml, hown, hts⟩ (ct_Fg_isBelow hal hN F u x1 (4 : Int32) (u1, v1) hc1  _) ⟨callB_of 2 hts gdFg_isBelow rfl rfl rfl (hts _ tw_1) (hts _ tw_251) hdFg_isBelow ⟨Nat.le_of_ble_eq_true rfl, Nat.le_of_ble_eq_true rfl⟩, (hts _ tw_252)⟩ (x_preS hK hD hNx hP) rfl rfl hl.1 rfl (lv_room (Nat.le_of_ble_eq_true rfl)) dFg_referB_2 ⟨Nat.le_of_ble_eq_true rfl, Nat.le_of_ble_eq_true rfl⟩) (fun t9 locs hB hS9 => ?_)
  have hP9 := hB
  clear hP hS
  generalize t9.heap = H at hP9 hS9 ⊢
  have hP := hP9
  have hS := hS9
  clear hP9 hS9
  refine lv_if_eq (tgt := 35) hx hb dFg_referB_5 rfl (fun hc => ?_) (fun hc => ?_)
  · replace h := it_t h hc
    exact wk_Fg_referB_35 ⟨hx, hb, hml, hown, hts, hr, hlocks, hK, hA, hD, hN, hal, hNx⟩ ⟨hlt, hout, hz1, hz2, hny⟩ ⟨hal0, hla, hsl, hnm, hdZ, hdT, hno, hny⟩ F out u1 h _ _ _ (lv_sub hl [] rfl) hP hS
  · replace h := it_f h hc
    refine lv_iload_n hx hb dFg_referB_8 rfl (lv_at hl 2 rfl) ?_
    refine lv_iconst (v := 2) hx hb dFg_referB_9 (by decide) ?_
    replace h := bd2_some h
    obtain ⟨u2, v2, hc2, h⟩ := h
    refine z_ci (u := u1) (out := (u2, v2)) hA hD hS (va_runS (As := [.int x2, .int (2 : Int32)]) (rest := []) ⟨hx, hb, hml, hown, hts⟩ (ct_Fg_isBelow hal hN F u1 x2 (2 : Int32) (u2, v2) hc2  _) ⟨callB_of 2 hts gdFg_isBelow rfl rfl rfl (hts _ tw_1) (hts _ tw_251) hdFg_isBelow ⟨Nat.le_of_ble_eq_true rfl, Nat.le_of_ble_eq_true rfl⟩, (hts _ tw_252)⟩ (x_preS hK hD hNx hP) rfl rfl hl.1 rfl (lv_room (Nat.le_of_ble_eq_true rfl)) dFg_referB_10 ⟨Nat.le_of_ble_eq_true rfl, Nat.le_of_ble_eq_true rfl⟩) (fun t9 locs hB hS9 => ?_)
    have hP9 := hB
    clear hP hS
    generalize t9.heap = H at hP9 hS9 ⊢
    have hP := hP9
    have hS := hS9
    clear hP9 hS9
    refine lv_if_eq (tgt := 35) hx hb dFg_referB_13 rfl (fun hc => ?_) (fun hc => ?_)
    · replace h := it_t h hc
      exact wk_Fg_referB_35 ⟨hx, hb, hml, hown, hts, hr, hlocks, hK, hA, hD, hN, hal, hNx⟩ ⟨hlt, hout, hz1, hz2, hny⟩ ⟨hal0, hla, hsl, hnm, hdZ, hdT, hno, hny⟩ F out u2 h _ _ _ (lv_sub hl [] rfl) hP hS
    · replace h := it_f h hc
      refine lv_iload hx hb dFg_referB_16 (lv_at hl 4 rfl) ?_
      refine lv_iconst (v := 3) hx hb dFg_referB_18 (by decide) ?_
      replace h := bd2_some h
      obtain ⟨u3, v3, hc3, h⟩ := h
      refine z_ci (u := u2) (out := (u3, v3)) hA hD hS (va_runS (As := [.int x4, .int (3 : Int32)]) (rest := []) ⟨hx, hb, hml, hown, hts⟩ (ct_Fg_isBelow hal hN F u2 x4 (3 : Int32) (u3, v3) hc3  _) ⟨callB_of 2 hts gdFg_isBelow rfl rfl rfl (hts _ tw_1) (hts _ tw_251) hdFg_isBelow ⟨Nat.le_of_ble_eq_true rfl, Nat.le_of_ble_eq_true rfl⟩, (hts _ tw_252)⟩ (x_preS hK hD hNx hP) rfl rfl hl.1 rfl (lv_room (Nat.le_of_ble_eq_true rfl)) dFg_referB_19 ⟨Nat.le_of_ble_eq_true rfl, Nat.le_of_ble_eq_true rfl⟩) (fun t9 locs hB hS9 => ?_)
      have hP9 := hB
      clear hP hS
      generalize t9.heap = H at hP9 hS9 ⊢
      have hP := hP9
      have hS := hS9
      clear hP9 hS9
      refine lv_if_eq (tgt := 35) hx hb dFg_referB_22 rfl (fun hc => ?_) (fun hc => ?_)
      · replace h := it_t h hc
        exact wk_Fg_referB_35 ⟨hx, hb, hml, hown, hts, hr, hlocks, hK, hA, hD, hN, hal, hNx⟩ ⟨hlt, hout, hz1, hz2, hny⟩ ⟨hal0, hla, hsl, hnm, hdZ, hdT, hno, hny⟩ F out u3 h _ _ _ (lv_sub hl [] rfl) hP hS
      · replace h := it_f h hc
        refine lv_iload hx hb dFg_referB_25 (lv_at hl 5 rfl) ?_
        refine lv_bipush (v := 16) hx hb dFg_referB_27 (by decide) ?_
        replace h := bd2_some h
        obtain ⟨u4, v4, hc4, h⟩ := h
        refine z_ci (u := u3) (out := (u4, v4)) hA hD hS (va_runS (As := [.int x5, .int (16 : Int32)]) (rest := []) ⟨hx, hb, hml, hown, hts⟩ (ct_Fg_isBelow hal hN F u3 x5 (16 : Int32) (u4, v4) hc4  _) ⟨callB_of 2 hts gdFg_isBelow rfl rfl rfl (hts _ tw_1) (hts _ tw_251) hdFg_isBelow ⟨Nat.le_of_ble_eq_true rfl, Nat.le_of_ble_eq_true rfl⟩, (hts _ tw_252)⟩ (x_preS hK hD hNx hP) rfl rfl hl.1 rfl (lv_room (Nat.le_of_ble_eq_true rfl)) dFg_referB_29 ⟨Nat.le_of_ble_eq_true rfl, Nat.le_of_ble_eq_true rfl⟩) (fun t9 locs hB hS9 => ?_)
        have hP9 := hB
        clear hP hS
        generalize t9.heap = H at hP9 hS9 ⊢
        have hP := hP9
        have hS := hS9
        clear hP9 hS9
        refine lv_if_ne (tgt := 45) hx hb dFg_referB_32 rfl (fun hc => ?_) (fun hc => ?_)
        · replace h := it_f h hc
          refine lv_aload_n hx hb dFg_referB_45 rfl (lv_at hl 0 rfl) ?_
          obtain ⟨y5, hy6, h⟩ := bd1_some h
          obtain ⟨hy6a, hy6⟩ := rdR_some hy6
          refine x_get hx hb hts in_Fg hown hK hP (hal _ (okk_al q0)) (okk_t q0) rfl rfl 0 (by decide) (hts _ tw_199) (fun _ h9 => h9) (congrArg some (x_rf hy6a)) dFg_referB_46 ?_
          refine lv_iload_n hx hb dFg_referB_49 rfl (lv_at hl 1 rfl) ?_
          obtain ⟨hi7, h⟩ := ck_some h
          obtain ⟨y8, hy9, h⟩ := bd1_some h
          obtain ⟨hy9a, hy9⟩ := rdR_some hy9
          refine x_aald hx hb hK hP (hal _ (okk_al hy6)) (okk_t hy6) 4 (fun _ _ _ => rfl) rfl rfl (inb_in hi7) hy9a dFg_referB_50 ?_
          refine lv_astore (lv' := [(6, .ref (ad y8)), (0, .ref (ad x0)), (1, .int x1), (2, .int x2), (3, .int x3), (4, .int x4), (5, .int x5)]) hx hb dFg_referB_51 hl (by decide) rfl (fun ls hl => ?_)
          refine lv_aload hx hb dFg_referB_53 (lv_at hl 0 rfl) ?_
          obtain ⟨y10, hy11, h⟩ := bd1_some h
          obtain ⟨hy11a, hy11⟩ := rdR_some hy11
          refine x_getN hx hb hts in_Ob hown hK hP (hal _ (okk_al hy9)) (okk_t hy9) rfl rfl 0 (by decide) (nf_7 hNx) (fun _ h9 => h9) (congrArg some (x_rf hy11a)) dFg_referB_55 ?_
          refine lv_iload_n hx hb dFg_referB_58 rfl (lv_at hl 3 rfl) ?_
          obtain ⟨hi12, h⟩ := ck_some h
          obtain ⟨y13, hy14, h⟩ := bd1_some h
          obtain ⟨hy14a, hy14⟩ := rdR_some hy14
          refine x_aald hx hb hK hP (hal _ (okk_al hy11)) (okk_t hy11) 6 (fun _ _ _ => rfl) rfl rfl (inb_in hi12) hy14a dFg_referB_59 ?_
          refine lv_iload_n hx hb dFg_referB_60 rfl (lv_at hl 4 rfl) ?_
          replace h := bd2_some h
          obtain ⟨u15, v15, hc15, h⟩ := h
          refine z_ci (u := u4) (out := (u15, v15)) hA hD hS (va_runVN (As := [.int x3]) (rest := []) ⟨hx, hb, hml, hown, hts⟩ (ct_Pt_holdsWord hal hN F u4 y13 x3 (u15, v15) hc15 hy14 _) ⟨va_cnB 1 hts gdPt_holdsWord rfl rfl rfl (nn_13 hNx) (hts _ tw_6) hdPt_holdsWord ⟨Nat.le_of_ble_eq_true rfl, Nat.le_of_ble_eq_true rfl⟩, (hts _ tw_365), (hts _ tp_7)⟩ (x_preV hK hD hNx hP (hal _ (okk_al hy14)) (okk_t hy14) rfl rfl) rfl rfl hl.1 rfl (lv_room (Nat.le_of_ble_eq_true rfl)) dFg_referB_61 ⟨Nat.le_of_ble_eq_true rfl, Nat.le_of_ble_eq_true rfl⟩) (fun t9 locs hB hS9 => ?_)
          have hP9 := hB
          clear hP hS
          generalize t9.heap = H at hP9 hS9 ⊢
          have hP := hP9
          have hS := hS9
          clear hP9 hS9
          refine lv_if_eq (tgt := 77) hx hb dFg_referB_64 rfl (fun hc => ?_) (fun hc => ?_)
          · replace h := it_t h hc
            exact wk_Fg_referB_77 ⟨hx, hb, hml, hown, hts, hr, hlocks, hK, hA, hD, hN, hal, hNx⟩ ⟨hlt, hout, hz1, hz2, hny⟩ ⟨hal0, hla, hsl, hnm, hdZ, hdT, hno, hny⟩ F out u15 h _ _ _ (lv_sub hl [] rfl) hP hS
          · replace h := it_f h hc
            refine lv_aload hx hb dFg_referB_67 (lv_at hl 0 rfl) ?_
            refine lv_iload_n hx hb dFg_referB_69 rfl (lv_at hl 3 rfl) ?_
            refine lv_iload_n hx hb dFg_referB_70 rfl (lv_at hl 4 rfl) ?_
            replace h := bd2_some h
            obtain ⟨u16, v16, hc16, h⟩ := h
            refine z_ci (u := u15) (out := (u16, v16)) hA hD hS (va_runVN (As := [.int x2, .int x3]) (rest := []) ⟨hx, hb, hml, hown, hts⟩ (ct_Ob_overlaps hal hN F u15 y8 x2 x3 (u16, v16) hc16 hy9 _) ⟨va_cnB 2 hts gdOb_overlaps rfl rfl rfl (nn_14 hNx) (hts _ tw_5) hdOb_overlaps ⟨Nat.le_of_ble_eq_true rfl, Nat.le_of_ble_eq_true rfl⟩, (hts _ tw_369), (hts _ tp_8)⟩ (x_preV hK hD hNx hP (hal _ (okk_al hy9)) (okk_t hy9) rfl rfl) rfl rfl hl.1 rfl (lv_room (Nat.le_of_ble_eq_true rfl)) dFg_referB_71 ⟨Nat.le_of_ble_eq_true rfl, Nat.le_of_ble_eq_true rfl⟩) (fun t9 locs hB hS9 => ?_)
            have hP9 := hB
            clear hP hS
            generalize t9.heap = H at hP9 hS9 ⊢
            have hP := hP9
            have hS := hS9
            clear hP9 hS9
            refine lv_if_eq (tgt := 87) hx hb dFg_referB_74 rfl (fun hc => ?_) (fun hc => ?_)
            · replace h := it_t h hc
              refine lv_aload hx hb dFg_referB_87 (lv_at hl 0 rfl) ?_
              obtain ⟨y17, hy18, h⟩ := bd1_some h
              obtain ⟨hy18a, hy18⟩ := rdR_some hy18
              refine x_getN hx hb hts in_Ob hown hK hP (hal _ (okk_al hy9)) (okk_t hy9) rfl rfl 1 (by decide) (nf_9 hNx) (fun _ h9 => h9) (congrArg some (x_rf hy18a)) dFg_referB_89 ?_
              replace h := bd2_some h
              obtain ⟨u19, v19, hc19, h⟩ := h
              refine z_ci (u := u16) (out := (u19, v19)) hA hD hS (va_runV (As := []) (rest := []) ⟨hx, hb, hml, hown, hts⟩ (ct_Al_size hal hN F u16 y17 (u19, v19) hc19 hy18 _) ⟨callB_of 0 hts gdAl_size rfl rfl rfl (hts _ tw_9) (hts _ tw_402) hdAl_size ⟨Nat.le_of_ble_eq_true rfl, Nat.le_of_ble_eq_true rfl⟩, (hts _ tw_372), (hts _ tw_373)⟩ (x_preV hK hD hNx hP (hal _ (okk_al hy18)) (okk_t hy18) rfl rfl) rfl rfl hl.1 rfl (lv_room (Nat.le_of_ble_eq_true rfl)) dFg_referB_92 ⟨Nat.le_of_ble_eq_true rfl, Nat.le_of_ble_eq_true rfl⟩) (fun t9 locs hB hS9 => ?_)
              have hP9 := hB
              clear hP hS
              generalize t9.heap = H at hP9 hS9 ⊢
              have hP := hP9
              have hS := hS9
              clear hP9 hS9
              refine lv_bipush (v := 8) hx hb dFg_referB_95 (by decide) ?_
              refine lv_icmp_lt (tgt := 110) hx hb dFg_referB_97 rfl (fun hc => ?_) (fun hc => ?_)
              · replace h := it_t h hc
                refine lv_aload hx hb dFg_referB_110 (lv_at hl 0 rfl) ?_
                obtain ⟨y20, hy21, h⟩ := bd1_some h
                obtain ⟨hy21a, hy21⟩ := rdR_some hy21
                refine x_getN hx hb hts in_Ob hown hK hP (hal _ (okk_al hy9)) (okk_t hy9) rfl rfl 1 (by decide) (nf_9 hNx) (fun _ h9 => h9) (congrArg some (x_rf hy21a)) dFg_referB_112 ?_
                replace h := bd1_some h
                obtain ⟨y22, hy23, h⟩ := h
                obtain ⟨hy23a, hy23b, hy23t⟩ := alo_some hy23
                clear hy23
                refine x_size hS.1 (fun hz => ?_)
                refine x_new hx hb hts in_Rf t_Rf t_Rf_ok hown (hts _ tw_404) (hts _ tw_405) (hts _ tw_21) hK hD hP hS hA (aln_out hla hy23b) hy23t (x_had hsl hy23a hz rfl) rfl rfl df_Rf (Nat.le_of_ble_eq_true rfl) (Nat.le_of_ble_eq_true rfl) dFg_referB_115 (fun H hP hD hS => ?_)
                rw [Ln_s (show (n0 + 1) = n0 + 1 from rfl) hy23a] at hP hD
                replace hN : (Ln sl (n0 + 1) L).Nodup := Ln_nd rfl hy23a (aln_out hla hy23b) hN
                replace hal := aln_in (sl := sl) hal0 (n0 + 1)
                replace hy21 := okk_n (show n0 ≤ (n0 + 1) from Nat.le_add_right _ _) hy21
                replace hy9 := okk_n (show n0 ≤ (n0 + 1) from Nat.le_add_right _ _) hy9
                replace q0 := okk_n (show n0 ≤ (n0 + 1) from Nat.le_add_right _ _) q0
                have hy23f := okk_new (al := al) (n := (n0 + 1)) hy23a (Nat.lt_succ_self _) hy23t
                refine W.widen (k := 1) (n := 4) (Nat.le_of_ble_eq_true rfl) (Nat.le_of_ble_eq_true rfl) ?_
                refine lv_dup hx hb dFg_referB_118 rfl ?_
                refine lv_iload_n hx hb dFg_referB_119 rfl (lv_at hl 3 rfl) ?_
                refine lv_iload_n hx hb dFg_referB_120 rfl (lv_at hl 4 rfl) ?_
                refine lv_iload hx hb dFg_referB_121 (lv_at hl 5 rfl) ?_
                refine lv_iload hx hb dFg_referB_123 (lv_at hl 6 rfl) ?_
                replace h := bd2_some h
                obtain ⟨u24, v24, hc24, h⟩ := h
                refine x_size (x_lo hsl hP hy23a (Nat.lt_succ_self _) rfl) (fun hz => ?_)
                refine z_cv (u := clr u19 y22) (out := (u24, v24)) hA hD hS (va_runIN (As := [.int x2, .int x3, .int x4, .int x5]) (rest := [.ref (ad y22), .ref (ad y20)]) ⟨hx, hb, hml, hown, hts⟩ (ct_Rf_init hal0 hla hN (sz := H.size) (x_hsl hsl hz) F (clr u19 y22) y22 x2 x3 x4 x5 (u24, v24) hc24 hy23f) ⟨va_cnB 4 hts gdRf_init rfl rfl rfl (nn_15 hNx) (hts _ tw_21) hdRf_init ⟨Nat.le_of_ble_eq_true rfl, Nat.le_of_ble_eq_true rfl⟩, rfl, (hts _ tw_407)⟩ (x_preSN hK hD hNx hP hS hA hdZ hdT hno hny) rfl rfl hl.1 rfl (lv_room (Nat.le_of_ble_eq_true rfl)) dFg_referB_125 ⟨Nat.le_of_ble_eq_true rfl, Nat.le_of_ble_eq_true rfl⟩) (fun t9 locs hB hS9 => ?_)
                obtain ⟨hP9, hD9, hN9⟩ := hB
                replace hD := x_Dw hA hD hS hD9
                replace hN := hN9
                clear hP hS
                generalize t9.heap = H at hP9 hS9 ⊢
                have hP := hP9
                have hS := hS9
                clear hP9 hS9 hD9 hN9
                replace h := bd2_some h
                obtain ⟨u25, v25, hc25, h⟩ := h
                refine x_size (x_lo hsl hP hy23a (Nat.lt_succ_self _) rfl) (fun hz => ?_)
                refine z_ci (u := u24) (out := (u25, v25)) hA hD hS (va_runV (As := [.ref (ad y22)]) (rest := []) ⟨hx, hb, hml, hown, hts⟩ (ct_Al_addB hal0 hla hN (sz := H.size) (x_hsl hsl hz) F u24 y20 y22 (u25, v25) hc25 hy21 hy23f) ⟨callB_of 1 hts gdAl_addB rfl rfl rfl (hts _ tw_9) (hts _ tw_426) hdAl_addB ⟨Nat.le_of_ble_eq_true rfl, Nat.le_of_ble_eq_true rfl⟩, (hts _ tw_427), (hts _ tw_428)⟩ (x_preVN hK hD hNx hP hS hA hdZ hdT hno hny (hal _ (okk_al hy21)) (okk_t hy21) rfl rfl) rfl rfl hl.1 rfl (lv_room (Nat.le_of_ble_eq_true rfl)) dFg_referB_128 ⟨Nat.le_of_ble_eq_true rfl, Nat.le_of_ble_eq_true rfl⟩) (fun t9 locs hB hS9 => ?_)
                obtain ⟨hP9, hD9, hN9⟩ := hB
                replace hD := x_Dw hA hD hS hD9
                replace hN := hN9
                clear hP hS
                generalize t9.heap = H at hP9 hS9 ⊢
                have hP := hP9
                have hS := hS9
                clear hP9 hS9 hD9 hN9
                replace h := ck_some h
                obtain ⟨hk26, h⟩ := h
                obtain ⟨hk26y, hk26z⟩ := Option.isSome_iff_exists.mp hk26
                clear hk26
                replace hy9 := okk_n (show (n0 + 1) ≤ (n0 + 2) from Nat.add_le_add_left (by decide) _) hy9
                replace q0 := okk_n (show (n0 + 1) ≤ (n0 + 2) from Nat.add_le_add_left (by decide) _) q0
                replace hal := aln_in (sl := sl) hal0 (n0 + 2)
                refine W.widen (k := 2) (n := 14) (Nat.le_of_ble_eq_true rfl) (Nat.le_of_ble_eq_true rfl) ?_
                refine lv_pop hx hb dFg_referB_131 rfl ?_
                exact x_vretXN hx hb hr hlocks h hP hD hN hS (Nat.le_of_ble_eq_true rfl) (Nat.le_of_ble_eq_true rfl) dFg_referB_132
              · replace h := it_f h hc
                refine x_toN (by rw [← Option.some.inj h]; exact Nat.succ_ne_zero _) (by decide) (by decide) ?_
                obtain ⟨sa, hs27⟩ := ns_7 hny
                exact x_throw (k := 2) (v := 0) hx hb (by rw [hml]; exact hl.1.symm) hlt hlocks hown (rx := rx_2) (by decide) (by decide) (by decide) (by decide) (by decide) rfl (by decide) hout (hts _ tw_321) (hts _ tw_16) (hts _ tw_322) hs27 (hat_2 hts hny) hz1 hz2 h hP hS (by decide) (by decide) (by decide) (by decide) dFg_referB_100 dFg_referB_103 dFg_referB_104 dFg_referB_106 dFg_referB_109
            · replace h := it_f h hc
              exact wk_Fg_referB_77 ⟨hx, hb, hml, hown, hts, hr, hlocks, hK, hA, hD, hN, hal, hNx⟩ ⟨hlt, hout, hz1, hz2, hny⟩ ⟨hal0, hla, hsl, hnm, hdZ, hdT, hno, hny⟩ F out u16 h _ _ _ (lv_sub hl [] rfl) hP hS
        · replace h := it_t h hc
          exact wk_Fg_referB_35 ⟨hx, hb, hml, hown, hts, hr, hlocks, hK, hA, hD, hN, hal, hNx⟩ ⟨hlt, hout, hz1, hz2, hny⟩ ⟨hal0, hla, hsl, hnm, hdZ, hdT, hno, hny⟩ F out u4 h _ _ _ (lv_sub hl [] rfl) hP hS
def fn_Fg_referB (F : Nat) (al : Nat → Bool) (sl : Nat → Option Nat) (n0 : Nat) (u : Mr) (x0 : Nat) (x1 : Int32) (x2 : Int32) (x3 : Int32) (x4 : Int32) (x5 : Int32) : Option (Mr × (Nat × Int32)) := bk_Fg_referB_0 F al sl n0 u x0 x1 x2 x3 x4 x5
set_option maxHeartbeats 4000000 in
set_option maxRecDepth 100000 in
theorem ct_Fg_referB {l : Launch} (hlt : l.stackTraces = false) {D : va_G} {cA : Nat → ClassId} {ad : Nat → Nat} {L : List Nat} {rs : va_W} {al : Nat → Bool} {sl : Nat → Option Nat} {n0 sz : Nat} (hal0 : ∀ k, al k = true → k ∈ L) (hla : ∀ k, k ∈ L → al k = true) (hN : (Ln sl n0 L).Nodup) (hsl : ∀ i k, sl i = some k → ad k + n0 = sz + i) (F : Nat) (u : Mr) (x0 : Nat) (x1 : Int32) (x2 : Int32) (x3 : Int32) (x4 : Int32) (x5 : Int32) (out : Mr × (Nat × Int32)) (h : fn_Fg_referB F al sl n0 u x0 x1 x2 x3 x4 x5 = some out) (q0 : okk (aln al sl n0) 1 x0 = true) : CtXn l yFg_referB wsFg_referB rm_Fg_referB [.ref (ad x0), .int x1, .int x2, .int x3, .int x4, .int x5] D cA ad (Ln sl n0 L) (Ln sl (n0 + 2) L) rs u (fun _ => none) out 2 14 sz := by
  refine MetX_ofW (cc := cFg_referB) (maxL := 7) (ret := none) (by decide) rfl ?_
  intro p e s m args below meth c s₁ B hml hv
  obtain ⟨rfl, ⟨⟨hsz, hP, hK, hD0, hNx⟩, hdZ, hdT, hno, hny⟩, hz1, hz2⟩ := hv
  subst hsz
  have hD := hD0.self (sz := s.heap.size)
  generalize hAe : va_A (ww ad cA (Ln sl n0 L) rs u) s.heap.size = A at hD hdZ hdT hz1 hz2 ⊢
  have hA : ∀ q, s.heap.size ≤ q → A q := fun q h => by rw [← hAe]; exact Or.inr h
  have hl := lv_entry ([.ref (ad x0), .int x1, .int x2, .int x3, .int x4, .int x5]) (n := 7) (Nat.le_of_ble_eq_true rfl)
  rw [lg_entry_eq]
  generalize (lg_sl ([.ref (ad x0), .int x1, .int x2, .int x3, .int x4, .int x5]) ++ List.replicate (7 - (lg_sl ([.ref (ad x0), .int x1, .int x2, .int x3, .int x4, .int x5])).length) Slot.unset).toArray = ls at hl ⊢
  have hpre := atoms_spec (ws := wsFg_referB) B.pre
  have hnm : meth.name = "refer" := (name_of_methodNamed B.named B.method).1
  exact wk_Fg_referB_0 ⟨B.exec, B.bytes, hml, findClass_of_methodNamed B.named, hts_bw hpre, B.returns, B.notSynchronized, hK, hA, fun v => ww_D hD, hN, aln_in hal0 n0, hNx⟩ ⟨hlt, B.noHandlers (hpre _ List.mem_cons_self), hz1, hz2, hny⟩ ⟨hal0, hla, hsl, hnm, hdZ, hdT, hno, hny⟩ F out u x0 x1 x2 x3 x4 x5 h q0 _ _ _ (lv_sub hl [0, 1, 2, 3, 4, 5] rfl) hP va_S.rf
end

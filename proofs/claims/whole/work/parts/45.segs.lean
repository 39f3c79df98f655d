section
variable {p : Program} {l : Launch} {e : Env} {s : State} {m : MethodId} {b : Nat} {below : List Frame} {meth : Method} {c : Code} {D : va_G} {cA : Nat → ClassId} {ad : Nat → Nat} {L : List Nat} {rs : va_W} {al : Nat → Bool} {sl : Nat → Option Nat} {A : Nat → Prop} {Ls : Nat} {xs : Nat → Int32} {c0 s0 : Nat} {Q : State → Prop}
def sg_612 (F : Nat) (al : Nat → Bool) (xs : Nat → Int32) (Ls : Nat) (u : Mr) (x4 : Int32) : Option (Mr) := ck (inb (x4 + (1 : Int32)) Ls) (ck (inb (x4 + (2 : Int32)) Ls) (bd2 (fn_Lw_spoil F al u 64 (xs (x4 + (1 : Int32)).toNatClampNeg) (xs (x4 + (2 : Int32)).toNatClampNeg)) fun u3 v3 => (ck (inb (x4 + (1 : Int32)) Ls) (ck (inb (x4 + (2 : Int32)) Ls) (bd2 (fn_Md_spoil F al u3 2048 (xs (x4 + (1 : Int32)).toNatClampNeg) (xs (x4 + (2 : Int32)).toNatClampNeg)) fun u6 v6 => (bd2 (fn_Md_thrown F al u6 2048) fun u7 v7 => (if v7 = v3 then (some (u7)) else (none))))))))
set_option maxHeartbeats 4000000 in
set_option maxRecDepth 100000 in
theorem wsg_612 {x4 : Int32} (cl : CL p l s m b c D cA ad L rs al A Ls xs c0 s0) (F : Nat) (out : Mr) (hk : ∀ (H : Heap) (locs : List Loc) (ls : Array Slot), lv_has ls 7 (lvL b ad x4) → va_P D vwCl (ww ad cA L rs out) H → va_S A s.heap H locs → W p l e room_1 s m #[Value.ref b] below meth c H locs (c0 + 2) (s0 + 14) Q (F0 m 870 ls [])) (u : Mr) (H : Heap) (locs : List Loc) (ls : Array Slot) (h : sg_612 F al xs Ls u x4 = some out) (hl : lv_has ls 7 (lvL b ad x4)) (hP : va_P D vwCl (ww ad cA L rs u) H) (hS : va_S A s.heap H locs) : W p l e room_1 s m #[Value.ref b] below meth c H locs c0 s0 Q (F0 m 612 ls []) := by
  obtain ⟨hx, hb, hml, hown, hts, hK, hA, hD, hN, hal, hNx, hlt, hz1, hz2, hny, hnq, hX, hbl, hbA, f1, f2, f3, hc0, hs0⟩ := cl

  unfold sg_612 at h
  refine lv_aload_n hx hb dLw_law_612 rfl (lv_at hl 1 rfl) ?_
  refine lv_aload_n hx hb dLw_law_613 rfl (lv_at hl 0 rfl) ?_
  refine lv_iload hx hb dLw_law_614 (lv_at hl 4 rfl) ?_
  refine lv_iconst (v := 1) hx hb dLw_law_616 (by decide) ?_
  refine lv_iadd hx hb dLw_law_617 ?_
  obtain ⟨hi1, h⟩ := ck_some h
  refine va_sld hx hb hX hbl hbA hS (inb_in hi1) dLw_law_618 ?_
  refine lv_aload_n hx hb dLw_law_619 rfl (lv_at hl 0 rfl) ?_
  refine lv_iload hx hb dLw_law_620 (lv_at hl 4 rfl) ?_
  refine lv_iconst (v := 2) hx hb dLw_law_622 (by decide) ?_
  refine lv_iadd hx hb dLw_law_623 ?_
  obtain ⟨hi2, h⟩ := ck_some h
  refine va_sld hx hb hX hbl hbA hS (inb_in hi2) dLw_law_624 ?_
  obtain ⟨u3, v3, hc3, h⟩ := bd2_some h
  refine z_ci (u := u) (out := (u3, v3)) hA hD hS (x_runSW (As := [.ref (ad 64), .int (xs (x4 + (1 : Int32)).toNatClampNeg), .int (xs (x4 + (2 : Int32)).toNatClampNeg)]) (rest := []) ⟨hx, hb, hml, hown, hts⟩ (ct_Lw_spoil hlt hal hN F u 64 (xs (x4 + (1 : Int32)).toNatClampNeg) (xs (x4 + (2 : Int32)).toNatClampNeg) (u3, v3) hc3 f1 _) gdLw_spoil rfl rfl rfl (hts _ tw_0) (hts _ tw_673) hdLw_spoil ⟨Nat.le_of_ble_eq_true rfl, Nat.le_of_ble_eq_true rfl⟩ (hts _ tw_674) (x_preSH hK hD hNx hP hS hA hz1 hz2 hny hnq) rfl rfl hl.1 rfl (lv_room (Nat.le_of_ble_eq_true rfl)) dLw_law_625 ⟨by show _ ≤ 601024; omega, by show _ ≤ 7293034; omega⟩) (fun t9 locs hB hS9 => ?_)
  clear hP hS
  generalize t9.heap = H at hB hS9 ⊢
  have hP := hB
  have hS := hS9
  clear hB hS9
  refine lv_istore (lv' := [(5, .int v3), (0, .ref b), (1, .ref (ad 64)), (2, .ref (ad 2048)), (3, .ref (ad 1408)), (4, .int x4)]) hx hb dLw_law_628 hl (by decide) rfl (fun ls hl => ?_)
  refine lv_aload_n hx hb dLw_law_630 rfl (lv_at hl 3 rfl) ?_
  refine lv_aload_n hx hb dLw_law_631 rfl (lv_at hl 1 rfl) ?_
  refine lv_iload hx hb dLw_law_632 (lv_at hl 5 rfl) ?_
  refine lv_iconst (v := 1) hx hb dLw_law_634 (by decide) ?_
  refine lv_iadd hx hb dLw_law_635 ?_
  obtain ⟨hi4, h⟩ := ck_some h
  refine va_sld hx hb hX hbl hbA hS (inb_in hi4) dLw_law_636 ?_
  refine lv_aload_n hx hb dLw_law_637 rfl (lv_at hl 1 rfl) ?_
  refine lv_iload hx hb dLw_law_638 (lv_at hl 5 rfl) ?_
  refine lv_iconst (v := 2) hx hb dLw_law_640 (by decide) ?_
  refine lv_iadd hx hb dLw_law_641 ?_
  obtain ⟨hi5, h⟩ := ck_some h
  refine va_sld hx hb hX hbl hbA hS (inb_in hi5) dLw_law_642 ?_
  obtain ⟨u6, v6, hc6, h⟩ := bd2_some h
  refine z_cv (u := u3) (out := (u6, v6)) hA hD hS (va_runV (As := [.int (xs (x4 + (1 : Int32)).toNatClampNeg), .int (xs (x4 + (2 : Int32)).toNatClampNeg)]) (rest := []) ⟨hx, hb, hml, hown, hts⟩ (ct_Md_spoil hal hN F u3 2048 (xs (x4 + (1 : Int32)).toNatClampNeg) (xs (x4 + (2 : Int32)).toNatClampNeg) (u6, v6) hc6 f2 _) ⟨callB_of 2 hts gdMd_spoil rfl rfl rfl (hts _ tw_11) (hts _ tw_999) hdMd_spoil ⟨Nat.le_of_ble_eq_true rfl, Nat.le_of_ble_eq_true rfl⟩, (hts _ tw_1000), (hts _ tw_1001)⟩ (x_preV hK hD hNx hP (hal _ (okk_al f2)) (okk_t f2) rfl rfl) rfl rfl hl.1 rfl (lv_room (Nat.le_of_ble_eq_true rfl)) dLw_law_643 ⟨by show _ ≤ 601024; omega, by show _ ≤ 7293034; omega⟩) (fun t9 locs hB hS9 => ?_)
  clear hP hS
  generalize t9.heap = H at hB hS9 ⊢
  have hP := hB
  have hS := hS9
  clear hB hS9
  refine lv_aload_n hx hb dLw_law_646 rfl (lv_at hl 3 rfl) ?_
  obtain ⟨u7, v7, hc7, h⟩ := bd2_some h
  refine z_ci (u := u6) (out := (u7, v7)) hA hD hS (va_runV (As := []) (rest := []) ⟨hx, hb, hml, hown, hts⟩ (ct_Md_thrown hal hN F u6 2048 (u7, v7) hc7 f2 _) ⟨callB_of 0 hts gdMd_thrown rfl rfl rfl (hts _ tw_11) (hts _ tw_879) hdMd_thrown ⟨Nat.le_of_ble_eq_true rfl, Nat.le_of_ble_eq_true rfl⟩, (hts _ tw_880), (hts _ tw_881)⟩ (x_preV hK hD hNx hP (hal _ (okk_al f2)) (okk_t f2) rfl rfl) rfl rfl hl.1 rfl (lv_room (Nat.le_of_ble_eq_true rfl)) dLw_law_647 ⟨by show _ ≤ 601024; omega, by show _ ≤ 7293034; omega⟩) (fun t9 locs hB hS9 => ?_)
  clear hP hS
  generalize t9.heap = H at hB hS9 ⊢
  have hP := hB
  have hS := hS9
  clear hB hS9
  refine lv_iload hx hb dLw_law_650 (lv_at hl 0 rfl) ?_
  refine lv_icmp_eq (tgt := 657) hx hb dLw_law_652 rfl (fun hc => ?_) (fun hc => ?_)
  · replace h := it_t h hc
    refine lv_goto (tgt := 870) hx hb dLw_law_657 rfl ?_
    obtain rfl := Option.some.inj h
    exact W.widen (by omega) (by omega) (hk _ _ _ (lv_sub hl [1, 2, 3, 4, 5] rfl) hP hS)
  · replace h := it_f h hc
    cases h
def sg_660 (F : Nat) (al : Nat → Bool) (xs : Nat → Int32) (Ls : Nat) (u : Mr) (x4 : Int32) : Option (Mr) := bd2 (fn_Lw_seal F al u 64 1408) fun u1 v1 => (bd2 (fn_Md_seal F al u1 2048) fun u2 v2 => (bd2 (fn_Md_thrown F al u2 2048) fun u3 v3 => (if v3 = v1 then (if v1 = 0 then (if (lg_cmp (u3.2.2 1408 (0 : Int32)) v2.toInt64) = 0 then (some (u3)) else (none)) else (some (u3))) else (none))))
set_option maxHeartbeats 4000000 in
set_option maxRecDepth 100000 in
theorem wsg_660 {x4 : Int32} (cl : CL p l s m b c D cA ad L rs al A Ls xs c0 s0) (F : Nat) (out : Mr) (hk : ∀ (H : Heap) (locs : List Loc) (ls : Array Slot), lv_has ls 7 (lvL b ad x4) → va_P D vwCl (ww ad cA L rs out) H → va_S A s.heap H locs → W p l e room_1 s m #[Value.ref b] below meth c H locs (c0 + 2) (s0 + 14) Q (F0 m 870 ls [])) (u : Mr) (H : Heap) (locs : List Loc) (ls : Array Slot) (h : sg_660 F al xs Ls u x4 = some out) (hl : lv_has ls 7 (lvL b ad x4)) (hP : va_P D vwCl (ww ad cA L rs u) H) (hS : va_S A s.heap H locs) : W p l e room_1 s m #[Value.ref b] below meth c H locs c0 s0 Q (F0 m 660 ls []) := by
  obtain ⟨hx, hb, hml, hown, hts, hK, hA, hD, hN, hal, hNx, hlt, hz1, hz2, hny, hnq, hX, hbl, hbA, f1, f2, f3, hc0, hs0⟩ := cl

  unfold sg_660 at h
  refine lv_aload_n hx hb dLw_law_660 rfl (lv_at hl 1 rfl) ?_
  refine lv_aload_n hx hb dLw_law_661 rfl (lv_at hl 3 rfl) ?_
  obtain ⟨u1, v1, hc1, h⟩ := bd2_some h
  refine z_ci (u := u) (out := (u1, v1)) hA hD hS (x_runSW (As := [.ref (ad 64), .ref (ad 1408)]) (rest := []) ⟨hx, hb, hml, hown, hts⟩ (ct_Lw_seal hlt hal hN F u 64 1408 (u1, v1) hc1 f1 f3 _) gdLw_seal rfl rfl rfl (hts _ tw_0) (hts _ tw_684) hdLw_seal ⟨Nat.le_of_ble_eq_true rfl, Nat.le_of_ble_eq_true rfl⟩ (hts _ tw_685) (x_preSH hK hD hNx hP hS hA hz1 hz2 hny hnq) rfl rfl hl.1 rfl (lv_room (Nat.le_of_ble_eq_true rfl)) dLw_law_662 ⟨by show _ ≤ 601024; omega, by show _ ≤ 7293034; omega⟩) (fun t9 locs hB hS9 => ?_)
  clear hP hS
  generalize t9.heap = H at hB hS9 ⊢
  have hP := hB
  have hS := hS9
  clear hB hS9
  refine lv_istore (lv' := [(5, .int v1), (0, .ref b), (1, .ref (ad 64)), (2, .ref (ad 2048)), (3, .ref (ad 1408)), (4, .int x4)]) hx hb dLw_law_665 hl (by decide) rfl (fun ls hl => ?_)
  refine lv_aload_n hx hb dLw_law_667 rfl (lv_at hl 3 rfl) ?_
  obtain ⟨u2, v2, hc2, h⟩ := bd2_some h
  refine z_ci (u := u1) (out := (u2, v2)) hA hD hS (va_runV (As := []) (rest := []) ⟨hx, hb, hml, hown, hts⟩ (ct_Md_seal hal hN F u1 2048 (u2, v2) hc2 f2 _) ⟨callB_of 0 hts gdMd_seal rfl rfl rfl (hts _ tw_11) (hts _ tw_1003) hdMd_seal ⟨Nat.le_of_ble_eq_true rfl, Nat.le_of_ble_eq_true rfl⟩, (hts _ tw_1004), (hts _ tw_1005)⟩ (x_preV hK hD hNx hP (hal _ (okk_al f2)) (okk_t f2) rfl rfl) rfl rfl hl.1 rfl (lv_room (Nat.le_of_ble_eq_true rfl)) dLw_law_668 ⟨by show _ ≤ 601024; omega, by show _ ≤ 7293034; omega⟩) (fun t9 locs hB hS9 => ?_)
  clear hP hS
  generalize t9.heap = H at hB hS9 ⊢
  have hP := hB
  have hS := hS9
  clear hB hS9
  refine lv_istore (lv' := [(6, .int v2), (5, .int v1), (0, .ref b), (1, .ref (ad 64)), (2, .ref (ad 2048)), (3, .ref (ad 1408)), (4, .int x4)]) hx hb dLw_law_671 hl (by decide) rfl (fun ls hl => ?_)
  refine lv_aload_n hx hb dLw_law_673 rfl (lv_at hl 4 rfl) ?_
  obtain ⟨u3, v3, hc3, h⟩ := bd2_some h
  refine z_ci (u := u2) (out := (u3, v3)) hA hD hS (va_runV (As := []) (rest := []) ⟨hx, hb, hml, hown, hts⟩ (ct_Md_thrown hal hN F u2 2048 (u3, v3) hc3 f2 _) ⟨callB_of 0 hts gdMd_thrown rfl rfl rfl (hts _ tw_11) (hts _ tw_879) hdMd_thrown ⟨Nat.le_of_ble_eq_true rfl, Nat.le_of_ble_eq_true rfl⟩, (hts _ tw_880), (hts _ tw_881)⟩ (x_preV hK hD hNx hP (hal _ (okk_al f2)) (okk_t f2) rfl rfl) rfl rfl hl.1 rfl (lv_room (Nat.le_of_ble_eq_true rfl)) dLw_law_674 ⟨by show _ ≤ 601024; omega, by show _ ≤ 7293034; omega⟩) (fun t9 locs hB hS9 => ?_)
  clear hP hS
  generalize t9.heap = H at hB hS9 ⊢
  have hP := hB
  have hS := hS9
  clear hB hS9
  refine lv_iload hx hb dLw_law_677 (lv_at hl 1 rfl) ?_
  refine lv_icmp_eq (tgt := 684) hx hb dLw_law_679 rfl (fun hc => ?_) (fun hc => ?_)
  · replace h := it_t h hc
    refine lv_iload hx hb dLw_law_684 (lv_at hl 1 rfl) ?_
    refine lv_if_ne (tgt := 701) hx hb dLw_law_686 rfl (fun hc => ?_) (fun hc => ?_)
    · replace h := it_f h hc
      refine lv_goto (tgt := 870) hx hb dLw_law_701 rfl ?_
      obtain rfl := Option.some.inj h
      exact W.widen (by omega) (by omega) (hk _ _ _ (lv_sub hl [2, 3, 4, 5, 6] rfl) hP hS)
    · replace h := it_t h hc
      refine lv_aload_n hx hb dLw_law_689 rfl (lv_at hl 5 rfl) ?_
      refine lv_iconst (v := 0) hx hb dLw_law_690 (by decide) ?_
      refine x_lald hx hb hK hP (hal _ (okk_al f3)) (okk_t f3) 3 (fun _ _ _ => rfl) rfl (inb_in (show inb (0 : Int32) 1 = true by decide)) dLw_law_691 ?_
      refine lv_iload hx hb dLw_law_692 (lv_at hl 0 rfl) ?_
      refine lv_i2l (v := v2.toInt64) hx hb dLw_law_694 rfl ?_
      refine W.lcmp hx hb dLw_law_695 ?_
      refine lv_if_eq (tgt := 701) hx hb dLw_law_696 rfl (fun hc => ?_) (fun hc => ?_)
      · replace h := it_t h hc
        refine lv_goto (tgt := 870) hx hb dLw_law_701 rfl ?_
        obtain rfl := Option.some.inj h
        exact W.widen (by omega) (by omega) (hk _ _ _ (lv_sub hl [2, 3, 4, 5, 6] rfl) hP hS)
      · replace h := it_f h hc
        cases h
  · replace h := it_f h hc
    cases h
def sg_704 (F : Nat) (al : Nat → Bool) (xs : Nat → Int32) (Ls : Nat) (u : Mr) (x4 : Int32) : Option (Mr) := ck (inb (x4 + (1 : Int32)) Ls) (ck (inb (x4 + (2 : Int32)) Ls) (ck (inb (x4 + (3 : Int32)) Ls) (bd2 (fn_Lw_offer F al u 64 (xs (x4 + (1 : Int32)).toNatClampNeg) (xs (x4 + (2 : Int32)).toNatClampNeg) (xs (x4 + (3 : Int32)).toNatClampNeg)) fun u4 v4 => (ck (inb (x4 + (1 : Int32)) Ls) (ck (inb (x4 + (2 : Int32)) Ls) (ck (inb (x4 + (3 : Int32)) Ls) (bd2 (fn_Md_offer F al u4 2048 (xs (x4 + (1 : Int32)).toNatClampNeg) (xs (x4 + (2 : Int32)).toNatClampNeg) (xs (x4 + (3 : Int32)).toNatClampNeg)) fun u8 v8 => (bd2 (fn_Md_thrown F al u8 2048) fun u9 v9 => (if v9 = v4 then (some (u9)) else (none))))))))))
set_option maxHeartbeats 4000000 in
set_option maxRecDepth 100000 in
theorem wsg_704 {x4 : Int32} (cl : CL p l s m b c D cA ad L rs al A Ls xs c0 s0) (F : Nat) (out : Mr) (hk : ∀ (H : Heap) (locs : List Loc) (ls : Array Slot), lv_has ls 7 (lvL b ad x4) → va_P D vwCl (ww ad cA L rs out) H → va_S A s.heap H locs → W p l e room_1 s m #[Value.ref b] below meth c H locs (c0 + 2) (s0 + 14) Q (F0 m 870 ls [])) (u : Mr) (H : Heap) (locs : List Loc) (ls : Array Slot) (h : sg_704 F al xs Ls u x4 = some out) (hl : lv_has ls 7 (lvL b ad x4)) (hP : va_P D vwCl (ww ad cA L rs u) H) (hS : va_S A s.heap H locs) : W p l e room_1 s m #[Value.ref b] below meth c H locs c0 s0 Q (F0 m 704 ls []) := by
  obtain ⟨hx, hb, hml, hown, hts, hK, hA, hD, hN, hal, hNx, hlt, hz1, hz2, hny, hnq, hX, hbl, hbA, f1, f2, f3, hc0, hs0⟩ := cl

  unfold sg_704 at h
  refine lv_aload_n hx hb dLw_law_704 rfl (lv_at hl 1 rfl) ?_
  refine lv_aload_n hx hb dLw_law_705 rfl (lv_at hl 0 rfl) ?_
  refine lv_iload hx hb dLw_law_706 (lv_at hl 4 rfl) ?_
  refine lv_iconst (v := 1) hx hb dLw_law_708 (by decide) ?_
  refine lv_iadd hx hb dLw_law_709 ?_
  obtain ⟨hi1, h⟩ := ck_some h
  refine va_sld hx hb hX hbl hbA hS (inb_in hi1) dLw_law_710 ?_
  refine lv_aload_n hx hb dLw_law_711 rfl (lv_at hl 0 rfl) ?_
  refine lv_iload hx hb dLw_law_712 (lv_at hl 4 rfl) ?_
  refine lv_iconst (v := 2) hx hb dLw_law_714 (by decide) ?_
  refine lv_iadd hx hb dLw_law_715 ?_
  obtain ⟨hi2, h⟩ := ck_some h
  refine va_sld hx hb hX hbl hbA hS (inb_in hi2) dLw_law_716 ?_
  refine lv_aload_n hx hb dLw_law_717 rfl (lv_at hl 0 rfl) ?_
  refine lv_iload hx hb dLw_law_718 (lv_at hl 4 rfl) ?_
  refine lv_iconst (v := 3) hx hb dLw_law_720 (by decide) ?_
  refine lv_iadd hx hb dLw_law_721 ?_
  obtain ⟨hi3, h⟩ := ck_some h
  refine va_sld hx hb hX hbl hbA hS (inb_in hi3) dLw_law_722 ?_
  obtain ⟨u4, v4, hc4, h⟩ := bd2_some h
  refine z_ci (u := u) (out := (u4, v4)) hA hD hS (x_runSW (As := [.ref (ad 64), .int (xs (x4 + (1 : Int32)).toNatClampNeg), .int (xs (x4 + (2 : Int32)).toNatClampNeg), .int (xs (x4 + (3 : Int32)).toNatClampNeg)]) (rest := []) ⟨hx, hb, hml, hown, hts⟩ (ct_Lw_offer hlt hal hN F u 64 (xs (x4 + (1 : Int32)).toNatClampNeg) (xs (x4 + (2 : Int32)).toNatClampNeg) (xs (x4 + (3 : Int32)).toNatClampNeg) (u4, v4) hc4 f1 _) gdLw_offer rfl rfl rfl (hts _ tw_0) (hts _ tw_698) hdLw_offer ⟨Nat.le_of_ble_eq_true rfl, Nat.le_of_ble_eq_true rfl⟩ (hts _ tw_699) (x_preSH hK hD hNx hP hS hA hz1 hz2 hny hnq) rfl rfl hl.1 rfl (lv_room (Nat.le_of_ble_eq_true rfl)) dLw_law_723 ⟨by show _ ≤ 601024; omega, by show _ ≤ 7293034; omega⟩) (fun t9 locs hB hS9 => ?_)
  clear hP hS
  generalize t9.heap = H at hB hS9 ⊢
  have hP := hB
  have hS := hS9
  clear hB hS9
  refine lv_istore (lv' := [(5, .int v4), (0, .ref b), (1, .ref (ad 64)), (2, .ref (ad 2048)), (3, .ref (ad 1408)), (4, .int x4)]) hx hb dLw_law_726 hl (by decide) rfl (fun ls hl => ?_)
  refine lv_aload_n hx hb dLw_law_728 rfl (lv_at hl 3 rfl) ?_
  refine lv_aload_n hx hb dLw_law_729 rfl (lv_at hl 1 rfl) ?_
  refine lv_iload hx hb dLw_law_730 (lv_at hl 5 rfl) ?_
  refine lv_iconst (v := 1) hx hb dLw_law_732 (by decide) ?_
  refine lv_iadd hx hb dLw_law_733 ?_
  obtain ⟨hi5, h⟩ := ck_some h
  refine va_sld hx hb hX hbl hbA hS (inb_in hi5) dLw_law_734 ?_
  refine lv_aload_n hx hb dLw_law_735 rfl (lv_at hl 1 rfl) ?_
  refine lv_iload hx hb dLw_law_736 (lv_at hl 5 rfl) ?_
  refine lv_iconst (v := 2) hx hb dLw_law_738 (by decide) ?_
  refine lv_iadd hx hb dLw_law_739 ?_
  obtain ⟨hi6, h⟩ := ck_some h
  refine va_sld hx hb hX hbl hbA hS (inb_in hi6) dLw_law_740 ?_
  refine lv_aload_n hx hb dLw_law_741 rfl (lv_at hl 1 rfl) ?_
  refine lv_iload hx hb dLw_law_742 (lv_at hl 5 rfl) ?_
  refine lv_iconst (v := 3) hx hb dLw_law_744 (by decide) ?_
  refine lv_iadd hx hb dLw_law_745 ?_
  obtain ⟨hi7, h⟩ := ck_some h
  refine va_sld hx hb hX hbl hbA hS (inb_in hi7) dLw_law_746 ?_
  obtain ⟨u8, v8, hc8, h⟩ := bd2_some h
  refine z_cv (u := u4) (out := (u8, v8)) hA hD hS (va_runV (As := [.int (xs (x4 + (1 : Int32)).toNatClampNeg), .int (xs (x4 + (2 : Int32)).toNatClampNeg), .int (xs (x4 + (3 : Int32)).toNatClampNeg)]) (rest := []) ⟨hx, hb, hml, hown, hts⟩ (ct_Md_offer hal hN F u4 2048 (xs (x4 + (1 : Int32)).toNatClampNeg) (xs (x4 + (2 : Int32)).toNatClampNeg) (xs (x4 + (3 : Int32)).toNatClampNeg) (u8, v8) hc8 f2 _) ⟨callB_of 3 hts gdMd_offer rfl rfl rfl (hts _ tw_11) (hts _ tw_915) hdMd_offer ⟨Nat.le_of_ble_eq_true rfl, Nat.le_of_ble_eq_true rfl⟩, (hts _ tw_916), (hts _ tw_917)⟩ (x_preV hK hD hNx hP (hal _ (okk_al f2)) (okk_t f2) rfl rfl) rfl rfl hl.1 rfl (lv_room (Nat.le_of_ble_eq_true rfl)) dLw_law_747 ⟨by show _ ≤ 601024; omega, by show _ ≤ 7293034; omega⟩) (fun t9 locs hB hS9 => ?_)
  clear hP hS
  generalize t9.heap = H at hB hS9 ⊢
  have hP := hB
  have hS := hS9
  clear hB hS9
  refine lv_aload_n hx hb dLw_law_750 rfl (lv_at hl 3 rfl) ?_
  obtain ⟨u9, v9, hc9, h⟩ := bd2_some h
  refine z_ci (u := u8) (out := (u9, v9)) hA hD hS (va_runV (As := []) (rest := []) ⟨hx, hb, hml, hown, hts⟩ (ct_Md_thrown hal hN F u8 2048 (u9, v9) hc9 f2 _) ⟨callB_of 0 hts gdMd_thrown rfl rfl rfl (hts _ tw_11) (hts _ tw_879) hdMd_thrown ⟨Nat.le_of_ble_eq_true rfl, Nat.le_of_ble_eq_true rfl⟩, (hts _ tw_880), (hts _ tw_881)⟩ (x_preV hK hD hNx hP (hal _ (okk_al f2)) (okk_t f2) rfl rfl) rfl rfl hl.1 rfl (lv_room (Nat.le_of_ble_eq_true rfl)) dLw_law_751 ⟨by show _ ≤ 601024; omega, by show _ ≤ 7293034; omega⟩) (fun t9 locs hB hS9 => ?_)
  clear hP hS
  generalize t9.heap = H at hB hS9 ⊢
  have hP := hB
  have hS := hS9
  clear hB hS9
  refine lv_iload hx hb dLw_law_754 (lv_at hl 0 rfl) ?_
  refine lv_icmp_eq (tgt := 761) hx hb dLw_law_756 rfl (fun hc => ?_) (fun hc => ?_)
  · replace h := it_t h hc
    refine lv_goto (tgt := 870) hx hb dLw_law_761 rfl ?_
    obtain rfl := Option.some.inj h
    exact W.widen (by omega) (by omega) (hk _ _ _ (lv_sub hl [1, 2, 3, 4, 5] rfl) hP hS)
  · replace h := it_f h hc
    cases h
def sg_764 (F : Nat) (al : Nat → Bool) (xs : Nat → Int32) (Ls : Nat) (u : Mr) (x4 : Int32) : Option (Mr) := ck (inb (x4 + (1 : Int32)) Ls) (bd2 (fn_Lw_load F al u 64 (xs (x4 + (1 : Int32)).toNatClampNeg) 1408) fun u2 v2 => (ck (inb (x4 + (1 : Int32)) Ls) (bd2 (fn_Md_load F al u2 2048 (xs (x4 + (1 : Int32)).toNatClampNeg)) fun u4 v4 => (bd2 (fn_Md_thrown F al u4 2048) fun u5 v5 => (if v5 = v2 then (if v2 = 0 then (if (lg_cmp (u5.2.2 1408 (0 : Int32)) v4.toInt64) = 0 then (some (u5)) else (none)) else (some (u5))) else (none))))))
set_option maxHeartbeats 4000000 in
set_option maxRecDepth 100000 in
theorem wsg_764 {x4 : Int32} (cl : CL p l s m b c D cA ad L rs al A Ls xs c0 s0) (F : Nat) (out : Mr) (hk : ∀ (H : Heap) (locs : List Loc) (ls : Array Slot), lv_has ls 7 (lvL b ad x4) → va_P D vwCl (ww ad cA L rs out) H → va_S A s.heap H locs → W p l e room_1 s m #[Value.ref b] below meth c H locs (c0 + 2) (s0 + 14) Q (F0 m 870 ls [])) (u : Mr) (H : Heap) (locs : List Loc) (ls : Array Slot) (h : sg_764 F al xs Ls u x4 = some out) (hl : lv_has ls 7 (lvL b ad x4)) (hP : va_P D vwCl (ww ad cA L rs u) H) (hS : va_S A s.heap H locs) : W p l e room_1 s m #[Value.ref b] below meth c H locs c0 s0 Q (F0 m 764 ls []) := by
  obtain ⟨hx, hb, hml, hown, hts, hK, hA, hD, hN, hal, hNx, hlt, hz1, hz2, hny, hnq, hX, hbl, hbA, f1, f2, f3, hc0, hs0⟩ := cl

  unfold sg_764 at h
  refine lv_aload_n hx hb dLw_law_764 rfl (lv_at hl 1 rfl) ?_
  refine lv_aload_n hx hb dLw_law_765 rfl (lv_at hl 0 rfl) ?_
  refine lv_iload hx hb dLw_law_766 (lv_at hl 4 rfl) ?_
  refine lv_iconst (v := 1) hx hb dLw_law_768 (by decide) ?_
  refine lv_iadd hx hb dLw_law_769 ?_
  obtain ⟨hi1, h⟩ := ck_some h
  refine va_sld hx hb hX hbl hbA hS (inb_in hi1) dLw_law_770 ?_
  refine lv_aload_n hx hb dLw_law_771 rfl (lv_at hl 3 rfl) ?_
  obtain ⟨u2, v2, hc2, h⟩ := bd2_some h
  refine z_ci (u := u) (out := (u2, v2)) hA hD hS (x_runSW (As := [.ref (ad 64), .int (xs (x4 + (1 : Int32)).toNatClampNeg), .ref (ad 1408)]) (rest := []) ⟨hx, hb, hml, hown, hts⟩ (ct_Lw_load hlt hal hN F u 64 (xs (x4 + (1 : Int32)).toNatClampNeg) 1408 (u2, v2) hc2 f1 f3 _) gdLw_load rfl rfl rfl (hts _ tw_0) (hts _ tw_706) hdLw_load ⟨Nat.le_of_ble_eq_true rfl, Nat.le_of_ble_eq_true rfl⟩ (hts _ tw_707) (x_preSH hK hD hNx hP hS hA hz1 hz2 hny hnq) rfl rfl hl.1 rfl (lv_room (Nat.le_of_ble_eq_true rfl)) dLw_law_772 ⟨by show _ ≤ 601024; omega, by show _ ≤ 7293034; omega⟩) (fun t9 locs hB hS9 => ?_)
  clear hP hS
  generalize t9.heap = H at hB hS9 ⊢
  have hP := hB
  have hS := hS9
  clear hB hS9
  refine lv_istore (lv' := [(5, .int v2), (0, .ref b), (1, .ref (ad 64)), (2, .ref (ad 2048)), (3, .ref (ad 1408)), (4, .int x4)]) hx hb dLw_law_775 hl (by decide) rfl (fun ls hl => ?_)
  refine lv_aload_n hx hb dLw_law_777 rfl (lv_at hl 3 rfl) ?_
  refine lv_aload_n hx hb dLw_law_778 rfl (lv_at hl 1 rfl) ?_
  refine lv_iload hx hb dLw_law_779 (lv_at hl 5 rfl) ?_
  refine lv_iconst (v := 1) hx hb dLw_law_781 (by decide) ?_
  refine lv_iadd hx hb dLw_law_782 ?_
  obtain ⟨hi3, h⟩ := ck_some h
  refine va_sld hx hb hX hbl hbA hS (inb_in hi3) dLw_law_783 ?_
  obtain ⟨u4, v4, hc4, h⟩ := bd2_some h
  refine z_ci (u := u2) (out := (u4, v4)) hA hD hS (va_runV (As := [.int (xs (x4 + (1 : Int32)).toNatClampNeg)]) (rest := []) ⟨hx, hb, hml, hown, hts⟩ (ct_Md_load hal hN F u2 2048 (xs (x4 + (1 : Int32)).toNatClampNeg) (u4, v4) hc4 f2 _) ⟨callB_of 1 hts gdMd_load rfl rfl rfl (hts _ tw_11) (hts _ tw_1007) hdMd_load ⟨Nat.le_of_ble_eq_true rfl, Nat.le_of_ble_eq_true rfl⟩, (hts _ tw_1008), (hts _ tw_1009)⟩ (x_preV hK hD hNx hP (hal _ (okk_al f2)) (okk_t f2) rfl rfl) rfl rfl hl.1 rfl (lv_room (Nat.le_of_ble_eq_true rfl)) dLw_law_784 ⟨by show _ ≤ 601024; omega, by show _ ≤ 7293034; omega⟩) (fun t9 locs hB hS9 => ?_)
  clear hP hS
  generalize t9.heap = H at hB hS9 ⊢
  have hP := hB
  have hS := hS9
  clear hB hS9
  refine lv_istore (lv' := [(6, .int v4), (5, .int v2), (0, .ref b), (1, .ref (ad 64)), (2, .ref (ad 2048)), (3, .ref (ad 1408)), (4, .int x4)]) hx hb dLw_law_787 hl (by decide) rfl (fun ls hl => ?_)
  refine lv_aload_n hx hb dLw_law_789 rfl (lv_at hl 4 rfl) ?_
  obtain ⟨u5, v5, hc5, h⟩ := bd2_some h
  refine z_ci (u := u4) (out := (u5, v5)) hA hD hS (va_runV (As := []) (rest := []) ⟨hx, hb, hml, hown, hts⟩ (ct_Md_thrown hal hN F u4 2048 (u5, v5) hc5 f2 _) ⟨callB_of 0 hts gdMd_thrown rfl rfl rfl (hts _ tw_11) (hts _ tw_879) hdMd_thrown ⟨Nat.le_of_ble_eq_true rfl, Nat.le_of_ble_eq_true rfl⟩, (hts _ tw_880), (hts _ tw_881)⟩ (x_preV hK hD hNx hP (hal _ (okk_al f2)) (okk_t f2) rfl rfl) rfl rfl hl.1 rfl (lv_room (Nat.le_of_ble_eq_true rfl)) dLw_law_790 ⟨by show _ ≤ 601024; omega, by show _ ≤ 7293034; omega⟩) (fun t9 locs hB hS9 => ?_)
  clear hP hS
  generalize t9.heap = H at hB hS9 ⊢
  have hP := hB
  have hS := hS9
  clear hB hS9
  refine lv_iload hx hb dLw_law_793 (lv_at hl 1 rfl) ?_
  refine lv_icmp_eq (tgt := 800) hx hb dLw_law_795 rfl (fun hc => ?_) (fun hc => ?_)
  · replace h := it_t h hc
    refine lv_iload hx hb dLw_law_800 (lv_at hl 1 rfl) ?_
    refine lv_if_ne (tgt := 817) hx hb dLw_law_802 rfl (fun hc => ?_) (fun hc => ?_)
    · replace h := it_f h hc
      refine lv_goto (tgt := 870) hx hb dLw_law_817 rfl ?_
      obtain rfl := Option.some.inj h
      exact W.widen (by omega) (by omega) (hk _ _ _ (lv_sub hl [2, 3, 4, 5, 6] rfl) hP hS)
    · replace h := it_t h hc
      refine lv_aload_n hx hb dLw_law_805 rfl (lv_at hl 5 rfl) ?_
      refine lv_iconst (v := 0) hx hb dLw_law_806 (by decide) ?_
      refine x_lald hx hb hK hP (hal _ (okk_al f3)) (okk_t f3) 3 (fun _ _ _ => rfl) rfl (inb_in (show inb (0 : Int32) 1 = true by decide)) dLw_law_807 ?_
      refine lv_iload hx hb dLw_law_808 (lv_at hl 0 rfl) ?_
      refine lv_i2l (v := v4.toInt64) hx hb dLw_law_810 rfl ?_
      refine W.lcmp hx hb dLw_law_811 ?_
      refine lv_if_eq (tgt := 817) hx hb dLw_law_812 rfl (fun hc => ?_) (fun hc => ?_)
      · replace h := it_t h hc
        refine lv_goto (tgt := 870) hx hb dLw_law_817 rfl ?_
        obtain rfl := Option.some.inj h
        exact W.widen (by omega) (by omega) (hk _ _ _ (lv_sub hl [2, 3, 4, 5, 6] rfl) hP hS)
      · replace h := it_f h hc
        cases h
  · replace h := it_f h hc
    cases h
def sg_820 (F : Nat) (al : Nat → Bool) (xs : Nat → Int32) (Ls : Nat) (u : Mr) (x4 : Int32) : Option (Mr) := ck (inb (x4 + (1 : Int32)) Ls) (bd2 (fn_Fg_at F al u 64 (xs (x4 + (1 : Int32)).toNatClampNeg)) fun u2 v2 => (ck (inb (x4 + (1 : Int32)) Ls) (bd2 (fn_Md_at F al u2 2048 (xs (x4 + (1 : Int32)).toNatClampNeg)) fun u4 v4 => (if v2 = v4 then (some (u4)) else (none)))))
set_option maxHeartbeats 4000000 in
set_option maxRecDepth 100000 in
theorem wsg_820 {x4 : Int32} (cl : CL p l s m b c D cA ad L rs al A Ls xs c0 s0) (F : Nat) (out : Mr) (hk : ∀ (H : Heap) (locs : List Loc) (ls : Array Slot), lv_has ls 7 (lvL b ad x4) → va_P D vwCl (ww ad cA L rs out) H → va_S A s.heap H locs → W p l e room_1 s m #[Value.ref b] below meth c H locs (c0 + 2) (s0 + 14) Q (F0 m 870 ls [])) (u : Mr) (H : Heap) (locs : List Loc) (ls : Array Slot) (h : sg_820 F al xs Ls u x4 = some out) (hl : lv_has ls 7 (lvL b ad x4)) (hP : va_P D vwCl (ww ad cA L rs u) H) (hS : va_S A s.heap H locs) : W p l e room_1 s m #[Value.ref b] below meth c H locs c0 s0 Q (F0 m 820 ls []) := by
  obtain ⟨hx, hb, hml, hown, hts, hK, hA, hD, hN, hal, hNx, hlt, hz1, hz2, hny, hnq, hX, hbl, hbA, f1, f2, f3, hc0, hs0⟩ := cl

  unfold sg_820 at h
  refine lv_aload_n hx hb dLw_law_820 rfl (lv_at hl 1 rfl) ?_
  refine lv_aload_n hx hb dLw_law_821 rfl (lv_at hl 0 rfl) ?_
  refine lv_iload hx hb dLw_law_822 (lv_at hl 4 rfl) ?_
  refine lv_iconst (v := 1) hx hb dLw_law_824 (by decide) ?_
  refine lv_iadd hx hb dLw_law_825 ?_
  obtain ⟨hi1, h⟩ := ck_some h
  refine va_sld hx hb hX hbl hbA hS (inb_in hi1) dLw_law_826 ?_
  obtain ⟨u2, v2, hc2, h⟩ := bd2_some h
  refine z_ci (u := u) (out := (u2, v2)) hA hD hS (va_runV (As := [.int (xs (x4 + (1 : Int32)).toNatClampNeg)]) (rest := []) ⟨hx, hb, hml, hown, hts⟩ (ct_Fg_at hal hN F u 64 (xs (x4 + (1 : Int32)).toNatClampNeg) (u2, v2) hc2 f1 _) ⟨callB_of 1 hts gdFg_at rfl rfl rfl (hts _ tw_1) (hts _ tw_218) hdFg_at ⟨Nat.le_of_ble_eq_true rfl, Nat.le_of_ble_eq_true rfl⟩, (hts _ tw_219), (hts _ tw_220)⟩ (x_preV hK hD hNx hP (hal _ (okk_al f1)) (okk_t f1) rfl rfl) rfl rfl hl.1 rfl (lv_room (Nat.le_of_ble_eq_true rfl)) dLw_law_827 ⟨by show _ ≤ 601024; omega, by show _ ≤ 7293034; omega⟩) (fun t9 locs hB hS9 => ?_)
  clear hP hS
  generalize t9.heap = H at hB hS9 ⊢
  have hP := hB
  have hS := hS9
  clear hB hS9
  refine lv_aload_n hx hb dLw_law_830 rfl (lv_at hl 2 rfl) ?_
  refine lv_aload_n hx hb dLw_law_831 rfl (lv_at hl 0 rfl) ?_
  refine lv_iload hx hb dLw_law_832 (lv_at hl 4 rfl) ?_
  refine lv_iconst (v := 1) hx hb dLw_law_834 (by decide) ?_
  refine lv_iadd hx hb dLw_law_835 ?_
  obtain ⟨hi3, h⟩ := ck_some h
  refine va_sld hx hb hX hbl hbA hS (inb_in hi3) dLw_law_836 ?_
  obtain ⟨u4, v4, hc4, h⟩ := bd2_some h
  refine z_ci (u := u2) (out := (u4, v4)) hA hD hS (va_runV (As := [.int (xs (x4 + (1 : Int32)).toNatClampNeg)]) (rest := [.int v2]) ⟨hx, hb, hml, hown, hts⟩ (ct_Md_at hal hN F u2 2048 (xs (x4 + (1 : Int32)).toNatClampNeg) (u4, v4) hc4 f2 _) ⟨callB_of 1 hts gdMd_at rfl rfl rfl (hts _ tw_11) (hts _ tw_1045) hdMd_at ⟨Nat.le_of_ble_eq_true rfl, Nat.le_of_ble_eq_true rfl⟩, (hts _ tw_1046), (hts _ tw_1047)⟩ (x_preV hK hD hNx hP (hal _ (okk_al f2)) (okk_t f2) rfl rfl) rfl rfl hl.1 rfl (lv_room (Nat.le_of_ble_eq_true rfl)) dLw_law_837 ⟨by show _ ≤ 601024; omega, by show _ ≤ 7293034; omega⟩) (fun t9 locs hB hS9 => ?_)
  clear hP hS
  generalize t9.heap = H at hB hS9 ⊢
  have hP := hB
  have hS := hS9
  clear hB hS9
  refine lv_icmp_eq (tgt := 870) hx hb dLw_law_840 rfl (fun hc => ?_) (fun hc => ?_)
  · replace h := it_t h hc
    obtain rfl := Option.some.inj h
    exact W.widen (by omega) (by omega) (hk _ _ _ (lv_sub hl [0, 1, 2, 3, 4] rfl) hP hS)
  · replace h := it_f h hc
    cases h
def sg_845 (F : Nat) (al : Nat → Bool) (xs : Nat → Int32) (Ls : Nat) (u : Mr) (x4 : Int32) : Option (Mr) := ck (inb (x4 + (1 : Int32)) Ls) (bd2 (fn_Fg_find F al u 64 (xs (x4 + (1 : Int32)).toNatClampNeg)) fun u2 v2 => (ck (inb (x4 + (1 : Int32)) Ls) (bd2 (fn_Md_find F al u2 2048 (xs (x4 + (1 : Int32)).toNatClampNeg)) fun u4 v4 => (if v2 = v4 then (some (u4)) else (none)))))
set_option maxHeartbeats 4000000 in
set_option maxRecDepth 100000 in
theorem wsg_845 {x4 : Int32} (cl : CL p l s m b c D cA ad L rs al A Ls xs c0 s0) (F : Nat) (out : Mr) (hk : ∀ (H : Heap) (locs : List Loc) (ls : Array Slot), lv_has ls 7 (lvL b ad x4) → va_P D vwCl (ww ad cA L rs out) H → va_S A s.heap H locs → W p l e room_1 s m #[Value.ref b] below meth c H locs (c0 + 2) (s0 + 14) Q (F0 m 870 ls [])) (u : Mr) (H : Heap) (locs : List Loc) (ls : Array Slot) (h : sg_845 F al xs Ls u x4 = some out) (hl : lv_has ls 7 (lvL b ad x4)) (hP : va_P D vwCl (ww ad cA L rs u) H) (hS : va_S A s.heap H locs) : W p l e room_1 s m #[Value.ref b] below meth c H locs c0 s0 Q (F0 m 845 ls []) := by
  obtain ⟨hx, hb, hml, hown, hts, hK, hA, hD, hN, hal, hNx, hlt, hz1, hz2, hny, hnq, hX, hbl, hbA, f1, f2, f3, hc0, hs0⟩ := cl

  unfold sg_845 at h
  refine lv_aload_n hx hb dLw_law_845 rfl (lv_at hl 1 rfl) ?_
  refine lv_aload_n hx hb dLw_law_846 rfl (lv_at hl 0 rfl) ?_
  refine lv_iload hx hb dLw_law_847 (lv_at hl 4 rfl) ?_
  refine lv_iconst (v := 1) hx hb dLw_law_849 (by decide) ?_
  refine lv_iadd hx hb dLw_law_850 ?_
  obtain ⟨hi1, h⟩ := ck_some h
  refine va_sld hx hb hX hbl hbA hS (inb_in hi1) dLw_law_851 ?_
  obtain ⟨u2, v2, hc2, h⟩ := bd2_some h
  refine z_ci (u := u) (out := (u2, v2)) hA hD hS (va_runV (As := [.int (xs (x4 + (1 : Int32)).toNatClampNeg)]) (rest := []) ⟨hx, hb, hml, hown, hts⟩ (ct_Fg_find hal hN F u 64 (xs (x4 + (1 : Int32)).toNatClampNeg) (u2, v2) hc2 f1 _) ⟨callB_of 1 hts gdFg_find rfl rfl rfl (hts _ tw_1) (hts _ tw_230) hdFg_find ⟨Nat.le_of_ble_eq_true rfl, Nat.le_of_ble_eq_true rfl⟩, (hts _ tw_231), (hts _ tw_232)⟩ (x_preV hK hD hNx hP (hal _ (okk_al f1)) (okk_t f1) rfl rfl) rfl rfl hl.1 rfl (lv_room (Nat.le_of_ble_eq_true rfl)) dLw_law_852 ⟨by show _ ≤ 601024; omega, by show _ ≤ 7293034; omega⟩) (fun t9 locs hB hS9 => ?_)
  clear hP hS
  generalize t9.heap = H at hB hS9 ⊢
  have hP := hB
  have hS := hS9
  clear hB hS9
  refine lv_aload_n hx hb dLw_law_855 rfl (lv_at hl 2 rfl) ?_
  refine lv_aload_n hx hb dLw_law_856 rfl (lv_at hl 0 rfl) ?_
  refine lv_iload hx hb dLw_law_857 (lv_at hl 4 rfl) ?_
  refine lv_iconst (v := 1) hx hb dLw_law_859 (by decide) ?_
  refine lv_iadd hx hb dLw_law_860 ?_
  obtain ⟨hi3, h⟩ := ck_some h
  refine va_sld hx hb hX hbl hbA hS (inb_in hi3) dLw_law_861 ?_
  obtain ⟨u4, v4, hc4, h⟩ := bd2_some h
  refine z_ci (u := u2) (out := (u4, v4)) hA hD hS (va_runV (As := [.int (xs (x4 + (1 : Int32)).toNatClampNeg)]) (rest := [.int v2]) ⟨hx, hb, hml, hown, hts⟩ (ct_Md_find hal hN F u2 2048 (xs (x4 + (1 : Int32)).toNatClampNeg) (u4, v4) hc4 f2 _) ⟨callB_of 1 hts gdMd_find rfl rfl rfl (hts _ tw_11) (hts _ tw_1049) hdMd_find ⟨Nat.le_of_ble_eq_true rfl, Nat.le_of_ble_eq_true rfl⟩, (hts _ tw_1050), (hts _ tw_1051)⟩ (x_preV hK hD hNx hP (hal _ (okk_al f2)) (okk_t f2) rfl rfl) rfl rfl hl.1 rfl (lv_room (Nat.le_of_ble_eq_true rfl)) dLw_law_862 ⟨by show _ ≤ 601024; omega, by show _ ≤ 7293034; omega⟩) (fun t9 locs hB hS9 => ?_)
  clear hP hS
  generalize t9.heap = H at hB hS9 ⊢
  have hP := hB
  have hS := hS9
  clear hB hS9
  refine lv_icmp_eq (tgt := 870) hx hb dLw_law_865 rfl (fun hc => ?_) (fun hc => ?_)
  · replace h := it_t h hc
    obtain rfl := Option.some.inj h
    exact W.widen (by omega) (by omega) (hk _ _ _ (lv_sub hl [0, 1, 2, 3, 4] rfl) hP hS)
  · replace h := it_f h hc
    cases h
def sg_304 (F : Nat) (al : Nat → Bool) (sl : Nat → Option Nat) (xs : Nat → Int32) (Ls : Nat) (u : Mr) (x4 : Int32) : Option (Mr × Int32) := ck (inb (x4 + (1 : Int32)) Ls) (ck (inb (x4 + (2 : Int32)) Ls) (ck (inb (x4 + (3 : Int32)) Ls) (ck (inb (x4 + (4 : Int32)) Ls) (ck (inb (x4 + (5 : Int32)) Ls) (bd2 (fn_Lw_refer F al sl u 64 (xs (x4 + (1 : Int32)).toNatClampNeg) (xs (x4 + (2 : Int32)).toNatClampNeg) (xs (x4 + (3 : Int32)).toNatClampNeg) (xs (x4 + (4 : Int32)).toNatClampNeg) (xs (x4 + (5 : Int32)).toNatClampNeg)) fun u6 v6 => (ck (inb (x4 + (1 : Int32)) Ls) (ck (inb (x4 + (2 : Int32)) Ls) (ck (inb (x4 + (3 : Int32)) Ls) (ck (inb (x4 + (4 : Int32)) Ls) (ck (inb (x4 + (5 : Int32)) Ls) (bd2 (fn_Md_refer F (aln al sl 0) u6 2048 (xs (x4 + (1 : Int32)).toNatClampNeg) (xs (x4 + (2 : Int32)).toNatClampNeg) (xs (x4 + (3 : Int32)).toNatClampNeg) (xs (x4 + (4 : Int32)).toNatClampNeg) (xs (x4 + (5 : Int32)).toNatClampNeg)) fun u12 v12 => (bd2 (fn_Md_thrown F (aln al sl 0) u12 2048) fun u13 v13 => (if v13 = v6 then (some (u13, v6)) else (none))))))))))))))
set_option maxHeartbeats 4000000 in
set_option maxRecDepth 100000 in
theorem wsg_304 {x4 : Int32} (cl : CL p l s m b c D cA ad (Ln sl 0 L) rs (aln al sl 0) A Ls xs c0 s0) (hal0 : ∀ k, al k = true → k ∈ L) (hla : ∀ k, k ∈ L → al k = true) (hdZ : dZ ad A s s.heap) (hdT : dT ad A s s.heap) (hno : No s) (F : Nat) (out : Mr × Int32) (hk0 : out.2 = 0 → ∀ (H : Heap) (locs : List Loc) (ls : Array Slot), lv_has ls 7 (lvL b ad x4) → va_P D vwCl (ww ad cA (Ln sl 1 L) rs out.1) H → (∀ v : Mr, va_D A (ww ad cA (Ln sl 1 L) rs v)) → (Ln sl 1 L).Nodup → va_S A s.heap H locs → W p l e room_1 s m #[Value.ref b] below meth c H locs (c0 + 2) (s0 + 14) Q (F0 m 870 ls [])) (hk1 : out.2 ≠ 0 → ∀ (H : Heap) (locs : List Loc) (ls : Array Slot), lv_has ls 7 (lvL b ad x4) → va_P D vwCl (ww ad cA (Ln sl 0 L) rs out.1) H → va_S A s.heap H locs → W p l e room_1 s m #[Value.ref b] below meth c H locs (c0 + 2) (s0 + 14) Q (F0 m 870 ls [])) (u : Mr) (H : Heap) (locs : List Loc) (ls : Array Slot) (hsl : ∀ i k, sl i = some k → ad k + 0 = H.size + i) (h : sg_304 F al sl xs Ls u x4 = some out) (hl : lv_has ls 7 (lvL b ad x4)) (hP : va_P D vwCl (ww ad cA (Ln sl 0 L) rs u) H) (hS : va_S A s.heap H locs) : W p l e room_1 s m #[Value.ref b] below meth c H locs c0 s0 Q (F0 m 304 ls []) := by
  obtain ⟨hx, hb, hml, hown, hts, hK, hA, hD, hN, hal, hNx, hlt, hz1, hz2, hny, hnq, hX, hbl, hbA, f1, f2, f3, hc0, hs0⟩ := cl
  have hS8 := hS
  unfold sg_304 at h
  refine lv_aload_n hx hb dLw_law_304 rfl (lv_at hl 1 rfl) ?_
  refine lv_aload_n hx hb dLw_law_305 rfl (lv_at hl 0 rfl) ?_
  refine lv_iload hx hb dLw_law_306 (lv_at hl 4 rfl) ?_
  refine lv_iconst (v := 1) hx hb dLw_law_308 (by decide) ?_
  refine lv_iadd hx hb dLw_law_309 ?_
  obtain ⟨hi1, h⟩ := ck_some h
  refine va_sld hx hb hX hbl hbA hS (inb_in hi1) dLw_law_310 ?_
  refine lv_aload_n hx hb dLw_law_311 rfl (lv_at hl 0 rfl) ?_
  refine lv_iload hx hb dLw_law_312 (lv_at hl 4 rfl) ?_
  refine lv_iconst (v := 2) hx hb dLw_law_314 (by decide) ?_
  refine lv_iadd hx hb dLw_law_315 ?_
  obtain ⟨hi2, h⟩ := ck_some h
  refine va_sld hx hb hX hbl hbA hS (inb_in hi2) dLw_law_316 ?_
  refine lv_aload_n hx hb dLw_law_317 rfl (lv_at hl 0 rfl) ?_
  refine lv_iload hx hb dLw_law_318 (lv_at hl 4 rfl) ?_
  refine lv_iconst (v := 3) hx hb dLw_law_320 (by decide) ?_
  refine lv_iadd hx hb dLw_law_321 ?_
  obtain ⟨hi3, h⟩ := ck_some h
  refine va_sld hx hb hX hbl hbA hS (inb_in hi3) dLw_law_322 ?_
  refine lv_aload_n hx hb dLw_law_323 rfl (lv_at hl 0 rfl) ?_
  refine lv_iload hx hb dLw_law_324 (lv_at hl 4 rfl) ?_
  refine lv_iconst (v := 4) hx hb dLw_law_326 (by decide) ?_
  refine lv_iadd hx hb dLw_law_327 ?_
  obtain ⟨hi4, h⟩ := ck_some h
  refine va_sld hx hb hX hbl hbA hS (inb_in hi4) dLw_law_328 ?_
  refine lv_aload_n hx hb dLw_law_329 rfl (lv_at hl 0 rfl) ?_
  refine lv_iload hx hb dLw_law_330 (lv_at hl 4 rfl) ?_
  refine lv_iconst (v := 5) hx hb dLw_law_332 (by decide) ?_
  refine lv_iadd hx hb dLw_law_333 ?_
  obtain ⟨hi5, h⟩ := ck_some h
  refine va_sld hx hb hX hbl hbA hS (inb_in hi5) dLw_law_334 ?_
  obtain ⟨u6, v6, hc6, h⟩ := bd2_some h
  refine z_ci (u := u) (out := (u6, v6)) hA hD hS (x_runSW (As := [.ref (ad 64), .int (xs (x4 + (1 : Int32)).toNatClampNeg), .int (xs (x4 + (2 : Int32)).toNatClampNeg), .int (xs (x4 + (3 : Int32)).toNatClampNeg), .int (xs (x4 + (4 : Int32)).toNatClampNeg), .int (xs (x4 + (5 : Int32)).toNatClampNeg)]) (rest := []) ⟨hx, hb, hml, hown, hts⟩ (ct_Lw_refer hlt hal0 hla hN (sz := H.size) hsl F u 64 (xs (x4 + (1 : Int32)).toNatClampNeg) (xs (x4 + (2 : Int32)).toNatClampNeg) (xs (x4 + (3 : Int32)).toNatClampNeg) (xs (x4 + (4 : Int32)).toNatClampNeg) (xs (x4 + (5 : Int32)).toNatClampNeg) (u6, v6) hc6 f1) gdLw_refer rfl rfl rfl (hts _ tw_0) (hts _ tw_355) hdLw_refer ⟨Nat.le_of_ble_eq_true rfl, Nat.le_of_ble_eq_true rfl⟩ (hts _ tw_356) (x_preSHn hK hD hNx hP hS hA hdZ hdT hno hny hz1 hz2 hnq) rfl rfl hl.1 rfl (lv_room (Nat.le_of_ble_eq_true rfl)) dLw_law_335 ⟨by show _ ≤ 601024; omega, by show _ ≤ 7293034; omega⟩) (fun t9 locs hB hS9 => ?_)
  clear hP hS
  rcases hB with ⟨h0, hP, hD9, hN9⟩ | ⟨h0, hP⟩
  · have hS := hS9
    replace hD := x_Dw hA hD hS8 hD9
    replace hN := hN9
    replace hal : ∀ k, aln al sl 0 k = true → k ∈ Ln sl 1 L := fun k h9 => aln_in hal0 1 k (aln_mono (Nat.zero_le _) h9)
    generalize t9.heap = H at hP hS ⊢
    clear hS9
    refine lv_istore (lv' := [(5, .int v6), (0, .ref b), (1, .ref (ad 64)), (2, .ref (ad 2048)), (3, .ref (ad 1408)), (4, .int x4)]) hx hb dLw_law_338 hl (by decide) rfl (fun ls hl => ?_)
    refine lv_aload_n hx hb dLw_law_340 rfl (lv_at hl 3 rfl) ?_
    refine lv_aload_n hx hb dLw_law_341 rfl (lv_at hl 1 rfl) ?_
    refine lv_iload hx hb dLw_law_342 (lv_at hl 5 rfl) ?_
    refine lv_iconst (v := 1) hx hb dLw_law_344 (by decide) ?_
    refine lv_iadd hx hb dLw_law_345 ?_
    obtain ⟨hi7, h⟩ := ck_some h
    refine va_sld hx hb hX hbl hbA hS (inb_in hi7) dLw_law_346 ?_
    refine lv_aload_n hx hb dLw_law_347 rfl (lv_at hl 1 rfl) ?_
    refine lv_iload hx hb dLw_law_348 (lv_at hl 5 rfl) ?_
    refine lv_iconst (v := 2) hx hb dLw_law_350 (by decide) ?_
    refine lv_iadd hx hb dLw_law_351 ?_
    obtain ⟨hi8, h⟩ := ck_some h
    refine va_sld hx hb hX hbl hbA hS (inb_in hi8) dLw_law_352 ?_
    refine lv_aload_n hx hb dLw_law_353 rfl (lv_at hl 1 rfl) ?_
    refine lv_iload hx hb dLw_law_354 (lv_at hl 5 rfl) ?_
    refine lv_iconst (v := 3) hx hb dLw_law_356 (by decide) ?_
    refine lv_iadd hx hb dLw_law_357 ?_
    obtain ⟨hi9, h⟩ := ck_some h
    refine va_sld hx hb hX hbl hbA hS (inb_in hi9) dLw_law_358 ?_
    refine lv_aload_n hx hb dLw_law_359 rfl (lv_at hl 1 rfl) ?_
    refine lv_iload hx hb dLw_law_360 (lv_at hl 5 rfl) ?_
    refine lv_iconst (v := 4) hx hb dLw_law_362 (by decide) ?_
    refine lv_iadd hx hb dLw_law_363 ?_
    obtain ⟨hi10, h⟩ := ck_some h
    refine va_sld hx hb hX hbl hbA hS (inb_in hi10) dLw_law_364 ?_
    refine lv_aload_n hx hb dLw_law_365 rfl (lv_at hl 1 rfl) ?_
    refine lv_iload hx hb dLw_law_366 (lv_at hl 5 rfl) ?_
    refine lv_iconst (v := 5) hx hb dLw_law_368 (by decide) ?_
    refine lv_iadd hx hb dLw_law_369 ?_
    obtain ⟨hi11, h⟩ := ck_some h
    refine va_sld hx hb hX hbl hbA hS (inb_in hi11) dLw_law_370 ?_
    obtain ⟨u12, v12, hc12, h⟩ := bd2_some h
    refine z_cv (u := u6) (out := (u12, v12)) hA hD hS (va_runV (As := [.int (xs (x4 + (1 : Int32)).toNatClampNeg), .int (xs (x4 + (2 : Int32)).toNatClampNeg), .int (xs (x4 + (3 : Int32)).toNatClampNeg), .int (xs (x4 + (4 : Int32)).toNatClampNeg), .int (xs (x4 + (5 : Int32)).toNatClampNeg)]) (rest := []) ⟨hx, hb, hml, hown, hts⟩ (ct_Md_refer hal hN F u6 2048 (xs (x4 + (1 : Int32)).toNatClampNeg) (xs (x4 + (2 : Int32)).toNatClampNeg) (xs (x4 + (3 : Int32)).toNatClampNeg) (xs (x4 + (4 : Int32)).toNatClampNeg) (xs (x4 + (5 : Int32)).toNatClampNeg) (u12, v12) hc12 f2 _) ⟨callB_of 5 hts gdMd_refer rfl rfl rfl (hts _ tw_11) (hts _ tw_899) hdMd_refer ⟨Nat.le_of_ble_eq_true rfl, Nat.le_of_ble_eq_true rfl⟩, (hts _ tw_900), (hts _ tw_901)⟩ (x_preV hK hD hNx hP (hal _ (okk_al f2)) (okk_t f2) rfl rfl) rfl rfl hl.1 rfl (lv_room (Nat.le_of_ble_eq_true rfl)) dLw_law_371 ⟨by show _ ≤ 601024; omega, by show _ ≤ 7293034; omega⟩) (fun t9 locs hB hS9 => ?_)
    clear hP hS
    generalize t9.heap = H at hB hS9 ⊢
    have hP := hB
    have hS := hS9
    clear hB hS9
    refine lv_aload_n hx hb dLw_law_374 rfl (lv_at hl 3 rfl) ?_
    obtain ⟨u13, v13, hc13, h⟩ := bd2_some h
    refine z_ci (u := u12) (out := (u13, v13)) hA hD hS (va_runV (As := []) (rest := []) ⟨hx, hb, hml, hown, hts⟩ (ct_Md_thrown hal hN F u12 2048 (u13, v13) hc13 f2 _) ⟨callB_of 0 hts gdMd_thrown rfl rfl rfl (hts _ tw_11) (hts _ tw_879) hdMd_thrown ⟨Nat.le_of_ble_eq_true rfl, Nat.le_of_ble_eq_true rfl⟩, (hts _ tw_880), (hts _ tw_881)⟩ (x_preV hK hD hNx hP (hal _ (okk_al f2)) (okk_t f2) rfl rfl) rfl rfl hl.1 rfl (lv_room (Nat.le_of_ble_eq_true rfl)) dLw_law_375 ⟨by show _ ≤ 601024; omega, by show _ ≤ 7293034; omega⟩) (fun t9 locs hB hS9 => ?_)
    clear hP hS
    generalize t9.heap = H at hB hS9 ⊢
    have hP := hB
    have hS := hS9
    clear hB hS9
    refine lv_iload hx hb dLw_law_378 (lv_at hl 0 rfl) ?_
    refine lv_icmp_eq (tgt := 385) hx hb dLw_law_380 rfl (fun hc => ?_) (fun hc => ?_)
    · replace h := it_t h hc
      refine lv_goto (tgt := 870) hx hb dLw_law_385 rfl ?_
      obtain rfl := Option.some.inj h
      exact W.widen (by omega) (by omega) (hk0 h0 _ _ _ (lv_sub hl [1, 2, 3, 4, 5] rfl) hP hD hN hS)
    · replace h := it_f h hc
      cases h
  · have hS := hS9
    generalize t9.heap = H at hP hS ⊢
    clear hS9
    refine lv_istore (lv' := [(5, .int v6), (0, .ref b), (1, .ref (ad 64)), (2, .ref (ad 2048)), (3, .ref (ad 1408)), (4, .int x4)]) hx hb dLw_law_338 hl (by decide) rfl (fun ls hl => ?_)
    refine lv_aload_n hx hb dLw_law_340 rfl (lv_at hl 3 rfl) ?_
    refine lv_aload_n hx hb dLw_law_341 rfl (lv_at hl 1 rfl) ?_
    refine lv_iload hx hb dLw_law_342 (lv_at hl 5 rfl) ?_
    refine lv_iconst (v := 1) hx hb dLw_law_344 (by decide) ?_
    refine lv_iadd hx hb dLw_law_345 ?_
    obtain ⟨hi14, h⟩ := ck_some h
    refine va_sld hx hb hX hbl hbA hS (inb_in hi14) dLw_law_346 ?_
    refine lv_aload_n hx hb dLw_law_347 rfl (lv_at hl 1 rfl) ?_
    refine lv_iload hx hb dLw_law_348 (lv_at hl 5 rfl) ?_
    refine lv_iconst (v := 2) hx hb dLw_law_350 (by decide) ?_
    refine lv_iadd hx hb dLw_law_351 ?_
    obtain ⟨hi15, h⟩ := ck_some h
    refine va_sld hx hb hX hbl hbA hS (inb_in hi15) dLw_law_352 ?_
    refine lv_aload_n hx hb dLw_law_353 rfl (lv_at hl 1 rfl) ?_
    refine lv_iload hx hb dLw_law_354 (lv_at hl 5 rfl) ?_
    refine lv_iconst (v := 3) hx hb dLw_law_356 (by decide) ?_
    refine lv_iadd hx hb dLw_law_357 ?_
    obtain ⟨hi16, h⟩ := ck_some h
    refine va_sld hx hb hX hbl hbA hS (inb_in hi16) dLw_law_358 ?_
    refine lv_aload_n hx hb dLw_law_359 rfl (lv_at hl 1 rfl) ?_
    refine lv_iload hx hb dLw_law_360 (lv_at hl 5 rfl) ?_
    refine lv_iconst (v := 4) hx hb dLw_law_362 (by decide) ?_
    refine lv_iadd hx hb dLw_law_363 ?_
    obtain ⟨hi17, h⟩ := ck_some h
    refine va_sld hx hb hX hbl hbA hS (inb_in hi17) dLw_law_364 ?_
    refine lv_aload_n hx hb dLw_law_365 rfl (lv_at hl 1 rfl) ?_
    refine lv_iload hx hb dLw_law_366 (lv_at hl 5 rfl) ?_
    refine lv_iconst (v := 5) hx hb dLw_law_368 (by decide) ?_
    refine lv_iadd hx hb dLw_law_369 ?_
    obtain ⟨hi18, h⟩ := ck_some h
    refine va_sld hx hb hX hbl hbA hS (inb_in hi18) dLw_law_370 ?_
    obtain ⟨u19, v19, hc19, h⟩ := bd2_some h
    refine z_cv (u := u6) (out := (u19, v19)) hA hD hS (va_runV (As := [.int (xs (x4 + (1 : Int32)).toNatClampNeg), .int (xs (x4 + (2 : Int32)).toNatClampNeg), .int (xs (x4 + (3 : Int32)).toNatClampNeg), .int (xs (x4 + (4 : Int32)).toNatClampNeg), .int (xs (x4 + (5 : Int32)).toNatClampNeg)]) (rest := []) ⟨hx, hb, hml, hown, hts⟩ (ct_Md_refer hal hN F u6 2048 (xs (x4 + (1 : Int32)).toNatClampNeg) (xs (x4 + (2 : Int32)).toNatClampNeg) (xs (x4 + (3 : Int32)).toNatClampNeg) (xs (x4 + (4 : Int32)).toNatClampNeg) (xs (x4 + (5 : Int32)).toNatClampNeg) (u19, v19) hc19 f2 _) ⟨callB_of 5 hts gdMd_refer rfl rfl rfl (hts _ tw_11) (hts _ tw_899) hdMd_refer ⟨Nat.le_of_ble_eq_true rfl, Nat.le_of_ble_eq_true rfl⟩, (hts _ tw_900), (hts _ tw_901)⟩ (x_preV hK hD hNx hP (hal _ (okk_al f2)) (okk_t f2) rfl rfl) rfl rfl hl.1 rfl (lv_room (Nat.le_of_ble_eq_true rfl)) dLw_law_371 ⟨by show _ ≤ 601024; omega, by show _ ≤ 7293034; omega⟩) (fun t9 locs hB hS9 => ?_)
    clear hP hS
    generalize t9.heap = H at hB hS9 ⊢
    have hP := hB
    have hS := hS9
    clear hB hS9
    refine lv_aload_n hx hb dLw_law_374 rfl (lv_at hl 3 rfl) ?_
    obtain ⟨u20, v20, hc20, h⟩ := bd2_some h
    refine z_ci (u := u19) (out := (u20, v20)) hA hD hS (va_runV (As := []) (rest := []) ⟨hx, hb, hml, hown, hts⟩ (ct_Md_thrown hal hN F u19 2048 (u20, v20) hc20 f2 _) ⟨callB_of 0 hts gdMd_thrown rfl rfl rfl (hts _ tw_11) (hts _ tw_879) hdMd_thrown ⟨Nat.le_of_ble_eq_true rfl, Nat.le_of_ble_eq_true rfl⟩, (hts _ tw_880), (hts _ tw_881)⟩ (x_preV hK hD hNx hP (hal _ (okk_al f2)) (okk_t f2) rfl rfl) rfl rfl hl.1 rfl (lv_room (Nat.le_of_ble_eq_true rfl)) dLw_law_375 ⟨by show _ ≤ 601024; omega, by show _ ≤ 7293034; omega⟩) (fun t9 locs hB hS9 => ?_)
    clear hP hS
    generalize t9.heap = H at hB hS9 ⊢
    have hP := hB
    have hS := hS9
    clear hB hS9
    refine lv_iload hx hb dLw_law_378 (lv_at hl 0 rfl) ?_
    refine lv_icmp_eq (tgt := 385) hx hb dLw_law_380 rfl (fun hc => ?_) (fun hc => ?_)
    · replace h := it_t h hc
      refine lv_goto (tgt := 870) hx hb dLw_law_385 rfl ?_
      obtain rfl := Option.some.inj h
      exact W.widen (by omega) (by omega) (hk1 h0 _ _ _ (lv_sub hl [1, 2, 3, 4, 5] rfl) hP hS)
    · replace h := it_f h hc
      cases h
def sg_304B (F : Nat) (al : Nat → Bool) (sl : Nat → Option Nat) (xs : Nat → Int32) (Ls : Nat) (u : Mr) (x4 : Int32) : Option (Mr × Int32) := ck (inb (x4 + (1 : Int32)) Ls) (ck (inb (x4 + (2 : Int32)) Ls) (ck (inb (x4 + (3 : Int32)) Ls) (ck (inb (x4 + (4 : Int32)) Ls) (ck (inb (x4 + (5 : Int32)) Ls) (bd2 (fn_Lw_referB F al sl u 64 (xs (x4 + (1 : Int32)).toNatClampNeg) (xs (x4 + (2 : Int32)).toNatClampNeg) (xs (x4 + (3 : Int32)).toNatClampNeg) (xs (x4 + (4 : Int32)).toNatClampNeg) (xs (x4 + (5 : Int32)).toNatClampNeg)) fun u6 v6 => (ck (inb (x4 + (1 : Int32)) Ls) (ck (inb (x4 + (2 : Int32)) Ls) (ck (inb (x4 + (3 : Int32)) Ls) (ck (inb (x4 + (4 : Int32)) Ls) (ck (inb (x4 + (5 : Int32)) Ls) (bd2 (fn_Md_refer F (aln al sl 0) u6 2048 (xs (x4 + (1 : Int32)).toNatClampNeg) (xs (x4 + (2 : Int32)).toNatClampNeg) (xs (x4 + (3 : Int32)).toNatClampNeg) (xs (x4 + (4 : Int32)).toNatClampNeg) (xs (x4 + (5 : Int32)).toNatClampNeg)) fun u12 v12 => (bd2 (fn_Md_thrown F (aln al sl 0) u12 2048) fun u13 v13 => (if v13 = v6 then (some (u13, v6)) else (none))))))))))))))
set_option maxHeartbeats 4000000 in
set_option maxRecDepth 100000 in
theorem wsg_304B {x4 : Int32} (cl : CL p l s m b c D cA ad (Ln sl 0 L) rs (aln al sl 0) A Ls xs c0 s0) (hal0 : ∀ k, al k = true → k ∈ L) (hla : ∀ k, k ∈ L → al k = true) (hdZ : dZ ad A s s.heap) (hdT : dT ad A s s.heap) (hno : No s) (F : Nat) (out : Mr × Int32) (hk0 : out.2 = 0 → ∀ (H : Heap) (locs : List Loc) (ls : Array Slot), lv_has ls 7 (lvL b ad x4) → va_P D vwCl (ww ad cA (Ln sl 2 L) rs out.1) H → (∀ v : Mr, va_D A (ww ad cA (Ln sl 2 L) rs v)) → (Ln sl 2 L).Nodup → va_S A s.heap H locs → W p l e room_1 s m #[Value.ref b] below meth c H locs (c0 + 2) (s0 + 14) Q (F0 m 870 ls [])) (hk1 : out.2 ≠ 0 → ∀ (H : Heap) (locs : List Loc) (ls : Array Slot), lv_has ls 7 (lvL b ad x4) → va_P D vwCl (ww ad cA (Ln sl 0 L) rs out.1) H → va_S A s.heap H locs → W p l e room_1 s m #[Value.ref b] below meth c H locs (c0 + 2) (s0 + 14) Q (F0 m 870 ls [])) (u : Mr) (H : Heap) (locs : List Loc) (ls : Array Slot) (hsl : ∀ i k, sl i = some k → ad k + 0 = H.size + i) (h : sg_304B F al sl xs Ls u x4 = some out) (hl : lv_has ls 7 (lvL b ad x4)) (hP : va_P D vwCl (ww ad cA (Ln sl 0 L) rs u) H) (hS : va_S A s.heap H locs) : W p l e room_1 s m #[Value.ref b] below meth c H locs c0 s0 Q (F0 m 304 ls []) := by
  obtain ⟨hx, hb, hml, hown, hts, hK, hA, hD, hN, hal, hNx, hlt, hz1, hz2, hny, hnq, hX, hbl, hbA, f1, f2, f3, hc0, hs0⟩ := cl
  have hS8 := hS
  unfold sg_304B at h
  refine lv_aload_n hx hb dLw_law_304 rfl (lv_at hl 1 rfl) ?_
  refine lv_aload_n hx hb dLw_law_305 rfl (lv_at hl 0 rfl) ?_
  refine lv_iload hx hb dLw_law_306 (lv_at hl 4 rfl) ?_
  refine lv_iconst (v := 1) hx hb dLw_law_308 (by decide) ?_
  refine lv_iadd hx hb dLw_law_309 ?_
  obtain ⟨hi1, h⟩ := ck_some h
  refine va_sld hx hb hX hbl hbA hS (inb_in hi1) dLw_law_310 ?_
  refine lv_aload_n hx hb dLw_law_311 rfl (lv_at hl 0 rfl) ?_
  refine lv_iload hx hb dLw_law_312 (lv_at hl 4 rfl) ?_
  refine lv_iconst (v := 2) hx hb dLw_law_314 (by decide) ?_
  refine lv_iadd hx hb dLw_law_315 ?_
  obtain ⟨hi2, h⟩ := ck_some h
  refine va_sld hx hb hX hbl hbA hS (inb_in hi2) dLw_law_316 ?_
  refine lv_aload_n hx hb dLw_law_317 rfl (lv_at hl 0 rfl) ?_
  refine lv_iload hx hb dLw_law_318 (lv_at hl 4 rfl) ?_
  refine lv_iconst (v := 3) hx hb dLw_law_320 (by decide) ?_
  refine lv_iadd hx hb dLw_law_321 ?_
  obtain ⟨hi3, h⟩ := ck_some h
  refine va_sld hx hb hX hbl hbA hS (inb_in hi3) dLw_law_322 ?_
  refine lv_aload_n hx hb dLw_law_323 rfl (lv_at hl 0 rfl) ?_
  refine lv_iload hx hb dLw_law_324 (lv_at hl 4 rfl) ?_
  refine lv_iconst (v := 4) hx hb dLw_law_326 (by decide) ?_
  refine lv_iadd hx hb dLw_law_327 ?_
  obtain ⟨hi4, h⟩ := ck_some h
  refine va_sld hx hb hX hbl hbA hS (inb_in hi4) dLw_law_328 ?_
  refine lv_aload_n hx hb dLw_law_329 rfl (lv_at hl 0 rfl) ?_
  refine lv_iload hx hb dLw_law_330 (lv_at hl 4 rfl) ?_
  refine lv_iconst (v := 5) hx hb dLw_law_332 (by decide) ?_
  refine lv_iadd hx hb dLw_law_333 ?_
  obtain ⟨hi5, h⟩ := ck_some h
  refine va_sld hx hb hX hbl hbA hS (inb_in hi5) dLw_law_334 ?_
  obtain ⟨u6, v6, hc6, h⟩ := bd2_some h
  refine z_ci (u := u) (out := (u6, v6)) hA hD hS (x_runSW (As := [.ref (ad 64), .int (xs (x4 + (1 : Int32)).toNatClampNeg), .int (xs (x4 + (2 : Int32)).toNatClampNeg), .int (xs (x4 + (3 : Int32)).toNatClampNeg), .int (xs (x4 + (4 : Int32)).toNatClampNeg), .int (xs (x4 + (5 : Int32)).toNatClampNeg)]) (rest := []) ⟨hx, hb, hml, hown, hts⟩ (ct_Lw_referB hlt hal0 hla hN (sz := H.size) hsl F u 64 (xs (x4 + (1 : Int32)).toNatClampNeg) (xs (x4 + (2 : Int32)).toNatClampNeg) (xs (x4 + (3 : Int32)).toNatClampNeg) (xs (x4 + (4 : Int32)).toNatClampNeg) (xs (x4 + (5 : Int32)).toNatClampNeg) (u6, v6) hc6 f1) gdLw_referB rfl rfl rfl (hts _ tw_0) (hts _ tw_355) hdLw_referB ⟨Nat.le_of_ble_eq_true rfl, Nat.le_of_ble_eq_true rfl⟩ (hts _ tw_356) (x_preSHn hK hD hNx hP hS hA hdZ hdT hno hny hz1 hz2 hnq) rfl rfl hl.1 rfl (lv_room (Nat.le_of_ble_eq_true rfl)) dLw_law_335 ⟨by show _ ≤ 601024; omega, by show _ ≤ 7293034; omega⟩) (fun t9 locs hB hS9 => ?_)
  clear hP hS
  rcases hB with ⟨h0, hP, hD9, hN9⟩ | ⟨h0, hP⟩
  · have hS := hS9
    replace hD := x_Dw hA hD hS8 hD9
    replace hN := hN9
    replace hal : ∀ k, aln al sl 0 k = true → k ∈ Ln sl 2 L := fun k h9 => aln_in hal0 2 k (aln_mono (Nat.zero_le _) h9)
    generalize t9.heap = H at hP hS ⊢
    clear hS9
    refine lv_istore (lv' := [(5, .int v6), (0, .ref b), (1, .ref (ad 64)), (2, .ref (ad 2048)), (3, .ref (ad 1408)), (4, .int x4)]) hx hb dLw_law_338 hl (by decide) rfl (fun ls hl => ?_)
    refine lv_aload_n hx hb dLw_law_340 rfl (lv_at hl 3 rfl) ?_
    refine lv_aload_n hx hb dLw_law_341 rfl (lv_at hl 1 rfl) ?_
    refine lv_iload hx hb dLw_law_342 (lv_at hl 5 rfl) ?_
    refine lv_iconst (v := 1) hx hb dLw_law_344 (by decide) ?_
    refine lv_iadd hx hb dLw_law_345 ?_
    obtain ⟨hi7, h⟩ := ck_some h
    refine va_sld hx hb hX hbl hbA hS (inb_in hi7) dLw_law_346 ?_
    refine lv_aload_n hx hb dLw_law_347 rfl (lv_at hl 1 rfl) ?_
    refine lv_iload hx hb dLw_law_348 (lv_at hl 5 rfl) ?_
    refine lv_iconst (v := 2) hx hb dLw_law_350 (by decide) ?_
    refine lv_iadd hx hb dLw_law_351 ?_
    obtain ⟨hi8, h⟩ := ck_some h
    refine va_sld hx hb hX hbl hbA hS (inb_in hi8) dLw_law_352 ?_
    refine lv_aload_n hx hb dLw_law_353 rfl (lv_at hl 1 rfl) ?_
    refine lv_iload hx hb dLw_law_354 (lv_at hl 5 rfl) ?_
    refine lv_iconst (v := 3) hx hb dLw_law_356 (by decide) ?_
    refine lv_iadd hx hb dLw_law_357 ?_
    obtain ⟨hi9, h⟩ := ck_some h
    refine va_sld hx hb hX hbl hbA hS (inb_in hi9) dLw_law_358 ?_
    refine lv_aload_n hx hb dLw_law_359 rfl (lv_at hl 1 rfl) ?_
    refine lv_iload hx hb dLw_law_360 (lv_at hl 5 rfl) ?_
    refine lv_iconst (v := 4) hx hb dLw_law_362 (by decide) ?_
    refine lv_iadd hx hb dLw_law_363 ?_
    obtain ⟨hi10, h⟩ := ck_some h
    refine va_sld hx hb hX hbl hbA hS (inb_in hi10) dLw_law_364 ?_
    refine lv_aload_n hx hb dLw_law_365 rfl (lv_at hl 1 rfl) ?_
    refine lv_iload hx hb dLw_law_366 (lv_at hl 5 rfl) ?_
    refine lv_iconst (v := 5) hx hb dLw_law_368 (by decide) ?_
    refine lv_iadd hx hb dLw_law_369 ?_
    obtain ⟨hi11, h⟩ := ck_some h
    refine va_sld hx hb hX hbl hbA hS (inb_in hi11) dLw_law_370 ?_
    obtain ⟨u12, v12, hc12, h⟩ := bd2_some h
    refine z_cv (u := u6) (out := (u12, v12)) hA hD hS (va_runV (As := [.int (xs (x4 + (1 : Int32)).toNatClampNeg), .int (xs (x4 + (2 : Int32)).toNatClampNeg), .int (xs (x4 + (3 : Int32)).toNatClampNeg), .int (xs (x4 + (4 : Int32)).toNatClampNeg), .int (xs (x4 + (5 : Int32)).toNatClampNeg)]) (rest := []) ⟨hx, hb, hml, hown, hts⟩ (ct_Md_refer hal hN F u6 2048 (xs (x4 + (1 : Int32)).toNatClampNeg) (xs (x4 + (2 : Int32)).toNatClampNeg) (xs (x4 + (3 : Int32)).toNatClampNeg) (xs (x4 + (4 : Int32)).toNatClampNeg) (xs (x4 + (5 : Int32)).toNatClampNeg) (u12, v12) hc12 f2 _) ⟨callB_of 5 hts gdMd_refer rfl rfl rfl (hts _ tw_11) (hts _ tw_899) hdMd_refer ⟨Nat.le_of_ble_eq_true rfl, Nat.le_of_ble_eq_true rfl⟩, (hts _ tw_900), (hts _ tw_901)⟩ (x_preV hK hD hNx hP (hal _ (okk_al f2)) (okk_t f2) rfl rfl) rfl rfl hl.1 rfl (lv_room (Nat.le_of_ble_eq_true rfl)) dLw_law_371 ⟨by show _ ≤ 601024; omega, by show _ ≤ 7293034; omega⟩) (fun t9 locs hB hS9 => ?_)
    clear hP hS
    generalize t9.heap = H at hB hS9 ⊢
    have hP := hB
    have hS := hS9
    clear hB hS9
    refine lv_aload_n hx hb dLw_law_374 rfl (lv_at hl 3 rfl) ?_
    obtain ⟨u13, v13, hc13, h⟩ := bd2_some h
    refine z_ci (u := u12) (out := (u13, v13)) hA hD hS (va_runV (As := []) (rest := []) ⟨hx, hb, hml, hown, hts⟩ (ct_Md_thrown hal hN F u12 2048 (u13, v13) hc13 f2 _) ⟨callB_of 0 hts gdMd_thrown rfl rfl rfl (hts _ tw_11) (hts _ tw_879) hdMd_thrown ⟨Nat.le_of_ble_eq_true rfl, Nat.le_of_ble_eq_true rfl⟩, (hts _ tw_880), (hts _ tw_881)⟩ (x_preV hK hD hNx hP (hal _ (okk_al f2)) (okk_t f2) rfl rfl) rfl rfl hl.1 rfl (lv_room (Nat.le_of_ble_eq_true rfl)) dLw_law_375 ⟨by show _ ≤ 601024; omega, by show _ ≤ 7293034; omega⟩) (fun t9 locs hB hS9 => ?_)
    clear hP hS
    generalize t9.heap = H at hB hS9 ⊢
    have hP := hB
    have hS := hS9
    clear hB hS9
    refine lv_iload hx hb dLw_law_378 (lv_at hl 0 rfl) ?_
    refine lv_icmp_eq (tgt := 385) hx hb dLw_law_380 rfl (fun hc => ?_) (fun hc => ?_)
    · replace h := it_t h hc
      refine lv_goto (tgt := 870) hx hb dLw_law_385 rfl ?_
      obtain rfl := Option.some.inj h
      exact W.widen (by omega) (by omega) (hk0 h0 _ _ _ (lv_sub hl [1, 2, 3, 4, 5] rfl) hP hD hN hS)
    · replace h := it_f h hc
      cases h
  · have hS := hS9
    generalize t9.heap = H at hP hS ⊢
    clear hS9
    refine lv_istore (lv' := [(5, .int v6), (0, .ref b), (1, .ref (ad 64)), (2, .ref (ad 2048)), (3, .ref (ad 1408)), (4, .int x4)]) hx hb dLw_law_338 hl (by decide) rfl (fun ls hl => ?_)
    refine lv_aload_n hx hb dLw_law_340 rfl (lv_at hl 3 rfl) ?_
    refine lv_aload_n hx hb dLw_law_341 rfl (lv_at hl 1 rfl) ?_
    refine lv_iload hx hb dLw_law_342 (lv_at hl 5 rfl) ?_
    refine lv_iconst (v := 1) hx hb dLw_law_344 (by decide) ?_
    refine lv_iadd hx hb dLw_law_345 ?_
    obtain ⟨hi14, h⟩ := ck_some h
    refine va_sld hx hb hX hbl hbA hS (inb_in hi14) dLw_law_346 ?_
    refine lv_aload_n hx hb dLw_law_347 rfl (lv_at hl 1 rfl) ?_
    refine lv_iload hx hb dLw_law_348 (lv_at hl 5 rfl) ?_
    refine lv_iconst (v := 2) hx hb dLw_law_350 (by decide) ?_
    refine lv_iadd hx hb dLw_law_351 ?_
    obtain ⟨hi15, h⟩ := ck_some h
    refine va_sld hx hb hX hbl hbA hS (inb_in hi15) dLw_law_352 ?_
    refine lv_aload_n hx hb dLw_law_353 rfl (lv_at hl 1 rfl) ?_
    refine lv_iload hx hb dLw_law_354 (lv_at hl 5 rfl) ?_
    refine lv_iconst (v := 3) hx hb dLw_law_356 (by decide) ?_
    refine lv_iadd hx hb dLw_law_357 ?_
    obtain ⟨hi16, h⟩ := ck_some h
    refine va_sld hx hb hX hbl hbA hS (inb_in hi16) dLw_law_358 ?_
    refine lv_aload_n hx hb dLw_law_359 rfl (lv_at hl 1 rfl) ?_
    refine lv_iload hx hb dLw_law_360 (lv_at hl 5 rfl) ?_
    refine lv_iconst (v := 4) hx hb dLw_law_362 (by decide) ?_
    refine lv_iadd hx hb dLw_law_363 ?_
    obtain ⟨hi17, h⟩ := ck_some h
    refine va_sld hx hb hX hbl hbA hS (inb_in hi17) dLw_law_364 ?_
    refine lv_aload_n hx hb dLw_law_365 rfl (lv_at hl 1 rfl) ?_
    refine lv_iload hx hb dLw_law_366 (lv_at hl 5 rfl) ?_
    refine lv_iconst (v := 5) hx hb dLw_law_368 (by decide) ?_
    refine lv_iadd hx hb dLw_law_369 ?_
    obtain ⟨hi18, h⟩ := ck_some h
    refine va_sld hx hb hX hbl hbA hS (inb_in hi18) dLw_law_370 ?_
    obtain ⟨u19, v19, hc19, h⟩ := bd2_some h
    refine z_cv (u := u6) (out := (u19, v19)) hA hD hS (va_runV (As := [.int (xs (x4 + (1 : Int32)).toNatClampNeg), .int (xs (x4 + (2 : Int32)).toNatClampNeg), .int (xs (x4 + (3 : Int32)).toNatClampNeg), .int (xs (x4 + (4 : Int32)).toNatClampNeg), .int (xs (x4 + (5 : Int32)).toNatClampNeg)]) (rest := []) ⟨hx, hb, hml, hown, hts⟩ (ct_Md_refer hal hN F u6 2048 (xs (x4 + (1 : Int32)).toNatClampNeg) (xs (x4 + (2 : Int32)).toNatClampNeg) (xs (x4 + (3 : Int32)).toNatClampNeg) (xs (x4 + (4 : Int32)).toNatClampNeg) (xs (x4 + (5 : Int32)).toNatClampNeg) (u19, v19) hc19 f2 _) ⟨callB_of 5 hts gdMd_refer rfl rfl rfl (hts _ tw_11) (hts _ tw_899) hdMd_refer ⟨Nat.le_of_ble_eq_true rfl, Nat.le_of_ble_eq_true rfl⟩, (hts _ tw_900), (hts _ tw_901)⟩ (x_preV hK hD hNx hP (hal _ (okk_al f2)) (okk_t f2) rfl rfl) rfl rfl hl.1 rfl (lv_room (Nat.le_of_ble_eq_true rfl)) dLw_law_371 ⟨by show _ ≤ 601024; omega, by show _ ≤ 7293034; omega⟩) (fun t9 locs hB hS9 => ?_)
    clear hP hS
    generalize t9.heap = H at hB hS9 ⊢
    have hP := hB
    have hS := hS9
    clear hB hS9
    refine lv_aload_n hx hb dLw_law_374 rfl (lv_at hl 3 rfl) ?_
    obtain ⟨u20, v20, hc20, h⟩ := bd2_some h
    refine z_ci (u := u19) (out := (u20, v20)) hA hD hS (va_runV (As := []) (rest := []) ⟨hx, hb, hml, hown, hts⟩ (ct_Md_thrown hal hN F u19 2048 (u20, v20) hc20 f2 _) ⟨callB_of 0 hts gdMd_thrown rfl rfl rfl (hts _ tw_11) (hts _ tw_879) hdMd_thrown ⟨Nat.le_of_ble_eq_true rfl, Nat.le_of_ble_eq_true rfl⟩, (hts _ tw_880), (hts _ tw_881)⟩ (x_preV hK hD hNx hP (hal _ (okk_al f2)) (okk_t f2) rfl rfl) rfl rfl hl.1 rfl (lv_room (Nat.le_of_ble_eq_true rfl)) dLw_law_375 ⟨by show _ ≤ 601024; omega, by show _ ≤ 7293034; omega⟩) (fun t9 locs hB hS9 => ?_)
    clear hP hS
    generalize t9.heap = H at hB hS9 ⊢
    have hP := hB
    have hS := hS9
    clear hB hS9
    refine lv_iload hx hb dLw_law_378 (lv_at hl 0 rfl) ?_
    refine lv_icmp_eq (tgt := 385) hx hb dLw_law_380 rfl (fun hc => ?_) (fun hc => ?_)
    · replace h := it_t h hc
      refine lv_goto (tgt := 870) hx hb dLw_law_385 rfl ?_
      obtain rfl := Option.some.inj h
      exact W.widen (by omega) (by omega) (hk1 h0 _ _ _ (lv_sub hl [1, 2, 3, 4, 5] rfl) hP hS)
    · replace h := it_f h hc
      cases h
end

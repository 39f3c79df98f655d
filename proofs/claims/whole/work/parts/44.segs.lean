section
variable {p : Program} {l : Launch} {e : Env} {s : State} {m : MethodId} {b : Nat} {below : List Frame} {meth : Method} {c : Code} {D : va_G} {cA : Nat → ClassId} {ad : Nat → Nat} {L : List Nat} {rs : va_W} {al : Nat → Bool} {sl : Nat → Option Nat} {A : Nat → Prop} {Ls : Nat} {xs : Nat → Int32} {c0 s0 : Nat} {Q : State → Prop}
def sg_108 (F : Nat) (al : Nat → Bool) (xs : Nat → Int32) (Ls : Nat) (u : Mr) (x4 : Int32) : Option (Mr) := ck (inb (x4 + (1 : Int32)) Ls) (ck (inb (x4 + (2 : Int32)) Ls) (ck (inb (x4 + (3 : Int32)) Ls) (ck (inb (x4 + (4 : Int32)) Ls) (ck (inb (x4 + (5 : Int32)) Ls) (bd2 (fn_Lw_put F al u 64 (xs (x4 + (1 : Int32)).toNatClampNeg) (xs (x4 + (2 : Int32)).toNatClampNeg) ((((xs (x4 + (3 : Int32)).toNatClampNeg).toInt64) <<< ((32 : Int32).toInt64 &&& 63)) ||| (((xs (x4 + (4 : Int32)).toNatClampNeg).toInt64) &&& (4294967295 : Int64))) (xs (x4 + (5 : Int32)).toNatClampNeg) 1408) fun u6 v6 => (ck (inb (x4 + (1 : Int32)) Ls) (ck (inb (x4 + (2 : Int32)) Ls) (ck (inb (x4 + (3 : Int32)) Ls) (ck (inb (x4 + (4 : Int32)) Ls) (ck (inb (x4 + (5 : Int32)) Ls) (bd2 (fn_Md_put F al u6 2048 (xs (x4 + (1 : Int32)).toNatClampNeg) (xs (x4 + (2 : Int32)).toNatClampNeg) ((((xs (x4 + (3 : Int32)).toNatClampNeg).toInt64) <<< ((32 : Int32).toInt64 &&& 63)) ||| (((xs (x4 + (4 : Int32)).toNatClampNeg).toInt64) &&& (4294967295 : Int64))) (xs (x4 + (5 : Int32)).toNatClampNeg)) fun u12 v12 => (bd2 (fn_Md_thrown F al u12 2048) fun u13 v13 => (if v13 = v6 then (if v6 = 0 then (if (lg_cmp (u13.2.2 1408 (0 : Int32)) v12.toInt64) = 0 then (some (u13)) else (none)) else (some (u13))) else (none))))))))))))))
set_option maxHeartbeats 4000000 in
set_option maxRecDepth 100000 in
theorem wsg_108 {x4 : Int32} (cl : CL p l s m b c D cA ad L rs al A Ls xs c0 s0) (F : Nat) (out : Mr) (hk : ∀ (H : Heap) (locs : List Loc) (ls : Array Slot), lv_has ls 7 (lvL b ad x4) → va_P D vwCl (ww ad cA L rs out) H → va_S A s.heap H locs → W p l e room_1 s m #[Value.ref b] below meth c H locs (c0 + 2) (s0 + 14) Q (F0 m 870 ls [])) (u : Mr) (H : Heap) (locs : List Loc) (ls : Array Slot) (h : sg_108 F al xs Ls u x4 = some out) (hl : lv_has ls 7 (lvL b ad x4)) (hP : va_P D vwCl (ww ad cA L rs u) H) (hS : va_S A s.heap H locs) : W p l e room_1 s m #[Value.ref b] below meth c H locs c0 s0 Q (F0 m 108 ls []) := by
  obtain ⟨hx, hb, hml, hown, hts, hK, hA, hD, hN, hal, hNx, hlt, hz1, hz2, hny, hnq, hX, hbl, hbA, f1, f2, f3, hc0, hs0⟩ := cl

  unfold sg_108 at h
  refine lv_aload_n hx hb dLw_law_108 rfl (lv_at hl 1 rfl) ?_
  refine lv_aload_n hx hb dLw_law_109 rfl (lv_at hl 0 rfl) ?_
  refine lv_iload hx hb dLw_law_110 (lv_at hl 4 rfl) ?_
  refine lv_iconst (v := 1) hx hb dLw_law_112 (by decide) ?_
  refine lv_iadd hx hb dLw_law_113 ?_
  obtain ⟨hi1, h⟩ := ck_some h
  refine va_sld hx hb hX hbl hbA hS (inb_in hi1) dLw_law_114 ?_
  refine lv_aload_n hx hb dLw_law_115 rfl (lv_at hl 0 rfl) ?_
  refine lv_iload hx hb dLw_law_116 (lv_at hl 4 rfl) ?_
  refine lv_iconst (v := 2) hx hb dLw_law_118 (by decide) ?_
  refine lv_iadd hx hb dLw_law_119 ?_
  obtain ⟨hi2, h⟩ := ck_some h
  refine va_sld hx hb hX hbl hbA hS (inb_in hi2) dLw_law_120 ?_
  refine lv_aload_n hx hb dLw_law_121 rfl (lv_at hl 0 rfl) ?_
  refine lv_iload hx hb dLw_law_122 (lv_at hl 4 rfl) ?_
  refine lv_iconst (v := 3) hx hb dLw_law_124 (by decide) ?_
  refine lv_iadd hx hb dLw_law_125 ?_
  obtain ⟨hi3, h⟩ := ck_some h
  refine va_sld hx hb hX hbl hbA hS (inb_in hi3) dLw_law_126 ?_
  refine lv_i2l (v := (xs (x4 + (3 : Int32)).toNatClampNeg).toInt64) hx hb dLw_law_127 rfl ?_
  refine lv_bipush (v := 32) hx hb dLw_law_128 (by decide) ?_
  refine lv_lshl (v := ((xs (x4 + (3 : Int32)).toNatClampNeg).toInt64) <<< ((32 : Int32).toInt64 &&& 63)) hx hb dLw_law_130 rfl ?_
  refine lv_aload_n hx hb dLw_law_131 rfl (lv_at hl 0 rfl) ?_
  refine lv_iload hx hb dLw_law_132 (lv_at hl 4 rfl) ?_
  refine lv_iconst (v := 4) hx hb dLw_law_134 (by decide) ?_
  refine lv_iadd hx hb dLw_law_135 ?_
  obtain ⟨hi4, h⟩ := ck_some h
  refine va_sld hx hb hX hbl hbA hS (inb_in hi4) dLw_law_136 ?_
  refine lv_i2l (v := (xs (x4 + (4 : Int32)).toNatClampNeg).toInt64) hx hb dLw_law_137 rfl ?_
  refine lv_ldc2 (v := 4294967295) hx hb hown (hts _ tw_1053) dLw_law_138 ?_
  refine lv_land hx hb dLw_law_141 ?_
  refine lv_lor hx hb dLw_law_142 ?_
  refine lv_aload_n hx hb dLw_law_143 rfl (lv_at hl 0 rfl) ?_
  refine lv_iload hx hb dLw_law_144 (lv_at hl 4 rfl) ?_
  refine lv_iconst (v := 5) hx hb dLw_law_146 (by decide) ?_
  refine lv_iadd hx hb dLw_law_147 ?_
  obtain ⟨hi5, h⟩ := ck_some h
  refine va_sld hx hb hX hbl hbA hS (inb_in hi5) dLw_law_148 ?_
  refine lv_aload_n hx hb dLw_law_149 rfl (lv_at hl 3 rfl) ?_
  obtain ⟨u6, v6, hc6, h⟩ := bd2_some h
  refine z_ci (u := u) (out := (u6, v6)) hA hD hS (x_runSW (As := [.ref (ad 64), .int (xs (x4 + (1 : Int32)).toNatClampNeg), .int (xs (x4 + (2 : Int32)).toNatClampNeg), .long ((((xs (x4 + (3 : Int32)).toNatClampNeg).toInt64) <<< ((32 : Int32).toInt64 &&& 63)) ||| (((xs (x4 + (4 : Int32)).toNatClampNeg).toInt64) &&& (4294967295 : Int64))), .int (xs (x4 + (5 : Int32)).toNatClampNeg), .ref (ad 1408)]) (rest := []) ⟨hx, hb, hml, hown, hts⟩ (ct_Lw_put hlt hal hN F u 64 (xs (x4 + (1 : Int32)).toNatClampNeg) (xs (x4 + (2 : Int32)).toNatClampNeg) ((((xs (x4 + (3 : Int32)).toNatClampNeg).toInt64) <<< ((32 : Int32).toInt64 &&& 63)) ||| (((xs (x4 + (4 : Int32)).toNatClampNeg).toInt64) &&& (4294967295 : Int64))) (xs (x4 + (5 : Int32)).toNatClampNeg) 1408 (u6, v6) hc6 f1 f3 _) gdLw_put rfl rfl rfl (hts _ tw_0) (hts _ tw_242) hdLw_put ⟨Nat.le_of_ble_eq_true rfl, Nat.le_of_ble_eq_true rfl⟩ (hts _ tw_243) (x_preSH hK hD hNx hP hS hA hz1 hz2 hny hnq) rfl rfl hl.1 rfl (lv_room (Nat.le_of_ble_eq_true rfl)) dLw_law_150 ⟨by show _ ≤ 601024; omega, by show _ ≤ 7293034; omega⟩) (fun t9 locs hB hS9 => ?_)
  clear hP hS
  generalize t9.heap = H at hB hS9 ⊢
  have hP := hB
  have hS := hS9
  clear hB hS9
  refine lv_istore (lv' := [(5, .int v6), (0, .ref b), (1, .ref (ad 64)), (2, .ref (ad 2048)), (3, .ref (ad 1408)), (4, .int x4)]) hx hb dLw_law_153 hl (by decide) rfl (fun ls hl => ?_)
  refine lv_aload_n hx hb dLw_law_155 rfl (lv_at hl 3 rfl) ?_
  refine lv_aload_n hx hb dLw_law_156 rfl (lv_at hl 1 rfl) ?_
  refine lv_iload hx hb dLw_law_157 (lv_at hl 5 rfl) ?_
  refine lv_iconst (v := 1) hx hb dLw_law_159 (by decide) ?_
  refine lv_iadd hx hb dLw_law_160 ?_
  obtain ⟨hi7, h⟩ := ck_some h
  refine va_sld hx hb hX hbl hbA hS (inb_in hi7) dLw_law_161 ?_
  refine lv_aload_n hx hb dLw_law_162 rfl (lv_at hl 1 rfl) ?_
  refine lv_iload hx hb dLw_law_163 (lv_at hl 5 rfl) ?_
  refine lv_iconst (v := 2) hx hb dLw_law_165 (by decide) ?_
  refine lv_iadd hx hb dLw_law_166 ?_
  obtain ⟨hi8, h⟩ := ck_some h
  refine va_sld hx hb hX hbl hbA hS (inb_in hi8) dLw_law_167 ?_
  refine lv_aload_n hx hb dLw_law_168 rfl (lv_at hl 1 rfl) ?_
  refine lv_iload hx hb dLw_law_169 (lv_at hl 5 rfl) ?_
  refine lv_iconst (v := 3) hx hb dLw_law_171 (by decide) ?_
  refine lv_iadd hx hb dLw_law_172 ?_
  obtain ⟨hi9, h⟩ := ck_some h
  refine va_sld hx hb hX hbl hbA hS (inb_in hi9) dLw_law_173 ?_
  refine lv_i2l (v := (xs (x4 + (3 : Int32)).toNatClampNeg).toInt64) hx hb dLw_law_174 rfl ?_
  refine lv_bipush (v := 32) hx hb dLw_law_175 (by decide) ?_
  refine lv_lshl (v := ((xs (x4 + (3 : Int32)).toNatClampNeg).toInt64) <<< ((32 : Int32).toInt64 &&& 63)) hx hb dLw_law_177 rfl ?_
  refine lv_aload_n hx hb dLw_law_178 rfl (lv_at hl 1 rfl) ?_
  refine lv_iload hx hb dLw_law_179 (lv_at hl 5 rfl) ?_
  refine lv_iconst (v := 4) hx hb dLw_law_181 (by decide) ?_
  refine lv_iadd hx hb dLw_law_182 ?_
  obtain ⟨hi10, h⟩ := ck_some h
  refine va_sld hx hb hX hbl hbA hS (inb_in hi10) dLw_law_183 ?_
  refine lv_i2l (v := (xs (x4 + (4 : Int32)).toNatClampNeg).toInt64) hx hb dLw_law_184 rfl ?_
  refine lv_ldc2 (v := 4294967295) hx hb hown (hts _ tw_1053) dLw_law_185 ?_
  refine lv_land hx hb dLw_law_188 ?_
  refine lv_lor hx hb dLw_law_189 ?_
  refine lv_aload_n hx hb dLw_law_190 rfl (lv_at hl 1 rfl) ?_
  refine lv_iload hx hb dLw_law_191 (lv_at hl 5 rfl) ?_
  refine lv_iconst (v := 5) hx hb dLw_law_193 (by decide) ?_
  refine lv_iadd hx hb dLw_law_194 ?_
  obtain ⟨hi11, h⟩ := ck_some h
  refine va_sld hx hb hX hbl hbA hS (inb_in hi11) dLw_law_195 ?_
  obtain ⟨u12, v12, hc12, h⟩ := bd2_some h
  refine z_ci (u := u6) (out := (u12, v12)) hA hD hS (va_runV (As := [.int (xs (x4 + (1 : Int32)).toNatClampNeg), .int (xs (x4 + (2 : Int32)).toNatClampNeg), .long ((((xs (x4 + (3 : Int32)).toNatClampNeg).toInt64) <<< ((32 : Int32).toInt64 &&& 63)) ||| (((xs (x4 + (4 : Int32)).toNatClampNeg).toInt64) &&& (4294967295 : Int64))), .int (xs (x4 + (5 : Int32)).toNatClampNeg)]) (rest := []) ⟨hx, hb, hml, hown, hts⟩ (ct_Md_put hal hN F u6 2048 (xs (x4 + (1 : Int32)).toNatClampNeg) (xs (x4 + (2 : Int32)).toNatClampNeg) ((((xs (x4 + (3 : Int32)).toNatClampNeg).toInt64) <<< ((32 : Int32).toInt64 &&& 63)) ||| (((xs (x4 + (4 : Int32)).toNatClampNeg).toInt64) &&& (4294967295 : Int64))) (xs (x4 + (5 : Int32)).toNatClampNeg) (u12, v12) hc12 f2 _) ⟨callB_of 4 hts gdMd_put rfl rfl rfl (hts _ tw_11) (hts _ tw_883) hdMd_put ⟨Nat.le_of_ble_eq_true rfl, Nat.le_of_ble_eq_true rfl⟩, (hts _ tw_884), (hts _ tw_885)⟩ (x_preV hK hD hNx hP (hal _ (okk_al f2)) (okk_t f2) rfl rfl) rfl rfl hl.1 rfl (lv_room (Nat.le_of_ble_eq_true rfl)) dLw_law_196 ⟨by show _ ≤ 601024; omega, by show _ ≤ 7293034; omega⟩) (fun t9 locs hB hS9 => ?_)
  clear hP hS
  generalize t9.heap = H at hB hS9 ⊢
  have hP := hB
  have hS := hS9
  clear hB hS9
  refine lv_istore (lv' := [(6, .int v12), (5, .int v6), (0, .ref b), (1, .ref (ad 64)), (2, .ref (ad 2048)), (3, .ref (ad 1408)), (4, .int x4)]) hx hb dLw_law_199 hl (by decide) rfl (fun ls hl => ?_)
  refine lv_aload_n hx hb dLw_law_201 rfl (lv_at hl 4 rfl) ?_
  obtain ⟨u13, v13, hc13, h⟩ := bd2_some h
  refine z_ci (u := u12) (out := (u13, v13)) hA hD hS (va_runV (As := []) (rest := []) ⟨hx, hb, hml, hown, hts⟩ (ct_Md_thrown hal hN F u12 2048 (u13, v13) hc13 f2 _) ⟨callB_of 0 hts gdMd_thrown rfl rfl rfl (hts _ tw_11) (hts _ tw_879) hdMd_thrown ⟨Nat.le_of_ble_eq_true rfl, Nat.le_of_ble_eq_true rfl⟩, (hts _ tw_880), (hts _ tw_881)⟩ (x_preV hK hD hNx hP (hal _ (okk_al f2)) (okk_t f2) rfl rfl) rfl rfl hl.1 rfl (lv_room (Nat.le_of_ble_eq_true rfl)) dLw_law_202 ⟨by show _ ≤ 601024; omega, by show _ ≤ 7293034; omega⟩) (fun t9 locs hB hS9 => ?_)
  clear hP hS
  generalize t9.heap = H at hB hS9 ⊢
  have hP := hB
  have hS := hS9
  clear hB hS9
  refine lv_iload hx hb dLw_law_205 (lv_at hl 1 rfl) ?_
  refine lv_icmp_eq (tgt := 212) hx hb dLw_law_207 rfl (fun hc => ?_) (fun hc => ?_)
  · replace h := it_t h hc
    refine lv_iload hx hb dLw_law_212 (lv_at hl 1 rfl) ?_
    refine lv_if_ne (tgt := 229) hx hb dLw_law_214 rfl (fun hc => ?_) (fun hc => ?_)
    · replace h := it_f h hc
      refine lv_goto (tgt := 870) hx hb dLw_law_229 rfl ?_
      obtain rfl := Option.some.inj h
      exact W.widen (by omega) (by omega) (hk _ _ _ (lv_sub hl [2, 3, 4, 5, 6] rfl) hP hS)
    · replace h := it_t h hc
      refine lv_aload_n hx hb dLw_law_217 rfl (lv_at hl 5 rfl) ?_
      refine lv_iconst (v := 0) hx hb dLw_law_218 (by decide) ?_
      refine x_lald hx hb hK hP (hal _ (okk_al f3)) (okk_t f3) 3 (fun _ _ _ => rfl) rfl (inb_in (show inb (0 : Int32) 1 = true by decide)) dLw_law_219 ?_
      refine lv_iload hx hb dLw_law_220 (lv_at hl 0 rfl) ?_
      refine lv_i2l (v := v12.toInt64) hx hb dLw_law_222 rfl ?_
      refine W.lcmp hx hb dLw_law_223 ?_
      refine lv_if_eq (tgt := 229) hx hb dLw_law_224 rfl (fun hc => ?_) (fun hc => ?_)
      · replace h := it_t h hc
        refine lv_goto (tgt := 870) hx hb dLw_law_229 rfl ?_
        obtain rfl := Option.some.inj h
        exact W.widen (by omega) (by omega) (hk _ _ _ (lv_sub hl [2, 3, 4, 5, 6] rfl) hP hS)
      · replace h := it_f h hc
        cases h
  · replace h := it_f h hc
    cases h
def sg_232 (F : Nat) (al : Nat → Bool) (xs : Nat → Int32) (Ls : Nat) (u : Mr) (x4 : Int32) : Option (Mr) := ck (inb (x4 + (1 : Int32)) Ls) (ck (inb (x4 + (2 : Int32)) Ls) (ck (inb (x4 + (3 : Int32)) Ls) (ck (inb (x4 + (4 : Int32)) Ls) (bd2 (fn_Lw_define F al u 64 (xs (x4 + (1 : Int32)).toNatClampNeg) (xs (x4 + (2 : Int32)).toNatClampNeg) (xs (x4 + (3 : Int32)).toNatClampNeg) (xs (x4 + (4 : Int32)).toNatClampNeg)) fun u5 v5 => (ck (inb (x4 + (1 : Int32)) Ls) (ck (inb (x4 + (2 : Int32)) Ls) (ck (inb (x4 + (3 : Int32)) Ls) (ck (inb (x4 + (4 : Int32)) Ls) (bd2 (fn_Md_define F al u5 2048 (xs (x4 + (1 : Int32)).toNatClampNeg) (xs (x4 + (2 : Int32)).toNatClampNeg) (xs (x4 + (3 : Int32)).toNatClampNeg) (xs (x4 + (4 : Int32)).toNatClampNeg)) fun u10 v10 => (bd2 (fn_Md_thrown F al u10 2048) fun u11 v11 => (if v11 = v5 then (some (u11)) else (none))))))))))))
set_option maxHeartbeats 4000000 in
set_option maxRecDepth 100000 in
theorem wsg_232 {x4 : Int32} (cl : CL p l s m b c D cA ad L rs al A Ls xs c0 s0) (F : Nat) (out : Mr) (hk : ∀ (H : Heap) (locs : List Loc) (ls : Array Slot), lv_has ls 7 (lvL b ad x4) → va_P D vwCl (ww ad cA L rs out) H → va_S A s.heap H locs → W p l e room_1 s m #[Value.ref b] below meth c H locs (c0 + 2) (s0 + 14) Q (F0 m 870 ls [])) (u : Mr) (H : Heap) (locs : List Loc) (ls : Array Slot) (h : sg_232 F al xs Ls u x4 = some out) (hl : lv_has ls 7 (lvL b ad x4)) (hP : va_P D vwCl (ww ad cA L rs u) H) (hS : va_S A s.heap H locs) : W p l e room_1 s m #[Value.ref b] below meth c H locs c0 s0 Q (F0 m 232 ls []) := by
  obtain ⟨hx, hb, hml, hown, hts, hK, hA, hD, hN, hal, hNx, hlt, hz1, hz2, hny, hnq, hX, hbl, hbA, f1, f2, f3, hc0, hs0⟩ := cl

  unfold sg_232 at h
  refine lv_aload_n hx hb dLw_law_232 rfl (lv_at hl 1 rfl) ?_
  refine lv_aload_n hx hb dLw_law_233 rfl (lv_at hl 0 rfl) ?_
  refine lv_iload hx hb dLw_law_234 (lv_at hl 4 rfl) ?_
  refine lv_iconst (v := 1) hx hb dLw_law_236 (by decide) ?_
  refine lv_iadd hx hb dLw_law_237 ?_
  obtain ⟨hi1, h⟩ := ck_some h
  refine va_sld hx hb hX hbl hbA hS (inb_in hi1) dLw_law_238 ?_
  refine lv_aload_n hx hb dLw_law_239 rfl (lv_at hl 0 rfl) ?_
  refine lv_iload hx hb dLw_law_240 (lv_at hl 4 rfl) ?_
  refine lv_iconst (v := 2) hx hb dLw_law_242 (by decide) ?_
  refine lv_iadd hx hb dLw_law_243 ?_
  obtain ⟨hi2, h⟩ := ck_some h
  refine va_sld hx hb hX hbl hbA hS (inb_in hi2) dLw_law_244 ?_
  refine lv_aload_n hx hb dLw_law_245 rfl (lv_at hl 0 rfl) ?_
  refine lv_iload hx hb dLw_law_246 (lv_at hl 4 rfl) ?_
  refine lv_iconst (v := 3) hx hb dLw_law_248 (by decide) ?_
  refine lv_iadd hx hb dLw_law_249 ?_
  obtain ⟨hi3, h⟩ := ck_some h
  refine va_sld hx hb hX hbl hbA hS (inb_in hi3) dLw_law_250 ?_
  refine lv_aload_n hx hb dLw_law_251 rfl (lv_at hl 0 rfl) ?_
  refine lv_iload hx hb dLw_law_252 (lv_at hl 4 rfl) ?_
  refine lv_iconst (v := 4) hx hb dLw_law_254 (by decide) ?_
  refine lv_iadd hx hb dLw_law_255 ?_
  obtain ⟨hi4, h⟩ := ck_some h
  refine va_sld hx hb hX hbl hbA hS (inb_in hi4) dLw_law_256 ?_
  obtain ⟨u5, v5, hc5, h⟩ := bd2_some h
  refine z_ci (u := u) (out := (u5, v5)) hA hD hS (x_runSW (As := [.ref (ad 64), .int (xs (x4 + (1 : Int32)).toNatClampNeg), .int (xs (x4 + (2 : Int32)).toNatClampNeg), .int (xs (x4 + (3 : Int32)).toNatClampNeg), .int (xs (x4 + (4 : Int32)).toNatClampNeg)]) (rest := []) ⟨hx, hb, hml, hown, hts⟩ (ct_Lw_define hlt hal hN F u 64 (xs (x4 + (1 : Int32)).toNatClampNeg) (xs (x4 + (2 : Int32)).toNatClampNeg) (xs (x4 + (3 : Int32)).toNatClampNeg) (xs (x4 + (4 : Int32)).toNatClampNeg) (u5, v5) hc5 f1 _) gdLw_define rfl rfl rfl (hts _ tw_0) (hts _ tw_341) hdLw_define ⟨Nat.le_of_ble_eq_true rfl, Nat.le_of_ble_eq_true rfl⟩ (hts _ tw_342) (x_preSH hK hD hNx hP hS hA hz1 hz2 hny hnq) rfl rfl hl.1 rfl (lv_room (Nat.le_of_ble_eq_true rfl)) dLw_law_257 ⟨by show _ ≤ 601024; omega, by show _ ≤ 7293034; omega⟩) (fun t9 locs hB hS9 => ?_)
  clear hP hS
  generalize t9.heap = H at hB hS9 ⊢
  have hP := hB
  have hS := hS9
  clear hB hS9
  refine lv_istore (lv' := [(5, .int v5), (0, .ref b), (1, .ref (ad 64)), (2, .ref (ad 2048)), (3, .ref (ad 1408)), (4, .int x4)]) hx hb dLw_law_260 hl (by decide) rfl (fun ls hl => ?_)
  refine lv_aload_n hx hb dLw_law_262 rfl (lv_at hl 3 rfl) ?_
  refine lv_aload_n hx hb dLw_law_263 rfl (lv_at hl 1 rfl) ?_
  refine lv_iload hx hb dLw_law_264 (lv_at hl 5 rfl) ?_
  refine lv_iconst (v := 1) hx hb dLw_law_266 (by decide) ?_
  refine lv_iadd hx hb dLw_law_267 ?_
  obtain ⟨hi6, h⟩ := ck_some h
  refine va_sld hx hb hX hbl hbA hS (inb_in hi6) dLw_law_268 ?_
  refine lv_aload_n hx hb dLw_law_269 rfl (lv_at hl 1 rfl) ?_
  refine lv_iload hx hb dLw_law_270 (lv_at hl 5 rfl) ?_
  refine lv_iconst (v := 2) hx hb dLw_law_272 (by decide) ?_
  refine lv_iadd hx hb dLw_law_273 ?_
  obtain ⟨hi7, h⟩ := ck_some h
  refine va_sld hx hb hX hbl hbA hS (inb_in hi7) dLw_law_274 ?_
  refine lv_aload_n hx hb dLw_law_275 rfl (lv_at hl 1 rfl) ?_
  refine lv_iload hx hb dLw_law_276 (lv_at hl 5 rfl) ?_
  refine lv_iconst (v := 3) hx hb dLw_law_278 (by decide) ?_
  refine lv_iadd hx hb dLw_law_279 ?_
  obtain ⟨hi8, h⟩ := ck_some h
  refine va_sld hx hb hX hbl hbA hS (inb_in hi8) dLw_law_280 ?_
  refine lv_aload_n hx hb dLw_law_281 rfl (lv_at hl 1 rfl) ?_
  refine lv_iload hx hb dLw_law_282 (lv_at hl 5 rfl) ?_
  refine lv_iconst (v := 4) hx hb dLw_law_284 (by decide) ?_
  refine lv_iadd hx hb dLw_law_285 ?_
  obtain ⟨hi9, h⟩ := ck_some h
  refine va_sld hx hb hX hbl hbA hS (inb_in hi9) dLw_law_286 ?_
  obtain ⟨u10, v10, hc10, h⟩ := bd2_some h
  refine z_cv (u := u5) (out := (u10, v10)) hA hD hS (va_runV (As := [.int (xs (x4 + (1 : Int32)).toNatClampNeg), .int (xs (x4 + (2 : Int32)).toNatClampNeg), .int (xs (x4 + (3 : Int32)).toNatClampNeg), .int (xs (x4 + (4 : Int32)).toNatClampNeg)]) (rest := []) ⟨hx, hb, hml, hown, hts⟩ (ct_Md_define hal hN F u5 2048 (xs (x4 + (1 : Int32)).toNatClampNeg) (xs (x4 + (2 : Int32)).toNatClampNeg) (xs (x4 + (3 : Int32)).toNatClampNeg) (xs (x4 + (4 : Int32)).toNatClampNeg) (u10, v10) hc10 f2 _) ⟨callB_of 4 hts gdMd_define rfl rfl rfl (hts _ tw_11) (hts _ tw_895) hdMd_define ⟨Nat.le_of_ble_eq_true rfl, Nat.le_of_ble_eq_true rfl⟩, (hts _ tw_896), (hts _ tw_897)⟩ (x_preV hK hD hNx hP (hal _ (okk_al f2)) (okk_t f2) rfl rfl) rfl rfl hl.1 rfl (lv_room (Nat.le_of_ble_eq_true rfl)) dLw_law_287 ⟨by show _ ≤ 601024; omega, by show _ ≤ 7293034; omega⟩) (fun t9 locs hB hS9 => ?_)
  clear hP hS
  generalize t9.heap = H at hB hS9 ⊢
  have hP := hB
  have hS := hS9
  clear hB hS9
  refine lv_aload_n hx hb dLw_law_290 rfl (lv_at hl 3 rfl) ?_
  obtain ⟨u11, v11, hc11, h⟩ := bd2_some h
  refine z_ci (u := u10) (out := (u11, v11)) hA hD hS (va_runV (As := []) (rest := []) ⟨hx, hb, hml, hown, hts⟩ (ct_Md_thrown hal hN F u10 2048 (u11, v11) hc11 f2 _) ⟨callB_of 0 hts gdMd_thrown rfl rfl rfl (hts _ tw_11) (hts _ tw_879) hdMd_thrown ⟨Nat.le_of_ble_eq_true rfl, Nat.le_of_ble_eq_true rfl⟩, (hts _ tw_880), (hts _ tw_881)⟩ (x_preV hK hD hNx hP (hal _ (okk_al f2)) (okk_t f2) rfl rfl) rfl rfl hl.1 rfl (lv_room (Nat.le_of_ble_eq_true rfl)) dLw_law_291 ⟨by show _ ≤ 601024; omega, by show _ ≤ 7293034; omega⟩) (fun t9 locs hB hS9 => ?_)
  clear hP hS
  generalize t9.heap = H at hB hS9 ⊢
  have hP := hB
  have hS := hS9
  clear hB hS9
  refine lv_iload hx hb dLw_law_294 (lv_at hl 0 rfl) ?_
  refine lv_icmp_eq (tgt := 301) hx hb dLw_law_296 rfl (fun hc => ?_) (fun hc => ?_)
  · replace h := it_t h hc
    refine lv_goto (tgt := 870) hx hb dLw_law_301 rfl ?_
    obtain rfl := Option.some.inj h
    exact W.widen (by omega) (by omega) (hk _ _ _ (lv_sub hl [1, 2, 3, 4, 5] rfl) hP hS)
  · replace h := it_f h hc
    cases h
def sg_388 (F : Nat) (al : Nat → Bool) (xs : Nat → Int32) (Ls : Nat) (u : Mr) (x4 : Int32) : Option (Mr) := ck (inb (x4 + (1 : Int32)) Ls) (ck (inb (x4 + (2 : Int32)) Ls) (ck (inb (x4 + (3 : Int32)) Ls) (bd2 (fn_Lw_imported F al u 64 (xs (x4 + (1 : Int32)).toNatClampNeg) (xs (x4 + (2 : Int32)).toNatClampNeg) (xs (x4 + (3 : Int32)).toNatClampNeg)) fun u4 v4 => (ck (inb (x4 + (1 : Int32)) Ls) (ck (inb (x4 + (2 : Int32)) Ls) (ck (inb (x4 + (3 : Int32)) Ls) (bd2 (fn_Md_imported F al u4 2048 (xs (x4 + (1 : Int32)).toNatClampNeg) (xs (x4 + (2 : Int32)).toNatClampNeg) (xs (x4 + (3 : Int32)).toNatClampNeg)) fun u8 v8 => (bd2 (fn_Md_thrown F al u8 2048) fun u9 v9 => (if v9 = v4 then (some (u9)) else (none))))))))))
set_option maxHeartbeats 4000000 in
set_option maxRecDepth 100000 in
theorem wsg_388 {x4 : Int32} (cl : CL p l s m b c D cA ad L rs al A Ls xs c0 s0) (F : Nat) (out : Mr) (hk : ∀ (H : Heap) (locs : List Loc) (ls : Array Slot), lv_has ls 7 (lvL b ad x4) → va_P D vwCl (ww ad cA L rs out) H → va_S A s.heap H locs → W p l e room_1 s m #[Value.ref b] below meth c H locs (c0 + 2) (s0 + 14) Q (F0 m 870 ls [])) (u : Mr) (H : Heap) (locs : List Loc) (ls : Array Slot) (h : sg_388 F al xs Ls u x4 = some out) (hl : lv_has ls 7 (lvL b ad x4)) (hP : va_P D vwCl (ww ad cA L rs u) H) (hS : va_S A s.heap H locs) : W p l e room_1 s m #[Value.ref b] below meth c H locs c0 s0 Q (F0 m 388 ls []) := by
  obtain ⟨hx, hb, hml, hown, hts, hK, hA, hD, hN, hal, hNx, hlt, hz1, hz2, hny, hnq, hX, hbl, hbA, f1, f2, f3, hc0, hs0⟩ := cl

  unfold sg_388 at h
  refine lv_aload_n hx hb dLw_law_388 rfl (lv_at hl 1 rfl) ?_
  refine lv_aload_n hx hb dLw_law_389 rfl (lv_at hl 0 rfl) ?_
  refine lv_iload hx hb dLw_law_390 (lv_at hl 4 rfl) ?_
  refine lv_iconst (v := 1) hx hb dLw_law_392 (by decide) ?_
  refine lv_iadd hx hb dLw_law_393 ?_
  obtain ⟨hi1, h⟩ := ck_some h
  refine va_sld hx hb hX hbl hbA hS (inb_in hi1) dLw_law_394 ?_
  refine lv_aload_n hx hb dLw_law_395 rfl (lv_at hl 0 rfl) ?_
  refine lv_iload hx hb dLw_law_396 (lv_at hl 4 rfl) ?_
  refine lv_iconst (v := 2) hx hb dLw_law_398 (by decide) ?_
  refine lv_iadd hx hb dLw_law_399 ?_
  obtain ⟨hi2, h⟩ := ck_some h
  refine va_sld hx hb hX hbl hbA hS (inb_in hi2) dLw_law_400 ?_
  refine lv_aload_n hx hb dLw_law_401 rfl (lv_at hl 0 rfl) ?_
  refine lv_iload hx hb dLw_law_402 (lv_at hl 4 rfl) ?_
  refine lv_iconst (v := 3) hx hb dLw_law_404 (by decide) ?_
  refine lv_iadd hx hb dLw_law_405 ?_
  obtain ⟨hi3, h⟩ := ck_some h
  refine va_sld hx hb hX hbl hbA hS (inb_in hi3) dLw_law_406 ?_
  obtain ⟨u4, v4, hc4, h⟩ := bd2_some h
  refine z_ci (u := u) (out := (u4, v4)) hA hD hS (x_runSW (As := [.ref (ad 64), .int (xs (x4 + (1 : Int32)).toNatClampNeg), .int (xs (x4 + (2 : Int32)).toNatClampNeg), .int (xs (x4 + (3 : Int32)).toNatClampNeg)]) (rest := []) ⟨hx, hb, hml, hown, hts⟩ (ct_Lw_imported hlt hal hN F u 64 (xs (x4 + (1 : Int32)).toNatClampNeg) (xs (x4 + (2 : Int32)).toNatClampNeg) (xs (x4 + (3 : Int32)).toNatClampNeg) (u4, v4) hc4 f1 _) gdLw_imported rfl rfl rfl (hts _ tw_0) (hts _ tw_486) hdLw_imported ⟨Nat.le_of_ble_eq_true rfl, Nat.le_of_ble_eq_true rfl⟩ (hts _ tw_487) (x_preSH hK hD hNx hP hS hA hz1 hz2 hny hnq) rfl rfl hl.1 rfl (lv_room (Nat.le_of_ble_eq_true rfl)) dLw_law_407 ⟨by show _ ≤ 601024; omega, by show _ ≤ 7293034; omega⟩) (fun t9 locs hB hS9 => ?_)
  clear hP hS
  generalize t9.heap = H at hB hS9 ⊢
  have hP := hB
  have hS := hS9
  clear hB hS9
  refine lv_istore (lv' := [(5, .int v4), (0, .ref b), (1, .ref (ad 64)), (2, .ref (ad 2048)), (3, .ref (ad 1408)), (4, .int x4)]) hx hb dLw_law_410 hl (by decide) rfl (fun ls hl => ?_)
  refine lv_aload_n hx hb dLw_law_412 rfl (lv_at hl 3 rfl) ?_
  refine lv_aload_n hx hb dLw_law_413 rfl (lv_at hl 1 rfl) ?_
  refine lv_iload hx hb dLw_law_414 (lv_at hl 5 rfl) ?_
  refine lv_iconst (v := 1) hx hb dLw_law_416 (by decide) ?_
  refine lv_iadd hx hb dLw_law_417 ?_
  obtain ⟨hi5, h⟩ := ck_some h
  refine va_sld hx hb hX hbl hbA hS (inb_in hi5) dLw_law_418 ?_
  refine lv_aload_n hx hb dLw_law_419 rfl (lv_at hl 1 rfl) ?_
  refine lv_iload hx hb dLw_law_420 (lv_at hl 5 rfl) ?_
  refine lv_iconst (v := 2) hx hb dLw_law_422 (by decide) ?_
  refine lv_iadd hx hb dLw_law_423 ?_
  obtain ⟨hi6, h⟩ := ck_some h
  refine va_sld hx hb hX hbl hbA hS (inb_in hi6) dLw_law_424 ?_
  refine lv_aload_n hx hb dLw_law_425 rfl (lv_at hl 1 rfl) ?_
  refine lv_iload hx hb dLw_law_426 (lv_at hl 5 rfl) ?_
  refine lv_iconst (v := 3) hx hb dLw_law_428 (by decide) ?_
  refine lv_iadd hx hb dLw_law_429 ?_
  obtain ⟨hi7, h⟩ := ck_some h
  refine va_sld hx hb hX hbl hbA hS (inb_in hi7) dLw_law_430 ?_
  obtain ⟨u8, v8, hc8, h⟩ := bd2_some h
  refine z_cv (u := u4) (out := (u8, v8)) hA hD hS (va_runV (As := [.int (xs (x4 + (1 : Int32)).toNatClampNeg), .int (xs (x4 + (2 : Int32)).toNatClampNeg), .int (xs (x4 + (3 : Int32)).toNatClampNeg)]) (rest := []) ⟨hx, hb, hml, hown, hts⟩ (ct_Md_imported hal hN F u4 2048 (xs (x4 + (1 : Int32)).toNatClampNeg) (xs (x4 + (2 : Int32)).toNatClampNeg) (xs (x4 + (3 : Int32)).toNatClampNeg) (u8, v8) hc8 f2 _) ⟨callB_of 3 hts gdMd_imported rfl rfl rfl (hts _ tw_11) (hts _ tw_907) hdMd_imported ⟨Nat.le_of_ble_eq_true rfl, Nat.le_of_ble_eq_true rfl⟩, (hts _ tw_908), (hts _ tw_909)⟩ (x_preV hK hD hNx hP (hal _ (okk_al f2)) (okk_t f2) rfl rfl) rfl rfl hl.1 rfl (lv_room (Nat.le_of_ble_eq_true rfl)) dLw_law_431 ⟨by show _ ≤ 601024; omega, by show _ ≤ 7293034; omega⟩) (fun t9 locs hB hS9 => ?_)
  clear hP hS
  generalize t9.heap = H at hB hS9 ⊢
  have hP := hB
  have hS := hS9
  clear hB hS9
  refine lv_aload_n hx hb dLw_law_434 rfl (lv_at hl 3 rfl) ?_
  obtain ⟨u9, v9, hc9, h⟩ := bd2_some h
  refine z_ci (u := u8) (out := (u9, v9)) hA hD hS (va_runV (As := []) (rest := []) ⟨hx, hb, hml, hown, hts⟩ (ct_Md_thrown hal hN F u8 2048 (u9, v9) hc9 f2 _) ⟨callB_of 0 hts gdMd_thrown rfl rfl rfl (hts _ tw_11) (hts _ tw_879) hdMd_thrown ⟨Nat.le_of_ble_eq_true rfl, Nat.le_of_ble_eq_true rfl⟩, (hts _ tw_880), (hts _ tw_881)⟩ (x_preV hK hD hNx hP (hal _ (okk_al f2)) (okk_t f2) rfl rfl) rfl rfl hl.1 rfl (lv_room (Nat.le_of_ble_eq_true rfl)) dLw_law_435 ⟨by show _ ≤ 601024; omega, by show _ ≤ 7293034; omega⟩) (fun t9 locs hB hS9 => ?_)
  clear hP hS
  generalize t9.heap = H at hB hS9 ⊢
  have hP := hB
  have hS := hS9
  clear hB hS9
  refine lv_iload hx hb dLw_law_438 (lv_at hl 0 rfl) ?_
  refine lv_icmp_eq (tgt := 445) hx hb dLw_law_440 rfl (fun hc => ?_) (fun hc => ?_)
  · replace h := it_t h hc
    refine lv_goto (tgt := 870) hx hb dLw_law_445 rfl ?_
    obtain rfl := Option.some.inj h
    exact W.widen (by omega) (by omega) (hk _ _ _ (lv_sub hl [1, 2, 3, 4, 5] rfl) hP hS)
  · replace h := it_f h hc
    cases h
def sg_448 (F : Nat) (al : Nat → Bool) (xs : Nat → Int32) (Ls : Nat) (u : Mr) (x4 : Int32) : Option (Mr) := ck (inb (x4 + (1 : Int32)) Ls) (ck (inb (x4 + (2 : Int32)) Ls) (if (xs (x4 + (2 : Int32)).toNatClampNeg) = 0 then (bd2 (fn_Lw_exported F al u 64 (xs (x4 + (1 : Int32)).toNatClampNeg) (0 : Int32)) fun u3 v3 => (ck (inb (x4 + (1 : Int32)) Ls) (ck (inb (x4 + (2 : Int32)) Ls) (if (xs (x4 + (2 : Int32)).toNatClampNeg) = 0 then (bd2 (fn_Md_exported F al u3 2048 (xs (x4 + (1 : Int32)).toNatClampNeg) (0 : Int32)) fun u6 v6 => (bd2 (fn_Md_thrown F al u6 2048) fun u7 v7 => (if v7 = v3 then (some (u7)) else (none)))) else (bd2 (fn_Md_exported F al u3 2048 (xs (x4 + (1 : Int32)).toNatClampNeg) (1 : Int32)) fun u8 v8 => (bd2 (fn_Md_thrown F al u8 2048) fun u9 v9 => (if v9 = v3 then (some (u9)) else (none)))))))) else (bd2 (fn_Lw_exported F al u 64 (xs (x4 + (1 : Int32)).toNatClampNeg) (1 : Int32)) fun u10 v10 => (ck (inb (x4 + (1 : Int32)) Ls) (ck (inb (x4 + (2 : Int32)) Ls) (if (xs (x4 + (2 : Int32)).toNatClampNeg) = 0 then (bd2 (fn_Md_exported F al u10 2048 (xs (x4 + (1 : Int32)).toNatClampNeg) (0 : Int32)) fun u13 v13 => (bd2 (fn_Md_thrown F al u13 2048) fun u14 v14 => (if v14 = v10 then (some (u14)) else (none)))) else (bd2 (fn_Md_exported F al u10 2048 (xs (x4 + (1 : Int32)).toNatClampNeg) (1 : Int32)) fun u15 v15 => (bd2 (fn_Md_thrown F al u15 2048) fun u16 v16 => (if v16 = v10 then (some (u16)) else (none))))))))))
set_option maxHeartbeats 4000000 in
set_option maxRecDepth 100000 in
theorem wsg_448 {x4 : Int32} (cl : CL p l s m b c D cA ad L rs al A Ls xs c0 s0) (F : Nat) (out : Mr) (hk : ∀ (H : Heap) (locs : List Loc) (ls : Array Slot), lv_has ls 7 (lvL b ad x4) → va_P D vwCl (ww ad cA L rs out) H → va_S A s.heap H locs → W p l e room_1 s m #[Value.ref b] below meth c H locs (c0 + 2) (s0 + 14) Q (F0 m 870 ls [])) (u : Mr) (H : Heap) (locs : List Loc) (ls : Array Slot) (h : sg_448 F al xs Ls u x4 = some out) (hl : lv_has ls 7 (lvL b ad x4)) (hP : va_P D vwCl (ww ad cA L rs u) H) (hS : va_S A s.heap H locs) : W p l e room_1 s m #[Value.ref b] below meth c H locs c0 s0 Q (F0 m 448 ls []) := by
  obtain ⟨hx, hb, hml, hown, hts, hK, hA, hD, hN, hal, hNx, hlt, hz1, hz2, hny, hnq, hX, hbl, hbA, f1, f2, f3, hc0, hs0⟩ := cl

  unfold sg_448 at h
  refine lv_aload_n hx hb dLw_law_448 rfl (lv_at hl 1 rfl) ?_
  refine lv_aload_n hx hb dLw_law_449 rfl (lv_at hl 0 rfl) ?_
  refine lv_iload hx hb dLw_law_450 (lv_at hl 4 rfl) ?_
  refine lv_iconst (v := 1) hx hb dLw_law_452 (by decide) ?_
  refine lv_iadd hx hb dLw_law_453 ?_
  obtain ⟨hi1, h⟩ := ck_some h
  refine va_sld hx hb hX hbl hbA hS (inb_in hi1) dLw_law_454 ?_
  refine lv_aload_n hx hb dLw_law_455 rfl (lv_at hl 0 rfl) ?_
  refine lv_iload hx hb dLw_law_456 (lv_at hl 4 rfl) ?_
  refine lv_iconst (v := 2) hx hb dLw_law_458 (by decide) ?_
  refine lv_iadd hx hb dLw_law_459 ?_
  obtain ⟨hi2, h⟩ := ck_some h
  refine va_sld hx hb hX hbl hbA hS (inb_in hi2) dLw_law_460 ?_
  refine lv_if_eq (tgt := 468) hx hb dLw_law_461 rfl (fun hc => ?_) (fun hc => ?_)
  · replace h := it_t h hc
    refine lv_iconst (v := 0) hx hb dLw_law_468 (by decide) ?_
    obtain ⟨u3, v3, hc3, h⟩ := bd2_some h
    refine z_ci (u := u) (out := (u3, v3)) hA hD hS (x_runSW (As := [.ref (ad 64), .int (xs (x4 + (1 : Int32)).toNatClampNeg), .int (0 : Int32)]) (rest := []) ⟨hx, hb, hml, hown, hts⟩ (ct_Lw_exported hlt hal hN F u 64 (xs (x4 + (1 : Int32)).toNatClampNeg) (0 : Int32) (u3, v3) hc3 f1 _) gdLw_exported rfl rfl rfl (hts _ tw_0) (hts _ tw_497) hdLw_exported ⟨Nat.le_of_ble_eq_true rfl, Nat.le_of_ble_eq_true rfl⟩ (hts _ tw_498) (x_preSH hK hD hNx hP hS hA hz1 hz2 hny hnq) rfl rfl hl.1 rfl (lv_room (Nat.le_of_ble_eq_true rfl)) dLw_law_469 ⟨by show _ ≤ 601024; omega, by show _ ≤ 7293034; omega⟩) (fun t9 locs hB hS9 => ?_)
    clear hP hS
    generalize t9.heap = H at hB hS9 ⊢
    have hP := hB
    have hS := hS9
    clear hB hS9
    refine lv_istore (lv' := [(5, .int v3), (0, .ref b), (1, .ref (ad 64)), (2, .ref (ad 2048)), (3, .ref (ad 1408)), (4, .int x4)]) hx hb dLw_law_472 hl (by decide) rfl (fun ls hl => ?_)
    refine lv_aload_n hx hb dLw_law_474 rfl (lv_at hl 3 rfl) ?_
    refine lv_aload_n hx hb dLw_law_475 rfl (lv_at hl 1 rfl) ?_
    refine lv_iload hx hb dLw_law_476 (lv_at hl 5 rfl) ?_
    refine lv_iconst (v := 1) hx hb dLw_law_478 (by decide) ?_
    refine lv_iadd hx hb dLw_law_479 ?_
    obtain ⟨hi4, h⟩ := ck_some h
    refine va_sld hx hb hX hbl hbA hS (inb_in hi4) dLw_law_480 ?_
    refine lv_aload_n hx hb dLw_law_481 rfl (lv_at hl 1 rfl) ?_
    refine lv_iload hx hb dLw_law_482 (lv_at hl 5 rfl) ?_
    refine lv_iconst (v := 2) hx hb dLw_law_484 (by decide) ?_
    refine lv_iadd hx hb dLw_law_485 ?_
    obtain ⟨hi5, h⟩ := ck_some h
    refine va_sld hx hb hX hbl hbA hS (inb_in hi5) dLw_law_486 ?_
    refine lv_if_eq (tgt := 494) hx hb dLw_law_487 rfl (fun hc => ?_) (fun hc => ?_)
    · replace h := it_t h hc
      refine lv_iconst (v := 0) hx hb dLw_law_494 (by decide) ?_
      obtain ⟨u6, v6, hc6, h⟩ := bd2_some h
      refine z_cv (u := u3) (out := (u6, v6)) hA hD hS (va_runV (As := [.int (xs (x4 + (1 : Int32)).toNatClampNeg), .int (0 : Int32)]) (rest := []) ⟨hx, hb, hml, hown, hts⟩ (ct_Md_exported hal hN F u3 2048 (xs (x4 + (1 : Int32)).toNatClampNeg) (0 : Int32) (u6, v6) hc6 f2 _) ⟨callB_of 2 hts gdMd_exported rfl rfl rfl (hts _ tw_11) (hts _ tw_911) hdMd_exported ⟨Nat.le_of_ble_eq_true rfl, Nat.le_of_ble_eq_true rfl⟩, (hts _ tw_912), (hts _ tw_913)⟩ (x_preV hK hD hNx hP (hal _ (okk_al f2)) (okk_t f2) rfl rfl) rfl rfl hl.1 rfl (lv_room (Nat.le_of_ble_eq_true rfl)) dLw_law_495 ⟨by show _ ≤ 601024; omega, by show _ ≤ 7293034; omega⟩) (fun t9 locs hB hS9 => ?_)
      clear hP hS
      generalize t9.heap = H at hB hS9 ⊢
      have hP := hB
      have hS := hS9
      clear hB hS9
      refine lv_aload_n hx hb dLw_law_498 rfl (lv_at hl 3 rfl) ?_
      obtain ⟨u7, v7, hc7, h⟩ := bd2_some h
      refine z_ci (u := u6) (out := (u7, v7)) hA hD hS (va_runV (As := []) (rest := []) ⟨hx, hb, hml, hown, hts⟩ (ct_Md_thrown hal hN F u6 2048 (u7, v7) hc7 f2 _) ⟨callB_of 0 hts gdMd_thrown rfl rfl rfl (hts _ tw_11) (hts _ tw_879) hdMd_thrown ⟨Nat.le_of_ble_eq_true rfl, Nat.le_of_ble_eq_true rfl⟩, (hts _ tw_880), (hts _ tw_881)⟩ (x_preV hK hD hNx hP (hal _ (okk_al f2)) (okk_t f2) rfl rfl) rfl rfl hl.1 rfl (lv_room (Nat.le_of_ble_eq_true rfl)) dLw_law_499 ⟨by show _ ≤ 601024; omega, by show _ ≤ 7293034; omega⟩) (fun t9 locs hB hS9 => ?_)
      clear hP hS
      generalize t9.heap = H at hB hS9 ⊢
      have hP := hB
      have hS := hS9
      clear hB hS9
      refine lv_iload hx hb dLw_law_502 (lv_at hl 0 rfl) ?_
      refine lv_icmp_eq (tgt := 509) hx hb dLw_law_504 rfl (fun hc => ?_) (fun hc => ?_)
      · replace h := it_t h hc
        refine lv_goto (tgt := 870) hx hb dLw_law_509 rfl ?_
        obtain rfl := Option.some.inj h
        exact W.widen (by omega) (by omega) (hk _ _ _ (lv_sub hl [1, 2, 3, 4, 5] rfl) hP hS)
      · replace h := it_f h hc
        cases h
    · replace h := it_f h hc
      refine lv_iconst (v := 1) hx hb dLw_law_490 (by decide) ?_
      refine lv_goto (tgt := 495) hx hb dLw_law_491 rfl ?_
      obtain ⟨u8, v8, hc8, h⟩ := bd2_some h
      refine z_cv (u := u3) (out := (u8, v8)) hA hD hS (va_runV (As := [.int (xs (x4 + (1 : Int32)).toNatClampNeg), .int (1 : Int32)]) (rest := []) ⟨hx, hb, hml, hown, hts⟩ (ct_Md_exported hal hN F u3 2048 (xs (x4 + (1 : Int32)).toNatClampNeg) (1 : Int32) (u8, v8) hc8 f2 _) ⟨callB_of 2 hts gdMd_exported rfl rfl rfl (hts _ tw_11) (hts _ tw_911) hdMd_exported ⟨Nat.le_of_ble_eq_true rfl, Nat.le_of_ble_eq_true rfl⟩, (hts _ tw_912), (hts _ tw_913)⟩ (x_preV hK hD hNx hP (hal _ (okk_al f2)) (okk_t f2) rfl rfl) rfl rfl hl.1 rfl (lv_room (Nat.le_of_ble_eq_true rfl)) dLw_law_495 ⟨by show _ ≤ 601024; omega, by show _ ≤ 7293034; omega⟩) (fun t9 locs hB hS9 => ?_)
      clear hP hS
      generalize t9.heap = H at hB hS9 ⊢
      have hP := hB
      have hS := hS9
      clear hB hS9
      refine lv_aload_n hx hb dLw_law_498 rfl (lv_at hl 3 rfl) ?_
      obtain ⟨u9, v9, hc9, h⟩ := bd2_some h
      refine z_ci (u := u8) (out := (u9, v9)) hA hD hS (va_runV (As := []) (rest := []) ⟨hx, hb, hml, hown, hts⟩ (ct_Md_thrown hal hN F u8 2048 (u9, v9) hc9 f2 _) ⟨callB_of 0 hts gdMd_thrown rfl rfl rfl (hts _ tw_11) (hts _ tw_879) hdMd_thrown ⟨Nat.le_of_ble_eq_true rfl, Nat.le_of_ble_eq_true rfl⟩, (hts _ tw_880), (hts _ tw_881)⟩ (x_preV hK hD hNx hP (hal _ (okk_al f2)) (okk_t f2) rfl rfl) rfl rfl hl.1 rfl (lv_room (Nat.le_of_ble_eq_true rfl)) dLw_law_499 ⟨by show _ ≤ 601024; omega, by show _ ≤ 7293034; omega⟩) (fun t9 locs hB hS9 => ?_)
      clear hP hS
      generalize t9.heap = H at hB hS9 ⊢
      have hP := hB
      have hS := hS9
      clear hB hS9
      refine lv_iload hx hb dLw_law_502 (lv_at hl 0 rfl) ?_
      refine lv_icmp_eq (tgt := 509) hx hb dLw_law_504 rfl (fun hc => ?_) (fun hc => ?_)
      · replace h := it_t h hc
        refine lv_goto (tgt := 870) hx hb dLw_law_509 rfl ?_
        obtain rfl := Option.some.inj h
        exact W.widen (by omega) (by omega) (hk _ _ _ (lv_sub hl [1, 2, 3, 4, 5] rfl) hP hS)
      · replace h := it_f h hc
        cases h
  · replace h := it_f h hc
    refine lv_iconst (v := 1) hx hb dLw_law_464 (by decide) ?_
    refine lv_goto (tgt := 469) hx hb dLw_law_465 rfl ?_
    obtain ⟨u10, v10, hc10, h⟩ := bd2_some h
    refine z_ci (u := u) (out := (u10, v10)) hA hD hS (x_runSW (As := [.ref (ad 64), .int (xs (x4 + (1 : Int32)).toNatClampNeg), .int (1 : Int32)]) (rest := []) ⟨hx, hb, hml, hown, hts⟩ (ct_Lw_exported hlt hal hN F u 64 (xs (x4 + (1 : Int32)).toNatClampNeg) (1 : Int32) (u10, v10) hc10 f1 _) gdLw_exported rfl rfl rfl (hts _ tw_0) (hts _ tw_497) hdLw_exported ⟨Nat.le_of_ble_eq_true rfl, Nat.le_of_ble_eq_true rfl⟩ (hts _ tw_498) (x_preSH hK hD hNx hP hS hA hz1 hz2 hny hnq) rfl rfl hl.1 rfl (lv_room (Nat.le_of_ble_eq_true rfl)) dLw_law_469 ⟨by show _ ≤ 601024; omega, by show _ ≤ 7293034; omega⟩) (fun t9 locs hB hS9 => ?_)
    clear hP hS
    generalize t9.heap = H at hB hS9 ⊢
    have hP := hB
    have hS := hS9
    clear hB hS9
    refine lv_istore (lv' := [(5, .int v10), (0, .ref b), (1, .ref (ad 64)), (2, .ref (ad 2048)), (3, .ref (ad 1408)), (4, .int x4)]) hx hb dLw_law_472 hl (by decide) rfl (fun ls hl => ?_)
    refine lv_aload_n hx hb dLw_law_474 rfl (lv_at hl 3 rfl) ?_
    refine lv_aload_n hx hb dLw_law_475 rfl (lv_at hl 1 rfl) ?_
    refine lv_iload hx hb dLw_law_476 (lv_at hl 5 rfl) ?_
    refine lv_iconst (v := 1) hx hb dLw_law_478 (by decide) ?_
    refine lv_iadd hx hb dLw_law_479 ?_
    obtain ⟨hi11, h⟩ := ck_some h
    refine va_sld hx hb hX hbl hbA hS (inb_in hi11) dLw_law_480 ?_
    refine lv_aload_n hx hb dLw_law_481 rfl (lv_at hl 1 rfl) ?_
    refine lv_iload hx hb dLw_law_482 (lv_at hl 5 rfl) ?_
    refine lv_iconst (v := 2) hx hb dLw_law_484 (by decide) ?_
    refine lv_iadd hx hb dLw_law_485 ?_
    obtain ⟨hi12, h⟩ := ck_some h
    refine va_sld hx hb hX hbl hbA hS (inb_in hi12) dLw_law_486 ?_
    refine lv_if_eq (tgt := 494) hx hb dLw_law_487 rfl (fun hc => ?_) (fun hc => ?_)
    · replace h := it_t h hc
      refine lv_iconst (v := 0) hx hb dLw_law_494 (by decide) ?_
      obtain ⟨u13, v13, hc13, h⟩ := bd2_some h
      refine z_cv (u := u10) (out := (u13, v13)) hA hD hS (va_runV (As := [.int (xs (x4 + (1 : Int32)).toNatClampNeg), .int (0 : Int32)]) (rest := []) ⟨hx, hb, hml, hown, hts⟩ (ct_Md_exported hal hN F u10 2048 (xs (x4 + (1 : Int32)).toNatClampNeg) (0 : Int32) (u13, v13) hc13 f2 _) ⟨callB_of 2 hts gdMd_exported rfl rfl rfl (hts _ tw_11) (hts _ tw_911) hdMd_exported ⟨Nat.le_of_ble_eq_true rfl, Nat.le_of_ble_eq_true rfl⟩, (hts _ tw_912), (hts _ tw_913)⟩ (x_preV hK hD hNx hP (hal _ (okk_al f2)) (okk_t f2) rfl rfl) rfl rfl hl.1 rfl (lv_room (Nat.le_of_ble_eq_true rfl)) dLw_law_495 ⟨by show _ ≤ 601024; omega, by show _ ≤ 7293034; omega⟩) (fun t9 locs hB hS9 => ?_)
      clear hP hS
      generalize t9.heap = H at hB hS9 ⊢
      have hP := hB
      have hS := hS9
      clear hB hS9
      refine lv_aload_n hx hb dLw_law_498 rfl (lv_at hl 3 rfl) ?_
      obtain ⟨u14, v14, hc14, h⟩ := bd2_some h
      refine z_ci (u := u13) (out := (u14, v14)) hA hD hS (va_runV (As := []) (rest := []) ⟨hx, hb, hml, hown, hts⟩ (ct_Md_thrown hal hN F u13 2048 (u14, v14) hc14 f2 _) ⟨callB_of 0 hts gdMd_thrown rfl rfl rfl (hts _ tw_11) (hts _ tw_879) hdMd_thrown ⟨Nat.le_of_ble_eq_true rfl, Nat.le_of_ble_eq_true rfl⟩, (hts _ tw_880), (hts _ tw_881)⟩ (x_preV hK hD hNx hP (hal _ (okk_al f2)) (okk_t f2) rfl rfl) rfl rfl hl.1 rfl (lv_room (Nat.le_of_ble_eq_true rfl)) dLw_law_499 ⟨by show _ ≤ 601024; omega, by show _ ≤ 7293034; omega⟩) (fun t9 locs hB hS9 => ?_)
      clear hP hS
      generalize t9.heap = H at hB hS9 ⊢
      have hP := hB
      have hS := hS9
      clear hB hS9
      refine lv_iload hx hb dLw_law_502 (lv_at hl 0 rfl) ?_
      refine lv_icmp_eq (tgt := 509) hx hb dLw_law_504 rfl (fun hc => ?_) (fun hc => ?_)
      · replace h := it_t h hc
        refine lv_goto (tgt := 870) hx hb dLw_law_509 rfl ?_
        obtain rfl := Option.some.inj h
        exact W.widen (by omega) (by omega) (hk _ _ _ (lv_sub hl [1, 2, 3, 4, 5] rfl) hP hS)
      · replace h := it_f h hc
        cases h
    · replace h := it_f h hc
      refine lv_iconst (v := 1) hx hb dLw_law_490 (by decide) ?_
      refine lv_goto (tgt := 495) hx hb dLw_law_491 rfl ?_
      obtain ⟨u15, v15, hc15, h⟩ := bd2_some h
      refine z_cv (u := u10) (out := (u15, v15)) hA hD hS (va_runV (As := [.int (xs (x4 + (1 : Int32)).toNatClampNeg), .int (1 : Int32)]) (rest := []) ⟨hx, hb, hml, hown, hts⟩ (ct_Md_exported hal hN F u10 2048 (xs (x4 + (1 : Int32)).toNatClampNeg) (1 : Int32) (u15, v15) hc15 f2 _) ⟨callB_of 2 hts gdMd_exported rfl rfl rfl (hts _ tw_11) (hts _ tw_911) hdMd_exported ⟨Nat.le_of_ble_eq_true rfl, Nat.le_of_ble_eq_true rfl⟩, (hts _ tw_912), (hts _ tw_913)⟩ (x_preV hK hD hNx hP (hal _ (okk_al f2)) (okk_t f2) rfl rfl) rfl rfl hl.1 rfl (lv_room (Nat.le_of_ble_eq_true rfl)) dLw_law_495 ⟨by show _ ≤ 601024; omega, by show _ ≤ 7293034; omega⟩) (fun t9 locs hB hS9 => ?_)
      clear hP hS
      generalize t9.heap = H at hB hS9 ⊢
      have hP := hB
      have hS := hS9
      clear hB hS9
      refine lv_aload_n hx hb dLw_law_498 rfl (lv_at hl 3 rfl) ?_
      obtain ⟨u16, v16, hc16, h⟩ := bd2_some h
      refine z_ci (u := u15) (out := (u16, v16)) hA hD hS (va_runV (As := []) (rest := []) ⟨hx, hb, hml, hown, hts⟩ (ct_Md_thrown hal hN F u15 2048 (u16, v16) hc16 f2 _) ⟨callB_of 0 hts gdMd_thrown rfl rfl rfl (hts _ tw_11) (hts _ tw_879) hdMd_thrown ⟨Nat.le_of_ble_eq_true rfl, Nat.le_of_ble_eq_true rfl⟩, (hts _ tw_880), (hts _ tw_881)⟩ (x_preV hK hD hNx hP (hal _ (okk_al f2)) (okk_t f2) rfl rfl) rfl rfl hl.1 rfl (lv_room (Nat.le_of_ble_eq_true rfl)) dLw_law_499 ⟨by show _ ≤ 601024; omega, by show _ ≤ 7293034; omega⟩) (fun t9 locs hB hS9 => ?_)
      clear hP hS
      generalize t9.heap = H at hB hS9 ⊢
      have hP := hB
      have hS := hS9
      clear hB hS9
      refine lv_iload hx hb dLw_law_502 (lv_at hl 0 rfl) ?_
      refine lv_icmp_eq (tgt := 509) hx hb dLw_law_504 rfl (fun hc => ?_) (fun hc => ?_)
      · replace h := it_t h hc
        refine lv_goto (tgt := 870) hx hb dLw_law_509 rfl ?_
        obtain rfl := Option.some.inj h
        exact W.widen (by omega) (by omega) (hk _ _ _ (lv_sub hl [1, 2, 3, 4, 5] rfl) hP hS)
      · replace h := it_f h hc
        cases h
def sg_512 (F : Nat) (al : Nat → Bool) (xs : Nat → Int32) (Ls : Nat) (u : Mr) (x4 : Int32) : Option (Mr) := bd2 (fn_Lw_link F al u 64 1408) fun u1 v1 => (bd2 (fn_Md_link F al u1 2048) fun u2 v2 => (bd2 (fn_Md_thrown F al u2 2048) fun u3 v3 => (if v3 = v1 then (if v1 = 0 then (if (lg_cmp (u3.2.2 1408 (0 : Int32)) v2.toInt64) = 0 then (some (u3)) else (none)) else (some (u3))) else (none))))
set_option maxHeartbeats 4000000 in
set_option maxRecDepth 100000 in
theorem wsg_512 {x4 : Int32} (cl : CL p l s m b c D cA ad L rs al A Ls xs c0 s0) (F : Nat) (out : Mr) (hk : ∀ (H : Heap) (locs : List Loc) (ls : Array Slot), lv_has ls 7 (lvL b ad x4) → va_P D vwCl (ww ad cA L rs out) H → va_S A s.heap H locs → W p l e room_1 s m #[Value.ref b] below meth c H locs (c0 + 2) (s0 + 14) Q (F0 m 870 ls [])) (u : Mr) (H : Heap) (locs : List Loc) (ls : Array Slot) (h : sg_512 F al xs Ls u x4 = some out) (hl : lv_has ls 7 (lvL b ad x4)) (hP : va_P D vwCl (ww ad cA L rs u) H) (hS : va_S A s.heap H locs) : W p l e room_1 s m #[Value.ref b] below meth c H locs c0 s0 Q (F0 m 512 ls []) := by
  obtain ⟨hx, hb, hml, hown, hts, hK, hA, hD, hN, hal, hNx, hlt, hz1, hz2, hny, hnq, hX, hbl, hbA, f1, f2, f3, hc0, hs0⟩ := cl

  unfold sg_512 at h
  refine lv_aload_n hx hb dLw_law_512 rfl (lv_at hl 1 rfl) ?_
  refine lv_aload_n hx hb dLw_law_513 rfl (lv_at hl 3 rfl) ?_
  obtain ⟨u1, v1, hc1, h⟩ := bd2_some h
  refine z_ci (u := u) (out := (u1, v1)) hA hD hS (x_runSW (As := [.ref (ad 64), .ref (ad 1408)]) (rest := []) ⟨hx, hb, hml, hown, hts⟩ (ct_Lw_link hlt hal hN F u 64 1408 (u1, v1) hc1 f1 f3 _) gdLw_link rfl rfl rfl (hts _ tw_0) (hts _ tw_505) hdLw_link ⟨Nat.le_of_ble_eq_true rfl, Nat.le_of_ble_eq_true rfl⟩ (hts _ tw_506) (x_preSH hK hD hNx hP hS hA hz1 hz2 hny hnq) rfl rfl hl.1 rfl (lv_room (Nat.le_of_ble_eq_true rfl)) dLw_law_514 ⟨by show _ ≤ 601024; omega, by show _ ≤ 7293034; omega⟩) (fun t9 locs hB hS9 => ?_)
  clear hP hS
  generalize t9.heap = H at hB hS9 ⊢
  have hP := hB
  have hS := hS9
  clear hB hS9
  refine lv_istore (lv' := [(5, .int v1), (0, .ref b), (1, .ref (ad 64)), (2, .ref (ad 2048)), (3, .ref (ad 1408)), (4, .int x4)]) hx hb dLw_law_517 hl (by decide) rfl (fun ls hl => ?_)
  refine lv_aload_n hx hb dLw_law_519 rfl (lv_at hl 3 rfl) ?_
  obtain ⟨u2, v2, hc2, h⟩ := bd2_some h
  refine z_ci (u := u1) (out := (u2, v2)) hA hD hS (va_runV (As := []) (rest := []) ⟨hx, hb, hml, hown, hts⟩ (ct_Md_link hal hN F u1 2048 (u2, v2) hc2 f2 _) ⟨callB_of 0 hts gdMd_link rfl rfl rfl (hts _ tw_11) (hts _ tw_919) hdMd_link ⟨Nat.le_of_ble_eq_true rfl, Nat.le_of_ble_eq_true rfl⟩, (hts _ tw_920), (hts _ tw_921)⟩ (x_preV hK hD hNx hP (hal _ (okk_al f2)) (okk_t f2) rfl rfl) rfl rfl hl.1 rfl (lv_room (Nat.le_of_ble_eq_true rfl)) dLw_law_520 ⟨by show _ ≤ 601024; omega, by show _ ≤ 7293034; omega⟩) (fun t9 locs hB hS9 => ?_)
  clear hP hS
  generalize t9.heap = H at hB hS9 ⊢
  have hP := hB
  have hS := hS9
  clear hB hS9
  refine lv_istore (lv' := [(6, .int v2), (5, .int v1), (0, .ref b), (1, .ref (ad 64)), (2, .ref (ad 2048)), (3, .ref (ad 1408)), (4, .int x4)]) hx hb dLw_law_523 hl (by decide) rfl (fun ls hl => ?_)
  refine lv_aload_n hx hb dLw_law_525 rfl (lv_at hl 4 rfl) ?_
  obtain ⟨u3, v3, hc3, h⟩ := bd2_some h
  refine z_ci (u := u2) (out := (u3, v3)) hA hD hS (va_runV (As := []) (rest := []) ⟨hx, hb, hml, hown, hts⟩ (ct_Md_thrown hal hN F u2 2048 (u3, v3) hc3 f2 _) ⟨callB_of 0 hts gdMd_thrown rfl rfl rfl (hts _ tw_11) (hts _ tw_879) hdMd_thrown ⟨Nat.le_of_ble_eq_true rfl, Nat.le_of_ble_eq_true rfl⟩, (hts _ tw_880), (hts _ tw_881)⟩ (x_preV hK hD hNx hP (hal _ (okk_al f2)) (okk_t f2) rfl rfl) rfl rfl hl.1 rfl (lv_room (Nat.le_of_ble_eq_true rfl)) dLw_law_526 ⟨by show _ ≤ 601024; omega, by show _ ≤ 7293034; omega⟩) (fun t9 locs hB hS9 => ?_)
  clear hP hS
  generalize t9.heap = H at hB hS9 ⊢
  have hP := hB
  have hS := hS9
  clear hB hS9
  refine lv_iload hx hb dLw_law_529 (lv_at hl 1 rfl) ?_
  refine lv_icmp_eq (tgt := 536) hx hb dLw_law_531 rfl (fun hc => ?_) (fun hc => ?_)
  · replace h := it_t h hc
    refine lv_iload hx hb dLw_law_536 (lv_at hl 1 rfl) ?_
    refine lv_if_ne (tgt := 553) hx hb dLw_law_538 rfl (fun hc => ?_) (fun hc => ?_)
    · replace h := it_f h hc
      refine lv_goto (tgt := 870) hx hb dLw_law_553 rfl ?_
      obtain rfl := Option.some.inj h
      exact W.widen (by omega) (by omega) (hk _ _ _ (lv_sub hl [2, 3, 4, 5, 6] rfl) hP hS)
    · replace h := it_t h hc
      refine lv_aload_n hx hb dLw_law_541 rfl (lv_at hl 5 rfl) ?_
      refine lv_iconst (v := 0) hx hb dLw_law_542 (by decide) ?_
      refine x_lald hx hb hK hP (hal _ (okk_al f3)) (okk_t f3) 3 (fun _ _ _ => rfl) rfl (inb_in (show inb (0 : Int32) 1 = true by decide)) dLw_law_543 ?_
      refine lv_iload hx hb dLw_law_544 (lv_at hl 0 rfl) ?_
      refine lv_i2l (v := v2.toInt64) hx hb dLw_law_546 rfl ?_
      refine W.lcmp hx hb dLw_law_547 ?_
      refine lv_if_eq (tgt := 553) hx hb dLw_law_548 rfl (fun hc => ?_) (fun hc => ?_)
      · replace h := it_t h hc
        refine lv_goto (tgt := 870) hx hb dLw_law_553 rfl ?_
        obtain rfl := Option.some.inj h
        exact W.widen (by omega) (by omega) (hk _ _ _ (lv_sub hl [2, 3, 4, 5, 6] rfl) hP hS)
      · replace h := it_f h hc
        cases h
  · replace h := it_f h hc
    cases h
def sg_556 (F : Nat) (al : Nat → Bool) (xs : Nat → Int32) (Ls : Nat) (u : Mr) (x4 : Int32) : Option (Mr) := ck (inb (x4 + (1 : Int32)) Ls) (bd2 (fn_Lw_image F al u 64 (xs (x4 + (1 : Int32)).toNatClampNeg) 1408) fun u2 v2 => (ck (inb (x4 + (1 : Int32)) Ls) (bd2 (fn_Md_image F al u2 2048 (xs (x4 + (1 : Int32)).toNatClampNeg)) fun u4 v4 => (bd2 (fn_Md_thrown F al u4 2048) fun u5 v5 => (if v5 = v2 then (if v2 = 0 then (if (lg_cmp (u5.2.2 1408 (0 : Int32)) v4.toInt64) = 0 then (some (u5)) else (none)) else (some (u5))) else (none))))))
set_option maxHeartbeats 4000000 in
set_option maxRecDepth 100000 in
theorem wsg_556 {x4 : Int32} (cl : CL p l s m b c D cA ad L rs al A Ls xs c0 s0) (F : Nat) (out : Mr) (hk : ∀ (H : Heap) (locs : List Loc) (ls : Array Slot), lv_has ls 7 (lvL b ad x4) → va_P D vwCl (ww ad cA L rs out) H → va_S A s.heap H locs → W p l e room_1 s m #[Value.ref b] below meth c H locs (c0 + 2) (s0 + 14) Q (F0 m 870 ls [])) (u : Mr) (H : Heap) (locs : List Loc) (ls : Array Slot) (h : sg_556 F al xs Ls u x4 = some out) (hl : lv_has ls 7 (lvL b ad x4)) (hP : va_P D vwCl (ww ad cA L rs u) H) (hS : va_S A s.heap H locs) : W p l e room_1 s m #[Value.ref b] below meth c H locs c0 s0 Q (F0 m 556 ls []) := by
  obtain ⟨hx, hb, hml, hown, hts, hK, hA, hD, hN, hal, hNx, hlt, hz1, hz2, hny, hnq, hX, hbl, hbA, f1, f2, f3, hc0, hs0⟩ := cl

  unfold sg_556 at h
  refine lv_aload_n hx hb dLw_law_556 rfl (lv_at hl 1 rfl) ?_
  refine lv_aload_n hx hb dLw_law_557 rfl (lv_at hl 0 rfl) ?_
  refine lv_iload hx hb dLw_law_558 (lv_at hl 4 rfl) ?_
  refine lv_iconst (v := 1) hx hb dLw_law_560 (by decide) ?_
  refine lv_iadd hx hb dLw_law_561 ?_
  obtain ⟨hi1, h⟩ := ck_some h
  refine va_sld hx hb hX hbl hbA hS (inb_in hi1) dLw_law_562 ?_
  refine lv_aload_n hx hb dLw_law_563 rfl (lv_at hl 3 rfl) ?_
  obtain ⟨u2, v2, hc2, h⟩ := bd2_some h
  refine z_ci (u := u) (out := (u2, v2)) hA hD hS (x_runSW (As := [.ref (ad 64), .int (xs (x4 + (1 : Int32)).toNatClampNeg), .ref (ad 1408)]) (rest := []) ⟨hx, hb, hml, hown, hts⟩ (ct_Lw_image hlt hal hN F u 64 (xs (x4 + (1 : Int32)).toNatClampNeg) 1408 (u2, v2) hc2 f1 f3 _) gdLw_image rfl rfl rfl (hts _ tw_0) (hts _ tw_664) hdLw_image ⟨Nat.le_of_ble_eq_true rfl, Nat.le_of_ble_eq_true rfl⟩ (hts _ tw_665) (x_preSH hK hD hNx hP hS hA hz1 hz2 hny hnq) rfl rfl hl.1 rfl (lv_room (Nat.le_of_ble_eq_true rfl)) dLw_law_564 ⟨by show _ ≤ 601024; omega, by show _ ≤ 7293034; omega⟩) (fun t9 locs hB hS9 => ?_)
  clear hP hS
  generalize t9.heap = H at hB hS9 ⊢
  have hP := hB
  have hS := hS9
  clear hB hS9
  refine lv_istore (lv' := [(5, .int v2), (0, .ref b), (1, .ref (ad 64)), (2, .ref (ad 2048)), (3, .ref (ad 1408)), (4, .int x4)]) hx hb dLw_law_567 hl (by decide) rfl (fun ls hl => ?_)
  refine lv_aload_n hx hb dLw_law_569 rfl (lv_at hl 3 rfl) ?_
  refine lv_aload_n hx hb dLw_law_570 rfl (lv_at hl 1 rfl) ?_
  refine lv_iload hx hb dLw_law_571 (lv_at hl 5 rfl) ?_
  refine lv_iconst (v := 1) hx hb dLw_law_573 (by decide) ?_
  refine lv_iadd hx hb dLw_law_574 ?_
  obtain ⟨hi3, h⟩ := ck_some h
  refine va_sld hx hb hX hbl hbA hS (inb_in hi3) dLw_law_575 ?_
  obtain ⟨u4, v4, hc4, h⟩ := bd2_some h
  refine z_ci (u := u2) (out := (u4, v4)) hA hD hS (va_runV (As := [.int (xs (x4 + (1 : Int32)).toNatClampNeg)]) (rest := []) ⟨hx, hb, hml, hown, hts⟩ (ct_Md_image hal hN F u2 2048 (xs (x4 + (1 : Int32)).toNatClampNeg) (u4, v4) hc4 f2 _) ⟨callB_of 1 hts gdMd_image rfl rfl rfl (hts _ tw_11) (hts _ tw_995) hdMd_image ⟨Nat.le_of_ble_eq_true rfl, Nat.le_of_ble_eq_true rfl⟩, (hts _ tw_996), (hts _ tw_997)⟩ (x_preV hK hD hNx hP (hal _ (okk_al f2)) (okk_t f2) rfl rfl) rfl rfl hl.1 rfl (lv_room (Nat.le_of_ble_eq_true rfl)) dLw_law_576 ⟨by show _ ≤ 601024; omega, by show _ ≤ 7293034; omega⟩) (fun t9 locs hB hS9 => ?_)
  clear hP hS
  generalize t9.heap = H at hB hS9 ⊢
  have hP := hB
  have hS := hS9
  clear hB hS9
  refine lv_istore (lv' := [(6, .int v4), (5, .int v2), (0, .ref b), (1, .ref (ad 64)), (2, .ref (ad 2048)), (3, .ref (ad 1408)), (4, .int x4)]) hx hb dLw_law_579 hl (by decide) rfl (fun ls hl => ?_)
  refine lv_aload_n hx hb dLw_law_581 rfl (lv_at hl 4 rfl) ?_
  obtain ⟨u5, v5, hc5, h⟩ := bd2_some h
  refine z_ci (u := u4) (out := (u5, v5)) hA hD hS (va_runV (As := []) (rest := []) ⟨hx, hb, hml, hown, hts⟩ (ct_Md_thrown hal hN F u4 2048 (u5, v5) hc5 f2 _) ⟨callB_of 0 hts gdMd_thrown rfl rfl rfl (hts _ tw_11) (hts _ tw_879) hdMd_thrown ⟨Nat.le_of_ble_eq_true rfl, Nat.le_of_ble_eq_true rfl⟩, (hts _ tw_880), (hts _ tw_881)⟩ (x_preV hK hD hNx hP (hal _ (okk_al f2)) (okk_t f2) rfl rfl) rfl rfl hl.1 rfl (lv_room (Nat.le_of_ble_eq_true rfl)) dLw_law_582 ⟨by show _ ≤ 601024; omega, by show _ ≤ 7293034; omega⟩) (fun t9 locs hB hS9 => ?_)
  clear hP hS
  generalize t9.heap = H at hB hS9 ⊢
  have hP := hB
  have hS := hS9
  clear hB hS9
  refine lv_iload hx hb dLw_law_585 (lv_at hl 1 rfl) ?_
  refine lv_icmp_eq (tgt := 592) hx hb dLw_law_587 rfl (fun hc => ?_) (fun hc => ?_)
  · replace h := it_t h hc
    refine lv_iload hx hb dLw_law_592 (lv_at hl 1 rfl) ?_
    refine lv_if_ne (tgt := 609) hx hb dLw_law_594 rfl (fun hc => ?_) (fun hc => ?_)
    · replace h := it_f h hc
      refine lv_goto (tgt := 870) hx hb dLw_law_609 rfl ?_
      obtain rfl := Option.some.inj h
      exact W.widen (by omega) (by omega) (hk _ _ _ (lv_sub hl [2, 3, 4, 5, 6] rfl) hP hS)
    · replace h := it_t h hc
      refine lv_aload_n hx hb dLw_law_597 rfl (lv_at hl 5 rfl) ?_
      refine lv_iconst (v := 0) hx hb dLw_law_598 (by decide) ?_
      refine x_lald hx hb hK hP (hal _ (okk_al f3)) (okk_t f3) 3 (fun _ _ _ => rfl) rfl (inb_in (show inb (0 : Int32) 1 = true by decide)) dLw_law_599 ?_
      refine lv_iload hx hb dLw_law_600 (lv_at hl 0 rfl) ?_
      refine lv_i2l (v := v4.toInt64) hx hb dLw_law_602 rfl ?_
      refine W.lcmp hx hb dLw_law_603 ?_
      refine lv_if_eq (tgt := 609) hx hb dLw_law_604 rfl (fun hc => ?_) (fun hc => ?_)
      · replace h := it_t h hc
        refine lv_goto (tgt := 870) hx hb dLw_law_609 rfl ?_
        obtain rfl := Option.some.inj h
        exact W.widen (by omega) (by omega) (hk _ _ _ (lv_sub hl [2, 3, 4, 5, 6] rfl) hP hS)
      · replace h := it_f h hc
        cases h
  · replace h := it_f h hc
    cases h
end

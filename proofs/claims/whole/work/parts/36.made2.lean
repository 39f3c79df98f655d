abbrev yMd_init : MethodName := ⟨"ImageForgeModel", "<init>", "()V"⟩
abbrev cMd_init : ByteArray := prog_10_method_1_code
abbrev wsMd_init : List Cond := .code yMd_init cMd_init 1 none :: bw
theorem gdMd_init : GoodIn bw wsMd_init := gd_of tw_780
theorem hdMd_init : yMd_init.cls ≠ "java/lang/invoke/MethodHandle" ∧ yMd_init.cls ≠ "java/lang/invoke/VarHandle" ∧ (parseMethodDescriptor yMd_init.desc).map (fun d => d.parameters.length) = some 0 := by decide +kernel
theorem dMd_init_0 : decode cMd_init 0 = .ok (.aload_n 0, 1) := by decide +kernel
theorem dMd_init_1 : decode cMd_init 1 = .ok (.invokespecial 1, 3) := by decide +kernel
theorem dMd_init_4 : decode cMd_init 4 = .ok (.aload_n 0, 1) := by decide +kernel
theorem dMd_init_5 : decode cMd_init 5 = .ok (.bipush 8, 2) := by decide +kernel
theorem dMd_init_7 : decode cMd_init 7 = .ok (.newarray .int, 2) := by decide +kernel
theorem dMd_init_9 : decode cMd_init 9 = .ok (.putfield 7, 3) := by decide +kernel
theorem dMd_init_12 : decode cMd_init 12 = .ok (.aload_n 0, 1) := by decide +kernel
theorem dMd_init_13 : decode cMd_init 13 = .ok (.sipush 320, 3) := by decide +kernel
theorem dMd_init_16 : decode cMd_init 16 = .ok (.newarray .int, 2) := by decide +kernel
theorem dMd_init_18 : decode cMd_init 18 = .ok (.putfield 13, 3) := by decide +kernel
theorem dMd_init_21 : decode cMd_init 21 = .ok (.aload_n 0, 1) := by decide +kernel
theorem dMd_init_22 : decode cMd_init 22 = .ok (.iconst 4, 1) := by decide +kernel
theorem dMd_init_23 : decode cMd_init 23 = .ok (.newarray .int, 2) := by decide +kernel
theorem dMd_init_25 : decode cMd_init 25 = .ok (.putfield 16, 3) := by decide +kernel
theorem dMd_init_28 : decode cMd_init 28 = .ok (.aload_n 0, 1) := by decide +kernel
theorem dMd_init_29 : decode cMd_init 29 = .ok (.bipush 24, 2) := by decide +kernel
theorem dMd_init_31 : decode cMd_init 31 = .ok (.newarray .int, 2) := by decide +kernel
theorem dMd_init_33 : decode cMd_init 33 = .ok (.putfield 19, 3) := by decide +kernel
theorem dMd_init_36 : decode cMd_init 36 = .ok (.aload_n 0, 1) := by decide +kernel
theorem dMd_init_37 : decode cMd_init 37 = .ok (.bipush 24, 2) := by decide +kernel
theorem dMd_init_39 : decode cMd_init 39 = .ok (.newarray .int, 2) := by decide +kernel
theorem dMd_init_41 : decode cMd_init 41 = .ok (.putfield 22, 3) := by decide +kernel
theorem dMd_init_44 : decode cMd_init 44 = .ok (.aload_n 0, 1) := by decide +kernel
theorem dMd_init_45 : decode cMd_init 45 = .ok (.bipush 24, 2) := by decide +kernel
theorem dMd_init_47 : decode cMd_init 47 = .ok (.newarray .int, 2) := by decide +kernel
theorem dMd_init_49 : decode cMd_init 49 = .ok (.putfield 25, 3) := by decide +kernel
theorem dMd_init_52 : decode cMd_init 52 = .ok (.aload_n 0, 1) := by decide +kernel
theorem dMd_init_53 : decode cMd_init 53 = .ok (.iconst 4, 1) := by decide +kernel
theorem dMd_init_54 : decode cMd_init 54 = .ok (.newarray .int, 2) := by decide +kernel
theorem dMd_init_56 : decode cMd_init 56 = .ok (.putfield 28, 3) := by decide +kernel
theorem dMd_init_59 : decode cMd_init 59 = .ok (.aload_n 0, 1) := by decide +kernel
theorem dMd_init_60 : decode cMd_init 60 = .ok (.bipush 32, 2) := by decide +kernel
theorem dMd_init_62 : decode cMd_init 62 = .ok (.newarray .int, 2) := by decide +kernel
theorem dMd_init_64 : decode cMd_init 64 = .ok (.putfield 31, 3) := by decide +kernel
theorem dMd_init_67 : decode cMd_init 67 = .ok (.aload_n 0, 1) := by decide +kernel
theorem dMd_init_68 : decode cMd_init 68 = .ok (.bipush 32, 2) := by decide +kernel
theorem dMd_init_70 : decode cMd_init 70 = .ok (.newarray .int, 2) := by decide +kernel
theorem dMd_init_72 : decode cMd_init 72 = .ok (.putfield 34, 3) := by decide +kernel
theorem dMd_init_75 : decode cMd_init 75 = .ok (.aload_n 0, 1) := by decide +kernel
theorem dMd_init_76 : decode cMd_init 76 = .ok (.bipush 32, 2) := by decide +kernel
theorem dMd_init_78 : decode cMd_init 78 = .ok (.newarray .int, 2) := by decide +kernel
theorem dMd_init_80 : decode cMd_init 80 = .ok (.putfield 37, 3) := by decide +kernel
theorem dMd_init_83 : decode cMd_init 83 = .ok (.aload_n 0, 1) := by decide +kernel
theorem dMd_init_84 : decode cMd_init 84 = .ok (.bipush 32, 2) := by decide +kernel
theorem dMd_init_86 : decode cMd_init 86 = .ok (.newarray .int, 2) := by decide +kernel
theorem dMd_init_88 : decode cMd_init 88 = .ok (.putfield 40, 3) := by decide +kernel
theorem dMd_init_91 : decode cMd_init 91 = .ok (.aload_n 0, 1) := by decide +kernel
theorem dMd_init_92 : decode cMd_init 92 = .ok (.bipush 16, 2) := by decide +kernel
theorem dMd_init_94 : decode cMd_init 94 = .ok (.newarray .int, 2) := by decide +kernel
theorem dMd_init_96 : decode cMd_init 96 = .ok (.putfield 43, 3) := by decide +kernel
theorem dMd_init_99 : decode cMd_init 99 = .ok (.aload_n 0, 1) := by decide +kernel
theorem dMd_init_100 : decode cMd_init 100 = .ok (.bipush 16, 2) := by decide +kernel
theorem dMd_init_102 : decode cMd_init 102 = .ok (.newarray .int, 2) := by decide +kernel
theorem dMd_init_104 : decode cMd_init 104 = .ok (.putfield 46, 3) := by decide +kernel
theorem dMd_init_107 : decode cMd_init 107 = .ok (.aload_n 0, 1) := by decide +kernel
theorem dMd_init_108 : decode cMd_init 108 = .ok (.bipush 16, 2) := by decide +kernel
theorem dMd_init_110 : decode cMd_init 110 = .ok (.newarray .boolean, 2) := by decide +kernel
theorem dMd_init_112 : decode cMd_init 112 = .ok (.putfield 49, 3) := by decide +kernel
theorem dMd_init_115 : decode cMd_init 115 = .ok (.aload_n 0, 1) := by decide +kernel
theorem dMd_init_116 : decode cMd_init 116 = .ok (.sipush 400, 3) := by decide +kernel
theorem dMd_init_119 : decode cMd_init 119 = .ok (.newarray .int, 2) := by decide +kernel
theorem dMd_init_121 : decode cMd_init 121 = .ok (.putfield 53, 3) := by decide +kernel
theorem dMd_init_124 : decode cMd_init 124 = .ok (.aload_n 0, 1) := by decide +kernel
theorem dMd_init_125 : decode cMd_init 125 = .ok (.sipush 2048, 3) := by decide +kernel
theorem dMd_init_128 : decode cMd_init 128 = .ok (.newarray .int, 2) := by decide +kernel
theorem dMd_init_130 : decode cMd_init 130 = .ok (.putfield 56, 3) := by decide +kernel
theorem dMd_init_133 : decode cMd_init 133 = .ok (.aload_n 0, 1) := by decide +kernel
theorem dMd_init_134 : decode cMd_init 134 = .ok (.sipush 2048, 3) := by decide +kernel
theorem dMd_init_137 : decode cMd_init 137 = .ok (.newarray .int, 2) := by decide +kernel
theorem dMd_init_139 : decode cMd_init 139 = .ok (.putfield 59, 3) := by decide +kernel
theorem dMd_init_142 : decode cMd_init 142 = .ok (.aload_n 0, 1) := by decide +kernel
theorem dMd_init_143 : decode cMd_init 143 = .ok (.iconst 5, 1) := by decide +kernel
theorem dMd_init_144 : decode cMd_init 144 = .ok (.newarray .int, 2) := by decide +kernel
theorem dMd_init_146 : decode cMd_init 146 = .ok (.putfield 62, 3) := by decide +kernel
theorem dMd_init_149 : decode cMd_init 149 = .ok (.aload_n 0, 1) := by decide +kernel
theorem dMd_init_150 : decode cMd_init 150 = .ok (.iconst 5, 1) := by decide +kernel
theorem dMd_init_151 : decode cMd_init 151 = .ok (.newarray .int, 2) := by decide +kernel
theorem dMd_init_153 : decode cMd_init 153 = .ok (.putfield 65, 3) := by decide +kernel
theorem dMd_init_156 : decode cMd_init 156 = .ok (.aload_n 0, 1) := by decide +kernel
theorem dMd_init_157 : decode cMd_init 157 = .ok (.bipush 8, 2) := by decide +kernel
theorem dMd_init_159 : decode cMd_init 159 = .ok (.newarray .int, 2) := by decide +kernel
theorem dMd_init_161 : decode cMd_init 161 = .ok (.putfield 68, 3) := by decide +kernel
theorem dMd_init_164 : decode cMd_init 164 = .ok (.aload_n 0, 1) := by decide +kernel
theorem dMd_init_165 : decode cMd_init 165 = .ok (.bipush 16, 2) := by decide +kernel
theorem dMd_init_167 : decode cMd_init 167 = .ok (.newarray .int, 2) := by decide +kernel
theorem dMd_init_169 : decode cMd_init 169 = .ok (.putfield 71, 3) := by decide +kernel
theorem dMd_init_172 : decode cMd_init 172 = .ok (.aload_n 0, 1) := by decide +kernel
theorem dMd_init_173 : decode cMd_init 173 = .ok (.sipush 2048, 3) := by decide +kernel
theorem dMd_init_176 : decode cMd_init 176 = .ok (.newarray .int, 2) := by decide +kernel
theorem dMd_init_178 : decode cMd_init 178 = .ok (.putfield 74, 3) := by decide +kernel
theorem dMd_init_181 : decode cMd_init 181 = .ok (.aload_n 0, 1) := by decide +kernel
theorem dMd_init_182 : decode cMd_init 182 = .ok (.sipush 2048, 3) := by decide +kernel
theorem dMd_init_185 : decode cMd_init 185 = .ok (.newarray .int, 2) := by decide +kernel
theorem dMd_init_187 : decode cMd_init 187 = .ok (.putfield 77, 3) := by decide +kernel
theorem dMd_init_190 : decode cMd_init 190 = .ok (.return_, 1) := by decide +kernel
section
variable {p : Program} {l : Launch} {e : Env} {s : State} {m : MethodId} {args : Array Value} {below : List Frame} {meth : Method} {c : Code} {D : va_G} {cA : Nat → ClassId} {ad : Nat → Nat} {L : List Nat} {rs : va_W} {al : Nat → Bool} {sl : Nat → Option Nat} {n0 : Nat} {A : Nat → Prop}
abbrev rm_Md_init : Room := { frames := 1, cells := 23, slots := 9210, locals := 30 }
def bk_Md_init_0 (F : Nat) (al : Nat → Bool) (sl : Nat → Option Nat) (n0 : Nat) (u : Mr) (x0 : Nat) : Option (Mr × Int32) := bd1 (alo al sl n0 33) fun y1 => (bd1 (alo al sl (n0 + 1) 34) fun y3 => (bd1 (alo al sl (n0 + 2) 35) fun y5 => (bd1 (alo al sl (n0 + 3) 36) fun y7 => (bd1 (alo al sl (n0 + 4) 36) fun y9 => (bd1 (alo al sl (n0 + 5) 36) fun y11 => (bd1 (alo al sl (n0 + 6) 35) fun y13 => (bd1 (alo al sl (n0 + 7) 37) fun y15 => (bd1 (alo al sl (n0 + 8) 37) fun y17 => (bd1 (alo al sl (n0 + 9) 37) fun y19 => (bd1 (alo al sl (n0 + 10) 37) fun y21 => (bd1 (alo al sl (n0 + 11) 38) fun y23 => (bd1 (alo al sl (n0 + 12) 38) fun y25 => (bd1 (alo al sl (n0 + 13) 39) fun y27 => (bd1 (alo al sl (n0 + 14) 40) fun y29 => (bd1 (alo al sl (n0 + 15) 41) fun y31 => (bd1 (alo al sl (n0 + 16) 41) fun y33 => (bd1 (alo al sl (n0 + 17) 42) fun y35 => (bd1 (alo al sl (n0 + 18) 42) fun y37 => (bd1 (alo al sl (n0 + 19) 33) fun y39 => (bd1 (alo al sl (n0 + 20) 38) fun y41 => (bd1 (alo al sl (n0 + 21) 41) fun y43 => (bd1 (alo al sl (n0 + 22) 41) fun y45 => (some (stR (clr (stR (clr (stR (clr (stR (clr (stR (clr (stR (clr (stR (clr (stR (clr (stR (clr (stR (clr (stR (clr (stR (clr (stR (clr (stR (clr (stR (clr (stR (clr (stR (clr (stR (clr (stR (clr (stR (clr (stR (clr (stR (clr (stR (clr u y1) x0 1 (some y1)) y3) x0 2 (some y3)) y5) x0 3 (some y5)) y7) x0 4 (some y7)) y9) x0 5 (some y9)) y11) x0 6 (some y11)) y13) x0 7 (some y13)) y15) x0 8 (some y15)) y17) x0 9 (some y17)) y19) x0 10 (some y19)) y21) x0 11 (some y21)) y23) x0 12 (some y23)) y25) x0 13 (some y25)) y27) x0 14 (some y27)) y29) x0 15 (some y29)) y31) x0 17 (some y31)) y33) x0 19 (some y33)) y35) x0 20 (some y35)) y37) x0 21 (some y37)) y39) x0 22 (some y39)) y41) x0 23 (some y41)) y43) x0 27 (some y43)) y45) x0 30 (some y45), 0))))))))))))))))))))))))
set_option maxHeartbeats 4000000 in
set_option maxRecDepth 100000 in
theorem wk_Md_init_0 (cx : Cx p l e s m args below meth c cMd_init 1 bw "ImageForgeModel" none D cA ad (Ln sl n0 L) rs (aln al sl n0) A) (cz : Cz s meth "<init>" ad L al sl n0 A) (F : Nat) (out : Mr × Int32) : ∀ (u : Mr) (x0 : Nat), bk_Md_init_0 F al sl n0 u x0 = some out → okk (aln al sl n0) 32 x0 = true → Wb p l e rm_Md_init s m args below meth c D cA ad (Ln sl n0 L) rs A (QVn below args s D cA ad (Ln sl (n0 + 23) L) rs A out 23 9210) 1 0 [(0, .ref (ad x0))] [] u := by
  obtain ⟨hx, hb, hml, hown, hts, hr, hlocks, hK, hA, hD, hN, hal, hNx⟩ := cx
  obtain ⟨hal0, hla, hsl, hnm, hdZ, hdT, hno, hny⟩ := cz
  intro u x0 h q0 H locs ls hl hP hS
  unfold bk_Md_init_0 at h
  refine lv_aload_n hx hb dMd_init_0 rfl (lv_at hl 0 rfl) ?_
  refine W.objInit hx hb hown (hts _ tw_781) (hts _ tw_33) (hts _ tw_34) rfl (hl.1.trans hml.symm) rfl dMd_init_1 (Nat.le_of_ble_eq_true rfl) (Nat.le_of_ble_eq_true rfl) ?_
  refine W.eq (g2 := F0 m 4 _ []) rfl ?_
  refine lv_aload_n hx hb dMd_init_4 rfl (lv_at hl 0 rfl) ?_
  refine lv_bipush (v := 8) hx hb dMd_init_5 (by decide) ?_
  replace h := bd1_some h
  obtain ⟨y1, hy2, h⟩ := h
  obtain ⟨hy2a, hy2b, hy2t⟩ := alo_some hy2
  clear hy2
  refine x_size hS.1 (fun hz => ?_)
  refine x_newa (atype := .int) (N := 8) hx hb (hts _ tw_58) hD hP hS hA (aln_out hla hy2b) hy2t (x_had hsl hy2a hz rfl) 0 (hK.2 0 _ rfl).2 rfl rfl (by decide) (by decide) (by decide) (Nat.le_of_ble_eq_true rfl) (Nat.le_of_ble_eq_true rfl) dMd_init_7 (fun H hP hD hS => ?_)
  rw [Ln_s (show (n0 + 1) = n0 + 1 from rfl) hy2a] at hP hD
  replace hN : (Ln sl (n0 + 1) L).Nodup := Ln_nd rfl hy2a (aln_out hla hy2b) hN
  replace hal := aln_in (sl := sl) hal0 (n0 + 1)
  replace q0 := okk_n (show n0 ≤ (n0 + 1) from Nat.le_add_right _ _) q0
  have hy2f := okk_new (al := al) (n := (n0 + 1)) hy2a (Nat.lt_succ_self _) hy2t
  refine W.widen (k := 1) (n := 8) (Nat.le_of_ble_eq_true rfl) (Nat.le_of_ble_eq_true rfl) ?_
  refine x_putF hx hb hts in_Md t_Md t_Md_ok nm_Md hown hK hD hN hP hS (hal _ (okk_al q0)) (okk_t q0) rfl rfl 1 (by decide) (hts _ tw_783) (fun _ h9 => h9) rfl hnm rfl (ty := .array .int) (v := .ref (ad y1)) (by decide +kernel) rfl rfl (Nat.le_of_ble_eq_true rfl) (stR (clr u y1) x0 1 (some y1)) stR_o (by rw [stR_up]; exact eq_32_1) dMd_init_9 (fun H locs hP hS => ?_)
  refine lv_aload_n hx hb dMd_init_12 rfl (lv_at hl 0 rfl) ?_
  refine lv_sipush (v := 320) hx hb dMd_init_13 (by decide) ?_
  replace h := bd1_some h
  obtain ⟨y3, hy4, h⟩ := h
  obtain ⟨hy4a, hy4b, hy4t⟩ := alo_some hy4
  clear hy4
  refine x_size (x_lo hsl hP hy2a (Nat.lt_succ_self _) rfl) (fun hz => ?_)
  refine x_newa (atype := .int) (N := 320) hx hb (hts _ tw_58) hD hP hS hA (aln_out hla hy4b) hy4t (x_had hsl hy4a hz rfl) 0 (hK.2 0 _ rfl).2 rfl rfl (by decide) (by decide) (by decide) (Nat.le_of_ble_eq_true rfl) (Nat.le_of_ble_eq_true rfl) dMd_init_16 (fun H hP hD hS => ?_)
  rw [Ln_s (show (n0 + 2) = (n0 + 1) + 1 from rfl) hy4a] at hP hD
  replace hN : (Ln sl (n0 + 2) L).Nodup := Ln_nd rfl hy4a (aln_out hla hy4b) hN
  replace hal := aln_in (sl := sl) hal0 (n0 + 2)
  replace q0 := okk_n (show (n0 + 1) ≤ (n0 + 2) from Nat.add_le_add_left (by decide) _) q0
  have hy4f := okk_new (al := al) (n := (n0 + 2)) hy4a (Nat.lt_succ_self _) hy4t
  refine W.widen (k := 2) (n := 328) (Nat.le_of_ble_eq_true rfl) (Nat.le_of_ble_eq_true rfl) ?_
  refine x_putF hx hb hts in_Md t_Md t_Md_ok nm_Md hown hK hD hN hP hS (hal _ (okk_al q0)) (okk_t q0) rfl rfl 2 (by decide) (hts _ tw_784) (fun _ h9 => h9) rfl hnm rfl (ty := .array .int) (v := .ref (ad y3)) (by decide +kernel) rfl rfl (Nat.le_of_ble_eq_true rfl) (stR (clr (stR (clr u y1) x0 1 (some y1)) y3) x0 2 (some y3)) stR_o (by rw [stR_up]; exact eq_32_2) dMd_init_18 (fun H locs hP hS => ?_)
  refine lv_aload_n hx hb dMd_init_21 rfl (lv_at hl 0 rfl) ?_
  refine lv_iconst (v := 4) hx hb dMd_init_22 (by decide) ?_
  replace h := bd1_some h
  obtain ⟨y5, hy6, h⟩ := h
  obtain ⟨hy6a, hy6b, hy6t⟩ := alo_some hy6
  clear hy6
  refine x_size (x_lo hsl hP hy4a (Nat.lt_succ_self _) rfl) (fun hz => ?_)
  refine x_newa (atype := .int) (N := 4) hx hb (hts _ tw_58) hD hP hS hA (aln_out hla hy6b) hy6t (x_had hsl hy6a hz rfl) 0 (hK.2 0 _ rfl).2 rfl rfl (by decide) (by decide) (by decide) (Nat.le_of_ble_eq_true rfl) (Nat.le_of_ble_eq_true rfl) dMd_init_23 (fun H hP hD hS => ?_)
  rw [Ln_s (show (n0 + 3) = (n0 + 2) + 1 from rfl) hy6a] at hP hD
  replace hN : (Ln sl (n0 + 3) L).Nodup := Ln_nd rfl hy6a (aln_out hla hy6b) hN
  replace hal := aln_in (sl := sl) hal0 (n0 + 3)
  replace q0 := okk_n (show (n0 + 2) ≤ (n0 + 3) from Nat.add_le_add_left (by decide) _) q0
  have hy6f := okk_new (al := al) (n := (n0 + 3)) hy6a (Nat.lt_succ_self _) hy6t
  refine W.widen (k := 3) (n := 332) (Nat.le_of_ble_eq_true rfl) (Nat.le_of_ble_eq_true rfl) ?_
  refine x_putF hx hb hts in_Md t_Md t_Md_ok nm_Md hown hK hD hN hP hS (hal _ (okk_al q0)) (okk_t q0) rfl rfl 3 (by decide) (hts _ tw_785) (fun _ h9 => h9) rfl hnm rfl (ty := .array .int) (v := .ref (ad y5)) (by decide +kernel) rfl rfl (Nat.le_of_ble_eq_true rfl) (stR (clr (stR (clr (stR (clr u y1) x0 1 (some y1)) y3) x0 2 (some y3)) y5) x0 3 (some y5)) stR_o (by rw [stR_up]; exact eq_32_3) dMd_init_25 (fun H locs hP hS => ?_)
  refine lv_aload_n hx hb dMd_init_28 rfl (lv_at hl 0 rfl) ?_
  refine lv_bipush (v := 24) hx hb dMd_init_29 (by decide) ?_
  replace h := bd1_some h
  obtain ⟨y7, hy8, h⟩ := h
  obtain ⟨hy8a, hy8b, hy8t⟩ := alo_some hy8
  clear hy8
  refine x_size (x_lo hsl hP hy6a (Nat.lt_succ_self _) rfl) (fun hz => ?_)
  refine x_newa (atype := .int) (N := 24) hx hb (hts _ tw_58) hD hP hS hA (aln_out hla hy8b) hy8t (x_had hsl hy8a hz rfl) 0 (hK.2 0 _ rfl).2 rfl rfl (by decide) (by decide) (by decide) (Nat.le_of_ble_eq_true rfl) (Nat.le_of_ble_eq_true rfl) dMd_init_31 (fun H hP hD hS => ?_)
  rw [Ln_s (show (n0 + 4) = (n0 + 3) + 1 from rfl) hy8a] at hP hD
  replace hN : (Ln sl (n0 + 4) L).Nodup := Ln_nd rfl hy8a (aln_out hla hy8b) hN
  replace hal := aln_in (sl := sl) hal0 (n0 + 4)
  replace q0 := okk_n (show (n0 + 3) ≤ (n0 + 4) from Nat.add_le_add_left (by decide) _) q0
  have hy8f := okk_new (al := al) (n := (n0 + 4)) hy8a (Nat.lt_succ_self _) hy8t
  refine W.widen (k := 4) (n := 356) (Nat.le_of_ble_eq_true rfl) (Nat.le_of_ble_eq_true rfl) ?_
  refine x_putF hx hb hts in_Md t_Md t_Md_ok nm_Md hown hK hD hN hP hS (hal _ (okk_al q0)) (okk_t q0) rfl rfl 4 (by decide) (hts _ tw_786) (fun _ h9 => h9) rfl hnm rfl (ty := .array .int) (v := .ref (ad y7)) (by decide +kernel) rfl rfl (Nat.le_of_ble_eq_true rfl) (stR (clr (stR (clr (stR (clr (stR (clr u y1) x0 1 (some y1)) y3) x0 2 (some y3)) y5) x0 3 (some y5)) y7) x0 4 (some y7)) stR_o (by rw [stR_up]; exact eq_32_4) dMd_init_33 (fun H locs hP hS => ?_)
  refine lv_aload_n hx hb dMd_init_36 rfl (lv_at hl 0 rfl) ?_
  refine lv_bipush (v := 24) hx hb dMd_init_37 (by decide) ?_
  replace h := bd1_some h
  obtain ⟨y9, hy10, h⟩ := h
  obtain ⟨hy10a, hy10b, hy10t⟩ := alo_some hy10
  clear hy10
  refine x_size (x_lo hsl hP hy8a (Nat.lt_succ_self _) rfl) (fun hz => ?_)
  refine x_newa (atype := .int) (N := 24) hx hb (hts _ tw_58) hD hP hS hA (aln_out hla hy10b) hy10t (x_had hsl hy10a hz rfl) 0 (hK.2 0 _ rfl).2 rfl rfl (by decide) (by decide) (by decide) (Nat.le_of_ble_eq_true rfl) (Nat.le_of_ble_eq_true rfl) dMd_init_39 (fun H hP hD hS => ?_)
  rw [Ln_s (show (n0 + 5) = (n0 + 4) + 1 from rfl) hy10a] at hP hD
  replace hN : (Ln sl (n0 + 5) L).Nodup := Ln_nd rfl hy10a (aln_out hla hy10b) hN
  replace hal := aln_in (sl := sl) hal0 (n0 + 5)
  replace q0 := okk_n (show (n0 + 4) ≤ (n0 + 5) from Nat.add_le_add_left (by decide) _) q0
  have hy10f := okk_new (al := al) (n := (n0 + 5)) hy10a (Nat.lt_succ_self _) hy10t
  refine W.widen (k := 5) (n := 380) (Nat.le_of_ble_eq_true rfl) (Nat.le_of_ble_eq_true rfl) ?_
  refine x_putF hx hb hts in_Md t_Md t_Md_ok nm_Md hown hK hD hN hP hS (hal _ (okk_al q0)) (okk_t q0) rfl rfl 5 (by decide) (hts _ tw_787) (fun _ h9 => h9) rfl hnm rfl (ty := .array .int) (v := .ref (ad y9)) (by decide +kernel) rfl rfl (Nat.le_of_ble_eq_true rfl) (stR (clr (stR (clr (stR (clr (stR (clr (stR (clr u y1) x0 1 (some y1)) y3) x0 2 (some y3)) y5) x0 3 (some y5)) y7) x0 4 (some y7)) y9) x0 5 (some y9)) stR_o (by rw [stR_up]; exact eq_32_5) dMd_init_41 (fun H locs hP hS => ?_)
  refine lv_aload_n hx hb dMd_init_44 rfl (lv_at hl 0 rfl) ?_
  refine lv_bipush (v := 24) hx hb dMd_init_45 (by decide) ?_
  replace h := bd1_some h
  obtain ⟨y11, hy12, h⟩ := h
  obtain ⟨hy12a, hy12b, hy12t⟩ := alo_some hy12
  clear hy12
  refine x_size (x_lo hsl hP hy10a (Nat.lt_succ_self _) rfl) (fun hz => ?_)
  refine x_newa (atype := .int) (N := 24) hx hb (hts _ tw_58) hD hP hS hA (aln_out hla hy12b) hy12t (x_had hsl hy12a hz rfl) 0 (hK.2 0 _ rfl).2 rfl rfl (by decide) (by decide) (by decide) (Nat.le_of_ble_eq_true rfl) (Nat.le_of_ble_eq_true rfl) dMd_init_47 (fun H hP hD hS => ?_)
  rw [Ln_s (show (n0 + 6) = (n0 + 5) + 1 from rfl) hy12a] at hP hD
  replace hN : (Ln sl (n0 + 6) L).Nodup := Ln_nd rfl hy12a (aln_out hla hy12b) hN
  replace hal := aln_in (sl := sl) hal0 (n0 + 6)
  replace q0 := okk_n (show (n0 + 5) ≤ (n0 + 6) from Nat.add_le_add_left (by decide) _) q0
  have hy12f := okk_new (al := al) (n := (n0 + 6)) hy12a (Nat.lt_succ_self _) hy12t
  refine W.widen (k := 6) (n := 404) (Nat.le_of_ble_eq_true rfl) (Nat.le_of_ble_eq_true rfl) ?_
  refine x_putF hx hb hts in_Md t_Md t_Md_ok nm_Md hown hK hD hN hP hS (hal _ (okk_al q0)) (okk_t q0) rfl rfl 6 (by decide) (hts _ tw_788) (fun _ h9 => h9) rfl hnm rfl (ty := .array .int) (v := .ref (ad y11)) (by decide +kernel) rfl rfl (Nat.le_of_ble_eq_true rfl) (stR (clr (stR (clr (stR (clr (stR (clr (stR (clr (stR (clr u y1) x0 1 (some y1)) y3) x0 2 (some y3)) y5) x0 3 (some y5)) y7) x0 4 (some y7)) y9) x0 5 (some y9)) y11) x0 6 (some y11)) stR_o (by rw [stR_up]; exact eq_32_6) dMd_init_49 (fun H locs hP hS => ?_)
  refine lv_aload_n hx hb dMd_init_52 rfl (lv_at hl 0 rfl) ?_
  refine lv_iconst (v := 4) hx hb dMd_init_53 (by decide) ?_
  replace h := bd1_some h
  obtain ⟨y13, hy14, h⟩ := h
  obtain ⟨hy14a, hy14b, hy14t⟩ := alo_some hy14
  clear hy14
  refine x_size (x_lo hsl hP hy12a (Nat.lt_succ_self _) rfl) (fun hz => ?_)
  refine x_newa (atype := .int) (N := 4) hx hb (hts _ tw_58) hD hP hS hA (aln_out hla hy14b) hy14t (x_had hsl hy14a hz rfl) 0 (hK.2 0 _ rfl).2 rfl rfl (by decide) (by decide) (by decide) (Nat.le_of_ble_eq_true rfl) (Nat.le_of_ble_eq_true rfl) dMd_init_54 (fun H hP hD hS => ?_)
  rw [Ln_s (show (n0 + 7) = (n0 + 6) + 1 from rfl) hy14a] at hP hD
  replace hN : (Ln sl (n0 + 7) L).Nodup := Ln_nd rfl hy14a (aln_out hla hy14b) hN
  replace hal := aln_in (sl := sl) hal0 (n0 + 7)
  replace q0 := okk_n (show (n0 + 6) ≤ (n0 + 7) from Nat.add_le_add_left (by decide) _) q0
  have hy14f := okk_new (al := al) (n := (n0 + 7)) hy14a (Nat.lt_succ_self _) hy14t
  refine W.widen (k := 7) (n := 408) (Nat.le_of_ble_eq_true rfl) (Nat.le_of_ble_eq_true rfl) ?_
  refine x_putF hx hb hts in_Md t_Md t_Md_ok nm_Md hown hK hD hN hP hS (hal _ (okk_al q0)) (okk_t q0) rfl rfl 7 (by decide) (hts _ tw_789) (fun _ h9 => h9) rfl hnm rfl (ty := .array .int) (v := .ref (ad y13)) (by decide +kernel) rfl rfl (Nat.le_of_ble_eq_true rfl) (stR (clr (stR (clr (stR (clr (stR (clr (stR (clr (stR (clr (stR (clr u y1) x0 1 (some y1)) y3) x0 2 (some y3)) y5) x0 3 (some y5)) y7) x0 4 (some y7)) y9) x0 5 (some y9)) y11) x0 6 (some y11)) y13) x0 7 (some y13)) stR_o (by rw [stR_up]; exact eq_32_7) dMd_init_56 (fun H locs hP hS => ?_)
  refine lv_aload_n hx hb dMd_init_59 rfl (lv_at hl 0 rfl) ?_
  refine lv_bipush (v := 32) hx hb dMd_init_60 (by decide) ?_
  replace h := bd1_some h
  obtain ⟨y15, hy16, h⟩ := h
  obtain ⟨hy16a, hy16b, hy16t⟩ := alo_some hy16
  clear hy16
  refine x_size (x_lo hsl hP hy14a (Nat.lt_succ_self _) rfl) (fun hz => ?_)
  refine x_newa (atype := .int) (N := 32) hx hb (hts _ tw_58) hD hP hS hA (aln_out hla hy16b) hy16t (x_had hsl hy16a hz rfl) 0 (hK.2 0 _ rfl).2 rfl rfl (by decide) (by decide) (by decide) (Nat.le_of_ble_eq_true rfl) (Nat.le_of_ble_eq_true rfl) dMd_init_62 (fun H hP hD hS => ?_)
  rw [Ln_s (show (n0 + 8) = (n0 + 7) + 1 from rfl) hy16a] at hP hD
  replace hN : (Ln sl (n0 + 8) L).Nodup := Ln_nd rfl hy16a (aln_out hla hy16b) hN
  replace hal := aln_in (sl := sl) hal0 (n0 + 8)
  replace q0 := okk_n (show (n0 + 7) ≤ (n0 + 8) from Nat.add_le_add_left (by decide) _) q0
  have hy16f := okk_new (al := al) (n := (n0 + 8)) hy16a (Nat.lt_succ_self _) hy16t
  refine W.widen (k := 8) (n := 440) (Nat.le_of_ble_eq_true rfl) (Nat.le_of_ble_eq_true rfl) ?_
  refine x_putF hx hb hts in_Md t_Md t_Md_ok nm_Md hown hK hD hN hP hS (hal _ (okk_al q0)) (okk_t q0) rfl rfl 8 (by decide) (hts _ tw_790) (fun _ h9 => h9) rfl hnm rfl (ty := .array .int) (v := .ref (ad y15)) (by decide +kernel) rfl rfl (Nat.le_of_ble_eq_true rfl) (stR (clr (stR (clr (stR (clr (stR (clr (stR (clr (stR (clr (stR (clr (stR (clr u y1) x0 1 (some y1)) y3) x0 2 (some y3)) y5) x0 3 (some y5)) y7) x0 4 (some y7)) y9) x0 5 (some y9)) y11) x0 6 (some y11)) y13) x0 7 (some y13)) y15) x0 8 (some y15)) stR_o (by rw [stR_up]; exact eq_32_8) dMd_init_64 (fun H locs hP hS => ?_)
  refine lv_aload_n hx hb dMd_init_67 rfl (lv_at hl 0 rfl) ?_
  refine lv_bipush (v := 32) hx hb dMd_init_68 (by decide) ?_
  replace h := bd1_some h
  obtain ⟨y17, hy18, h⟩ := h
  obtain ⟨hy18a, hy18b, hy18t⟩ := alo_some hy18
  clear hy18
  refine x_size (x_lo hsl hP hy16a (Nat.lt_succ_self _) rfl) (fun hz => ?_)
  refine x_newa (atype := .int) (N := 32) hx hb (hts _ tw_58) hD hP hS hA (aln_out hla hy18b) hy18t (x_had hsl hy18a hz rfl) 0 (hK.2 0 _ rfl).2 rfl rfl (by decide) (by decide) (by decide) (Nat.le_of_ble_eq_true rfl) (Nat.le_of_ble_eq_true rfl) dMd_init_70 (fun H hP hD hS => ?_)
  rw [Ln_s (show (n0 + 9) = (n0 + 8) + 1 from rfl) hy18a] at hP hD
  replace hN : (Ln sl (n0 + 9) L).Nodup := Ln_nd rfl hy18a (aln_out hla hy18b) hN
  replace hal := aln_in (sl := sl) hal0 (n0 + 9)
  replace q0 := okk_n (show (n0 + 8) ≤ (n0 + 9) from Nat.add_le_add_left (by decide) _) q0
  have hy18f := okk_new (al := al) (n := (n0 + 9)) hy18a (Nat.lt_succ_self _) hy18t
  refine W.widen (k := 9) (n := 472) (Nat.le_of_ble_eq_true rfl) (Nat.le_of_ble_eq_true rfl) ?_
  refine x_putF hx hb hts in_Md t_Md t_Md_ok nm_Md hown hK hD hN hP hS (hal _ (okk_al q0)) (okk_t q0) rfl rfl 9 (by decide) (hts _ tw_791) (fun _ h9 => h9) rfl hnm rfl (ty := .array .int) (v := .ref (ad y17)) (by decide +kernel) rfl rfl (Nat.le_of_ble_eq_true rfl) (stR (clr (stR (clr (stR (clr (stR (clr (stR (clr (stR (clr (stR (clr (stR (clr (stR (clr u y1) x0 1 (some y1)) y3) x0 2 (some y3)) y5) x0 3 (some y5)) y7) x0 4 (some y7)) y9) x0 5 (some y9)) y11) x0 6 (some y11)) y13) x0 7 (some y13)) y15) x0 8 (some y15)) y17) x0 9 (some y17)) stR_o (by rw [stR_up]; exact eq_32_9) dMd_init_72 (fun H locs hP hS => ?_)
  refine lv_aload_n hx hb dMd_init_75 rfl (lv_at hl 0 rfl) ?_
  refine lv_bipush (v := 32) hx hb dMd_init_76 (by decide) ?_
  replace h := bd1_some h
  obtain ⟨y19, hy20, h⟩ := h
  obtain ⟨hy20a, hy20b, hy20t⟩ := alo_some hy20
  clear hy20
  refine x_size (x_lo hsl hP hy18a (Nat.lt_succ_self _) rfl) (fun hz => ?_)
  refine x_newa (atype := .int) (N := 32) hx hb (hts _ tw_58) hD hP hS hA (aln_out hla hy20b) hy20t (x_had hsl hy20a hz rfl) 0 (hK.2 0 _ rfl).2 rfl rfl (by decide) (by decide) (by decide) (Nat.le_of_ble_eq_true rfl) (Nat.le_of_ble_eq_true rfl) dMd_init_78 (fun H hP hD hS => ?_)
  rw [Ln_s (show (n0 + 10) = (n0 + 9) + 1 from rfl) hy20a] at hP hD
  replace hN : (Ln sl (n0 + 10) L).Nodup := Ln_nd rfl hy20a (aln_out hla hy20b) hN
  replace hal := aln_in (sl := sl) hal0 (n0 + 10)
  replace q0 := okk_n (show (n0 + 9) ≤ (n0 + 10) from Nat.add_le_add_left (by decide) _) q0
  have hy20f := okk_new (al := al) (n := (n0 + 10)) hy20a (Nat.lt_succ_self _) hy20t
  refine W.widen (k := 10) (n := 504) (Nat.le_of_ble_eq_true rfl) (Nat.le_of_ble_eq_true rfl) ?_
  refine x_putF hx hb hts in_Md t_Md t_Md_ok nm_Md hown hK hD hN hP hS (hal _ (okk_al q0)) (okk_t q0) rfl rfl 10 (by decide) (hts _ tw_792) (fun _ h9 => h9) rfl hnm rfl (ty := .array .int) (v := .ref (ad y19)) (by decide +kernel) rfl rfl (Nat.le_of_ble_eq_true rfl) (stR (clr (stR (clr (stR (clr (stR (clr (stR (clr (stR (clr (stR (clr (stR (clr (stR (clr (stR (clr u y1) x0 1 (some y1)) y3) x0 2 (some y3)) y5) x0 3 (some y5)) y7) x0 4 (some y7)) y9) x0 5 (some y9)) y11) x0 6 (some y11)) y13) x0 7 (some y13)) y15) x0 8 (some y15)) y17) x0 9 (some y17)) y19) x0 10 (some y19)) stR_o (by rw [stR_up]; exact eq_32_10) dMd_init_80 (fun H locs hP hS => ?_)
  refine lv_aload_n hx hb dMd_init_83 rfl (lv_at hl 0 rfl) ?_
  refine lv_bipush (v := 32) hx hb dMd_init_84 (by decide) ?_
  replace h := bd1_some h
  obtain ⟨y21, hy22, h⟩ := h
  obtain ⟨hy22a, hy22b, hy22t⟩ := alo_some hy22
  clear hy22
  refine x_size (x_lo hsl hP hy20a (Nat.lt_succ_self _) rfl) (fun hz => ?_)
  refine x_newa (atype := .int) (N := 32) hx hb (hts _ tw_58) hD hP hS hA (aln_out hla hy22b) hy22t (x_had hsl hy22a hz rfl) 0 (hK.2 0 _ rfl).2 rfl rfl (by decide) (by decide) (by decide) (Nat.le_of_ble_eq_true rfl) (Nat.le_of_ble_eq_true rfl) dMd_init_86 (fun H hP hD hS => ?_)
  rw [Ln_s (show (n0 + 11) = (n0 + 10) + 1 from rfl) hy22a] at hP hD
  replace hN : (Ln sl (n0 + 11) L).Nodup := Ln_nd rfl hy22a (aln_out hla hy22b) hN
  replace hal := aln_in (sl := sl) hal0 (n0 + 11)
  replace q0 := okk_n (show (n0 + 10) ≤ (n0 + 11) from Nat.add_le_add_left (by decide) _) q0
  have hy22f := okk_new (al := al) (n := (n0 + 11)) hy22a (Nat.lt_succ_self _) hy22t
  refine W.widen (k := 11) (n := 536) (Nat.le_of_ble_eq_true rfl) (Nat.le_of_ble_eq_true rfl) ?_
  refine x_putF hx hb hts in_Md t_Md t_Md_ok nm_Md hown hK hD hN hP hS (hal _ (okk_al q0)) (okk_t q0) rfl rfl 11 (by decide) (hts _ tw_793) (fun _ h9 => h9) rfl hnm rfl (ty := .array .int) (v := .ref (ad y21)) (by decide +kernel) rfl rfl (Nat.le_of_ble_eq_true rfl) (stR (clr (stR (clr (stR (clr (stR (clr (stR (clr (stR (clr (stR (clr (stR (clr (stR (clr (stR (clr (stR (clr u y1) x0 1 (some y1)) y3) x0 2 (some y3)) y5) x0 3 (some y5)) y7) x0 4 (some y7)) y9) x0 5 (some y9)) y11) x0 6 (some y11)) y13) x0 7 (some y13)) y15) x0 8 (some y15)) y17) x0 9 (some y17)) y19) x0 10 (some y19)) y21) x0 11 (some y21)) stR_o (by rw [stR_up]; exact eq_32_11) dMd_init_88 (fun H locs hP hS => ?_)
  refine lv_aload_n hx hb dMd_init_91 rfl (lv_at hl 0 rfl) ?_
  refine lv_bipush (v := 16) hx hb dMd_init_92 (by decide) ?_
  replace h := bd1_some h
  obtain ⟨y23, hy24, h⟩ := h
  obtain ⟨hy24a, hy24b, hy24t⟩ := alo_some hy24
  clear hy24
  refine x_size (x_lo hsl hP hy22a (Nat.lt_succ_self _) rfl) (fun hz => ?_)
  refine x_newa (atype := .int) (N := 16) hx hb (hts _ tw_58) hD hP hS hA (aln_out hla hy24b) hy24t (x_had hsl hy24a hz rfl) 0 (hK.2 0 _ rfl).2 rfl rfl (by decide) (by decide) (by decide) (Nat.le_of_ble_eq_true rfl) (Nat.le_of_ble_eq_true rfl) dMd_init_94 (fun H hP hD hS => ?_)
  rw [Ln_s (show (n0 + 12) = (n0 + 11) + 1 from rfl) hy24a] at hP hD
  replace hN : (Ln sl (n0 + 12) L).Nodup := Ln_nd rfl hy24a (aln_out hla hy24b) hN
  replace hal := aln_in (sl := sl) hal0 (n0 + 12)
  replace q0 := okk_n (show (n0 + 11) ≤ (n0 + 12) from Nat.add_le_add_left (by decide) _) q0
  have hy24f := okk_new (al := al) (n := (n0 + 12)) hy24a (Nat.lt_succ_self _) hy24t
  refine W.widen (k := 12) (n := 552) (Nat.le_of_ble_eq_true rfl) (Nat.le_of_ble_eq_true rfl) ?_
  refine x_putF hx hb hts in_Md t_Md t_Md_ok nm_Md hown hK hD hN hP hS (hal _ (okk_al q0)) (okk_t q0) rfl rfl 12 (by decide) (hts _ tw_794) (fun _ h9 => h9) rfl hnm rfl (ty := .array .int) (v := .ref (ad y23)) (by decide +kernel) rfl rfl (Nat.le_of_ble_eq_true rfl) (stR (clr (stR (clr (stR (clr (stR (clr (stR (clr (stR (clr (stR (clr (stR (clr (stR (clr (stR (clr (stR (clr (stR (clr u y1) x0 1 (some y1)) y3) x0 2 (some y3)) y5) x0 3 (some y5)) y7) x0 4 (some y7)) y9) x0 5 (some y9)) y11) x0 6 (some y11)) y13) x0 7 (some y13)) y15) x0 8 (some y15)) y17) x0 9 (some y17)) y19) x0 10 (some y19)) y21) x0 11 (some y21)) y23) x0 12 (some y23)) stR_o (by rw [stR_up]; exact eq_32_12) dMd_init_96 (fun H locs hP hS => ?_)
  refine lv_aload_n hx hb dMd_init_99 rfl (lv_at hl 0 rfl) ?_
  refine lv_bipush (v := 16) hx hb dMd_init_100 (by decide) ?_
  replace h := bd1_some h
  obtain ⟨y25, hy26, h⟩ := h
  obtain ⟨hy26a, hy26b, hy26t⟩ := alo_some hy26
  clear hy26
  refine x_size (x_lo hsl hP hy24a (Nat.lt_succ_self _) rfl) (fun hz => ?_)
  refine x_newa (atype := .int) (N := 16) hx hb (hts _ tw_58) hD hP hS hA (aln_out hla hy26b) hy26t (x_had hsl hy26a hz rfl) 0 (hK.2 0 _ rfl).2 rfl rfl (by decide) (by decide) (by decide) (Nat.le_of_ble_eq_true rfl) (Nat.le_of_ble_eq_true rfl) dMd_init_102 (fun H hP hD hS => ?_)
  rw [Ln_s (show (n0 + 13) = (n0 + 12) + 1 from rfl) hy26a] at hP hD
  replace hN : (Ln sl (n0 + 13) L).Nodup := Ln_nd rfl hy26a (aln_out hla hy26b) hN
  replace hal := aln_in (sl := sl) hal0 (n0 + 13)
  replace q0 := okk_n (show (n0 + 12) ≤ (n0 + 13) from Nat.add_le_add_left (by decide) _) q0
  have hy26f := okk_new (al := al) (n := (n0 + 13)) hy26a (Nat.lt_succ_self _) hy26t
  refine W.widen (k := 13) (n := 568) (Nat.le_of_ble_eq_true rfl) (Nat.le_of_ble_eq_true rfl) ?_
  refine x_putF hx hb hts in_Md t_Md t_Md_ok nm_Md hown hK hD hN hP hS (hal _ (okk_al q0)) (okk_t q0) rfl rfl 13 (by decide) (hts _ tw_795) (fun _ h9 => h9) rfl hnm rfl (ty := .array .int) (v := .ref (ad y25)) (by decide +kernel) rfl rfl (Nat.le_of_ble_eq_true rfl) (stR (clr (stR (clr (stR (clr (stR (clr (stR (clr (stR (clr (stR (clr (stR (clr (stR (clr (stR (clr (stR (clr (stR (clr (stR (clr u y1) x0 1 (some y1)) y3) x0 2 (some y3)) y5) x0 3 (some y5)) y7) x0 4 (some y7)) y9) x0 5 (some y9)) y11) x0 6 (some y11)) y13) x0 7 (some y13)) y15) x0 8 (some y15)) y17) x0 9 (some y17)) y19) x0 10 (some y19)) y21) x0 11 (some y21)) y23) x0 12 (some y23)) y25) x0 13 (some y25)) stR_o (by rw [stR_up]; exact eq_32_13) dMd_init_104 (fun H locs hP hS => ?_)
  refine lv_aload_n hx hb dMd_init_107 rfl (lv_at hl 0 rfl) ?_
  refine lv_bipush (v := 16) hx hb dMd_init_108 (by decide) ?_
  replace h := bd1_some h
  obtain ⟨y27, hy28, h⟩ := h
  obtain ⟨hy28a, hy28b, hy28t⟩ := alo_some hy28
  clear hy28
  refine x_size (x_lo hsl hP hy26a (Nat.lt_succ_self _) rfl) (fun hz => ?_)
  refine x_newa (atype := .boolean) (N := 16) hx hb (hts _ tw_77) hD hP hS hA (aln_out hla hy28b) hy28t (x_had hsl hy28a hz rfl) 2 (hK.2 2 _ rfl).2 rfl rfl (by decide) (by decide) (by decide) (Nat.le_of_ble_eq_true rfl) (Nat.le_of_ble_eq_true rfl) dMd_init_110 (fun H hP hD hS => ?_)
  rw [Ln_s (show (n0 + 14) = (n0 + 13) + 1 from rfl) hy28a] at hP hD
  replace hN : (Ln sl (n0 + 14) L).Nodup := Ln_nd rfl hy28a (aln_out hla hy28b) hN
  replace hal := aln_in (sl := sl) hal0 (n0 + 14)
  replace q0 := okk_n (show (n0 + 13) ≤ (n0 + 14) from Nat.add_le_add_left (by decide) _) q0
  have hy28f := okk_new (al := al) (n := (n0 + 14)) hy28a (Nat.lt_succ_self _) hy28t
  refine W.widen (k := 14) (n := 584) (Nat.le_of_ble_eq_true rfl) (Nat.le_of_ble_eq_true rfl) ?_
  refine x_putF hx hb hts in_Md t_Md t_Md_ok nm_Md hown hK hD hN hP hS (hal _ (okk_al q0)) (okk_t q0) rfl rfl 14 (by decide) (hts _ tw_796) (fun _ h9 => h9) rfl hnm rfl (ty := .array .boolean) (v := .ref (ad y27)) (by decide +kernel) rfl rfl (Nat.le_of_ble_eq_true rfl) (stR (clr (stR (clr (stR (clr (stR (clr (stR (clr (stR (clr (stR (clr (stR (clr (stR (clr (stR (clr (stR (clr (stR (clr (stR (clr (stR (clr u y1) x0 1 (some y1)) y3) x0 2 (some y3)) y5) x0 3 (some y5)) y7) x0 4 (some y7)) y9) x0 5 (some y9)) y11) x0 6 (some y11)) y13) x0 7 (some y13)) y15) x0 8 (some y15)) y17) x0 9 (some y17)) y19) x0 10 (some y19)) y21) x0 11 (some y21)) y23) x0 12 (some y23)) y25) x0 13 (some y25)) y27) x0 14 (some y27)) stR_o (by rw [stR_up]; exact eq_32_14) dMd_init_112 (fun H locs hP hS => ?_)
  refine lv_aload_n hx hb dMd_init_115 rfl (lv_at hl 0 rfl) ?_
  refine lv_sipush (v := 400) hx hb dMd_init_116 (by decide) ?_
  replace h := bd1_some h
  obtain ⟨y29, hy30, h⟩ := h
  obtain ⟨hy30a, hy30b, hy30t⟩ := alo_some hy30
  clear hy30
  refine x_size (x_lo hsl hP hy28a (Nat.lt_succ_self _) rfl) (fun hz => ?_)
  refine x_newa (atype := .int) (N := 400) hx hb (hts _ tw_58) hD hP hS hA (aln_out hla hy30b) hy30t (x_had hsl hy30a hz rfl) 0 (hK.2 0 _ rfl).2 rfl rfl (by decide) (by decide) (by decide) (Nat.le_of_ble_eq_true rfl) (Nat.le_of_ble_eq_true rfl) dMd_init_119 (fun H hP hD hS => ?_)
  rw [Ln_s (show (n0 + 15) = (n0 + 14) + 1 from rfl) hy30a] at hP hD
  replace hN : (Ln sl (n0 + 15) L).Nodup := Ln_nd rfl hy30a (aln_out hla hy30b) hN
  replace hal := aln_in (sl := sl) hal0 (n0 + 15)
  replace q0 := okk_n (show (n0 + 14) ≤ (n0 + 15) from Nat.add_le_add_left (by decide) _) q0
  have hy30f := okk_new (al := al) (n := (n0 + 15)) hy30a (Nat.lt_succ_self _) hy30t
  refine W.widen (k := 15) (n := 984) (Nat.le_of_ble_eq_true rfl) (Nat.le_of_ble_eq_true rfl) ?_
  refine x_putF hx hb hts in_Md t_Md t_Md_ok nm_Md hown hK hD hN hP hS (hal _ (okk_al q0)) (okk_t q0) rfl rfl 15 (by decide) (hts _ tw_797) (fun _ h9 => h9) rfl hnm rfl (ty := .array .int) (v := .ref (ad y29)) (by decide +kernel) rfl rfl (Nat.le_of_ble_eq_true rfl) (stR (clr (stR (clr (stR (clr (stR (clr (stR (clr (stR (clr (stR (clr (stR (clr (stR (clr (stR (clr (stR (clr (stR (clr (stR (clr (stR (clr (stR (clr u y1) x0 1 (some y1)) y3) x0 2 (some y3)) y5) x0 3 (some y5)) y7) x0 4 (some y7)) y9) x0 5 (some y9)) y11) x0 6 (some y11)) y13) x0 7 (some y13)) y15) x0 8 (some y15)) y17) x0 9 (some y17)) y19) x0 10 (some y19)) y21) x0 11 (some y21)) y23) x0 12 (some y23)) y25) x0 13 (some y25)) y27) x0 14 (some y27)) y29) x0 15 (some y29)) stR_o (by rw [stR_up]; exact eq_32_15) dMd_init_121 (fun H locs hP hS => ?_)
  refine lv_aload_n hx hb dMd_init_124 rfl (lv_at hl 0 rfl) ?_
  refine lv_sipush (v := 2048) hx hb dMd_init_125 (by decide) ?_
  replace h := bd1_some h
  obtain ⟨y31, hy32, h⟩ := h
  obtain ⟨hy32a, hy32b, hy32t⟩ := alo_some hy32
  clear hy32
  refine x_size (x_lo hsl hP hy30a (Nat.lt_succ_self _) rfl) (fun hz => ?_)
  refine x_newa (atype := .int) (N := 2048) hx hb (hts _ tw_58) hD hP hS hA (aln_out hla hy32b) hy32t (x_had hsl hy32a hz rfl) 0 (hK.2 0 _ rfl).2 rfl rfl (by decide) (by decide) (by decide) (Nat.le_of_ble_eq_true rfl) (Nat.le_of_ble_eq_true rfl) dMd_init_128 (fun H hP hD hS => ?_)
  rw [Ln_s (show (n0 + 16) = (n0 + 15) + 1 from rfl) hy32a] at hP hD
  replace hN : (Ln sl (n0 + 16) L).Nodup := Ln_nd rfl hy32a (aln_out hla hy32b) hN
  replace hal := aln_in (sl := sl) hal0 (n0 + 16)
  replace q0 := okk_n (show (n0 + 15) ≤ (n0 + 16) from Nat.add_le_add_left (by decide) _) q0
  have hy32f := okk_new (al := al) (n := (n0 + 16)) hy32a (Nat.lt_succ_self _) hy32t
  refine W.widen (k := 16) (n := 3032) (Nat.le_of_ble_eq_true rfl) (Nat.le_of_ble_eq_true rfl) ?_
  refine x_putF hx hb hts in_Md t_Md t_Md_ok nm_Md hown hK hD hN hP hS (hal _ (okk_al q0)) (okk_t q0) rfl rfl 17 (by decide) (hts _ tw_799) (fun _ h9 => h9) rfl hnm rfl (ty := .array .int) (v := .ref (ad y31)) (by decide +kernel) rfl rfl (Nat.le_of_ble_eq_true rfl) (stR (clr (stR (clr (stR (clr (stR (clr (stR (clr (stR (clr (stR (clr (stR (clr (stR (clr (stR (clr (stR (clr (stR (clr (stR (clr (stR (clr (stR (clr (stR (clr u y1) x0 1 (some y1)) y3) x0 2 (some y3)) y5) x0 3 (some y5)) y7) x0 4 (some y7)) y9) x0 5 (some y9)) y11) x0 6 (some y11)) y13) x0 7 (some y13)) y15) x0 8 (some y15)) y17) x0 9 (some y17)) y19) x0 10 (some y19)) y21) x0 11 (some y21)) y23) x0 12 (some y23)) y25) x0 13 (some y25)) y27) x0 14 (some y27)) y29) x0 15 (some y29)) y31) x0 17 (some y31)) stR_o (by rw [stR_up]; exact eq_32_17) dMd_init_130 (fun H locs hP hS => ?_)
  refine lv_aload_n hx hb dMd_init_133 rfl (lv_at hl 0 rfl) ?_
  refine lv_sipush (v := 2048) hx hb dMd_init_134 (by decide) ?_
  replace h := bd1_some h
  obtain ⟨y33, hy34, h⟩ := h
  obtain ⟨hy34a, hy34b, hy34t⟩ := alo_some hy34
  clear hy34
  refine x_size (x_lo hsl hP hy32a (Nat.lt_succ_self _) rfl) (fun hz => ?_)
  refine x_newa (atype := .int) (N := 2048) hx hb (hts _ tw_58) hD hP hS hA (aln_out hla hy34b) hy34t (x_had hsl hy34a hz rfl) 0 (hK.2 0 _ rfl).2 rfl rfl (by decide) (by decide) (by decide) (Nat.le_of_ble_eq_true rfl) (Nat.le_of_ble_eq_true rfl) dMd_init_137 (fun H hP hD hS => ?_)
  rw [Ln_s (show (n0 + 17) = (n0 + 16) + 1 from rfl) hy34a] at hP hD
  replace hN : (Ln sl (n0 + 17) L).Nodup := Ln_nd rfl hy34a (aln_out hla hy34b) hN
  replace hal := aln_in (sl := sl) hal0 (n0 + 17)
  replace q0 := okk_n (show (n0 + 16) ≤ (n0 + 17) from Nat.add_le_add_left (by decide) _) q0
  have hy34f := okk_new (al := al) (n := (n0 + 17)) hy34a (Nat.lt_succ_self _) hy34t
  refine W.widen (k := 17) (n := 5080) (Nat.le_of_ble_eq_true rfl) (Nat.le_of_ble_eq_true rfl) ?_
  refine x_putF hx hb hts in_Md t_Md t_Md_ok nm_Md hown hK hD hN hP hS (hal _ (okk_al q0)) (okk_t q0) rfl rfl 19 (by decide) (hts _ tw_801) (fun _ h9 => h9) rfl hnm rfl (ty := .array .int) (v := .ref (ad y33)) (by decide +kernel) rfl rfl (Nat.le_of_ble_eq_true rfl) (stR (clr (stR (clr (stR (clr (stR (clr (stR (clr (stR (clr (stR (clr (stR (clr (stR (clr (stR (clr (stR (clr (stR (clr (stR (clr (stR (clr (stR (clr (stR (clr (stR (clr u y1) x0 1 (some y1)) y3) x0 2 (some y3)) y5) x0 3 (some y5)) y7) x0 4 (some y7)) y9) x0 5 (some y9)) y11) x0 6 (some y11)) y13) x0 7 (some y13)) y15) x0 8 (some y15)) y17) x0 9 (some y17)) y19) x0 10 (some y19)) y21) x0 11 (some y21)) y23) x0 12 (some y23)) y25) x0 13 (some y25)) y27) x0 14 (some y27)) y29) x0 15 (some y29)) y31) x0 17 (some y31)) y33) x0 19 (some y33)) stR_o (by rw [stR_up]; exact eq_32_19) dMd_init_139 (fun H locs hP hS => ?_)
  refine lv_aload_n hx hb dMd_init_142 rfl (lv_at hl 0 rfl) ?_
  refine lv_iconst (v := 5) hx hb dMd_init_143 (by decide) ?_
  replace h := bd1_some h
  obtain ⟨y35, hy36, h⟩ := h
  obtain ⟨hy36a, hy36b, hy36t⟩ := alo_some hy36
  clear hy36
  refine x_size (x_lo hsl hP hy34a (Nat.lt_succ_self _) rfl) (fun hz => ?_)
  refine x_newa (atype := .int) (N := 5) hx hb (hts _ tw_58) hD hP hS hA (aln_out hla hy36b) hy36t (x_had hsl hy36a hz rfl) 0 (hK.2 0 _ rfl).2 rfl rfl (by decide) (by decide) (by decide) (Nat.le_of_ble_eq_true rfl) (Nat.le_of_ble_eq_true rfl) dMd_init_144 (fun H hP hD hS => ?_)
  rw [Ln_s (show (n0 + 18) = (n0 + 17) + 1 from rfl) hy36a] at hP hD
  replace hN : (Ln sl (n0 + 18) L).Nodup := Ln_nd rfl hy36a (aln_out hla hy36b) hN
  replace hal := aln_in (sl := sl) hal0 (n0 + 18)
  replace q0 := okk_n (show (n0 + 17) ≤ (n0 + 18) from Nat.add_le_add_left (by decide) _) q0
  have hy36f := okk_new (al := al) (n := (n0 + 18)) hy36a (Nat.lt_succ_self _) hy36t
  refine W.widen (k := 18) (n := 5085) (Nat.le_of_ble_eq_true rfl) (Nat.le_of_ble_eq_true rfl) ?_
  refine x_putF hx hb hts in_Md t_Md t_Md_ok nm_Md hown hK hD hN hP hS (hal _ (okk_al q0)) (okk_t q0) rfl rfl 20 (by decide) (hts _ tw_802) (fun _ h9 => h9) rfl hnm rfl (ty := .array .int) (v := .ref (ad y35)) (by decide +kernel) rfl rfl (Nat.le_of_ble_eq_true rfl) (stR (clr (stR (clr (stR (clr (stR (clr (stR (clr (stR (clr (stR (clr (stR (clr (stR (clr (stR (clr (stR (clr (stR (clr (stR (clr (stR (clr (stR (clr (stR (clr (stR (clr (stR (clr u y1) x0 1 (some y1)) y3) x0 2 (some y3)) y5) x0 3 (some y5)) y7) x0 4 (some y7)) y9) x0 5 (some y9)) y11) x0 6 (some y11)) y13) x0 7 (some y13)) y15) x0 8 (some y15)) y17) x0 9 (some y17)) y19) x0 10 (some y19)) y21) x0 11 (some y21)) y23) x0 12 (some y23)) y25) x0 13 (some y25)) y27) x0 14 (some y27)) y29) x0 15 (some y29)) y31) x0 17 (some y31)) y33) x0 19 (some y33)) y35) x0 20 (some y35)) stR_o (by rw [stR_up]; exact eq_32_20) dMd_init_146 (fun H locs hP hS => ?_)
  refine lv_aload_n hx hb dMd_init_149 rfl (lv_at hl 0 rfl) ?_
  refine lv_iconst (v := 5) hx hb dMd_init_150 (by decide) ?_
  replace h := bd1_some h
  obtain ⟨y37, hy38, h⟩ := h
  obtain ⟨hy38a, hy38b, hy38t⟩ := alo_some hy38
  clear hy38
  refine x_size (x_lo hsl hP hy36a (Nat.lt_succ_self _) rfl) (fun hz => ?_)
  refine x_newa (atype := .int) (N := 5) hx hb (hts _ tw_58) hD hP hS hA (aln_out hla hy38b) hy38t (x_had hsl hy38a hz rfl) 0 (hK.2 0 _ rfl).2 rfl rfl (by decide) (by decide) (by decide) (Nat.le_of_ble_eq_true rfl) (Nat.le_of_ble_eq_true rfl) dMd_init_151 (fun H hP hD hS => ?_)
  rw [Ln_s (show (n0 + 19) = (n0 + 18) + 1 from rfl) hy38a] at hP hD
  replace hN : (Ln sl (n0 + 19) L).Nodup := Ln_nd rfl hy38a (aln_out hla hy38b) hN
  replace hal := aln_in (sl := sl) hal0 (n0 + 19)
  replace q0 := okk_n (show (n0 + 18) ≤ (n0 + 19) from Nat.add_le_add_left (by decide) _) q0
  have hy38f := okk_new (al := al) (n := (n0 + 19)) hy38a (Nat.lt_succ_self _) hy38t
  refine W.widen (k := 19) (n := 5090) (Nat.le_of_ble_eq_true rfl) (Nat.le_of_ble_eq_true rfl) ?_
  refine x_putF hx hb hts in_Md t_Md t_Md_ok nm_Md hown hK hD hN hP hS (hal _ (okk_al q0)) (okk_t q0) rfl rfl 21 (by decide) (hts _ tw_803) (fun _ h9 => h9) rfl hnm rfl (ty := .array .int) (v := .ref (ad y37)) (by decide +kernel) rfl rfl (Nat.le_of_ble_eq_true rfl) (stR (clr (stR (clr (stR (clr (stR (clr (stR (clr (stR (clr (stR (clr (stR (clr (stR (clr (stR (clr (stR (clr (stR (clr (stR (clr (stR (clr (stR (clr (stR (clr (stR (clr (stR (clr (stR (clr u y1) x0 1 (some y1)) y3) x0 2 (some y3)) y5) x0 3 (some y5)) y7) x0 4 (some y7)) y9) x0 5 (some y9)) y11) x0 6 (some y11)) y13) x0 7 (some y13)) y15) x0 8 (some y15)) y17) x0 9 (some y17)) y19) x0 10 (some y19)) y21) x0 11 (some y21)) y23) x0 12 (some y23)) y25) x0 13 (some y25)) y27) x0 14 (some y27)) y29) x0 15 (some y29)) y31) x0 17 (some y31)) y33) x0 19 (some y33)) y35) x0 20 (some y35)) y37) x0 21 (some y37)) stR_o (by rw [stR_up]; exact eq_32_21) dMd_init_153 (fun H locs hP hS => ?_)
  refine lv_aload_n hx hb dMd_init_156 rfl (lv_at hl 0 rfl) ?_
  refine lv_bipush (v := 8) hx hb dMd_init_157 (by decide) ?_
  replace h := bd1_some h
  obtain ⟨y39, hy40, h⟩ := h
  obtain ⟨hy40a, hy40b, hy40t⟩ := alo_some hy40
  clear hy40
  refine x_size (x_lo hsl hP hy38a (Nat.lt_succ_self _) rfl) (fun hz => ?_)
  refine x_newa (atype := .int) (N := 8) hx hb (hts _ tw_58) hD hP hS hA (aln_out hla hy40b) hy40t (x_had hsl hy40a hz rfl) 0 (hK.2 0 _ rfl).2 rfl rfl (by decide) (by decide) (by decide) (Nat.le_of_ble_eq_true rfl) (Nat.le_of_ble_eq_true rfl) dMd_init_159 (fun H hP hD hS => ?_)
  rw [Ln_s (show (n0 + 20) = (n0 + 19) + 1 from rfl) hy40a] at hP hD
  replace hN : (Ln sl (n0 + 20) L).Nodup := Ln_nd rfl hy40a (aln_out hla hy40b) hN
  replace hal := aln_in (sl := sl) hal0 (n0 + 20)
  replace q0 := okk_n (show (n0 + 19) ≤ (n0 + 20) from Nat.add_le_add_left (by decide) _) q0
  have hy40f := okk_new (al := al) (n := (n0 + 20)) hy40a (Nat.lt_succ_self _) hy40t
  refine W.widen (k := 20) (n := 5098) (Nat.le_of_ble_eq_true rfl) (Nat.le_of_ble_eq_true rfl) ?_
  refine x_putF hx hb hts in_Md t_Md t_Md_ok nm_Md hown hK hD hN hP hS (hal _ (okk_al q0)) (okk_t q0) rfl rfl 22 (by decide) (hts _ tw_804) (fun _ h9 => h9) rfl hnm rfl (ty := .array .int) (v := .ref (ad y39)) (by decide +kernel) rfl rfl (Nat.le_of_ble_eq_true rfl) (stR (clr (stR (clr (stR (clr (stR (clr (stR (clr (stR (clr (stR (clr (stR (clr (stR (clr (stR (clr (stR (clr (stR (clr (stR (clr (stR (clr (stR (clr (stR (clr (stR (clr (stR (clr (stR (clr (stR (clr u y1) x0 1 (some y1)) y3) x0 2 (some y3)) y5) x0 3 (some y5)) y7) x0 4 (some y7)) y9) x0 5 (some y9)) y11) x0 6 (some y11)) y13) x0 7 (some y13)) y15) x0 8 (some y15)) y17) x0 9 (some y17)) y19) x0 10 (some y19)) y21) x0 11 (some y21)) y23) x0 12 (some y23)) y25) x0 13 (some y25)) y27) x0 14 (some y27)) y29) x0 15 (some y29)) y31) x0 17 (some y31)) y33) x0 19 (some y33)) y35) x0 20 (some y35)) y37) x0 21 (some y37)) y39) x0 22 (some y39)) stR_o (by rw [stR_up]; exact eq_32_22) dMd_init_161 (fun H locs hP hS => ?_)
  refine lv_aload_n hx hb dMd_init_164 rfl (lv_at hl 0 rfl) ?_
  refine lv_bipush (v := 16) hx hb dMd_init_165 (by decide) ?_
  replace h := bd1_some h
  obtain ⟨y41, hy42, h⟩ := h
  obtain ⟨hy42a, hy42b, hy42t⟩ := alo_some hy42
  clear hy42
  refine x_size (x_lo hsl hP hy40a (Nat.lt_succ_self _) rfl) (fun hz => ?_)
  refine x_newa (atype := .int) (N := 16) hx hb (hts _ tw_58) hD hP hS hA (aln_out hla hy42b) hy42t (x_had hsl hy42a hz rfl) 0 (hK.2 0 _ rfl).2 rfl rfl (by decide) (by decide) (by decide) (Nat.le_of_ble_eq_true rfl) (Nat.le_of_ble_eq_true rfl) dMd_init_167 (fun H hP hD hS => ?_)
  rw [Ln_s (show (n0 + 21) = (n0 + 20) + 1 from rfl) hy42a] at hP hD
  replace hN : (Ln sl (n0 + 21) L).Nodup := Ln_nd rfl hy42a (aln_out hla hy42b) hN
  replace hal := aln_in (sl := sl) hal0 (n0 + 21)
  replace q0 := okk_n (show (n0 + 20) ≤ (n0 + 21) from Nat.add_le_add_left (by decide) _) q0
  have hy42f := okk_new (al := al) (n := (n0 + 21)) hy42a (Nat.lt_succ_self _) hy42t
  refine W.widen (k := 21) (n := 5114) (Nat.le_of_ble_eq_true rfl) (Nat.le_of_ble_eq_true rfl) ?_
  refine x_putF hx hb hts in_Md t_Md t_Md_ok nm_Md hown hK hD hN hP hS (hal _ (okk_al q0)) (okk_t q0) rfl rfl 23 (by decide) (hts _ tw_805) (fun _ h9 => h9) rfl hnm rfl (ty := .array .int) (v := .ref (ad y41)) (by decide +kernel) rfl rfl (Nat.le_of_ble_eq_true rfl) (stR (clr (stR (clr (stR (clr (stR (clr (stR (clr (stR (clr (stR (clr (stR (clr (stR (clr (stR (clr (stR (clr (stR (clr (stR (clr (stR (clr (stR (clr (stR (clr (stR (clr (stR (clr (stR (clr (stR (clr (stR (clr u y1) x0 1 (some y1)) y3) x0 2 (some y3)) y5) x0 3 (some y5)) y7) x0 4 (some y7)) y9) x0 5 (some y9)) y11) x0 6 (some y11)) y13) x0 7 (some y13)) y15) x0 8 (some y15)) y17) x0 9 (some y17)) y19) x0 10 (some y19)) y21) x0 11 (some y21)) y23) x0 12 (some y23)) y25) x0 13 (some y25)) y27) x0 14 (some y27)) y29) x0 15 (some y29)) y31) x0 17 (some y31)) y33) x0 19 (some y33)) y35) x0 20 (some y35)) y37) x0 21 (some y37)) y39) x0 22 (some y39)) y41) x0 23 (some y41)) stR_o (by rw [stR_up]; exact eq_32_23) dMd_init_169 (fun H locs hP hS => ?_)
  refine lv_aload_n hx hb dMd_init_172 rfl (lv_at hl 0 rfl) ?_
  refine lv_sipush (v := 2048) hx hb dMd_init_173 (by decide) ?_
  replace h := bd1_some h
  obtain ⟨y43, hy44, h⟩ := h
  obtain ⟨hy44a, hy44b, hy44t⟩ := alo_some hy44
  clear hy44
  refine x_size (x_lo hsl hP hy42a (Nat.lt_succ_self _) rfl) (fun hz => ?_)
  refine x_newa (atype := .int) (N := 2048) hx hb (hts _ tw_58) hD hP hS hA (aln_out hla hy44b) hy44t (x_had hsl hy44a hz rfl) 0 (hK.2 0 _ rfl).2 rfl rfl (by decide) (by decide) (by decide) (Nat.le_of_ble_eq_true rfl) (Nat.le_of_ble_eq_true rfl) dMd_init_176 (fun H hP hD hS => ?_)
  rw [Ln_s (show (n0 + 22) = (n0 + 21) + 1 from rfl) hy44a] at hP hD
  replace hN : (Ln sl (n0 + 22) L).Nodup := Ln_nd rfl hy44a (aln_out hla hy44b) hN
  replace hal := aln_in (sl := sl) hal0 (n0 + 22)
  replace q0 := okk_n (show (n0 + 21) ≤ (n0 + 22) from Nat.add_le_add_left (by decide) _) q0
  have hy44f := okk_new (al := al) (n := (n0 + 22)) hy44a (Nat.lt_succ_self _) hy44t
  refine W.widen (k := 22) (n := 7162) (Nat.le_of_ble_eq_true rfl) (Nat.le_of_ble_eq_true rfl) ?_
  refine x_putF hx hb hts in_Md t_Md t_Md_ok nm_Md hown hK hD hN hP hS (hal _ (okk_al q0)) (okk_t q0) rfl rfl 27 (by decide) (hts _ tw_809) (fun _ h9 => h9) rfl hnm rfl (ty := .array .int) (v := .ref (ad y43)) (by decide +kernel) rfl rfl (Nat.le_of_ble_eq_true rfl) (stR (clr (stR (clr (stR (clr (stR (clr (stR (clr (stR (clr (stR (clr (stR (clr (stR (clr (stR (clr (stR (clr (stR (clr (stR (clr (stR (clr (stR (clr (stR (clr (stR (clr (stR (clr (stR (clr (stR (clr (stR (clr (stR (clr u y1) x0 1 (some y1)) y3) x0 2 (some y3)) y5) x0 3 (some y5)) y7) x0 4 (some y7)) y9) x0 5 (some y9)) y11) x0 6 (some y11)) y13) x0 7 (some y13)) y15) x0 8 (some y15)) y17) x0 9 (some y17)) y19) x0 10 (some y19)) y21) x0 11 (some y21)) y23) x0 12 (some y23)) y25) x0 13 (some y25)) y27) x0 14 (some y27)) y29) x0 15 (some y29)) y31) x0 17 (some y31)) y33) x0 19 (some y33)) y35) x0 20 (some y35)) y37) x0 21 (some y37)) y39) x0 22 (some y39)) y41) x0 23 (some y41)) y43) x0 27 (some y43)) stR_o (by rw [stR_up]; exact eq_32_27) dMd_init_178 (fun H locs hP hS => ?_)
  refine lv_aload_n hx hb dMd_init_181 rfl (lv_at hl 0 rfl) ?_
  refine lv_sipush (v := 2048) hx hb dMd_init_182 (by decide) ?_
  replace h := bd1_some h
  obtain ⟨y45, hy46, h⟩ := h
  obtain ⟨hy46a, hy46b, hy46t⟩ := alo_some hy46
  clear hy46
  refine x_size (x_lo hsl hP hy44a (Nat.lt_succ_self _) rfl) (fun hz => ?_)
  refine x_newa (atype := .int) (N := 2048) hx hb (hts _ tw_58) hD hP hS hA (aln_out hla hy46b) hy46t (x_had hsl hy46a hz rfl) 0 (hK.2 0 _ rfl).2 rfl rfl (by decide) (by decide) (by decide) (Nat.le_of_ble_eq_true rfl) (Nat.le_of_ble_eq_true rfl) dMd_init_185 (fun H hP hD hS => ?_)
  rw [Ln_s (show (n0 + 23) = (n0 + 22) + 1 from rfl) hy46a] at hP hD
  replace hN : (Ln sl (n0 + 23) L).Nodup := Ln_nd rfl hy46a (aln_out hla hy46b) hN
  replace hal := aln_in (sl := sl) hal0 (n0 + 23)
  replace q0 := okk_n (show (n0 + 22) ≤ (n0 + 23) from Nat.add_le_add_left (by decide) _) q0
  have hy46f := okk_new (al := al) (n := (n0 + 23)) hy46a (Nat.lt_succ_self _) hy46t
  refine W.widen (k := 23) (n := 9210) (Nat.le_of_ble_eq_true rfl) (Nat.le_of_ble_eq_true rfl) ?_
  refine x_putF hx hb hts in_Md t_Md t_Md_ok nm_Md hown hK hD hN hP hS (hal _ (okk_al q0)) (okk_t q0) rfl rfl 30 (by decide) (hts _ tw_812) (fun _ h9 => h9) rfl hnm rfl (ty := .array .int) (v := .ref (ad y45)) (by decide +kernel) rfl rfl (Nat.le_of_ble_eq_true rfl) (stR (clr (stR (clr (stR (clr (stR (clr (stR (clr (stR (clr (stR (clr (stR (clr (stR (clr (stR (clr (stR (clr (stR (clr (stR (clr (stR (clr (stR (clr (stR (clr (stR (clr (stR (clr (stR (clr (stR (clr (stR (clr (stR (clr (stR (clr u y1) x0 1 (some y1)) y3) x0 2 (some y3)) y5) x0 3 (some y5)) y7) x0 4 (some y7)) y9) x0 5 (some y9)) y11) x0 6 (some y11)) y13) x0 7 (some y13)) y15) x0 8 (some y15)) y17) x0 9 (some y17)) y19) x0 10 (some y19)) y21) x0 11 (some y21)) y23) x0 12 (some y23)) y25) x0 13 (some y25)) y27) x0 14 (some y27)) y29) x0 15 (some y29)) y31) x0 17 (some y31)) y33) x0 19 (some y33)) y35) x0 20 (some y35)) y37) x0 21 (some y37)) y39) x0 22 (some y39)) y41) x0 23 (some y41)) y43) x0 27 (some y43)) y45) x0 30 (some y45)) stR_o (by rw [stR_up]; exact eq_32_30) dMd_init_187 (fun H locs hP hS => ?_)
  exact x_vretN hx hb hr hlocks h hP hD hN hS (Nat.le_of_ble_eq_true rfl) (Nat.le_of_ble_eq_true rfl) dMd_init_190
def fn_Md_init (F : Nat) (al : Nat → Bool) (sl : Nat → Option Nat) (n0 : Nat) (u : Mr) (x0 : Nat) : Option (Mr × Int32) := bk_Md_init_0 F al sl n0 u x0
set_option maxHeartbeats 4000000 in
set_option maxRecDepth 100000 in
theorem ct_Md_init {l : Launch} {D : va_G} {cA : Nat → ClassId} {ad : Nat → Nat} {L : List Nat} {rs : va_W} {al : Nat → Bool} {sl : Nat → Option Nat} {n0 sz : Nat} (hal0 : ∀ k, al k = true → k ∈ L) (hla : ∀ k, k ∈ L → al k = true) (hN : (Ln sl n0 L).Nodup) (hsl : ∀ i k, sl i = some k → ad k + n0 = sz + i) (F : Nat) (u : Mr) (x0 : Nat) (out : Mr × Int32) (h : fn_Md_init F al sl n0 u x0 = some out) (q0 : okk (aln al sl n0) 32 x0 = true) : CtVn l yMd_init wsMd_init rm_Md_init [.ref (ad x0)] D cA ad (Ln sl n0 L) (Ln sl (n0 + 23) L) rs u out 23 9210 sz := by
  refine Met.ofW (cc := cMd_init) (maxL := 1) (ret := none) (by decide) rfl ?_
  intro p e s m args below meth c s₁ B hml hv
  obtain ⟨rfl, ⟨hsz, hP, hK, hD0, hNx⟩, hdZ, hdT, hno, hny⟩ := hv
  subst hsz
  have hD := hD0.self (sz := s.heap.size)
  generalize hAe : va_A (ww ad cA (Ln sl n0 L) rs u) s.heap.size = A at hD hdZ hdT ⊢
  have hA : ∀ q, s.heap.size ≤ q → A q := fun q h => by rw [← hAe]; exact Or.inr h
  have hl := lv_entry ([.ref (ad x0)]) (n := 1) (Nat.le_of_ble_eq_true rfl)
  rw [lg_entry_eq]
  generalize (lg_sl ([.ref (ad x0)]) ++ List.replicate (1 - (lg_sl ([.ref (ad x0)])).length) Slot.unset).toArray = ls at hl ⊢
  have hpre := atoms_spec (ws := wsMd_init) B.pre
  have hnm : meth.name = "<init>" := (name_of_methodNamed B.named B.method).1
  exact wk_Md_init_0 ⟨B.exec, B.bytes, hml, findClass_of_methodNamed B.named, hts_bw hpre, B.returns, B.notSynchronized, hK, hA, fun v => ww_D hD, hN, aln_in hal0 n0, hNx⟩ ⟨hal0, hla, hsl, hnm, hdZ, hdT, hno, hny⟩ F out u x0 h q0 _ _ _ (lv_sub hl [0] rfl) hP va_S.rf
end

abbrev yFg_init : MethodName := ⟨"ImageForge", "<init>", "()V"⟩
abbrev cFg_init : ByteArray := prog_1_method_1_code
abbrev wsFg_init : List Cond := .code yFg_init cFg_init 2 none :: bw
theorem gdFg_init : GoodIn bw wsFg_init := gd_of tw_31
theorem hdFg_init : yFg_init.cls ≠ "java/lang/invoke/MethodHandle" ∧ yFg_init.cls ≠ "java/lang/invoke/VarHandle" ∧ (parseMethodDescriptor yFg_init.desc).map (fun d => d.parameters.length) = some 0 := by decide +kernel
theorem dFg_init_0 : decode cFg_init 0 = .ok (.aload_n 0, 1) := by decide +kernel
theorem dFg_init_1 : decode cFg_init 1 = .ok (.invokespecial 3, 3) := by decide +kernel
theorem dFg_init_4 : decode cFg_init 4 = .ok (.aload_n 0, 1) := by decide +kernel
theorem dFg_init_5 : decode cFg_init 5 = .ok (.iconst 4, 1) := by decide +kernel
theorem dFg_init_6 : decode cFg_init 6 = .ok (.anewarray 9, 3) := by decide +kernel
theorem dFg_init_9 : decode cFg_init 9 = .ok (.putfield 11, 3) := by decide +kernel
theorem dFg_init_12 : decode cFg_init 12 = .ok (.aload_n 0, 1) := by decide +kernel
theorem dFg_init_13 : decode cFg_init 13 = .ok (.bipush 16, 2) := by decide +kernel
theorem dFg_init_15 : decode cFg_init 15 = .ok (.anewarray 15, 3) := by decide +kernel
theorem dFg_init_18 : decode cFg_init 18 = .ok (.putfield 17, 3) := by decide +kernel
theorem dFg_init_21 : decode cFg_init 21 = .ok (.aload_n 0, 1) := by decide +kernel
theorem dFg_init_22 : decode cFg_init 22 = .ok (.iconst 4, 1) := by decide +kernel
theorem dFg_init_23 : decode cFg_init 23 = .ok (.bipush 100, 2) := by decide +kernel
theorem dFg_init_25 : decode cFg_init 25 = .ok (.multianewarray 21 2, 4) := by decide +kernel
theorem dFg_init_29 : decode cFg_init 29 = .ok (.putfield 23, 3) := by decide +kernel
theorem dFg_init_32 : decode cFg_init 32 = .ok (.aload_n 0, 1) := by decide +kernel
theorem dFg_init_33 : decode cFg_init 33 = .ok (.new 26, 3) := by decide +kernel
theorem dFg_init_36 : decode cFg_init 36 = .ok (.dup, 1) := by decide +kernel
theorem dFg_init_37 : decode cFg_init 37 = .ok (.invokespecial 28, 3) := by decide +kernel
theorem dFg_init_40 : decode cFg_init 40 = .ok (.putfield 29, 3) := by decide +kernel
theorem dFg_init_43 : decode cFg_init 43 = .ok (.aload_n 0, 1) := by decide +kernel
theorem dFg_init_44 : decode cFg_init 44 = .ok (.new 33, 3) := by decide +kernel
theorem dFg_init_47 : decode cFg_init 47 = .ok (.dup, 1) := by decide +kernel
theorem dFg_init_48 : decode cFg_init 48 = .ok (.invokespecial 35, 3) := by decide +kernel
theorem dFg_init_51 : decode cFg_init 51 = .ok (.putfield 36, 3) := by decide +kernel
theorem dFg_init_54 : decode cFg_init 54 = .ok (.aload_n 0, 1) := by decide +kernel
theorem dFg_init_55 : decode cFg_init 55 = .ok (.new 40, 3) := by decide +kernel
theorem dFg_init_58 : decode cFg_init 58 = .ok (.dup, 1) := by decide +kernel
theorem dFg_init_59 : decode cFg_init 59 = .ok (.invokespecial 42, 3) := by decide +kernel
theorem dFg_init_62 : decode cFg_init 62 = .ok (.putfield 43, 3) := by decide +kernel
theorem dFg_init_65 : decode cFg_init 65 = .ok (.iconst 0, 1) := by decide +kernel
theorem dFg_init_66 : decode cFg_init 66 = .ok (.istore_n 1, 1) := by decide +kernel
theorem dFg_init_67 : decode cFg_init 67 = .ok (.iload_n 1, 1) := by decide +kernel
theorem dFg_init_68 : decode cFg_init 68 = .ok (.iconst 4, 1) := by decide +kernel
theorem dFg_init_69 : decode cFg_init 69 = .ok (.if_icmp .ge 22, 3) := by decide +kernel
theorem dFg_init_72 : decode cFg_init 72 = .ok (.aload_n 0, 1) := by decide +kernel
theorem dFg_init_73 : decode cFg_init 73 = .ok (.getfield 11, 3) := by decide +kernel
theorem dFg_init_76 : decode cFg_init 76 = .ok (.iload_n 1, 1) := by decide +kernel
theorem dFg_init_77 : decode cFg_init 77 = .ok (.new 9, 3) := by decide +kernel
theorem dFg_init_80 : decode cFg_init 80 = .ok (.dup, 1) := by decide +kernel
theorem dFg_init_81 : decode cFg_init 81 = .ok (.invokespecial 47, 3) := by decide +kernel
theorem dFg_init_84 : decode cFg_init 84 = .ok (.aastore, 1) := by decide +kernel
theorem dFg_init_85 : decode cFg_init 85 = .ok (.iinc 1 1, 3) := by decide +kernel
theorem dFg_init_88 : decode cFg_init 88 = .ok (.goto (-21), 3) := by decide +kernel
theorem dFg_init_91 : decode cFg_init 91 = .ok (.iconst 0, 1) := by decide +kernel
theorem dFg_init_92 : decode cFg_init 92 = .ok (.istore_n 1, 1) := by decide +kernel
theorem dFg_init_93 : decode cFg_init 93 = .ok (.iload_n 1, 1) := by decide +kernel
theorem dFg_init_94 : decode cFg_init 94 = .ok (.bipush 16, 2) := by decide +kernel
theorem dFg_init_96 : decode cFg_init 96 = .ok (.if_icmp .ge 22, 3) := by decide +kernel
theorem dFg_init_99 : decode cFg_init 99 = .ok (.aload_n 0, 1) := by decide +kernel
theorem dFg_init_100 : decode cFg_init 100 = .ok (.getfield 17, 3) := by decide +kernel
theorem dFg_init_103 : decode cFg_init 103 = .ok (.iload_n 1, 1) := by decide +kernel
theorem dFg_init_104 : decode cFg_init 104 = .ok (.new 15, 3) := by decide +kernel
theorem dFg_init_107 : decode cFg_init 107 = .ok (.dup, 1) := by decide +kernel
theorem dFg_init_108 : decode cFg_init 108 = .ok (.invokespecial 48, 3) := by decide +kernel
theorem dFg_init_111 : decode cFg_init 111 = .ok (.aastore, 1) := by decide +kernel
theorem dFg_init_112 : decode cFg_init 112 = .ok (.iinc 1 1, 3) := by decide +kernel
theorem dFg_init_115 : decode cFg_init 115 = .ok (.goto (-22), 3) := by decide +kernel
theorem dFg_init_118 : decode cFg_init 118 = .ok (.return_, 1) := by decide +kernel
section
variable {p : Program} {l : Launch} {e : Env} {s : State} {m : MethodId} {args : Array Value} {below : List Frame} {meth : Method} {c : Code} {D : va_G} {cA : Nat → ClassId} {ad : Nat → Nat} {L : List Nat} {rs : va_W} {al : Nat → Bool} {sl : Nat → Option Nat} {n0 : Nat} {A : Nat → Prop}
abbrev rm_Fg_init : Room := { frames := 5, cells := 64, slots := 4528, locals := 110 }
def bk_Fg_init_0 (F : Nat) (al : Nat → Bool) (sl : Nat → Option Nat) (n0 : Nat) (u : Mr) (x0 : Nat) : Option (Mr × Int32) := bd1 (alo al sl n0 2) fun y1 => (bd1 (alo al sl (n0 + 1) 3) fun y3 => (bd1 (alo al sl (n0 + 2) 4) fun y5 => (bd1 (alo al sl (n0 + 3) 5) fun y7 => (bd1 (alo al sl (n0 + 4) 5) fun y9 => (bd1 (alo al sl (n0 + 5) 5) fun y11 => (bd1 (alo al sl (n0 + 6) 5) fun y13 => (bd1 (alo al sl (n0 + 7) 6) fun y15 => (bd2 (fn_Im_init F al sl (n0 + 8) (clr (stR (stR (stR (stR (stR (clr (clr (clr (clr (clr (stR (clr (stR (clr u y1) x0 0 (some y1)) y3) x0 1 (some y3)) y5) y7) y9) y11) y13) y5 (0 : Int32) (some y7)) y5 (1 : Int32) (some y9)) y5 (2 : Int32) (some y11)) y5 (3 : Int32) (some y13)) x0 2 (some y5)) y15) y15) fun u17 v17 => ck (sl (n0 + 8)).isSome (bd1 (alo al sl (n0 + 9) 8) fun y19 => (bd2 (fn_Lk_init F al sl (n0 + 10) (clr (stR u17 x0 3 (some y15)) y19) y19) fun u21 v21 => ck (sl (n0 + 14)).isSome (bd1 (alo al sl (n0 + 15) 13) fun y23 => (bd2 (fn_Ld_init F al sl (n0 + 16) (clr (stR u21 x0 4 (some y19)) y23) y23) fun u25 v25 => ck (sl (n0 + 19)).isSome (bd1 (rdR (aln al sl (n0 + 20)) (stR u25 x0 5 (some y23)) x0 0 2) fun y27 => (bd1 (alo al sl (n0 + 20) 14) fun y29 => (bd2 (fn_Ob_init F al sl (n0 + 21) (clr (stR u25 x0 5 (some y23)) y29) y29) fun u31 v31 => ck (sl (n0 + 26)).isSome (bd1 (rdR (aln al sl (n0 + 27)) (stR u31 y27 (0 : Int32) (some y29)) x0 0 2) fun y33 => (bd1 (alo al sl (n0 + 27) 14) fun y35 => (bd2 (fn_Ob_init F al sl (n0 + 28) (clr (stR u31 y27 (0 : Int32) (some y29)) y35) y35) fun u37 v37 => ck (sl (n0 + 33)).isSome (bd1 (rdR (aln al sl (n0 + 34)) (stR u37 y33 (1 : Int32) (some y35)) x0 0 2) fun y39 => (bd1 (alo al sl (n0 + 34) 14) fun y41 => (bd2 (fn_Ob_init F al sl (n0 + 35) (clr (stR u37 y33 (1 : Int32) (some y35)) y41) y41) fun u43 v43 => ck (sl (n0 + 40)).isSome (bd1 (rdR (aln al sl (n0 + 41)) (stR u43 y39 (2 : Int32) (some y41)) x0 0 2) fun y45 => (bd1 (alo al sl (n0 + 41) 14) fun y47 => (bd2 (fn_Ob_init F al sl (n0 + 42) (clr (stR u43 y39 (2 : Int32) (some y41)) y47) y47) fun u49 v49 => ck (sl (n0 + 47)).isSome (bd1 (rdR (aln al sl (n0 + 48)) (stR u49 y45 (3 : Int32) (some y47)) x0 1 3) fun y51 => (bd1 (alo al sl (n0 + 48) 20) fun y53 => (bd2 (fn_Nm_init F al sl (n0 + 49) (clr (stR u49 y45 (3 : Int32) (some y47)) y53) y53) fun u55 v55 => (bd1 (rdR (aln al sl (n0 + 49)) (stR u55 y51 (0 : Int32) (some y53)) x0 1 3) fun y56 => (bd1 (alo al sl (n0 + 49) 20) fun y58 => (bd2 (fn_Nm_init F al sl (n0 + 50) (clr (stR u55 y51 (0 : Int32) (some y53)) y58) y58) fun u60 v60 => (bd1 (rdR (aln al sl (n0 + 50)) (stR u60 y56 (1 : Int32) (some y58)) x0 1 3) fun y61 => (bd1 (alo al sl (n0 + 50) 20) fun y63 => (bd2 (fn_Nm_init F al sl (n0 + 51) (clr (stR u60 y56 (1 : Int32) (some y58)) y63) y63) fun u65 v65 => (bd1 (rdR (aln al sl (n0 + 51)) (stR u65 y61 (2 : Int32) (some y63)) x0 1 3) fun y66 => (bd1 (alo al sl (n0 + 51) 20) fun y68 => (bd2 (fn_Nm_init F al sl (n0 + 52) (clr (stR u65 y61 (2 : Int32) (some y63)) y68) y68) fun u70 v70 => (bd1 (rdR (aln al sl (n0 + 52)) (stR u70 y66 (3 : Int32) (some y68)) x0 1 3) fun y71 => (bd1 (alo al sl (n0 + 52) 20) fun y73 => (bd2 (fn_Nm_init F al sl (n0 + 53) (clr (stR u70 y66 (3 : Int32) (some y68)) y73) y73) fun u75 v75 => (bd1 (rdR (aln al sl (n0 + 53)) (stR u75 y71 (4 : Int32) (some y73)) x0 1 3) fun y76 => (bd1 (alo al sl (n0 + 53) 20) fun y78 => (bd2 (fn_Nm_init F al sl (n0 + 54) (clr (stR u75 y71 (4 : Int32) (some y73)) y78) y78) fun u80 v80 => (bd1 (rdR (aln al sl (n0 + 54)) (stR u80 y76 (5 : Int32) (some y78)) x0 1 3) fun y81 => (bd1 (alo al sl (n0 + 54) 20) fun y83 => (bd2 (fn_Nm_init F al sl (n0 + 55) (clr (stR u80 y76 (5 : Int32) (some y78)) y83) y83) fun u85 v85 => (bd1 (rdR (aln al sl (n0 + 55)) (stR u85 y81 (6 : Int32) (some y83)) x0 1 3) fun y86 => (bd1 (alo al sl (n0 + 55) 20) fun y88 => (bd2 (fn_Nm_init F al sl (n0 + 56) (clr (stR u85 y81 (6 : Int32) (some y83)) y88) y88) fun u90 v90 => (bd1 (rdR (aln al sl (n0 + 56)) (stR u90 y86 (7 : Int32) (some y88)) x0 1 3) fun y91 => (bd1 (alo al sl (n0 + 56) 20) fun y93 => (bd2 (fn_Nm_init F al sl (n0 + 57) (clr (stR u90 y86 (7 : Int32) (some y88)) y93) y93) fun u95 v95 => (bd1 (rdR (aln al sl (n0 + 57)) (stR u95 y91 (8 : Int32) (some y93)) x0 1 3) fun y96 => (bd1 (alo al sl (n0 + 57) 20) fun y98 => (bd2 (fn_Nm_init F al sl (n0 + 58) (clr (stR u95 y91 (8 : Int32) (some y93)) y98) y98) fun u100 v100 => (bd1 (rdR (aln al sl (n0 + 58)) (stR u100 y96 (9 : Int32) (some y98)) x0 1 3) fun y101 => (bd1 (alo al sl (n0 + 58) 20) fun y103 => (bd2 (fn_Nm_init F al sl (n0 + 59) (clr (stR u100 y96 (9 : Int32) (some y98)) y103) y103) fun u105 v105 => (bd1 (rdR (aln al sl (n0 + 59)) (stR u105 y101 (10 : Int32) (some y103)) x0 1 3) fun y106 => (bd1 (alo al sl (n0 + 59) 20) fun y108 => (bd2 (fn_Nm_init F al sl (n0 + 60) (clr (stR u105 y101 (10 : Int32) (some y103)) y108) y108) fun u110 v110 => (bd1 (rdR (aln al sl (n0 + 60)) (stR u110 y106 (11 : Int32) (some y108)) x0 1 3) fun y111 => (bd1 (alo al sl (n0 + 60) 20) fun y113 => (bd2 (fn_Nm_init F al sl (n0 + 61) (clr (stR u110 y106 (11 : Int32) (some y108)) y113) y113) fun u115 v115 => (bd1 (rdR (aln al sl (n0 + 61)) (stR u115 y111 (12 : Int32) (some y113)) x0 1 3) fun y116 => (bd1 (alo al sl (n0 + 61) 20) fun y118 => (bd2 (fn_Nm_init F al sl (n0 + 62) (clr (stR u115 y111 (12 : Int32) (some y113)) y118) y118) fun u120 v120 => (bd1 (rdR (aln al sl (n0 + 62)) (stR u120 y116 (13 : Int32) (some y118)) x0 1 3) fun y121 => (bd1 (alo al sl (n0 + 62) 20) fun y123 => (bd2 (fn_Nm_init F al sl (n0 + 63) (clr (stR u120 y116 (13 : Int32) (some y118)) y123) y123) fun u125 v125 => (bd1 (rdR (aln al sl (n0 + 63)) (stR u125 y121 (14 : Int32) (some y123)) x0 1 3) fun y126 => (bd1 (alo al sl (n0 + 63) 20) fun y128 => (bd2 (fn_Nm_init F al sl (n0 + 64) (clr (stR u125 y121 (14 : Int32) (some y123)) y128) y128) fun u130 v130 => (some (stR u130 y126 (15 : Int32) (some y128), 0))))))))))))))))))))))))))))))))))))))))))))))))))))))))))))))))))))))))))
set_option maxHeartbeats 4000000 in
set_option maxRecDepth 100000 in
theorem wk_Fg_init_0 (cx : Cx p l e s m args below meth c cFg_init 2 bw "ImageForge" none D cA ad (Ln sl n0 L) rs (aln al sl n0) A) (cz : Cz s meth "<init>" ad L al sl n0 A) (F : Nat) (out : Mr × Int32) : ∀ (u : Mr) (x0 : Nat), bk_Fg_init_0 F al sl n0 u x0 = some out → okk (aln al sl n0) 1 x0 = true → Wb p l e rm_Fg_init s m args below meth c D cA ad (Ln sl n0 L) rs A (QVn below args s D cA ad (Ln sl (n0 + 64) L) rs A out 64 4528) 2 0 [(0, .ref (ad x0))] [] u := by
  obtain ⟨hx, hb, hml, hown, hts, hr, hlocks, hK, hA, hD, hN, hal, hNx⟩ := cx
  obtain ⟨hal0, hla, hsl, hnm, hdZ, hdT, hno, hny⟩ := cz
  intro u x0 h q0 H locs ls hl hP hS
  unfold bk_Fg_init_0 at h
  refine lv_aload_n hx hb dFg_init_0 rfl (lv_at hl 0 rfl) ?_
  refine W.objInit hx hb hown (hts _ tw_32) (hts _ tw_33) (hts _ tw_34) rfl (hl.1.trans hml.symm) rfl dFg_init_1 (Nat.le_of_ble_eq_true rfl) (Nat.le_of_ble_eq_true rfl) ?_
  refine W.eq (g2 := F0 m 4 _ []) rfl ?_
  refine lv_aload_n hx hb dFg_init_4 rfl (lv_at hl 0 rfl) ?_
  refine lv_iconst (v := 4) hx hb dFg_init_5 (by decide) ?_
  replace h := bd1_some h
  obtain ⟨y1, hy2, h⟩ := h
  obtain ⟨hy2a, hy2b, hy2t⟩ := alo_some hy2
  clear hy2
  refine x_size hS.1 (fun hz => ?_)
  refine x_anew (N := 4) hx hb hown (hts _ tw_35) hno.1 hD hP hS hA (aln_out hla hy2b) hy2t (x_had hsl hy2a hz rfl) 4 (hK.2 4 _ rfl).2 rfl (by decide) (by decide) (by decide) (Nat.le_of_ble_eq_true rfl) (Nat.le_of_ble_eq_true rfl) dFg_init_6 (fun H hP hD hS => ?_)
  rw [Ln_s (show (n0 + 1) = n0 + 1 from rfl) hy2a] at hP hD
  replace hN : (Ln sl (n0 + 1) L).Nodup := Ln_nd rfl hy2a (aln_out hla hy2b) hN
  replace hal := aln_in (sl := sl) hal0 (n0 + 1)
  replace q0 := okk_n (show n0 ≤ (n0 + 1) from Nat.le_add_right _ _) q0
  have hy2f := okk_new (al := al) (n := (n0 + 1)) hy2a (Nat.lt_succ_self _) hy2t
  refine W.widen (k := 1) (n := 4) (Nat.le_of_ble_eq_true rfl) (Nat.le_of_ble_eq_true rfl) ?_
  refine x_putF hx hb hts in_Fg t_Fg t_Fg_ok nm_Fg hown hK hD hN hP hS (hal _ (okk_al q0)) (okk_t q0) rfl rfl 0 (by decide) (hts _ tw_199) (fun _ h9 => h9) rfl hnm rfl (ty := .array (.object "ImageForge$ObjectFile")) (v := .ref (ad y1)) (by decide +kernel) rfl rfl (Nat.le_of_ble_eq_true rfl) (stR (clr u y1) x0 0 (some y1)) stR_o (by rw [stR_up]; exact eq_1_0) dFg_init_9 (fun H locs hP hS => ?_)
  refine lv_aload_n hx hb dFg_init_12 rfl (lv_at hl 0 rfl) ?_
  refine lv_bipush (v := 16) hx hb dFg_init_13 (by decide) ?_
  replace h := bd1_some h
  obtain ⟨y3, hy4, h⟩ := h
  obtain ⟨hy4a, hy4b, hy4t⟩ := alo_some hy4
  clear hy4
  refine x_size (x_lo hsl hP hy2a (Nat.lt_succ_self _) rfl) (fun hz => ?_)
  refine x_anew (N := 16) hx hb hown (hts _ tw_37) hno.2.1 hD hP hS hA (aln_out hla hy4b) hy4t (x_had hsl hy4a hz rfl) 5 (hK.2 5 _ rfl).2 rfl (by decide) (by decide) (by decide) (Nat.le_of_ble_eq_true rfl) (Nat.le_of_ble_eq_true rfl) dFg_init_15 (fun H hP hD hS => ?_)
  rw [Ln_s (show (n0 + 2) = (n0 + 1) + 1 from rfl) hy4a] at hP hD
  replace hN : (Ln sl (n0 + 2) L).Nodup := Ln_nd rfl hy4a (aln_out hla hy4b) hN
  replace hal := aln_in (sl := sl) hal0 (n0 + 2)
  replace q0 := okk_n (show (n0 + 1) ≤ (n0 + 2) from Nat.add_le_add_left (by decide) _) q0
  have hy4f := okk_new (al := al) (n := (n0 + 2)) hy4a (Nat.lt_succ_self _) hy4t
  refine W.widen (k := 2) (n := 20) (Nat.le_of_ble_eq_true rfl) (Nat.le_of_ble_eq_true rfl) ?_
  refine x_putF hx hb hts in_Fg t_Fg t_Fg_ok nm_Fg hown hK hD hN hP hS (hal _ (okk_al q0)) (okk_t q0) rfl rfl 1 (by decide) (hts _ tw_200) (fun _ h9 => h9) rfl hnm rfl (ty := .array (.object "ImageForge$Name")) (v := .ref (ad y3)) (by decide +kernel) rfl rfl (Nat.le_of_ble_eq_true rfl) (stR (clr (stR (clr u y1) x0 0 (some y1)) y3) x0 1 (some y3)) stR_o (by rw [stR_up]; exact eq_1_1) dFg_init_18 (fun H locs hP hS => ?_)
  refine lv_aload_n hx hb dFg_init_21 rfl (lv_at hl 0 rfl) ?_
  refine lv_iconst (v := 4) hx hb dFg_init_22 (by decide) ?_
  refine lv_bipush (v := 100) hx hb dFg_init_23 (by decide) ?_
  refine x_size (x_lo hsl hP hy4a (Nat.lt_succ_self _) rfl) (fun hz => ?_)
  replace h := bd1_some h
  obtain ⟨y5, hy6, h⟩ := h
  obtain ⟨hy6a, hy6b, hy6t⟩ := alo_some hy6
  clear hy6
  replace h := bd1_some h
  obtain ⟨y7, hy8, h⟩ := h
  obtain ⟨hy8a, hy8b, hy8t⟩ := alo_some hy8
  clear hy8
  replace h := bd1_some h
  obtain ⟨y9, hy10, h⟩ := h
  obtain ⟨hy10a, hy10b, hy10t⟩ := alo_some hy10
  clear hy10
  replace h := bd1_some h
  obtain ⟨y11, hy12, h⟩ := h
  obtain ⟨hy12a, hy12b, hy12t⟩ := alo_some hy12
  clear hy12
  replace h := bd1_some h
  obtain ⟨y13, hy14, h⟩ := h
  obtain ⟨hy14a, hy14b, hy14t⟩ := alo_some hy14
  clear hy14
  have hq : ∀ q ∈ [y5, y7, y9, y11, y13], q ∉ Ln sl (n0 + 2) L := by
    intro q hq hm
    simp only [List.mem_cons, List.not_mem_nil, or_false] at hq
    rcases hq with rfl | rfl | rfl | rfl | rfl
    · exact aln_out hla hy6b (hm)
    · exact aln_out hla hy8b (List.mem_append.mpr ((List.mem_append.mp hm).imp (Bn_mono (show (n0 + 2) ≤ (n0 + 3) from Nat.add_le_add_left (by decide) _)) id))
    · exact aln_out hla hy10b (List.mem_append.mpr ((List.mem_append.mp hm).imp (Bn_mono (show (n0 + 2) ≤ (n0 + 4) from Nat.add_le_add_left (by decide) _)) id))
    · exact aln_out hla hy12b (List.mem_append.mpr ((List.mem_append.mp hm).imp (Bn_mono (show (n0 + 2) ≤ (n0 + 5) from Nat.add_le_add_left (by decide) _)) id))
    · exact aln_out hla hy14b (List.mem_append.mpr ((List.mem_append.mp hm).imp (Bn_mono (show (n0 + 2) ≤ (n0 + 6) from Nat.add_le_add_left (by decide) _)) id))
  have hne : [y5, y7, y9, y11, y13].Nodup := by
    have hz9 : ∀ (i j : Nat) (a b : Nat), sl i = some a → sl j = some b → i ≠ j → a ≠ b := fun i j a b h1 h2 h3 h4 => by
      have e1 := hsl i a h1
      have e2 := hsl j b h2
      subst h4
      omega
    simp only [List.nodup_cons, List.mem_cons, List.not_mem_nil, or_false, not_or, not_false_eq_true, List.nodup_nil, and_true]
    exact ⟨⟨hz9 _ _ _ _ hy6a hy8a (by omega), hz9 _ _ _ _ hy6a hy10a (by omega), hz9 _ _ _ _ hy6a hy12a (by omega), hz9 _ _ _ _ hy6a hy14a (by omega)⟩, ⟨hz9 _ _ _ _ hy8a hy10a (by omega), hz9 _ _ _ _ hy8a hy12a (by omega), hz9 _ _ _ _ hy8a hy14a (by omega)⟩, ⟨hz9 _ _ _ _ hy10a hy12a (by omega), hz9 _ _ _ _ hy10a hy14a (by omega)⟩, hz9 _ _ _ _ hy12a hy14a (by omega)⟩
  have hneq := hne
  simp only [List.nodup_cons, List.mem_cons, List.not_mem_nil, or_false, not_or, not_false_eq_true, List.nodup_nil, and_true] at hneq
  refine x_mna (k0 := y5) (ks := [y7, y9, y11, y13]) (N := 4) (K := 100) hx hb hown (hts _ tw_39) hno.2.2.2.2 (hts _ tw_58) hK hD hP hS hA hq ?_ (stR (stR (stR (stR (clr (clr (clr (clr (clr (stR (clr (stR (clr u y1) x0 0 (some y1)) y3) x0 1 (some y3)) y5) y7) y9) y11) y13) y5 (0 : Int32) (some y7)) y5 (1 : Int32) (some y9)) y5 (2 : Int32) (some y11)) y5 (3 : Int32) (some y13)) ?_ ?_ ?_ (by decide) (by decide) (by decide) (by decide) rfl (by decide) (by decide) (Nat.le_of_ble_eq_true rfl) (Nat.le_of_ble_eq_true rfl) dFg_init_25 (fun H hP hD hS => ?_)
  · intro i q hi
    have hi9 : i < 5 := (List.getElem?_eq_some_iff.mp hi).1
    obtain rfl | rfl | rfl | rfl | rfl : i = 0 ∨ i = 1 ∨ i = 2 ∨ i = 3 ∨ i = 4 := by omega
    · obtain rfl := Option.some.inj hi
      have e1 := hsl _ _ hy6a
      omega
    · obtain rfl := Option.some.inj hi
      have e1 := hsl _ _ hy8a
      omega
    · obtain rfl := Option.some.inj hi
      have e1 := hsl _ _ hy10a
      omega
    · obtain rfl := Option.some.inj hi
      have e1 := hsl _ _ hy12a
      omega
    · obtain rfl := Option.some.inj hi
      have e1 := hsl _ _ hy14a
      omega
  · intro j hj
    simp only [List.mem_cons, List.not_mem_nil, or_false, not_or] at hj
    refine ⟨?_, ?_, ?_⟩ <;> · funext b; simp [clr, stR, hj]
  · refine ⟨_, by rw [okk_t (T := 4) (al := aln al sl (n0 + 7)) (okk_new hy6a (by omega) hy6t)]; rfl, ?_⟩
    intro j hj
    obtain rfl | rfl | rfl | rfl : j = 0 ∨ j = 1 ∨ j = 2 ∨ j = 3 := by omega
    · have e1 := hsl _ _ hy8a
      have e2 : ((stR (stR (stR (stR (clr (clr (clr (clr (clr (stR (clr (stR (clr u y1) x0 0 (some y1)) y3) x0 1 (some y3)) y5) y7) y9) y11) y13) y5 (0 : Int32) (some y7)) y5 (1 : Int32) (some y9)) y5 (2 : Int32) (some y11)) y5 (3 : Int32) (some y13)) : Mr).2.1 y5 (nI 0) = some y7 := by
        simp [clr, stR, show nI 0 = (0 : Int32) from rfl]
      show Option.map ad (((stR (stR (stR (stR (clr (clr (clr (clr (clr (stR (clr (stR (clr u y1) x0 0 (some y1)) y3) x0 1 (some y3)) y5) y7) y9) y11) y13) y5 (0 : Int32) (some y7)) y5 (1 : Int32) (some y9)) y5 (2 : Int32) (some y11)) y5 (3 : Int32) (some y13)) : Mr).2.1 y5 (nI 0)) = _
      rw [e2, Option.map_some]
      congr 1
      omega
    · have e1 := hsl _ _ hy10a
      have e2 : ((stR (stR (stR (stR (clr (clr (clr (clr (clr (stR (clr (stR (clr u y1) x0 0 (some y1)) y3) x0 1 (some y3)) y5) y7) y9) y11) y13) y5 (0 : Int32) (some y7)) y5 (1 : Int32) (some y9)) y5 (2 : Int32) (some y11)) y5 (3 : Int32) (some y13)) : Mr).2.1 y5 (nI 1) = some y9 := by
        simp [clr, stR, show nI 1 = (1 : Int32) from rfl]
      show Option.map ad (((stR (stR (stR (stR (clr (clr (clr (clr (clr (stR (clr (stR (clr u y1) x0 0 (some y1)) y3) x0 1 (some y3)) y5) y7) y9) y11) y13) y5 (0 : Int32) (some y7)) y5 (1 : Int32) (some y9)) y5 (2 : Int32) (some y11)) y5 (3 : Int32) (some y13)) : Mr).2.1 y5 (nI 1)) = _
      rw [e2, Option.map_some]
      congr 1
      omega
    · have e1 := hsl _ _ hy12a
      have e2 : ((stR (stR (stR (stR (clr (clr (clr (clr (clr (stR (clr (stR (clr u y1) x0 0 (some y1)) y3) x0 1 (some y3)) y5) y7) y9) y11) y13) y5 (0 : Int32) (some y7)) y5 (1 : Int32) (some y9)) y5 (2 : Int32) (some y11)) y5 (3 : Int32) (some y13)) : Mr).2.1 y5 (nI 2) = some y11 := by
        simp [clr, stR, show nI 2 = (2 : Int32) from rfl]
      show Option.map ad (((stR (stR (stR (stR (clr (clr (clr (clr (clr (stR (clr (stR (clr u y1) x0 0 (some y1)) y3) x0 1 (some y3)) y5) y7) y9) y11) y13) y5 (0 : Int32) (some y7)) y5 (1 : Int32) (some y9)) y5 (2 : Int32) (some y11)) y5 (3 : Int32) (some y13)) : Mr).2.1 y5 (nI 2)) = _
      rw [e2, Option.map_some]
      congr 1
      omega
    · have e1 := hsl _ _ hy14a
      have e2 : ((stR (stR (stR (stR (clr (clr (clr (clr (clr (stR (clr (stR (clr u y1) x0 0 (some y1)) y3) x0 1 (some y3)) y5) y7) y9) y11) y13) y5 (0 : Int32) (some y7)) y5 (1 : Int32) (some y9)) y5 (2 : Int32) (some y11)) y5 (3 : Int32) (some y13)) : Mr).2.1 y5 (nI 3) = some y13 := by
        simp [clr, stR, show nI 3 = (3 : Int32) from rfl]
      show Option.map ad (((stR (stR (stR (stR (clr (clr (clr (clr (clr (stR (clr (stR (clr u y1) x0 0 (some y1)) y3) x0 1 (some y3)) y5) y7) y9) y11) y13) y5 (0 : Int32) (some y7)) y5 (1 : Int32) (some y9)) y5 (2 : Int32) (some y11)) y5 (3 : Int32) (some y13)) : Mr).2.1 y5 (nI 3)) = _
      rw [e2, Option.map_some]
      congr 1
      omega
  · intro q hm
    simp only [List.mem_cons, List.not_mem_nil, or_false] at hm
    rcases hm with e9 | e9 | e9 | e9
    · have r1 : ((stR (stR (stR (stR (clr (clr (clr (clr (clr (stR (clr (stR (clr u y1) x0 0 (some y1)) y3) x0 1 (some y3)) y5) y7) y9) y11) y13) y5 (0 : Int32) (some y7)) y5 (1 : Int32) (some y9)) y5 (2 : Int32) (some y11)) y5 (3 : Int32) (some y13)) : Mr).1 y7 = fun _ => 0 := by
        funext b; simp [clr, stR, hneq]
      rw [e9, hy8t, r1]
      rfl
    · have r1 : ((stR (stR (stR (stR (clr (clr (clr (clr (clr (stR (clr (stR (clr u y1) x0 0 (some y1)) y3) x0 1 (some y3)) y5) y7) y9) y11) y13) y5 (0 : Int32) (some y7)) y5 (1 : Int32) (some y9)) y5 (2 : Int32) (some y11)) y5 (3 : Int32) (some y13)) : Mr).1 y9 = fun _ => 0 := by
        funext b; simp [clr, stR, hneq]
      rw [e9, hy10t, r1]
      rfl
    · have r1 : ((stR (stR (stR (stR (clr (clr (clr (clr (clr (stR (clr (stR (clr u y1) x0 0 (some y1)) y3) x0 1 (some y3)) y5) y7) y9) y11) y13) y5 (0 : Int32) (some y7)) y5 (1 : Int32) (some y9)) y5 (2 : Int32) (some y11)) y5 (3 : Int32) (some y13)) : Mr).1 y11 = fun _ => 0 := by
        funext b; simp [clr, stR, hneq]
      rw [e9, hy12t, r1]
      rfl
    · have r1 : ((stR (stR (stR (stR (clr (clr (clr (clr (clr (stR (clr (stR (clr u y1) x0 0 (some y1)) y3) x0 1 (some y3)) y5) y7) y9) y11) y13) y5 (0 : Int32) (some y7)) y5 (1 : Int32) (some y9)) y5 (2 : Int32) (some y11)) y5 (3 : Int32) (some y13)) : Mr).1 y13 = fun _ => 0 := by
        funext b; simp [clr, stR, hneq]
      rw [e9, hy14t, r1]
      rfl
  replace hP : va_P D vwCl (ww ad cA (Ln sl (n0 + 7) L) rs (stR (stR (stR (stR (clr (clr (clr (clr (clr (stR (clr (stR (clr u y1) x0 0 (some y1)) y3) x0 1 (some y3)) y5) y7) y9) y11) y13) y5 (0 : Int32) (some y7)) y5 (1 : Int32) (some y9)) y5 (2 : Int32) (some y11)) y5 (3 : Int32) (some y13))) H := by
    rw [← Ln_s (show (n0 + 7) = (n0 + 6) + 1 from rfl) hy14a, ← Ln_s (show (n0 + 6) = (n0 + 5) + 1 from rfl) hy12a, ← Ln_s (show (n0 + 5) = (n0 + 4) + 1 from rfl) hy10a, ← Ln_s (show (n0 + 4) = (n0 + 3) + 1 from rfl) hy8a, ← Ln_s (show (n0 + 3) = (n0 + 2) + 1 from rfl) hy6a]
    exact hP
  replace hD : ∀ v : Mr, va_D A (ww ad cA (Ln sl (n0 + 7) L) rs v) := by
    rw [← Ln_s (show (n0 + 7) = (n0 + 6) + 1 from rfl) hy14a, ← Ln_s (show (n0 + 6) = (n0 + 5) + 1 from rfl) hy12a, ← Ln_s (show (n0 + 5) = (n0 + 4) + 1 from rfl) hy10a, ← Ln_s (show (n0 + 4) = (n0 + 3) + 1 from rfl) hy8a, ← Ln_s (show (n0 + 3) = (n0 + 2) + 1 from rfl) hy6a]
    exact hD
  replace hN : (Ln sl (n0 + 3) L).Nodup := Ln_nd rfl hy6a (aln_out hla hy6b) hN
  replace hN : (Ln sl (n0 + 4) L).Nodup := Ln_nd rfl hy8a (aln_out hla hy8b) hN
  replace hN : (Ln sl (n0 + 5) L).Nodup := Ln_nd rfl hy10a (aln_out hla hy10b) hN
  replace hN : (Ln sl (n0 + 6) L).Nodup := Ln_nd rfl hy12a (aln_out hla hy12b) hN
  replace hN : (Ln sl (n0 + 7) L).Nodup := Ln_nd rfl hy14a (aln_out hla hy14b) hN
  replace hal := aln_in (sl := sl) hal0 (n0 + 7)
  replace q0 := okk_n (show (n0 + 2) ≤ (n0 + 7) from Nat.add_le_add_left (by decide) _) q0
  have hy6f := okk_new (al := al) (n := (n0 + 7)) hy6a (by omega) hy6t
  refine W.widen (k := 7) (n := 424) (Nat.le_of_ble_eq_true rfl) (Nat.le_of_ble_eq_true rfl) ?_
  refine x_putF hx hb hts in_Fg t_Fg t_Fg_ok nm_Fg hown hK hD hN hP hS (hal _ (okk_al q0)) (okk_t q0) rfl rfl 2 (by decide) (hts _ tw_201) (fun _ h9 => h9) rfl hnm rfl (ty := .array (.array .int)) (v := .ref (ad y5)) (by decide +kernel) rfl rfl (Nat.le_of_ble_eq_true rfl) (stR (stR (stR (stR (stR (clr (clr (clr (clr (clr (stR (clr (stR (clr u y1) x0 0 (some y1)) y3) x0 1 (some y3)) y5) y7) y9) y11) y13) y5 (0 : Int32) (some y7)) y5 (1 : Int32) (some y9)) y5 (2 : Int32) (some y11)) y5 (3 : Int32) (some y13)) x0 2 (some y5)) stR_o (by rw [stR_up]; exact eq_1_2) dFg_init_29 (fun H locs hP hS => ?_)
  refine lv_aload_n hx hb dFg_init_32 rfl (lv_at hl 0 rfl) ?_
  replace h := bd1_some h
  obtain ⟨y15, hy16, h⟩ := h
  obtain ⟨hy16a, hy16b, hy16t⟩ := alo_some hy16
  clear hy16
  refine x_size (x_lo hsl hP hy14a (Nat.lt_succ_self _) rfl) (fun hz => ?_)
  refine x_new hx hb hts in_Im t_Im t_Im_ok hown (hts _ tw_41) (hts _ tw_42) (hts _ tw_2) hK hD hP hS hA (aln_out hla hy16b) hy16t (x_had hsl hy16a hz rfl) rfl rfl df_Im (Nat.le_of_ble_eq_true rfl) (Nat.le_of_ble_eq_true rfl) dFg_init_33 (fun H hP hD hS => ?_)
  rw [Ln_s (show (n0 + 8) = (n0 + 7) + 1 from rfl) hy16a] at hP hD
  replace hN : (Ln sl (n0 + 8) L).Nodup := Ln_nd rfl hy16a (aln_out hla hy16b) hN
  replace hal := aln_in (sl := sl) hal0 (n0 + 8)
  replace q0 := okk_n (show (n0 + 7) ≤ (n0 + 8) from Nat.add_le_add_left (by decide) _) q0
  have hy16f := okk_new (al := al) (n := (n0 + 8)) hy16a (Nat.lt_succ_self _) hy16t
  refine W.widen (k := 8) (n := 426) (Nat.le_of_ble_eq_true rfl) (Nat.le_of_ble_eq_true rfl) ?_
  refine lv_dup hx hb dFg_init_36 rfl ?_
  replace h := bd2_some h
  obtain ⟨u17, v17, hc17, h⟩ := h
  refine x_size (x_lo hsl hP hy16a (Nat.lt_succ_self _) rfl) (fun hz => ?_)
  refine z_cv (u := clr (stR (stR (stR (stR (stR (clr (clr (clr (clr (clr (stR (clr (stR (clr u y1) x0 0 (some y1)) y3) x0 1 (some y3)) y5) y7) y9) y11) y13) y5 (0 : Int32) (some y7)) y5 (1 : Int32) (some y9)) y5 (2 : Int32) (some y11)) y5 (3 : Int32) (some y13)) x0 2 (some y5)) y15) (out := (u17, v17)) hA hD hS (va_runIN (As := []) (rest := [.ref (ad y15), .ref (ad x0)]) ⟨hx, hb, hml, hown, hts⟩ (ct_Im_init hal0 hla hN (sz := H.size) (x_hsl hsl hz) F (clr (stR (stR (stR (stR (stR (clr (clr (clr (clr (clr (stR (clr (stR (clr u y1) x0 0 (some y1)) y3) x0 1 (some y3)) y5) y7) y9) y11) y13) y5 (0 : Int32) (some y7)) y5 (1 : Int32) (some y9)) y5 (2 : Int32) (some y11)) y5 (3 : Int32) (some y13)) x0 2 (some y5)) y15) y15 (u17, v17) hc17 hy16f) ⟨va_cnB 0 hts gdIm_init rfl rfl rfl (nn_0 hNx) (hts _ tw_2) hdIm_init ⟨Nat.le_of_ble_eq_true rfl, Nat.le_of_ble_eq_true rfl⟩, rfl, (hts _ tw_44)⟩ (x_preSN hK hD hNx hP hS hA hdZ hdT hno hny) rfl rfl hl.1 rfl (lv_room (Nat.le_of_ble_eq_true rfl)) dFg_init_37 ⟨Nat.le_of_ble_eq_true rfl, Nat.le_of_ble_eq_true rfl⟩) (fun t9 locs hB hS9 => ?_)
  obtain ⟨hP9, hD9, hN9⟩ := hB
  replace hD := x_Dw hA hD hS hD9
  replace hN := hN9
  clear hP hS
  generalize t9.heap = H at hP9 hS9 ⊢
  have hP := hP9
  have hS := hS9
  clear hP9 hS9 hD9 hN9
  replace h := ck_some h
  obtain ⟨hk18, h⟩ := h
  obtain ⟨hk18y, hk18z⟩ := Option.isSome_iff_exists.mp hk18
  clear hk18
  replace hy16f := okk_n (show (n0 + 8) ≤ (n0 + 9) from Nat.add_le_add_left (by decide) _) hy16f
  replace q0 := okk_n (show (n0 + 8) ≤ (n0 + 9) from Nat.add_le_add_left (by decide) _) q0
  replace hal := aln_in (sl := sl) hal0 (n0 + 9)
  refine W.widen (k := 9) (n := 1322) (Nat.le_of_ble_eq_true rfl) (Nat.le_of_ble_eq_true rfl) ?_
  refine x_putF hx hb hts in_Fg t_Fg t_Fg_ok nm_Fg hown hK hD hN hP hS (hal _ (okk_al q0)) (okk_t q0) rfl rfl 3 (by decide) (hts _ tw_202) (fun _ h9 => h9) rfl hnm rfl (ty := .object "ImageForge$Image") (v := .ref (ad y15)) (by decide +kernel) rfl rfl (Nat.le_of_ble_eq_true rfl) (stR u17 x0 3 (some y15)) stR_o (by rw [stR_up]; exact eq_1_3) dFg_init_40 (fun H locs hP hS => ?_)
  refine lv_aload_n hx hb dFg_init_43 rfl (lv_at hl 0 rfl) ?_
  replace h := bd1_some h
  obtain ⟨y19, hy20, h⟩ := h
  obtain ⟨hy20a, hy20b, hy20t⟩ := alo_some hy20
  clear hy20
  refine x_size (x_lo hsl hP hk18z (Nat.lt_succ_self _) rfl) (fun hz => ?_)
  refine x_new hx hb hts in_Lk t_Lk t_Lk_ok hown (hts _ tw_60) (hts _ tw_61) (hts _ tw_3) hK hD hP hS hA (aln_out hla hy20b) hy20t (x_had hsl hy20a hz rfl) rfl rfl df_Lk (Nat.le_of_ble_eq_true rfl) (Nat.le_of_ble_eq_true rfl) dFg_init_44 (fun H hP hD hS => ?_)
  rw [Ln_s (show (n0 + 10) = (n0 + 9) + 1 from rfl) hy20a] at hP hD
  replace hN : (Ln sl (n0 + 10) L).Nodup := Ln_nd rfl hy20a (aln_out hla hy20b) hN
  replace hal := aln_in (sl := sl) hal0 (n0 + 10)
  replace q0 := okk_n (show (n0 + 9) ≤ (n0 + 10) from Nat.add_le_add_left (by decide) _) q0
  have hy20f := okk_new (al := al) (n := (n0 + 10)) hy20a (Nat.lt_succ_self _) hy20t
  refine W.widen (k := 10) (n := 1325) (Nat.le_of_ble_eq_true rfl) (Nat.le_of_ble_eq_true rfl) ?_
  refine lv_dup hx hb dFg_init_47 rfl ?_
  replace h := bd2_some h
  obtain ⟨u21, v21, hc21, h⟩ := h
  refine x_size (x_lo hsl hP hy20a (Nat.lt_succ_self _) rfl) (fun hz => ?_)
  refine z_cv (u := clr (stR u17 x0 3 (some y15)) y19) (out := (u21, v21)) hA hD hS (va_runIN (As := []) (rest := [.ref (ad y19), .ref (ad x0)]) ⟨hx, hb, hml, hown, hts⟩ (ct_Lk_init hal0 hla hN (sz := H.size) (x_hsl hsl hz) F (clr (stR u17 x0 3 (some y15)) y19) y19 (u21, v21) hc21 hy20f) ⟨va_cnB 0 hts gdLk_init rfl rfl rfl (nn_1 hNx) (hts _ tw_3) hdLk_init ⟨Nat.le_of_ble_eq_true rfl, Nat.le_of_ble_eq_true rfl⟩, rfl, (hts _ tw_63)⟩ (x_preSN hK hD hNx hP hS hA hdZ hdT hno hny) rfl rfl hl.1 rfl (lv_room (Nat.le_of_ble_eq_true rfl)) dFg_init_48 ⟨Nat.le_of_ble_eq_true rfl, Nat.le_of_ble_eq_true rfl⟩) (fun t9 locs hB hS9 => ?_)
  obtain ⟨hP9, hD9, hN9⟩ := hB
  replace hD := x_Dw hA hD hS hD9
  replace hN := hN9
  clear hP hS
  generalize t9.heap = H at hP9 hS9 ⊢
  have hP := hP9
  have hS := hS9
  clear hP9 hS9 hD9 hN9
  replace h := ck_some h
  obtain ⟨hk22, h⟩ := h
  obtain ⟨hk22y, hk22z⟩ := Option.isSome_iff_exists.mp hk22
  clear hk22
  replace hy20f := okk_n (show (n0 + 10) ≤ (n0 + 15) from Nat.add_le_add_left (by decide) _) hy20f
  replace q0 := okk_n (show (n0 + 10) ≤ (n0 + 15) from Nat.add_le_add_left (by decide) _) q0
  replace hal := aln_in (sl := sl) hal0 (n0 + 15)
  refine W.widen (k := 15) (n := 2247) (Nat.le_of_ble_eq_true rfl) (Nat.le_of_ble_eq_true rfl) ?_
  refine x_putF hx hb hts in_Fg t_Fg t_Fg_ok nm_Fg hown hK hD hN hP hS (hal _ (okk_al q0)) (okk_t q0) rfl rfl 4 (by decide) (hts _ tw_203) (fun _ h9 => h9) rfl hnm rfl (ty := .object "ImageForge$Linker") (v := .ref (ad y19)) (by decide +kernel) rfl rfl (Nat.le_of_ble_eq_true rfl) (stR u21 x0 4 (some y19)) stR_o (by rw [stR_up]; exact eq_1_4) dFg_init_51 (fun H locs hP hS => ?_)
  refine lv_aload_n hx hb dFg_init_54 rfl (lv_at hl 0 rfl) ?_
  replace h := bd1_some h
  obtain ⟨y23, hy24, h⟩ := h
  obtain ⟨hy24a, hy24b, hy24t⟩ := alo_some hy24
  clear hy24
  refine x_size (x_lo hsl hP hk22z (Nat.lt_succ_self _) rfl) (fun hz => ?_)
  refine x_new hx hb hts in_Ld t_Ld t_Ld_ok hown (hts _ tw_78) (hts _ tw_79) (hts _ tw_4) hK hD hP hS hA (aln_out hla hy24b) hy24t (x_had hsl hy24a hz rfl) rfl rfl df_Ld (Nat.le_of_ble_eq_true rfl) (Nat.le_of_ble_eq_true rfl) dFg_init_55 (fun H hP hD hS => ?_)
  rw [Ln_s (show (n0 + 16) = (n0 + 15) + 1 from rfl) hy24a] at hP hD
  replace hN : (Ln sl (n0 + 16) L).Nodup := Ln_nd rfl hy24a (aln_out hla hy24b) hN
  replace hal := aln_in (sl := sl) hal0 (n0 + 16)
  replace q0 := okk_n (show (n0 + 15) ≤ (n0 + 16) from Nat.add_le_add_left (by decide) _) q0
  have hy24f := okk_new (al := al) (n := (n0 + 16)) hy24a (Nat.lt_succ_self _) hy24t
  refine W.widen (k := 16) (n := 2252) (Nat.le_of_ble_eq_true rfl) (Nat.le_of_ble_eq_true rfl) ?_
  refine lv_dup hx hb dFg_init_58 rfl ?_
  replace h := bd2_some h
  obtain ⟨u25, v25, hc25, h⟩ := h
  refine x_size (x_lo hsl hP hy24a (Nat.lt_succ_self _) rfl) (fun hz => ?_)
  refine z_cv (u := clr (stR u21 x0 4 (some y19)) y23) (out := (u25, v25)) hA hD hS (va_runIN (As := []) (rest := [.ref (ad y23), .ref (ad x0)]) ⟨hx, hb, hml, hown, hts⟩ (ct_Ld_init hal0 hla hN (sz := H.size) (x_hsl hsl hz) F (clr (stR u21 x0 4 (some y19)) y23) y23 (u25, v25) hc25 hy24f) ⟨va_cnB 0 hts gdLd_init rfl rfl rfl (nn_2 hNx) (hts _ tw_4) hdLd_init ⟨Nat.le_of_ble_eq_true rfl, Nat.le_of_ble_eq_true rfl⟩, rfl, (hts _ tw_81)⟩ (x_preSN hK hD hNx hP hS hA hdZ hdT hno hny) rfl rfl hl.1 rfl (lv_room (Nat.le_of_ble_eq_true rfl)) dFg_init_59 ⟨Nat.le_of_ble_eq_true rfl, Nat.le_of_ble_eq_true rfl⟩) (fun t9 locs hB hS9 => ?_)
  obtain ⟨hP9, hD9, hN9⟩ := hB
  replace hD := x_Dw hA hD hS hD9
  replace hN := hN9
  clear hP hS
  generalize t9.heap = H at hP9 hS9 ⊢
  have hP := hP9
  have hS := hS9
  clear hP9 hS9 hD9 hN9
  replace h := ck_some h
  obtain ⟨hk26, h⟩ := h
  obtain ⟨hk26y, hk26z⟩ := Option.isSome_iff_exists.mp hk26
  clear hk26
  replace hy24f := okk_n (show (n0 + 16) ≤ (n0 + 20) from Nat.add_le_add_left (by decide) _) hy24f
  replace q0 := okk_n (show (n0 + 16) ≤ (n0 + 20) from Nat.add_le_add_left (by decide) _) q0
  replace hal := aln_in (sl := sl) hal0 (n0 + 20)
  refine W.widen (k := 20) (n := 4048) (Nat.le_of_ble_eq_true rfl) (Nat.le_of_ble_eq_true rfl) ?_
  refine x_putF hx hb hts in_Fg t_Fg t_Fg_ok nm_Fg hown hK hD hN hP hS (hal _ (okk_al q0)) (okk_t q0) rfl rfl 5 (by decide) (hts _ tw_204) (fun _ h9 => h9) rfl hnm rfl (ty := .object "ImageForge$Loader") (v := .ref (ad y23)) (by decide +kernel) rfl rfl (Nat.le_of_ble_eq_true rfl) (stR u25 x0 5 (some y23)) stR_o (by rw [stR_up]; exact eq_1_5) dFg_init_62 (fun H locs hP hS => ?_)
  refine lv_iconst (v := 0) hx hb dFg_init_65 (by decide) ?_
  refine lv_istore_n (lv' := [(1, .int (0 : Int32)), (0, .ref (ad x0))]) hx hb dFg_init_66 rfl hl (by decide) rfl (fun ls hl => ?_)
  refine lv_iload_n hx hb dFg_init_67 rfl (lv_at hl 0 rfl) ?_
  refine lv_iconst (v := 4) hx hb dFg_init_68 (by decide) ?_
  refine lv_icmp_ge (tgt := 91) hx hb dFg_init_69 rfl (fun hc => absurd hc (by decide)) (fun _ => ?_)
  refine lv_aload_n hx hb dFg_init_72 rfl (lv_at hl 1 rfl) ?_
  obtain ⟨y27, hy28, h⟩ := bd1_some h
  obtain ⟨hy28a, hy28⟩ := rdR_some hy28
  refine x_get hx hb hts in_Fg hown hK hP (hal _ (okk_al q0)) (okk_t q0) rfl rfl 0 (by decide) (hts _ tw_199) (fun _ h9 => h9) (congrArg some (x_rf hy28a)) dFg_init_73 ?_
  refine lv_iload_n hx hb dFg_init_76 rfl (lv_at hl 0 rfl) ?_
  replace h := bd1_some h
  obtain ⟨y29, hy30, h⟩ := h
  obtain ⟨hy30a, hy30b, hy30t⟩ := alo_some hy30
  clear hy30
  refine x_size (x_lo hsl hP hk26z (Nat.lt_succ_self _) rfl) (fun hz => ?_)
  refine x_new hx hb hts in_Ob t_Ob t_Ob_ok hown (hts _ tw_35) (hts _ tw_102) (hts _ tw_5) hK hD hP hS hA (aln_out hla hy30b) hy30t (x_had hsl hy30a hz rfl) rfl rfl df_Ob (Nat.le_of_ble_eq_true rfl) (Nat.le_of_ble_eq_true rfl) dFg_init_77 (fun H hP hD hS => ?_)
  rw [Ln_s (show (n0 + 21) = (n0 + 20) + 1 from rfl) hy30a] at hP hD
  replace hN : (Ln sl (n0 + 21) L).Nodup := Ln_nd rfl hy30a (aln_out hla hy30b) hN
  replace hal := aln_in (sl := sl) hal0 (n0 + 21)
  replace hy28 := okk_n (show (n0 + 20) ≤ (n0 + 21) from Nat.add_le_add_left (by decide) _) hy28
  replace q0 := okk_n (show (n0 + 20) ≤ (n0 + 21) from Nat.add_le_add_left (by decide) _) q0
  have hy30f := okk_new (al := al) (n := (n0 + 21)) hy30a (Nat.lt_succ_self _) hy30t
  refine W.widen (k := 21) (n := 4051) (Nat.le_of_ble_eq_true rfl) (Nat.le_of_ble_eq_true rfl) ?_
  refine lv_dup hx hb dFg_init_80 rfl ?_
  replace h := bd2_some h
  obtain ⟨u31, v31, hc31, h⟩ := h
  refine x_size (x_lo hsl hP hy30a (Nat.lt_succ_self _) rfl) (fun hz => ?_)
  refine z_cv (u := clr (stR u25 x0 5 (some y23)) y29) (out := (u31, v31)) hA hD hS (va_runIN (As := []) (rest := [.ref (ad y29), .int (0 : Int32), .ref (ad y27)]) ⟨hx, hb, hml, hown, hts⟩ (ct_Ob_init hal0 hla hN (sz := H.size) (x_hsl hsl hz) F (clr (stR u25 x0 5 (some y23)) y29) y29 (u31, v31) hc31 hy30f) ⟨va_cnB 0 hts gdOb_init rfl rfl rfl (nn_4 hNx) (hts _ tw_5) hdOb_init ⟨Nat.le_of_ble_eq_true rfl, Nat.le_of_ble_eq_true rfl⟩, rfl, (hts _ tw_104)⟩ (x_preSN hK hD hNx hP hS hA hdZ hdT hno hny) rfl rfl hl.1 rfl (lv_room (Nat.le_of_ble_eq_true rfl)) dFg_init_81 ⟨Nat.le_of_ble_eq_true rfl, Nat.le_of_ble_eq_true rfl⟩) (fun t9 locs hB hS9 => ?_)
  obtain ⟨hP9, hD9, hN9⟩ := hB
  replace hD := x_Dw hA hD hS hD9
  replace hN := hN9
  clear hP hS
  generalize t9.heap = H at hP9 hS9 ⊢
  have hP := hP9
  have hS := hS9
  clear hP9 hS9 hD9 hN9
  replace h := ck_some h
  obtain ⟨hk32, h⟩ := h
  obtain ⟨hk32y, hk32z⟩ := Option.isSome_iff_exists.mp hk32
  clear hk32
  replace hy28 := okk_n (show (n0 + 21) ≤ (n0 + 27) from Nat.add_le_add_left (by decide) _) hy28
  replace hy30f := okk_n (show (n0 + 21) ≤ (n0 + 27) from Nat.add_le_add_left (by decide) _) hy30f
  replace q0 := okk_n (show (n0 + 21) ≤ (n0 + 27) from Nat.add_le_add_left (by decide) _) q0
  replace hal := aln_in (sl := sl) hal0 (n0 + 27)
  refine W.widen (k := 27) (n := 4140) (Nat.le_of_ble_eq_true rfl) (Nat.le_of_ble_eq_true rfl) ?_
  refine x_aast hx hb hK hD hN hP hS (hal _ (okk_al hy28)) (okk_t hy28) 4 (fun _ _ _ => rfl) rfl (Or.inl rfl) (by decide) (hal _ (okk_al hy30f)) (okk_t hy30f) rfl rfl (inb_in (show inb (0 : Int32) 4 = true by decide)) dFg_init_84 (fun H locs hP hS => ?_)
  refine lv_iinc (k := 0) (v := (1 : Int32)) (lv' := [(1, .int (1 : Int32)), (0, .ref (ad x0))]) hx hb dFg_init_85 hl rfl (by decide) (by decide) rfl (fun ls hl => ?_)
  refine lv_goto (tgt := 67) hx hb dFg_init_88 rfl ?_
  refine lv_iload_n hx hb dFg_init_67 rfl (lv_at hl 0 rfl) ?_
  refine lv_iconst (v := 4) hx hb dFg_init_68 (by decide) ?_
  refine lv_icmp_ge (tgt := 91) hx hb dFg_init_69 rfl (fun hc => absurd hc (by decide)) (fun _ => ?_)
  refine lv_aload_n hx hb dFg_init_72 rfl (lv_at hl 1 rfl) ?_
  obtain ⟨y33, hy34, h⟩ := bd1_some h
  obtain ⟨hy34a, hy34⟩ := rdR_some hy34
  refine x_get hx hb hts in_Fg hown hK hP (hal _ (okk_al q0)) (okk_t q0) rfl rfl 0 (by decide) (hts _ tw_199) (fun _ h9 => h9) (congrArg some (x_rf hy34a)) dFg_init_73 ?_
  refine lv_iload_n hx hb dFg_init_76 rfl (lv_at hl 0 rfl) ?_
  replace h := bd1_some h
  obtain ⟨y35, hy36, h⟩ := h
  obtain ⟨hy36a, hy36b, hy36t⟩ := alo_some hy36
  clear hy36
  refine x_size (x_lo hsl hP hk32z (Nat.lt_succ_self _) rfl) (fun hz => ?_)
  refine x_new hx hb hts in_Ob t_Ob t_Ob_ok hown (hts _ tw_35) (hts _ tw_102) (hts _ tw_5) hK hD hP hS hA (aln_out hla hy36b) hy36t (x_had hsl hy36a hz rfl) rfl rfl df_Ob (Nat.le_of_ble_eq_true rfl) (Nat.le_of_ble_eq_true rfl) dFg_init_77 (fun H hP hD hS => ?_)
  rw [Ln_s (show (n0 + 28) = (n0 + 27) + 1 from rfl) hy36a] at hP hD
  replace hN : (Ln sl (n0 + 28) L).Nodup := Ln_nd rfl hy36a (aln_out hla hy36b) hN
  replace hal := aln_in (sl := sl) hal0 (n0 + 28)
  replace hy34 := okk_n (show (n0 + 27) ≤ (n0 + 28) from Nat.add_le_add_left (by decide) _) hy34
  replace q0 := okk_n (show (n0 + 27) ≤ (n0 + 28) from Nat.add_le_add_left (by decide) _) q0
  have hy36f := okk_new (al := al) (n := (n0 + 28)) hy36a (Nat.lt_succ_self _) hy36t
  refine W.widen (k := 28) (n := 4143) (Nat.le_of_ble_eq_true rfl) (Nat.le_of_ble_eq_true rfl) ?_
  refine lv_dup hx hb dFg_init_80 rfl ?_
  replace h := bd2_some h
  obtain ⟨u37, v37, hc37, h⟩ := h
  refine x_size (x_lo hsl hP hy36a (Nat.lt_succ_self _) rfl) (fun hz => ?_)
  refine z_cv (u := clr (stR u31 y27 (0 : Int32) (some y29)) y35) (out := (u37, v37)) hA hD hS (va_runIN (As := []) (rest := [.ref (ad y35), .int (1 : Int32), .ref (ad y33)]) ⟨hx, hb, hml, hown, hts⟩ (ct_Ob_init hal0 hla hN (sz := H.size) (x_hsl hsl hz) F (clr (stR u31 y27 (0 : Int32) (some y29)) y35) y35 (u37, v37) hc37 hy36f) ⟨va_cnB 0 hts gdOb_init rfl rfl rfl (nn_4 hNx) (hts _ tw_5) hdOb_init ⟨Nat.le_of_ble_eq_true rfl, Nat.le_of_ble_eq_true rfl⟩, rfl, (hts _ tw_104)⟩ (x_preSN hK hD hNx hP hS hA hdZ hdT hno hny) rfl rfl hl.1 rfl (lv_room (Nat.le_of_ble_eq_true rfl)) dFg_init_81 ⟨Nat.le_of_ble_eq_true rfl, Nat.le_of_ble_eq_true rfl⟩) (fun t9 locs hB hS9 => ?_)
  obtain ⟨hP9, hD9, hN9⟩ := hB
  replace hD := x_Dw hA hD hS hD9
  replace hN := hN9
  clear hP hS
  generalize t9.heap = H at hP9 hS9 ⊢
  have hP := hP9
  have hS := hS9
  clear hP9 hS9 hD9 hN9
  replace h := ck_some h
  obtain ⟨hk38, h⟩ := h
  obtain ⟨hk38y, hk38z⟩ := Option.isSome_iff_exists.mp hk38
  clear hk38
  replace hy34 := okk_n (show (n0 + 28) ≤ (n0 + 34) from Nat.add_le_add_left (by decide) _) hy34
  replace hy36f := okk_n (show (n0 + 28) ≤ (n0 + 34) from Nat.add_le_add_left (by decide) _) hy36f
  replace q0 := okk_n (show (n0 + 28) ≤ (n0 + 34) from Nat.add_le_add_left (by decide) _) q0
  replace hal := aln_in (sl := sl) hal0 (n0 + 34)
  refine W.widen (k := 34) (n := 4232) (Nat.le_of_ble_eq_true rfl) (Nat.le_of_ble_eq_true rfl) ?_
  refine x_aast hx hb hK hD hN hP hS (hal _ (okk_al hy34)) (okk_t hy34) 4 (fun _ _ _ => rfl) rfl (Or.inl rfl) (by decide) (hal _ (okk_al hy36f)) (okk_t hy36f) rfl rfl (inb_in (show inb (1 : Int32) 4 = true by decide)) dFg_init_84 (fun H locs hP hS => ?_)
  refine lv_iinc (k := 0) (v := (2 : Int32)) (lv' := [(1, .int (2 : Int32)), (0, .ref (ad x0))]) hx hb dFg_init_85 hl rfl (by decide) (by decide) rfl (fun ls hl => ?_)
  refine lv_goto (tgt := 67) hx hb dFg_init_88 rfl ?_
  refine lv_iload_n hx hb dFg_init_67 rfl (lv_at hl 0 rfl) ?_
  refine lv_iconst (v := 4) hx hb dFg_init_68 (by decide) ?_
  refine lv_icmp_ge (tgt := 91) hx hb dFg_init_69 rfl (fun hc => absurd hc (by decide)) (fun _ => ?_)
  refine lv_aload_n hx hb dFg_init_72 rfl (lv_at hl 1 rfl) ?_
  obtain ⟨y39, hy40, h⟩ := bd1_some h
  obtain ⟨hy40a, hy40⟩ := rdR_some hy40
  refine x_get hx hb hts in_Fg hown hK hP (hal _ (okk_al q0)) (okk_t q0) rfl rfl 0 (by decide) (hts _ tw_199) (fun _ h9 => h9) (congrArg some (x_rf hy40a)) dFg_init_73 ?_
  refine lv_iload_n hx hb dFg_init_76 rfl (lv_at hl 0 rfl) ?_
  replace h := bd1_some h
  obtain ⟨y41, hy42, h⟩ := h
  obtain ⟨hy42a, hy42b, hy42t⟩ := alo_some hy42
  clear hy42
  refine x_size (x_lo hsl hP hk38z (Nat.lt_succ_self _) rfl) (fun hz => ?_)
  refine x_new hx hb hts in_Ob t_Ob t_Ob_ok hown (hts _ tw_35) (hts _ tw_102) (hts _ tw_5) hK hD hP hS hA (aln_out hla hy42b) hy42t (x_had hsl hy42a hz rfl) rfl rfl df_Ob (Nat.le_of_ble_eq_true rfl) (Nat.le_of_ble_eq_true rfl) dFg_init_77 (fun H hP hD hS => ?_)
  rw [Ln_s (show (n0 + 35) = (n0 + 34) + 1 from rfl) hy42a] at hP hD
  replace hN : (Ln sl (n0 + 35) L).Nodup := Ln_nd rfl hy42a (aln_out hla hy42b) hN
  replace hal := aln_in (sl := sl) hal0 (n0 + 35)
  replace hy40 := okk_n (show (n0 + 34) ≤ (n0 + 35) from Nat.add_le_add_left (by decide) _) hy40
  replace q0 := okk_n (show (n0 + 34) ≤ (n0 + 35) from Nat.add_le_add_left (by decide) _) q0
  have hy42f := okk_new (al := al) (n := (n0 + 35)) hy42a (Nat.lt_succ_self _) hy42t
  refine W.widen (k := 35) (n := 4235) (Nat.le_of_ble_eq_true rfl) (Nat.le_of_ble_eq_true rfl) ?_
  refine lv_dup hx hb dFg_init_80 rfl ?_
  replace h := bd2_some h
  obtain ⟨u43, v43, hc43, h⟩ := h
  refine x_size (x_lo hsl hP hy42a (Nat.lt_succ_self _) rfl) (fun hz => ?_)
  refine z_cv (u := clr (stR u37 y33 (1 : Int32) (some y35)) y41) (out := (u43, v43)) hA hD hS (va_runIN (As := []) (rest := [.ref (ad y41), .int (2 : Int32), .ref (ad y39)]) ⟨hx, hb, hml, hown, hts⟩ (ct_Ob_init hal0 hla hN (sz := H.size) (x_hsl hsl hz) F (clr (stR u37 y33 (1 : Int32) (some y35)) y41) y41 (u43, v43) hc43 hy42f) ⟨va_cnB 0 hts gdOb_init rfl rfl rfl (nn_4 hNx) (hts _ tw_5) hdOb_init ⟨Nat.le_of_ble_eq_true rfl, Nat.le_of_ble_eq_true rfl⟩, rfl, (hts _ tw_104)⟩ (x_preSN hK hD hNx hP hS hA hdZ hdT hno hny) rfl rfl hl.1 rfl (lv_room (Nat.le_of_ble_eq_true rfl)) dFg_init_81 ⟨Nat.le_of_ble_eq_true rfl, Nat.le_of_ble_eq_true rfl⟩) (fun t9 locs hB hS9 => ?_)
  obtain ⟨hP9, hD9, hN9⟩ := hB
  replace hD := x_Dw hA hD hS hD9
  replace hN := hN9
  clear hP hS
  generalize t9.heap = H at hP9 hS9 ⊢
  have hP := hP9
  have hS := hS9
  clear hP9 hS9 hD9 hN9
  replace h := ck_some h
  obtain ⟨hk44, h⟩ := h
  obtain ⟨hk44y, hk44z⟩ := Option.isSome_iff_exists.mp hk44
  clear hk44
  replace hy40 := okk_n (show (n0 + 35) ≤ (n0 + 41) from Nat.add_le_add_left (by decide) _) hy40
  replace hy42f := okk_n (show (n0 + 35) ≤ (n0 + 41) from Nat.add_le_add_left (by decide) _) hy42f
  replace q0 := okk_n (show (n0 + 35) ≤ (n0 + 41) from Nat.add_le_add_left (by decide) _) q0
  replace hal := aln_in (sl := sl) hal0 (n0 + 41)
  refine W.widen (k := 41) (n := 4324) (Nat.le_of_ble_eq_true rfl) (Nat.le_of_ble_eq_true rfl) ?_
  refine x_aast hx hb hK hD hN hP hS (hal _ (okk_al hy40)) (okk_t hy40) 4 (fun _ _ _ => rfl) rfl (Or.inl rfl) (by decide) (hal _ (okk_al hy42f)) (okk_t hy42f) rfl rfl (inb_in (show inb (2 : Int32) 4 = true by decide)) dFg_init_84 (fun H locs hP hS => ?_)
  refine lv_iinc (k := 0) (v := (3 : Int32)) (lv' := [(1, .int (3 : Int32)), (0, .ref (ad x0))]) hx hb dFg_init_85 hl rfl (by decide) (by decide) rfl (fun ls hl => ?_)
  refine lv_goto (tgt := 67) hx hb dFg_init_88 rfl ?_
  refine lv_iload_n hx hb dFg_init_67 rfl (lv_at hl 0 rfl) ?_
  refine lv_iconst (v := 4) hx hb dFg_init_68 (by decide) ?_
  refine lv_icmp_ge (tgt := 91) hx hb dFg_init_69 rfl (fun hc => absurd hc (by decide)) (fun _ => ?_)
  refine lv_aload_n hx hb dFg_init_72 rfl (lv_at hl 1 rfl) ?_
  obtain ⟨y45, hy46, h⟩ := bd1_some h
  obtain ⟨hy46a, hy46⟩ := rdR_some hy46
  refine x_get hx hb hts in_Fg hown hK hP (hal _ (okk_al q0)) (okk_t q0) rfl rfl 0 (by decide) (hts _ tw_199) (fun _ h9 => h9) (congrArg some (x_rf hy46a)) dFg_init_73 ?_
  refine lv_iload_n hx hb dFg_init_76 rfl (lv_at hl 0 rfl) ?_
  replace h := bd1_some h
  obtain ⟨y47, hy48, h⟩ := h
  obtain ⟨hy48a, hy48b, hy48t⟩ := alo_some hy48
  clear hy48
  refine x_size (x_lo hsl hP hk44z (Nat.lt_succ_self _) rfl) (fun hz => ?_)
  refine x_new hx hb hts in_Ob t_Ob t_Ob_ok hown (hts _ tw_35) (hts _ tw_102) (hts _ tw_5) hK hD hP hS hA (aln_out hla hy48b) hy48t (x_had hsl hy48a hz rfl) rfl rfl df_Ob (Nat.le_of_ble_eq_true rfl) (Nat.le_of_ble_eq_true rfl) dFg_init_77 (fun H hP hD hS => ?_)
  rw [Ln_s (show (n0 + 42) = (n0 + 41) + 1 from rfl) hy48a] at hP hD
  replace hN : (Ln sl (n0 + 42) L).Nodup := Ln_nd rfl hy48a (aln_out hla hy48b) hN
  replace hal := aln_in (sl := sl) hal0 (n0 + 42)
  replace hy46 := okk_n (show (n0 + 41) ≤ (n0 + 42) from Nat.add_le_add_left (by decide) _) hy46
  replace q0 := okk_n (show (n0 + 41) ≤ (n0 + 42) from Nat.add_le_add_left (by decide) _) q0
  have hy48f := okk_new (al := al) (n := (n0 + 42)) hy48a (Nat.lt_succ_self _) hy48t
  refine W.widen (k := 42) (n := 4327) (Nat.le_of_ble_eq_true rfl) (Nat.le_of_ble_eq_true rfl) ?_
  refine lv_dup hx hb dFg_init_80 rfl ?_
  replace h := bd2_some h
  obtain ⟨u49, v49, hc49, h⟩ := h
  refine x_size (x_lo hsl hP hy48a (Nat.lt_succ_self _) rfl) (fun hz => ?_)
  refine z_cv (u := clr (stR u43 y39 (2 : Int32) (some y41)) y47) (out := (u49, v49)) hA hD hS (va_runIN (As := []) (rest := [.ref (ad y47), .int (3 : Int32), .ref (ad y45)]) ⟨hx, hb, hml, hown, hts⟩ (ct_Ob_init hal0 hla hN (sz := H.size) (x_hsl hsl hz) F (clr (stR u43 y39 (2 : Int32) (some y41)) y47) y47 (u49, v49) hc49 hy48f) ⟨va_cnB 0 hts gdOb_init rfl rfl rfl (nn_4 hNx) (hts _ tw_5) hdOb_init ⟨Nat.le_of_ble_eq_true rfl, Nat.le_of_ble_eq_true rfl⟩, rfl, (hts _ tw_104)⟩ (x_preSN hK hD hNx hP hS hA hdZ hdT hno hny) rfl rfl hl.1 rfl (lv_room (Nat.le_of_ble_eq_true rfl)) dFg_init_81 ⟨Nat.le_of_ble_eq_true rfl, Nat.le_of_ble_eq_true rfl⟩) (fun t9 locs hB hS9 => ?_)
  obtain ⟨hP9, hD9, hN9⟩ := hB
  replace hD := x_Dw hA hD hS hD9
  replace hN := hN9
  clear hP hS
  generalize t9.heap = H at hP9 hS9 ⊢
  have hP := hP9
  have hS := hS9
  clear hP9 hS9 hD9 hN9
  replace h := ck_some h
  obtain ⟨hk50, h⟩ := h
  obtain ⟨hk50y, hk50z⟩ := Option.isSome_iff_exists.mp hk50
  clear hk50
  replace hy46 := okk_n (show (n0 + 42) ≤ (n0 + 48) from Nat.add_le_add_left (by decide) _) hy46
  replace hy48f := okk_n (show (n0 + 42) ≤ (n0 + 48) from Nat.add_le_add_left (by decide) _) hy48f
  replace q0 := okk_n (show (n0 + 42) ≤ (n0 + 48) from Nat.add_le_add_left (by decide) _) q0
  replace hal := aln_in (sl := sl) hal0 (n0 + 48)
  refine W.widen (k := 48) (n := 4416) (Nat.le_of_ble_eq_true rfl) (Nat.le_of_ble_eq_true rfl) ?_
  refine x_aast hx hb hK hD hN hP hS (hal _ (okk_al hy46)) (okk_t hy46) 4 (fun _ _ _ => rfl) rfl (Or.inl rfl) (by decide) (hal _ (okk_al hy48f)) (okk_t hy48f) rfl rfl (inb_in (show inb (3 : Int32) 4 = true by decide)) dFg_init_84 (fun H locs hP hS => ?_)
  refine lv_iinc (k := 0) (v := (4 : Int32)) (lv' := [(1, .int (4 : Int32)), (0, .ref (ad x0))]) hx hb dFg_init_85 hl rfl (by decide) (by decide) rfl (fun ls hl => ?_)
  refine lv_goto (tgt := 67) hx hb dFg_init_88 rfl ?_
  refine lv_iload_n hx hb dFg_init_67 rfl (lv_at hl 0 rfl) ?_
  refine lv_iconst (v := 4) hx hb dFg_init_68 (by decide) ?_
  refine lv_icmp_ge (tgt := 91) hx hb dFg_init_69 rfl (fun _ => ?_) (fun hc => absurd (by decide) hc)
  refine lv_iconst (v := 0) hx hb dFg_init_91 (by decide) ?_
  refine lv_istore_n (lv' := [(1, .int (0 : Int32)), (0, .ref (ad x0))]) hx hb dFg_init_92 rfl hl (by decide) rfl (fun ls hl => ?_)
  refine lv_iload_n hx hb dFg_init_93 rfl (lv_at hl 0 rfl) ?_
  refine lv_bipush (v := 16) hx hb dFg_init_94 (by decide) ?_
  refine lv_icmp_ge (tgt := 118) hx hb dFg_init_96 rfl (fun hc => absurd hc (by decide)) (fun _ => ?_)
  refine lv_aload_n hx hb dFg_init_99 rfl (lv_at hl 1 rfl) ?_
  obtain ⟨y51, hy52, h⟩ := bd1_some h
  obtain ⟨hy52a, hy52⟩ := rdR_some hy52
  refine x_get hx hb hts in_Fg hown hK hP (hal _ (okk_al q0)) (okk_t q0) rfl rfl 1 (by decide) (hts _ tw_200) (fun _ h9 => h9) (congrArg some (x_rf hy52a)) dFg_init_100 ?_
  refine lv_iload_n hx hb dFg_init_103 rfl (lv_at hl 0 rfl) ?_
  replace h := bd1_some h
  obtain ⟨y53, hy54, h⟩ := h
  obtain ⟨hy54a, hy54b, hy54t⟩ := alo_some hy54
  clear hy54
  refine x_size (x_lo hsl hP hk50z (Nat.lt_succ_self _) rfl) (fun hz => ?_)
  refine x_new hx hb hts in_Nm t_Nm t_Nm_ok hown (hts _ tw_37) (hts _ tw_164) (hts _ tw_10) hK hD hP hS hA (aln_out hla hy54b) hy54t (x_had hsl hy54a hz rfl) rfl rfl df_Nm (Nat.le_of_ble_eq_true rfl) (Nat.le_of_ble_eq_true rfl) dFg_init_104 (fun H hP hD hS => ?_)
  rw [Ln_s (show (n0 + 49) = (n0 + 48) + 1 from rfl) hy54a] at hP hD
  replace hN : (Ln sl (n0 + 49) L).Nodup := Ln_nd rfl hy54a (aln_out hla hy54b) hN
  replace hal := aln_in (sl := sl) hal0 (n0 + 49)
  replace hy52 := okk_n (show (n0 + 48) ≤ (n0 + 49) from Nat.add_le_add_left (by decide) _) hy52
  replace q0 := okk_n (show (n0 + 48) ≤ (n0 + 49) from Nat.add_le_add_left (by decide) _) q0
  have hy54f := okk_new (al := al) (n := (n0 + 49)) hy54a (Nat.lt_succ_self _) hy54t
  refine W.widen (k := 49) (n := 4423) (Nat.le_of_ble_eq_true rfl) (Nat.le_of_ble_eq_true rfl) ?_
  refine lv_dup hx hb dFg_init_107 rfl ?_
  replace h := bd2_some h
  obtain ⟨u55, v55, hc55, h⟩ := h
  refine x_size (x_lo hsl hP hy54a (Nat.lt_succ_self _) rfl) (fun hz => ?_)
  refine z_cv (u := clr (stR u49 y45 (3 : Int32) (some y47)) y53) (out := (u55, v55)) hA hD hS (va_runIN (As := []) (rest := [.ref (ad y53), .int (0 : Int32), .ref (ad y51)]) ⟨hx, hb, hml, hown, hts⟩ (ct_Nm_init hal0 hla hN (sz := H.size) (x_hsl hsl hz) F (clr (stR u49 y45 (3 : Int32) (some y47)) y53) y53 (u55, v55) hc55 hy54f) ⟨va_cnB 0 hts gdNm_init rfl rfl rfl (nn_6 hNx) (hts _ tw_10) hdNm_init ⟨Nat.le_of_ble_eq_true rfl, Nat.le_of_ble_eq_true rfl⟩, rfl, (hts _ tw_166)⟩ (x_preSN hK hD hNx hP hS hA hdZ hdT hno hny) rfl rfl hl.1 rfl (lv_room (Nat.le_of_ble_eq_true rfl)) dFg_init_108 ⟨Nat.le_of_ble_eq_true rfl, Nat.le_of_ble_eq_true rfl⟩) (fun t9 locs hB hS9 => ?_)
  obtain ⟨hP9, hD9, hN9⟩ := hB
  replace hD := x_Dw hA hD hS hD9
  replace hN := hN9
  clear hP hS
  generalize t9.heap = H at hP9 hS9 ⊢
  have hP := hP9
  have hS := hS9
  clear hP9 hS9 hD9 hN9
  refine x_aast hx hb hK hD hN hP hS (hal _ (okk_al hy52)) (okk_t hy52) 5 (fun _ _ _ => rfl) rfl (Or.inl rfl) (by decide) (hal _ (okk_al hy54f)) (okk_t hy54f) rfl rfl (inb_in (show inb (0 : Int32) 16 = true by decide)) dFg_init_111 (fun H locs hP hS => ?_)
  refine lv_iinc (k := 0) (v := (1 : Int32)) (lv' := [(1, .int (1 : Int32)), (0, .ref (ad x0))]) hx hb dFg_init_112 hl rfl (by decide) (by decide) rfl (fun ls hl => ?_)
  refine lv_goto (tgt := 93) hx hb dFg_init_115 rfl ?_
  refine lv_iload_n hx hb dFg_init_93 rfl (lv_at hl 0 rfl) ?_
  refine lv_bipush (v := 16) hx hb dFg_init_94 (by decide) ?_
  refine lv_icmp_ge (tgt := 118) hx hb dFg_init_96 rfl (fun hc => absurd hc (by decide)) (fun _ => ?_)
  refine lv_aload_n hx hb dFg_init_99 rfl (lv_at hl 1 rfl) ?_
  obtain ⟨y56, hy57, h⟩ := bd1_some h
  obtain ⟨hy57a, hy57⟩ := rdR_some hy57
  refine x_get hx hb hts in_Fg hown hK hP (hal _ (okk_al q0)) (okk_t q0) rfl rfl 1 (by decide) (hts _ tw_200) (fun _ h9 => h9) (congrArg some (x_rf hy57a)) dFg_init_100 ?_
  refine lv_iload_n hx hb dFg_init_103 rfl (lv_at hl 0 rfl) ?_
  replace h := bd1_some h
  obtain ⟨y58, hy59, h⟩ := h
  obtain ⟨hy59a, hy59b, hy59t⟩ := alo_some hy59
  clear hy59
  refine x_size (x_lo hsl hP hy54a (Nat.lt_succ_self _) rfl) (fun hz => ?_)
  refine x_new hx hb hts in_Nm t_Nm t_Nm_ok hown (hts _ tw_37) (hts _ tw_164) (hts _ tw_10) hK hD hP hS hA (aln_out hla hy59b) hy59t (x_had hsl hy59a hz rfl) rfl rfl df_Nm (Nat.le_of_ble_eq_true rfl) (Nat.le_of_ble_eq_true rfl) dFg_init_104 (fun H hP hD hS => ?_)
  rw [Ln_s (show (n0 + 50) = (n0 + 49) + 1 from rfl) hy59a] at hP hD
  replace hN : (Ln sl (n0 + 50) L).Nodup := Ln_nd rfl hy59a (aln_out hla hy59b) hN
  replace hal := aln_in (sl := sl) hal0 (n0 + 50)
  replace hy57 := okk_n (show (n0 + 49) ≤ (n0 + 50) from Nat.add_le_add_left (by decide) _) hy57
  replace q0 := okk_n (show (n0 + 49) ≤ (n0 + 50) from Nat.add_le_add_left (by decide) _) q0
  have hy59f := okk_new (al := al) (n := (n0 + 50)) hy59a (Nat.lt_succ_self _) hy59t
  refine W.widen (k := 50) (n := 4430) (Nat.le_of_ble_eq_true rfl) (Nat.le_of_ble_eq_true rfl) ?_
  refine lv_dup hx hb dFg_init_107 rfl ?_
  replace h := bd2_some h
  obtain ⟨u60, v60, hc60, h⟩ := h
  refine x_size (x_lo hsl hP hy59a (Nat.lt_succ_self _) rfl) (fun hz => ?_)
  refine z_cv (u := clr (stR u55 y51 (0 : Int32) (some y53)) y58) (out := (u60, v60)) hA hD hS (va_runIN (As := []) (rest := [.ref (ad y58), .int (1 : Int32), .ref (ad y56)]) ⟨hx, hb, hml, hown, hts⟩ (ct_Nm_init hal0 hla hN (sz := H.size) (x_hsl hsl hz) F (clr (stR u55 y51 (0 : Int32) (some y53)) y58) y58 (u60, v60) hc60 hy59f) ⟨va_cnB 0 hts gdNm_init rfl rfl rfl (nn_6 hNx) (hts _ tw_10) hdNm_init ⟨Nat.le_of_ble_eq_true rfl, Nat.le_of_ble_eq_true rfl⟩, rfl, (hts _ tw_166)⟩ (x_preSN hK hD hNx hP hS hA hdZ hdT hno hny) rfl rfl hl.1 rfl (lv_room (Nat.le_of_ble_eq_true rfl)) dFg_init_108 ⟨Nat.le_of_ble_eq_true rfl, Nat.le_of_ble_eq_true rfl⟩) (fun t9 locs hB hS9 => ?_)
  obtain ⟨hP9, hD9, hN9⟩ := hB
  replace hD := x_Dw hA hD hS hD9
  replace hN := hN9
  clear hP hS
  generalize t9.heap = H at hP9 hS9 ⊢
  have hP := hP9
  have hS := hS9
  clear hP9 hS9 hD9 hN9
  refine x_aast hx hb hK hD hN hP hS (hal _ (okk_al hy57)) (okk_t hy57) 5 (fun _ _ _ => rfl) rfl (Or.inl rfl) (by decide) (hal _ (okk_al hy59f)) (okk_t hy59f) rfl rfl (inb_in (show inb (1 : Int32) 16 = true by decide)) dFg_init_111 (fun H locs hP hS => ?_)
  refine lv_iinc (k := 0) (v := (2 : Int32)) (lv' := [(1, .int (2 : Int32)), (0, .ref (ad x0))]) hx hb dFg_init_112 hl rfl (by decide) (by decide) rfl (fun ls hl => ?_)
  refine lv_goto (tgt := 93) hx hb dFg_init_115 rfl ?_
  refine lv_iload_n hx hb dFg_init_93 rfl (lv_at hl 0 rfl) ?_
  refine lv_bipush (v := 16) hx hb dFg_init_94 (by decide) ?_
  refine lv_icmp_ge (tgt := 118) hx hb dFg_init_96 rfl (fun hc => absurd hc (by decide)) (fun _ => ?_)
  refine lv_aload_n hx hb dFg_init_99 rfl (lv_at hl 1 rfl) ?_
  obtain ⟨y61, hy62, h⟩ := bd1_some h
  obtain ⟨hy62a, hy62⟩ := rdR_some hy62
  refine x_get hx hb hts in_Fg hown hK hP (hal _ (okk_al q0)) (okk_t q0) rfl rfl 1 (by decide) (hts _ tw_200) (fun _ h9 => h9) (congrArg some (x_rf hy62a)) dFg_init_100 ?_
  refine lv_iload_n hx hb dFg_init_103 rfl (lv_at hl 0 rfl) ?_
  replace h := bd1_some h
  obtain ⟨y63, hy64, h⟩ := h
  obtain ⟨hy64a, hy64b, hy64t⟩ := alo_some hy64
  clear hy64
  refine x_size (x_lo hsl hP hy59a (Nat.lt_succ_self _) rfl) (fun hz => ?_)
  refine x_new hx hb hts in_Nm t_Nm t_Nm_ok hown (hts _ tw_37) (hts _ tw_164) (hts _ tw_10) hK hD hP hS hA (aln_out hla hy64b) hy64t (x_had hsl hy64a hz rfl) rfl rfl df_Nm (Nat.le_of_ble_eq_true rfl) (Nat.le_of_ble_eq_true rfl) dFg_init_104 (fun H hP hD hS => ?_)
  rw [Ln_s (show (n0 + 51) = (n0 + 50) + 1 from rfl) hy64a] at hP hD
  replace hN : (Ln sl (n0 + 51) L).Nodup := Ln_nd rfl hy64a (aln_out hla hy64b) hN
  replace hal := aln_in (sl := sl) hal0 (n0 + 51)
  replace hy62 := okk_n (show (n0 + 50) ≤ (n0 + 51) from Nat.add_le_add_left (by decide) _) hy62
  replace q0 := okk_n (show (n0 + 50) ≤ (n0 + 51) from Nat.add_le_add_left (by decide) _) q0
  have hy64f := okk_new (al := al) (n := (n0 + 51)) hy64a (Nat.lt_succ_self _) hy64t
  refine W.widen (k := 51) (n := 4437) (Nat.le_of_ble_eq_true rfl) (Nat.le_of_ble_eq_true rfl) ?_
  refine lv_dup hx hb dFg_init_107 rfl ?_
  replace h := bd2_some h
  obtain ⟨u65, v65, hc65, h⟩ := h
  refine x_size (x_lo hsl hP hy64a (Nat.lt_succ_self _) rfl) (fun hz => ?_)
  refine z_cv (u := clr (stR u60 y56 (1 : Int32) (some y58)) y63) (out := (u65, v65)) hA hD hS (va_runIN (As := []) (rest := [.ref (ad y63), .int (2 : Int32), .ref (ad y61)]) ⟨hx, hb, hml, hown, hts⟩ (ct_Nm_init hal0 hla hN (sz := H.size) (x_hsl hsl hz) F (clr (stR u60 y56 (1 : Int32) (some y58)) y63) y63 (u65, v65) hc65 hy64f) ⟨va_cnB 0 hts gdNm_init rfl rfl rfl (nn_6 hNx) (hts _ tw_10) hdNm_init ⟨Nat.le_of_ble_eq_true rfl, Nat.le_of_ble_eq_true rfl⟩, rfl, (hts _ tw_166)⟩ (x_preSN hK hD hNx hP hS hA hdZ hdT hno hny) rfl rfl hl.1 rfl (lv_room (Nat.le_of_ble_eq_true rfl)) dFg_init_108 ⟨Nat.le_of_ble_eq_true rfl, Nat.le_of_ble_eq_true rfl⟩) (fun t9 locs hB hS9 => ?_)
  obtain ⟨hP9, hD9, hN9⟩ := hB
  replace hD := x_Dw hA hD hS hD9
  replace hN := hN9
  clear hP hS
  generalize t9.heap = H at hP9 hS9 ⊢
  have hP := hP9
  have hS := hS9
  clear hP9 hS9 hD9 hN9
  refine x_aast hx hb hK hD hN hP hS (hal _ (okk_al hy62)) (okk_t hy62) 5 (fun _ _ _ => rfl) rfl (Or.inl rfl) (by decide) (hal _ (okk_al hy64f)) (okk_t hy64f) rfl rfl (inb_in (show inb (2 : Int32) 16 = true by decide)) dFg_init_111 (fun H locs hP hS => ?_)
  refine lv_iinc (k := 0) (v := (3 : Int32)) (lv' := [(1, .int (3 : Int32)), (0, .ref (ad x0))]) hx hb dFg_init_112 hl rfl (by decide) (by decide) rfl (fun ls hl => ?_)
  refine lv_goto (tgt := 93) hx hb dFg_init_115 rfl ?_
  refine lv_iload_n hx hb dFg_init_93 rfl (lv_at hl 0 rfl) ?_
  refine lv_bipush (v := 16) hx hb dFg_init_94 (by decide) ?_
  refine lv_icmp_ge (tgt := 118) hx hb dFg_init_96 rfl (fun hc => absurd hc (by decide)) (fun _ => ?_)
  refine lv_aload_n hx hb dFg_init_99 rfl (lv_at hl 1 rfl) ?_
  obtain ⟨y66, hy67, h⟩ := bd1_some h
  obtain ⟨hy67a, hy67⟩ := rdR_some hy67
  refine x_get hx hb hts in_Fg hown hK hP (hal _ (okk_al q0)) (okk_t q0) rfl rfl 1 (by decide) (hts _ tw_200) (fun _ h9 => h9) (congrArg some (x_rf hy67a)) dFg_init_100 ?_
  refine lv_iload_n hx hb dFg_init_103 rfl (lv_at hl 0 rfl) ?_
  replace h := bd1_some h
  obtain ⟨y68, hy69, h⟩ := h
  obtain ⟨hy69a, hy69b, hy69t⟩ := alo_some hy69
  clear hy69
  refine x_size (x_lo hsl hP hy64a (Nat.lt_succ_self _) rfl) (fun hz => ?_)
  refine x_new hx hb hts in_Nm t_Nm t_Nm_ok hown (hts _ tw_37) (hts _ tw_164) (hts _ tw_10) hK hD hP hS hA (aln_out hla hy69b) hy69t (x_had hsl hy69a hz rfl) rfl rfl df_Nm (Nat.le_of_ble_eq_true rfl) (Nat.le_of_ble_eq_true rfl) dFg_init_104 (fun H hP hD hS => ?_)
  rw [Ln_s (show (n0 + 52) = (n0 + 51) + 1 from rfl) hy69a] at hP hD
  replace hN : (Ln sl (n0 + 52) L).Nodup := Ln_nd rfl hy69a (aln_out hla hy69b) hN
  replace hal := aln_in (sl := sl) hal0 (n0 + 52)
  replace hy67 := okk_n (show (n0 + 51) ≤ (n0 + 52) from Nat.add_le_add_left (by decide) _) hy67
  replace q0 := okk_n (show (n0 + 51) ≤ (n0 + 52) from Nat.add_le_add_left (by decide) _) q0
  have hy69f := okk_new (al := al) (n := (n0 + 52)) hy69a (Nat.lt_succ_self _) hy69t
  refine W.widen (k := 52) (n := 4444) (Nat.le_of_ble_eq_true rfl) (Nat.le_of_ble_eq_true rfl) ?_
  refine lv_dup hx hb dFg_init_107 rfl ?_
  replace h := bd2_some h
  obtain ⟨u70, v70, hc70, h⟩ := h
  refine x_size (x_lo hsl hP hy69a (Nat.lt_succ_self _) rfl) (fun hz => ?_)
  refine z_cv (u := clr (stR u65 y61 (2 : Int32) (some y63)) y68) (out := (u70, v70)) hA hD hS (va_runIN (As := []) (rest := [.ref (ad y68), .int (3 : Int32), .ref (ad y66)]) ⟨hx, hb, hml, hown, hts⟩ (ct_Nm_init hal0 hla hN (sz := H.size) (x_hsl hsl hz) F (clr (stR u65 y61 (2 : Int32) (some y63)) y68) y68 (u70, v70) hc70 hy69f) ⟨va_cnB 0 hts gdNm_init rfl rfl rfl (nn_6 hNx) (hts _ tw_10) hdNm_init ⟨Nat.le_of_ble_eq_true rfl, Nat.le_of_ble_eq_true rfl⟩, rfl, (hts _ tw_166)⟩ (x_preSN hK hD hNx hP hS hA hdZ hdT hno hny) rfl rfl hl.1 rfl (lv_room (Nat.le_of_ble_eq_true rfl)) dFg_init_108 ⟨Nat.le_of_ble_eq_true rfl, Nat.le_of_ble_eq_true rfl⟩) (fun t9 locs hB hS9 => ?_)
  obtain ⟨hP9, hD9, hN9⟩ := hB
  replace hD := x_Dw hA hD hS hD9
  replace hN := hN9
  clear hP hS
  generalize t9.heap = H at hP9 hS9 ⊢
  have hP := hP9
  have hS := hS9
  clear hP9 hS9 hD9 hN9
  refine x_aast hx hb hK hD hN hP hS (hal _ (okk_al hy67)) (okk_t hy67) 5 (fun _ _ _ => rfl) rfl (Or.inl rfl) (by decide) (hal _ (okk_al hy69f)) (okk_t hy69f) rfl rfl (inb_in (show inb (3 : Int32) 16 = true by decide)) dFg_init_111 (fun H locs hP hS => ?_)
  refine lv_iinc (k := 0) (v := (4 : Int32)) (lv' := [(1, .int (4 : Int32)), (0, .ref (ad x0))]) hx hb dFg_init_112 hl rfl (by decide) (by decide) rfl (fun ls hl => ?_)
  refine lv_goto (tgt := 93) hx hb dFg_init_115 rfl ?_
  refine lv_iload_n hx hb dFg_init_93 rfl (lv_at hl 0 rfl) ?_
  refine lv_bipush (v := 16) hx hb dFg_init_94 (by decide) ?_
  refine lv_icmp_ge (tgt := 118) hx hb dFg_init_96 rfl (fun hc => absurd hc (by decide)) (fun _ => ?_)
  refine lv_aload_n hx hb dFg_init_99 rfl (lv_at hl 1 rfl) ?_
  obtain ⟨y71, hy72, h⟩ := bd1_some h
  obtain ⟨hy72a, hy72⟩ := rdR_some hy72
  refine x_get hx hb hts in_Fg hown hK hP (hal _ (okk_al q0)) (okk_t q0) rfl rfl 1 (by decide) (hts _ tw_200) (fun _ h9 => h9) (congrArg some (x_rf hy72a)) dFg_init_100 ?_
  refine lv_iload_n hx hb dFg_init_103 rfl (lv_at hl 0 rfl) ?_
  replace h := bd1_some h
  obtain ⟨y73, hy74, h⟩ := h
  obtain ⟨hy74a, hy74b, hy74t⟩ := alo_some hy74
  clear hy74
  refine x_size (x_lo hsl hP hy69a (Nat.lt_succ_self _) rfl) (fun hz => ?_)
  refine x_new hx hb hts in_Nm t_Nm t_Nm_ok hown (hts _ tw_37) (hts _ tw_164) (hts _ tw_10) hK hD hP hS hA (aln_out hla hy74b) hy74t (x_had hsl hy74a hz rfl) rfl rfl df_Nm (Nat.le_of_ble_eq_true rfl) (Nat.le_of_ble_eq_true rfl) dFg_init_104 (fun H hP hD hS => ?_)
  rw [Ln_s (show (n0 + 53) = (n0 + 52) + 1 from rfl) hy74a] at hP hD
  replace hN : (Ln sl (n0 + 53) L).Nodup := Ln_nd rfl hy74a (aln_out hla hy74b) hN
  replace hal := aln_in (sl := sl) hal0 (n0 + 53)
  replace hy72 := okk_n (show (n0 + 52) ≤ (n0 + 53) from Nat.add_le_add_left (by decide) _) hy72
  replace q0 := okk_n (show (n0 + 52) ≤ (n0 + 53) from Nat.add_le_add_left (by decide) _) q0
  have hy74f := okk_new (al := al) (n := (n0 + 53)) hy74a (Nat.lt_succ_self _) hy74t
  refine W.widen (k := 53) (n := 4451) (Nat.le_of_ble_eq_true rfl) (Nat.le_of_ble_eq_true rfl) ?_
  refine lv_dup hx hb dFg_init_107 rfl ?_
  replace h := bd2_some h
  obtain ⟨u75, v75, hc75, h⟩ := h
  refine x_size (x_lo hsl hP hy74a (Nat.lt_succ_self _) rfl) (fun hz => ?_)
  refine z_cv (u := clr (stR u70 y66 (3 : Int32) (some y68)) y73) (out := (u75, v75)) hA hD hS (va_runIN (As := []) (rest := [.ref (ad y73), .int (4 : Int32), .ref (ad y71)]) ⟨hx, hb, hml, hown, hts⟩ (ct_Nm_init hal0 hla hN (sz := H.size) (x_hsl hsl hz) F (clr (stR u70 y66 (3 : Int32) (some y68)) y73) y73 (u75, v75) hc75 hy74f) ⟨va_cnB 0 hts gdNm_init rfl rfl rfl (nn_6 hNx) (hts _ tw_10) hdNm_init ⟨Nat.le_of_ble_eq_true rfl, Nat.le_of_ble_eq_true rfl⟩, rfl, (hts _ tw_166)⟩ (x_preSN hK hD hNx hP hS hA hdZ hdT hno hny) rfl rfl hl.1 rfl (lv_room (Nat.le_of_ble_eq_true rfl)) dFg_init_108 ⟨Nat.le_of_ble_eq_true rfl, Nat.le_of_ble_eq_true rfl⟩) (fun t9 locs hB hS9 => ?_)
  obtain ⟨hP9, hD9, hN9⟩ := hB
  replace hD := x_Dw hA hD hS hD9
  replace hN := hN9
  clear hP hS
  generalize t9.heap = H at hP9 hS9 ⊢
  have hP := hP9
  have hS := hS9
  clear hP9 hS9 hD9 hN9
  refine x_aast hx hb hK hD hN hP hS (hal _ (okk_al hy72)) (okk_t hy72) 5 (fun _ _ _ => rfl) rfl (Or.inl rfl) (by decide) (hal _ (okk_al hy74f)) (okk_t hy74f) rfl rfl (inb_in (show inb (4 : Int32) 16 = true by decide)) dFg_init_111 (fun H locs hP hS => ?_)
  refine lv_iinc (k := 0) (v := (5 : Int32)) (lv' := [(1, .int (5 : Int32)), (0, .ref (ad x0))]) hx hb dFg_init_112 hl rfl (by decide) (by decide) rfl (fun ls hl => ?_)
  refine lv_goto (tgt := 93) hx hb dFg_init_115 rfl ?_
  refine lv_iload_n hx hb dFg_init_93 rfl (lv_at hl 0 rfl) ?_
  refine lv_bipush (v := 16) hx hb dFg_init_94 (by decide) ?_
  refine lv_icmp_ge (tgt := 118) hx hb dFg_init_96 rfl (fun hc => absurd hc (by decide)) (fun _ => ?_)
  refine lv_aload_n hx hb dFg_init_99 rfl (lv_at hl 1 rfl) ?_
  obtain ⟨y76, hy77, h⟩ := bd1_some h
  obtain ⟨hy77a, hy77⟩ := rdR_some hy77
  refine x_get hx hb hts in_Fg hown hK hP (hal _ (okk_al q0)) (okk_t q0) rfl rfl 1 (by decide) (hts _ tw_200) (fun _ h9 => h9) (congrArg some (x_rf hy77a)) dFg_init_100 ?_
  refine lv_iload_n hx hb dFg_init_103 rfl (lv_at hl 0 rfl) ?_
  replace h := bd1_some h
  obtain ⟨y78, hy79, h⟩ := h
  obtain ⟨hy79a, hy79b, hy79t⟩ := alo_some hy79
  clear hy79
  refine x_size (x_lo hsl hP hy74a (Nat.lt_succ_self _) rfl) (fun hz => ?_)
  refine x_new hx hb hts in_Nm t_Nm t_Nm_ok hown (hts _ tw_37) (hts _ tw_164) (hts _ tw_10) hK hD hP hS hA (aln_out hla hy79b) hy79t (x_had hsl hy79a hz rfl) rfl rfl df_Nm (Nat.le_of_ble_eq_true rfl) (Nat.le_of_ble_eq_true rfl) dFg_init_104 (fun H hP hD hS => ?_)
  rw [Ln_s (show (n0 + 54) = (n0 + 53) + 1 from rfl) hy79a] at hP hD
  replace hN : (Ln sl (n0 + 54) L).Nodup := Ln_nd rfl hy79a (aln_out hla hy79b) hN
  replace hal := aln_in (sl := sl) hal0 (n0 + 54)
  replace hy77 := okk_n (show (n0 + 53) ≤ (n0 + 54) from Nat.add_le_add_left (by decide) _) hy77
  replace q0 := okk_n (show (n0 + 53) ≤ (n0 + 54) from Nat.add_le_add_left (by decide) _) q0
  have hy79f := okk_new (al := al) (n := (n0 + 54)) hy79a (Nat.lt_succ_self _) hy79t
  refine W.widen (k := 54) (n := 4458) (Nat.le_of_ble_eq_true rfl) (Nat.le_of_ble_eq_true rfl) ?_
  refine lv_dup hx hb dFg_init_107 rfl ?_
  replace h := bd2_some h
  obtain ⟨u80, v80, hc80, h⟩ := h
  refine x_size (x_lo hsl hP hy79a (Nat.lt_succ_self _) rfl) (fun hz => ?_)
  refine z_cv (u := clr (stR u75 y71 (4 : Int32) (some y73)) y78) (out := (u80, v80)) hA hD hS (va_runIN (As := []) (rest := [.ref (ad y78), .int (5 : Int32), .ref (ad y76)]) ⟨hx, hb, hml, hown, hts⟩ (ct_Nm_init hal0 hla hN (sz := H.size) (x_hsl hsl hz) F (clr (stR u75 y71 (4 : Int32) (some y73)) y78) y78 (u80, v80) hc80 hy79f) ⟨va_cnB 0 hts gdNm_init rfl rfl rfl (nn_6 hNx) (hts _ tw_10) hdNm_init ⟨Nat.le_of_ble_eq_true rfl, Nat.le_of_ble_eq_true rfl⟩, rfl, (hts _ tw_166)⟩ (x_preSN hK hD hNx hP hS hA hdZ hdT hno hny) rfl rfl hl.1 rfl (lv_room (Nat.le_of_ble_eq_true rfl)) dFg_init_108 ⟨Nat.le_of_ble_eq_true rfl, Nat.le_of_ble_eq_true rfl⟩) (fun t9 locs hB hS9 => ?_)
  obtain ⟨hP9, hD9, hN9⟩ := hB
  replace hD := x_Dw hA hD hS hD9
  replace hN := hN9
  clear hP hS
  generalize t9.heap = H at hP9 hS9 ⊢
  have hP := hP9
  have hS := hS9
  clear hP9 hS9 hD9 hN9
  refine x_aast hx hb hK hD hN hP hS (hal _ (okk_al hy77)) (okk_t hy77) 5 (fun _ _ _ => rfl) rfl (Or.inl rfl) (by decide) (hal _ (okk_al hy79f)) (okk_t hy79f) rfl rfl (inb_in (show inb (5 : Int32) 16 = true by decide)) dFg_init_111 (fun H locs hP hS => ?_)
  refine lv_iinc (k := 0) (v := (6 : Int32)) (lv' := [(1, .int (6 : Int32)), (0, .ref (ad x0))]) hx hb dFg_init_112 hl rfl (by decide) (by decide) rfl (fun ls hl => ?_)
  refine lv_goto (tgt := 93) hx hb dFg_init_115 rfl ?_
  refine lv_iload_n hx hb dFg_init_93 rfl (lv_at hl 0 rfl) ?_
  refine lv_bipush (v := 16) hx hb dFg_init_94 (by decide) ?_
  refine lv_icmp_ge (tgt := 118) hx hb dFg_init_96 rfl (fun hc => absurd hc (by decide)) (fun _ => ?_)
  refine lv_aload_n hx hb dFg_init_99 rfl (lv_at hl 1 rfl) ?_
  obtain ⟨y81, hy82, h⟩ := bd1_some h
  obtain ⟨hy82a, hy82⟩ := rdR_some hy82
  refine x_get hx hb hts in_Fg hown hK hP (hal _ (okk_al q0)) (okk_t q0) rfl rfl 1 (by decide) (hts _ tw_200) (fun _ h9 => h9) (congrArg some (x_rf hy82a)) dFg_init_100 ?_
  refine lv_iload_n hx hb dFg_init_103 rfl (lv_at hl 0 rfl) ?_
  replace h := bd1_some h
  obtain ⟨y83, hy84, h⟩ := h
  obtain ⟨hy84a, hy84b, hy84t⟩ := alo_some hy84
  clear hy84
  refine x_size (x_lo hsl hP hy79a (Nat.lt_succ_self _) rfl) (fun hz => ?_)
  refine x_new hx hb hts in_Nm t_Nm t_Nm_ok hown (hts _ tw_37) (hts _ tw_164) (hts _ tw_10) hK hD hP hS hA (aln_out hla hy84b) hy84t (x_had hsl hy84a hz rfl) rfl rfl df_Nm (Nat.le_of_ble_eq_true rfl) (Nat.le_of_ble_eq_true rfl) dFg_init_104 (fun H hP hD hS => ?_)
  rw [Ln_s (show (n0 + 55) = (n0 + 54) + 1 from rfl) hy84a] at hP hD
  replace hN : (Ln sl (n0 + 55) L).Nodup := Ln_nd rfl hy84a (aln_out hla hy84b) hN
  replace hal := aln_in (sl := sl) hal0 (n0 + 55)
  replace hy82 := okk_n (show (n0 + 54) ≤ (n0 + 55) from Nat.add_le_add_left (by decide) _) hy82
  replace q0 := okk_n (show (n0 + 54) ≤ (n0 + 55) from Nat.add_le_add_left (by decide) _) q0
  have hy84f := okk_new (al := al) (n := (n0 + 55)) hy84a (Nat.lt_succ_self _) hy84t
  refine W.widen (k := 55) (n := 4465) (Nat.le_of_ble_eq_true rfl) (Nat.le_of_ble_eq_true rfl) ?_
  refine lv_dup hx hb dFg_init_107 rfl ?_
  replace h := bd2_some h
  obtain ⟨u85, v85, hc85, h⟩ := h
  refine x_size (x_lo hsl hP hy84a (Nat.lt_succ_self _) rfl) (fun hz => ?_)
  refine z_cv (u := clr (stR u80 y76 (5 : Int32) (some y78)) y83) (out := (u85, v85)) hA hD hS (va_runIN (As := []) (rest := [.ref (ad y83), .int (6 : Int32), .ref (ad y81)]) ⟨hx, hb, hml, hown, hts⟩ (ct_Nm_init hal0 hla hN (sz := H.size) (x_hsl hsl hz) F (clr (stR u80 y76 (5 : Int32) (some y78)) y83) y83 (u85, v85) hc85 hy84f) ⟨va_cnB 0 hts gdNm_init rfl rfl rfl (nn_6 hNx) (hts _ tw_10) hdNm_init ⟨Nat.le_of_ble_eq_true rfl, Nat.le_of_ble_eq_true rfl⟩, rfl, (hts _ tw_166)⟩ (x_preSN hK hD hNx hP hS hA hdZ hdT hno hny) rfl rfl hl.1 rfl (lv_room (Nat.le_of_ble_eq_true rfl)) dFg_init_108 ⟨Nat.le_of_ble_eq_true rfl, Nat.le_of_ble_eq_true rfl⟩) (fun t9 locs hB hS9 => ?_)
  obtain ⟨hP9, hD9, hN9⟩ := hB
  replace hD := x_Dw hA hD hS hD9
  replace hN := hN9
  clear hP hS
  generalize t9.heap = H at hP9 hS9 ⊢
  have hP := hP9
  have hS := hS9
  clear hP9 hS9 hD9 hN9
  refine x_aast hx hb hK hD hN hP hS (hal _ (okk_al hy82)) (okk_t hy82) 5 (fun _ _ _ => rfl) rfl (Or.inl rfl) (by decide) (hal _ (okk_al hy84f)) (okk_t hy84f) rfl rfl (inb_in (show inb (6 : Int32) 16 = true by decide)) dFg_init_111 (fun H locs hP hS => ?_)
  refine lv_iinc (k := 0) (v := (7 : Int32)) (lv' := [(1, .int (7 : Int32)), (0, .ref (ad x0))]) hx hb dFg_init_112 hl rfl (by decide) (by decide) rfl (fun ls hl => ?_)
  refine lv_goto (tgt := 93) hx hb dFg_init_115 rfl ?_
  refine lv_iload_n hx hb dFg_init_93 rfl (lv_at hl 0 rfl) ?_
  refine lv_bipush (v := 16) hx hb dFg_init_94 (by decide) ?_
  refine lv_icmp_ge (tgt := 118) hx hb dFg_init_96 rfl (fun hc => absurd hc (by decide)) (fun _ => ?_)
  refine lv_aload_n hx hb dFg_init_99 rfl (lv_at hl 1 rfl) ?_
  obtain ⟨y86, hy87, h⟩ := bd1_some h
  obtain ⟨hy87a, hy87⟩ := rdR_some hy87
  refine x_get hx hb hts in_Fg hown hK hP (hal _ (okk_al q0)) (okk_t q0) rfl rfl 1 (by decide) (hts _ tw_200) (fun _ h9 => h9) (congrArg some (x_rf hy87a)) dFg_init_100 ?_
  refine lv_iload_n hx hb dFg_init_103 rfl (lv_at hl 0 rfl) ?_
  replace h := bd1_some h
  obtain ⟨y88, hy89, h⟩ := h
  obtain ⟨hy89a, hy89b, hy89t⟩ := alo_some hy89
  clear hy89
  refine x_size (x_lo hsl hP hy84a (Nat.lt_succ_self _) rfl) (fun hz => ?_)
  refine x_new hx hb hts in_Nm t_Nm t_Nm_ok hown (hts _ tw_37) (hts _ tw_164) (hts _ tw_10) hK hD hP hS hA (aln_out hla hy89b) hy89t (x_had hsl hy89a hz rfl) rfl rfl df_Nm (Nat.le_of_ble_eq_true rfl) (Nat.le_of_ble_eq_true rfl) dFg_init_104 (fun H hP hD hS => ?_)
  rw [Ln_s (show (n0 + 56) = (n0 + 55) + 1 from rfl) hy89a] at hP hD
  replace hN : (Ln sl (n0 + 56) L).Nodup := Ln_nd rfl hy89a (aln_out hla hy89b) hN
  replace hal := aln_in (sl := sl) hal0 (n0 + 56)
  replace hy87 := okk_n (show (n0 + 55) ≤ (n0 + 56) from Nat.add_le_add_left (by decide) _) hy87
  replace q0 := okk_n (show (n0 + 55) ≤ (n0 + 56) from Nat.add_le_add_left (by decide) _) q0
  have hy89f := okk_new (al := al) (n := (n0 + 56)) hy89a (Nat.lt_succ_self _) hy89t
  refine W.widen (k := 56) (n := 4472) (Nat.le_of_ble_eq_true rfl) (Nat.le_of_ble_eq_true rfl) ?_
  refine lv_dup hx hb dFg_init_107 rfl ?_
  replace h := bd2_some h
  obtain ⟨u90, v90, hc90, h⟩ := h
  refine x_size (x_lo hsl hP hy89a (Nat.lt_succ_self _) rfl) (fun hz => ?_)
  refine z_cv (u := clr (stR u85 y81 (6 : Int32) (some y83)) y88) (out := (u90, v90)) hA hD hS (va_runIN (As := []) (rest := [.ref (ad y88), .int (7 : Int32), .ref (ad y86)]) ⟨hx, hb, hml, hown, hts⟩ (ct_Nm_init hal0 hla hN (sz := H.size) (x_hsl hsl hz) F (clr (stR u85 y81 (6 : Int32) (some y83)) y88) y88 (u90, v90) hc90 hy89f) ⟨va_cnB 0 hts gdNm_init rfl rfl rfl (nn_6 hNx) (hts _ tw_10) hdNm_init ⟨Nat.le_of_ble_eq_true rfl, Nat.le_of_ble_eq_true rfl⟩, rfl, (hts _ tw_166)⟩ (x_preSN hK hD hNx hP hS hA hdZ hdT hno hny) rfl rfl hl.1 rfl (lv_room (Nat.le_of_ble_eq_true rfl)) dFg_init_108 ⟨Nat.le_of_ble_eq_true rfl, Nat.le_of_ble_eq_true rfl⟩) (fun t9 locs hB hS9 => ?_)
  obtain ⟨hP9, hD9, hN9⟩ := hB
  replace hD := x_Dw hA hD hS hD9
  replace hN := hN9
  clear hP hS
  generalize t9.heap = H at hP9 hS9 ⊢
  have hP := hP9
  have hS := hS9
  clear hP9 hS9 hD9 hN9
  refine x_aast hx hb hK hD hN hP hS (hal _ (okk_al hy87)) (okk_t hy87) 5 (fun _ _ _ => rfl) rfl (Or.inl rfl) (by decide) (hal _ (okk_al hy89f)) (okk_t hy89f) rfl rfl (inb_in (show inb (7 : Int32) 16 = true by decide)) dFg_init_111 (fun H locs hP hS => ?_)
  refine lv_iinc (k := 0) (v := (8 : Int32)) (lv' := [(1, .int (8 : Int32)), (0, .ref (ad x0))]) hx hb dFg_init_112 hl rfl (by decide) (by decide) rfl (fun ls hl => ?_)
  refine lv_goto (tgt := 93) hx hb dFg_init_115 rfl ?_
  refine lv_iload_n hx hb dFg_init_93 rfl (lv_at hl 0 rfl) ?_
  refine lv_bipush (v := 16) hx hb dFg_init_94 (by decide) ?_
  refine lv_icmp_ge (tgt := 118) hx hb dFg_init_96 rfl (fun hc => absurd hc (by decide)) (fun _ => ?_)
  refine lv_aload_n hx hb dFg_init_99 rfl (lv_at hl 1 rfl) ?_
  obtain ⟨y91, hy92, h⟩ := bd1_some h
  obtain ⟨hy92a, hy92⟩ := rdR_some hy92
  refine x_get hx hb hts in_Fg hown hK hP (hal _ (okk_al q0)) (okk_t q0) rfl rfl 1 (by decide) (hts _ tw_200) (fun _ h9 => h9) (congrArg some (x_rf hy92a)) dFg_init_100 ?_
  refine lv_iload_n hx hb dFg_init_103 rfl (lv_at hl 0 rfl) ?_
  replace h := bd1_some h
  obtain ⟨y93, hy94, h⟩ := h
  obtain ⟨hy94a, hy94b, hy94t⟩ := alo_some hy94
  clear hy94
  refine x_size (x_lo hsl hP hy89a (Nat.lt_succ_self _) rfl) (fun hz => ?_)
  refine x_new hx hb hts in_Nm t_Nm t_Nm_ok hown (hts _ tw_37) (hts _ tw_164) (hts _ tw_10) hK hD hP hS hA (aln_out hla hy94b) hy94t (x_had hsl hy94a hz rfl) rfl rfl df_Nm (Nat.le_of_ble_eq_true rfl) (Nat.le_of_ble_eq_true rfl) dFg_init_104 (fun H hP hD hS => ?_)
  rw [Ln_s (show (n0 + 57) = (n0 + 56) + 1 from rfl) hy94a] at hP hD
  replace hN : (Ln sl (n0 + 57) L).Nodup := Ln_nd rfl hy94a (aln_out hla hy94b) hN
  replace hal := aln_in (sl := sl) hal0 (n0 + 57)
  replace hy92 := okk_n (show (n0 + 56) ≤ (n0 + 57) from Nat.add_le_add_left (by decide) _) hy92
  replace q0 := okk_n (show (n0 + 56) ≤ (n0 + 57) from Nat.add_le_add_left (by decide) _) q0
  have hy94f := okk_new (al := al) (n := (n0 + 57)) hy94a (Nat.lt_succ_self _) hy94t
  refine W.widen (k := 57) (n := 4479) (Nat.le_of_ble_eq_true rfl) (Nat.le_of_ble_eq_true rfl) ?_
  refine lv_dup hx hb dFg_init_107 rfl ?_
  replace h := bd2_some h
  obtain ⟨u95, v95, hc95, h⟩ := h
  refine x_size (x_lo hsl hP hy94a (Nat.lt_succ_self _) rfl) (fun hz => ?_)
  refine z_cv (u := clr (stR u90 y86 (7 : Int32) (some y88)) y93) (out := (u95, v95)) hA hD hS (va_runIN (As := []) (rest := [.ref (ad y93), .int (8 : Int32), .ref (ad y91)]) ⟨hx, hb, hml, hown, hts⟩ (ct_Nm_init hal0 hla hN (sz := H.size) (x_hsl hsl hz) F (clr (stR u90 y86 (7 : Int32) (some y88)) y93) y93 (u95, v95) hc95 hy94f) ⟨va_cnB 0 hts gdNm_init rfl rfl rfl (nn_6 hNx) (hts _ tw_10) hdNm_init ⟨Nat.le_of_ble_eq_true rfl, Nat.le_of_ble_eq_true rfl⟩, rfl, (hts _ tw_166)⟩ (x_preSN hK hD hNx hP hS hA hdZ hdT hno hny) rfl rfl hl.1 rfl (lv_room (Nat.le_of_ble_eq_true rfl)) dFg_init_108 ⟨Nat.le_of_ble_eq_true rfl, Nat.le_of_ble_eq_true rfl⟩) (fun t9 locs hB hS9 => ?_)
  obtain ⟨hP9, hD9, hN9⟩ := hB
  replace hD := x_Dw hA hD hS hD9
  replace hN := hN9
  clear hP hS
  generalize t9.heap = H at hP9 hS9 ⊢
  have hP := hP9
  have hS := hS9
  clear hP9 hS9 hD9 hN9
  refine x_aast hx hb hK hD hN hP hS (hal _ (okk_al hy92)) (okk_t hy92) 5 (fun _ _ _ => rfl) rfl (Or.inl rfl) (by decide) (hal _ (okk_al hy94f)) (okk_t hy94f) rfl rfl (inb_in (show inb (8 : Int32) 16 = true by decide)) dFg_init_111 (fun H locs hP hS => ?_)
  refine lv_iinc (k := 0) (v := (9 : Int32)) (lv' := [(1, .int (9 : Int32)), (0, .ref (ad x0))]) hx hb dFg_init_112 hl rfl (by decide) (by decide) rfl (fun ls hl => ?_)
  refine lv_goto (tgt := 93) hx hb dFg_init_115 rfl ?_
  refine lv_iload_n hx hb dFg_init_93 rfl (lv_at hl 0 rfl) ?_
  refine lv_bipush (v := 16) hx hb dFg_init_94 (by decide) ?_
  refine lv_icmp_ge (tgt := 118) hx hb dFg_init_96 rfl (fun hc => absurd hc (by decide)) (fun _ => ?_)
  refine lv_aload_n hx hb dFg_init_99 rfl (lv_at hl 1 rfl) ?_
  obtain ⟨y96, hy97, h⟩ := bd1_some h
  obtain ⟨hy97a, hy97⟩ := rdR_some hy97
  refine x_get hx hb hts in_Fg hown hK hP (hal _ (okk_al q0)) (okk_t q0) rfl rfl 1 (by decide) (hts _ tw_200) (fun _ h9 => h9) (congrArg some (x_rf hy97a)) dFg_init_100 ?_
  refine lv_iload_n hx hb dFg_init_103 rfl (lv_at hl 0 rfl) ?_
  replace h := bd1_some h
  obtain ⟨y98, hy99, h⟩ := h
  obtain ⟨hy99a, hy99b, hy99t⟩ := alo_some hy99
  clear hy99
  refine x_size (x_lo hsl hP hy94a (Nat.lt_succ_self _) rfl) (fun hz => ?_)
  refine x_new hx hb hts in_Nm t_Nm t_Nm_ok hown (hts _ tw_37) (hts _ tw_164) (hts _ tw_10) hK hD hP hS hA (aln_out hla hy99b) hy99t (x_had hsl hy99a hz rfl) rfl rfl df_Nm (Nat.le_of_ble_eq_true rfl) (Nat.le_of_ble_eq_true rfl) dFg_init_104 (fun H hP hD hS => ?_)
  rw [Ln_s (show (n0 + 58) = (n0 + 57) + 1 from rfl) hy99a] at hP hD
  replace hN : (Ln sl (n0 + 58) L).Nodup := Ln_nd rfl hy99a (aln_out hla hy99b) hN
  replace hal := aln_in (sl := sl) hal0 (n0 + 58)
  replace hy97 := okk_n (show (n0 + 57) ≤ (n0 + 58) from Nat.add_le_add_left (by decide) _) hy97
  replace q0 := okk_n (show (n0 + 57) ≤ (n0 + 58) from Nat.add_le_add_left (by decide) _) q0
  have hy99f := okk_new (al := al) (n := (n0 + 58)) hy99a (Nat.lt_succ_self _) hy99t
  refine W.widen (k := 58) (n := 4486) (Nat.le_of_ble_eq_true rfl) (Nat.le_of_ble_eq_true rfl) ?_
  refine lv_dup hx hb dFg_init_107 rfl ?_
  replace h := bd2_some h
  obtain ⟨u100, v100, hc100, h⟩ := h
  refine x_size (x_lo hsl hP hy99a (Nat.lt_succ_self _) rfl) (fun hz => ?_)
  refine z_cv (u := clr (stR u95 y91 (8 : Int32) (some y93)) y98) (out := (u100, v100)) hA hD hS (va_runIN (As := []) (rest := [.ref (ad y98), .int (9 : Int32), .ref (ad y96)]) ⟨hx, hb, hml, hown, hts⟩ (ct_Nm_init hal0 hla hN (sz := H.size) (x_hsl hsl hz) F (clr (stR u95 y91 (8 : Int32) (some y93)) y98) y98 (u100, v100) hc100 hy99f) ⟨va_cnB 0 hts gdNm_init rfl rfl rfl (nn_6 hNx) (hts _ tw_10) hdNm_init ⟨Nat.le_of_ble_eq_true rfl, Nat.le_of_ble_eq_true rfl⟩, rfl, (hts _ tw_166)⟩ (x_preSN hK hD hNx hP hS hA hdZ hdT hno hny) rfl rfl hl.1 rfl (lv_room (Nat.le_of_ble_eq_true rfl)) dFg_init_108 ⟨Nat.le_of_ble_eq_true rfl, Nat.le_of_ble_eq_true rfl⟩) (fun t9 locs hB hS9 => ?_)
  obtain ⟨hP9, hD9, hN9⟩ := hB
  replace hD := x_Dw hA hD hS hD9
  replace hN := hN9
  clear hP hS
  generalize t9.heap = H at hP9 hS9 ⊢
  have hP := hP9
  have hS := hS9
  clear hP9 hS9 hD9 hN9
  refine x_aast hx hb hK hD hN hP hS (hal _ (okk_al hy97)) (okk_t hy97) 5 (fun _ _ _ => rfl) rfl (Or.inl rfl) (by decide) (hal _ (okk_al hy99f)) (okk_t hy99f) rfl rfl (inb_in (show inb (9 : Int32) 16 = true by decide)) dFg_init_111 (fun H locs hP hS => ?_)
  refine lv_iinc (k := 0) (v := (10 : Int32)) (lv' := [(1, .int (10 : Int32)), (0, .ref (ad x0))]) hx hb dFg_init_112 hl rfl (by decide) (by decide) rfl (fun ls hl => ?_)
  refine lv_goto (tgt := 93) hx hb dFg_init_115 rfl ?_
  refine lv_iload_n hx hb dFg_init_93 rfl (lv_at hl 0 rfl) ?_
  refine lv_bipush (v := 16) hx hb dFg_init_94 (by decide) ?_
  refine lv_icmp_ge (tgt := 118) hx hb dFg_init_96 rfl (fun hc => absurd hc (by decide)) (fun _ => ?_)
  refine lv_aload_n hx hb dFg_init_99 rfl (lv_at hl 1 rfl) ?_
  obtain ⟨y101, hy102, h⟩ := bd1_some h
  obtain ⟨hy102a, hy102⟩ := rdR_some hy102
  refine x_get hx hb hts in_Fg hown hK hP (hal _ (okk_al q0)) (okk_t q0) rfl rfl 1 (by decide) (hts _ tw_200) (fun _ h9 => h9) (congrArg some (x_rf hy102a)) dFg_init_100 ?_
  refine lv_iload_n hx hb dFg_init_103 rfl (lv_at hl 0 rfl) ?_
  replace h := bd1_some h
  obtain ⟨y103, hy104, h⟩ := h
  obtain ⟨hy104a, hy104b, hy104t⟩ := alo_some hy104
  clear hy104
  refine x_size (x_lo hsl hP hy99a (Nat.lt_succ_self _) rfl) (fun hz => ?_)
  refine x_new hx hb hts in_Nm t_Nm t_Nm_ok hown (hts _ tw_37) (hts _ tw_164) (hts _ tw_10) hK hD hP hS hA (aln_out hla hy104b) hy104t (x_had hsl hy104a hz rfl) rfl rfl df_Nm (Nat.le_of_ble_eq_true rfl) (Nat.le_of_ble_eq_true rfl) dFg_init_104 (fun H hP hD hS => ?_)
  rw [Ln_s (show (n0 + 59) = (n0 + 58) + 1 from rfl) hy104a] at hP hD
  replace hN : (Ln sl (n0 + 59) L).Nodup := Ln_nd rfl hy104a (aln_out hla hy104b) hN
  replace hal := aln_in (sl := sl) hal0 (n0 + 59)
  replace hy102 := okk_n (show (n0 + 58) ≤ (n0 + 59) from Nat.add_le_add_left (by decide) _) hy102
  replace q0 := okk_n (show (n0 + 58) ≤ (n0 + 59) from Nat.add_le_add_left (by decide) _) q0
  have hy104f := okk_new (al := al) (n := (n0 + 59)) hy104a (Nat.lt_succ_self _) hy104t
  refine W.widen (k := 59) (n := 4493) (Nat.le_of_ble_eq_true rfl) (Nat.le_of_ble_eq_true rfl) ?_
  refine lv_dup hx hb dFg_init_107 rfl ?_
  replace h := bd2_some h
  obtain ⟨u105, v105, hc105, h⟩ := h
  refine x_size (x_lo hsl hP hy104a (Nat.lt_succ_self _) rfl) (fun hz => ?_)
  refine z_cv (u := clr (stR u100 y96 (9 : Int32) (some y98)) y103) (out := (u105, v105)) hA hD hS (va_runIN (As := []) (rest := [.ref (ad y103), .int (10 : Int32), .ref (ad y101)]) ⟨hx, hb, hml, hown, hts⟩ (ct_Nm_init hal0 hla hN (sz := H.size) (x_hsl hsl hz) F (clr (stR u100 y96 (9 : Int32) (some y98)) y103) y103 (u105, v105) hc105 hy104f) ⟨va_cnB 0 hts gdNm_init rfl rfl rfl (nn_6 hNx) (hts _ tw_10) hdNm_init ⟨Nat.le_of_ble_eq_true rfl, Nat.le_of_ble_eq_true rfl⟩, rfl, (hts _ tw_166)⟩ (x_preSN hK hD hNx hP hS hA hdZ hdT hno hny) rfl rfl hl.1 rfl (lv_room (Nat.le_of_ble_eq_true rfl)) dFg_init_108 ⟨Nat.le_of_ble_eq_true rfl, Nat.le_of_ble_eq_true rfl⟩) (fun t9 locs hB hS9 => ?_)
  obtain ⟨hP9, hD9, hN9⟩ := hB
  replace hD := x_Dw hA hD hS hD9
  replace hN := hN9
  clear hP hS
  generalize t9.heap = H at hP9 hS9 ⊢
  have hP := hP9
  have hS := hS9
  clear hP9 hS9 hD9 hN9
  refine x_aast hx hb hK hD hN hP hS (hal _ (okk_al hy102)) (okk_t hy102) 5 (fun _ _ _ => rfl) rfl (Or.inl rfl) (by decide) (hal _ (okk_al hy104f)) (okk_t hy104f) rfl rfl (inb_in (show inb (10 : Int32) 16 = true by decide)) dFg_init_111 (fun H locs hP hS => ?_)
  refine lv_iinc (k := 0) (v := (11 : Int32)) (lv' := [(1, .int (11 : Int32)), (0, .ref (ad x0))]) hx hb dFg_init_112 hl rfl (by decide) (by decide) rfl (fun ls hl => ?_)
  refine lv_goto (tgt := 93) hx hb dFg_init_115 rfl ?_
  refine lv_iload_n hx hb dFg_init_93 rfl (lv_at hl 0 rfl) ?_
  refine lv_bipush (v := 16) hx hb dFg_init_94 (by decide) ?_
  refine lv_icmp_ge (tgt := 118) hx hb dFg_init_96 rfl (fun hc => absurd hc (by decide)) (fun _ => ?_)
  refine lv_aload_n hx hb dFg_init_99 rfl (lv_at hl 1 rfl) ?_
  obtain ⟨y106, hy107, h⟩ := bd1_some h
  obtain ⟨hy107a, hy107⟩ := rdR_some hy107
  refine x_get hx hb hts in_Fg hown hK hP (hal _ (okk_al q0)) (okk_t q0) rfl rfl 1 (by decide) (hts _ tw_200) (fun _ h9 => h9) (congrArg some (x_rf hy107a)) dFg_init_100 ?_
  refine lv_iload_n hx hb dFg_init_103 rfl (lv_at hl 0 rfl) ?_
  replace h := bd1_some h
  obtain ⟨y108, hy109, h⟩ := h
  obtain ⟨hy109a, hy109b, hy109t⟩ := alo_some hy109
  clear hy109
  refine x_size (x_lo hsl hP hy104a (Nat.lt_succ_self _) rfl) (fun hz => ?_)
  refine x_new hx hb hts in_Nm t_Nm t_Nm_ok hown (hts _ tw_37) (hts _ tw_164) (hts _ tw_10) hK hD hP hS hA (aln_out hla hy109b) hy109t (x_had hsl hy109a hz rfl) rfl rfl df_Nm (Nat.le_of_ble_eq_true rfl) (Nat.le_of_ble_eq_true rfl) dFg_init_104 (fun H hP hD hS => ?_)
  rw [Ln_s (show (n0 + 60) = (n0 + 59) + 1 from rfl) hy109a] at hP hD
  replace hN : (Ln sl (n0 + 60) L).Nodup := Ln_nd rfl hy109a (aln_out hla hy109b) hN
  replace hal := aln_in (sl := sl) hal0 (n0 + 60)
  replace hy107 := okk_n (show (n0 + 59) ≤ (n0 + 60) from Nat.add_le_add_left (by decide) _) hy107
  replace q0 := okk_n (show (n0 + 59) ≤ (n0 + 60) from Nat.add_le_add_left (by decide) _) q0
  have hy109f := okk_new (al := al) (n := (n0 + 60)) hy109a (Nat.lt_succ_self _) hy109t
  refine W.widen (k := 60) (n := 4500) (Nat.le_of_ble_eq_true rfl) (Nat.le_of_ble_eq_true rfl) ?_
  refine lv_dup hx hb dFg_init_107 rfl ?_
  replace h := bd2_some h
  obtain ⟨u110, v110, hc110, h⟩ := h
  refine x_size (x_lo hsl hP hy109a (Nat.lt_succ_self _) rfl) (fun hz => ?_)
  refine z_cv (u := clr (stR u105 y101 (10 : Int32) (some y103)) y108) (out := (u110, v110)) hA hD hS (va_runIN (As := []) (rest := [.ref (ad y108), .int (11 : Int32), .ref (ad y106)]) ⟨hx, hb, hml, hown, hts⟩ (ct_Nm_init hal0 hla hN (sz := H.size) (x_hsl hsl hz) F (clr (stR u105 y101 (10 : Int32) (some y103)) y108) y108 (u110, v110) hc110 hy109f) ⟨va_cnB 0 hts gdNm_init rfl rfl rfl (nn_6 hNx) (hts _ tw_10) hdNm_init ⟨Nat.le_of_ble_eq_true rfl, Nat.le_of_ble_eq_true rfl⟩, rfl, (hts _ tw_166)⟩ (x_preSN hK hD hNx hP hS hA hdZ hdT hno hny) rfl rfl hl.1 rfl (lv_room (Nat.le_of_ble_eq_true rfl)) dFg_init_108 ⟨Nat.le_of_ble_eq_true rfl, Nat.le_of_ble_eq_true rfl⟩) (fun t9 locs hB hS9 => ?_)
  obtain ⟨hP9, hD9, hN9⟩ := hB
  replace hD := x_Dw hA hD hS hD9
  replace hN := hN9
  clear hP hS
  generalize t9.heap = H at hP9 hS9 ⊢
  have hP := hP9
  have hS := hS9
  clear hP9 hS9 hD9 hN9
  refine x_aast hx hb hK hD hN hP hS (hal _ (okk_al hy107)) (okk_t hy107) 5 (fun _ _ _ => rfl) rfl (Or.inl rfl) (by decide) (hal _ (okk_al hy109f)) (okk_t hy109f) rfl rfl (inb_in (show inb (11 : Int32) 16 = true by decide)) dFg_init_111 (fun H locs hP hS => ?_)
  refine lv_iinc (k := 0) (v := (12 : Int32)) (lv' := [(1, .int (12 : Int32)), (0, .ref (ad x0))]) hx hb dFg_init_112 hl rfl (by decide) (by decide) rfl (fun ls hl => ?_)
  refine lv_goto (tgt := 93) hx hb dFg_init_115 rfl ?_
  refine lv_iload_n hx hb dFg_init_93 rfl (lv_at hl 0 rfl) ?_
  refine lv_bipush (v := 16) hx hb dFg_init_94 (by decide) ?_
  refine lv_icmp_ge (tgt := 118) hx hb dFg_init_96 rfl (fun hc => absurd hc (by decide)) (fun _ => ?_)
  refine lv_aload_n hx hb dFg_init_99 rfl (lv_at hl 1 rfl) ?_
  obtain ⟨y111, hy112, h⟩ := bd1_some h
  obtain ⟨hy112a, hy112⟩ := rdR_some hy112
  refine x_get hx hb hts in_Fg hown hK hP (hal _ (okk_al q0)) (okk_t q0) rfl rfl 1 (by decide) (hts _ tw_200) (fun _ h9 => h9) (congrArg some (x_rf hy112a)) dFg_init_100 ?_
  refine lv_iload_n hx hb dFg_init_103 rfl (lv_at hl 0 rfl) ?_
  replace h := bd1_some h
  obtain ⟨y113, hy114, h⟩ := h
  obtain ⟨hy114a, hy114b, hy114t⟩ := alo_some hy114
  clear hy114
  refine x_size (x_lo hsl hP hy109a (Nat.lt_succ_self _) rfl) (fun hz => ?_)
  refine x_new hx hb hts in_Nm t_Nm t_Nm_ok hown (hts _ tw_37) (hts _ tw_164) (hts _ tw_10) hK hD hP hS hA (aln_out hla hy114b) hy114t (x_had hsl hy114a hz rfl) rfl rfl df_Nm (Nat.le_of_ble_eq_true rfl) (Nat.le_of_ble_eq_true rfl) dFg_init_104 (fun H hP hD hS => ?_)
  rw [Ln_s (show (n0 + 61) = (n0 + 60) + 1 from rfl) hy114a] at hP hD
  replace hN : (Ln sl (n0 + 61) L).Nodup := Ln_nd rfl hy114a (aln_out hla hy114b) hN
  replace hal := aln_in (sl := sl) hal0 (n0 + 61)
  replace hy112 := okk_n (show (n0 + 60) ≤ (n0 + 61) from Nat.add_le_add_left (by decide) _) hy112
  replace q0 := okk_n (show (n0 + 60) ≤ (n0 + 61) from Nat.add_le_add_left (by decide) _) q0
  have hy114f := okk_new (al := al) (n := (n0 + 61)) hy114a (Nat.lt_succ_self _) hy114t
  refine W.widen (k := 61) (n := 4507) (Nat.le_of_ble_eq_true rfl) (Nat.le_of_ble_eq_true rfl) ?_
  refine lv_dup hx hb dFg_init_107 rfl ?_
  replace h := bd2_some h
  obtain ⟨u115, v115, hc115, h⟩ := h
  refine x_size (x_lo hsl hP hy114a (Nat.lt_succ_self _) rfl) (fun hz => ?_)
  refine z_cv (u := clr (stR u110 y106 (11 : Int32) (some y108)) y113) (out := (u115, v115)) hA hD hS (va_runIN (As := []) (rest := [.ref (ad y113), .int (12 : Int32), .ref (ad y111)]) ⟨hx, hb, hml, hown, hts⟩ (ct_Nm_init hal0 hla hN (sz := H.size) (x_hsl hsl hz) F (clr (stR u110 y106 (11 : Int32) (some y108)) y113) y113 (u115, v115) hc115 hy114f) ⟨va_cnB 0 hts gdNm_init rfl rfl rfl (nn_6 hNx) (hts _ tw_10) hdNm_init ⟨Nat.le_of_ble_eq_true rfl, Nat.le_of_ble_eq_true rfl⟩, rfl, (hts _ tw_166)⟩ (x_preSN hK hD hNx hP hS hA hdZ hdT hno hny) rfl rfl hl.1 rfl (lv_room (Nat.le_of_ble_eq_true rfl)) dFg_init_108 ⟨Nat.le_of_ble_eq_true rfl, Nat.le_of_ble_eq_true rfl⟩) (fun t9 locs hB hS9 => ?_)
  obtain ⟨hP9, hD9, hN9⟩ := hB
  replace hD := x_Dw hA hD hS hD9
  replace hN := hN9
  clear hP hS
  generalize t9.heap = H at hP9 hS9 ⊢
  have hP := hP9
  have hS := hS9
  clear hP9 hS9 hD9 hN9
  refine x_aast hx hb hK hD hN hP hS (hal _ (okk_al hy112)) (okk_t hy112) 5 (fun _ _ _ => rfl) rfl (Or.inl rfl) (by decide) (hal _ (okk_al hy114f)) (okk_t hy114f) rfl rfl (inb_in (show inb (12 : Int32) 16 = true by decide)) dFg_init_111 (fun H locs hP hS => ?_)
  refine lv_iinc (k := 0) (v := (13 : Int32)) (lv' := [(1, .int (13 : Int32)), (0, .ref (ad x0))]) hx hb dFg_init_112 hl rfl (by decide) (by decide) rfl (fun ls hl => ?_)
  refine lv_goto (tgt := 93) hx hb dFg_init_115 rfl ?_
  refine lv_iload_n hx hb dFg_init_93 rfl (lv_at hl 0 rfl) ?_
  refine lv_bipush (v := 16) hx hb dFg_init_94 (by decide) ?_
  refine lv_icmp_ge (tgt := 118) hx hb dFg_init_96 rfl (fun hc => absurd hc (by decide)) (fun _ => ?_)
  refine lv_aload_n hx hb dFg_init_99 rfl (lv_at hl 1 rfl) ?_
  obtain ⟨y116, hy117, h⟩ := bd1_some h
  obtain ⟨hy117a, hy117⟩ := rdR_some hy117
  refine x_get hx hb hts in_Fg hown hK hP (hal _ (okk_al q0)) (okk_t q0) rfl rfl 1 (by decide) (hts _ tw_200) (fun _ h9 => h9) (congrArg some (x_rf hy117a)) dFg_init_100 ?_
  refine lv_iload_n hx hb dFg_init_103 rfl (lv_at hl 0 rfl) ?_
  replace h := bd1_some h
  obtain ⟨y118, hy119, h⟩ := h
  obtain ⟨hy119a, hy119b, hy119t⟩ := alo_some hy119
  clear hy119
  refine x_size (x_lo hsl hP hy114a (Nat.lt_succ_self _) rfl) (fun hz => ?_)
  refine x_new hx hb hts in_Nm t_Nm t_Nm_ok hown (hts _ tw_37) (hts _ tw_164) (hts _ tw_10) hK hD hP hS hA (aln_out hla hy119b) hy119t (x_had hsl hy119a hz rfl) rfl rfl df_Nm (Nat.le_of_ble_eq_true rfl) (Nat.le_of_ble_eq_true rfl) dFg_init_104 (fun H hP hD hS => ?_)
  rw [Ln_s (show (n0 + 62) = (n0 + 61) + 1 from rfl) hy119a] at hP hD
  replace hN : (Ln sl (n0 + 62) L).Nodup := Ln_nd rfl hy119a (aln_out hla hy119b) hN
  replace hal := aln_in (sl := sl) hal0 (n0 + 62)
  replace hy117 := okk_n (show (n0 + 61) ≤ (n0 + 62) from Nat.add_le_add_left (by decide) _) hy117
  replace q0 := okk_n (show (n0 + 61) ≤ (n0 + 62) from Nat.add_le_add_left (by decide) _) q0
  have hy119f := okk_new (al := al) (n := (n0 + 62)) hy119a (Nat.lt_succ_self _) hy119t
  refine W.widen (k := 62) (n := 4514) (Nat.le_of_ble_eq_true rfl) (Nat.le_of_ble_eq_true rfl) ?_
  refine lv_dup hx hb dFg_init_107 rfl ?_
  replace h := bd2_some h
  obtain ⟨u120, v120, hc120, h⟩ := h
  refine x_size (x_lo hsl hP hy119a (Nat.lt_succ_self _) rfl) (fun hz => ?_)
  refine z_cv (u := clr (stR u115 y111 (12 : Int32) (some y113)) y118) (out := (u120, v120)) hA hD hS (va_runIN (As := []) (rest := [.ref (ad y118), .int (13 : Int32), .ref (ad y116)]) ⟨hx, hb, hml, hown, hts⟩ (ct_Nm_init hal0 hla hN (sz := H.size) (x_hsl hsl hz) F (clr (stR u115 y111 (12 : Int32) (some y113)) y118) y118 (u120, v120) hc120 hy119f) ⟨va_cnB 0 hts gdNm_init rfl rfl rfl (nn_6 hNx) (hts _ tw_10) hdNm_init ⟨Nat.le_of_ble_eq_true rfl, Nat.le_of_ble_eq_true rfl⟩, rfl, (hts _ tw_166)⟩ (x_preSN hK hD hNx hP hS hA hdZ hdT hno hny) rfl rfl hl.1 rfl (lv_room (Nat.le_of_ble_eq_true rfl)) dFg_init_108 ⟨Nat.le_of_ble_eq_true rfl, Nat.le_of_ble_eq_true rfl⟩) (fun t9 locs hB hS9 => ?_)
  obtain ⟨hP9, hD9, hN9⟩ := hB
  replace hD := x_Dw hA hD hS hD9
  replace hN := hN9
  clear hP hS
  generalize t9.heap = H at hP9 hS9 ⊢
  have hP := hP9
  have hS := hS9
  clear hP9 hS9 hD9 hN9
  refine x_aast hx hb hK hD hN hP hS (hal _ (okk_al hy117)) (okk_t hy117) 5 (fun _ _ _ => rfl) rfl (Or.inl rfl) (by decide) (hal _ (okk_al hy119f)) (okk_t hy119f) rfl rfl (inb_in (show inb (13 : Int32) 16 = true by decide)) dFg_init_111 (fun H locs hP hS => ?_)
  refine lv_iinc (k := 0) (v := (14 : Int32)) (lv' := [(1, .int (14 : Int32)), (0, .ref (ad x0))]) hx hb dFg_init_112 hl rfl (by decide) (by decide) rfl (fun ls hl => ?_)
  refine lv_goto (tgt := 93) hx hb dFg_init_115 rfl ?_
  refine lv_iload_n hx hb dFg_init_93 rfl (lv_at hl 0 rfl) ?_
  refine lv_bipush (v := 16) hx hb dFg_init_94 (by decide) ?_
  refine lv_icmp_ge (tgt := 118) hx hb dFg_init_96 rfl (fun hc => absurd hc (by decide)) (fun _ => ?_)
  refine lv_aload_n hx hb dFg_init_99 rfl (lv_at hl 1 rfl) ?_
  obtain ⟨y121, hy122, h⟩ := bd1_some h
  obtain ⟨hy122a, hy122⟩ := rdR_some hy122
  refine x_get hx hb hts in_Fg hown hK hP (hal _ (okk_al q0)) (okk_t q0) rfl rfl 1 (by decide) (hts _ tw_200) (fun _ h9 => h9) (congrArg some (x_rf hy122a)) dFg_init_100 ?_
  refine lv_iload_n hx hb dFg_init_103 rfl (lv_at hl 0 rfl) ?_
  replace h := bd1_some h
  obtain ⟨y123, hy124, h⟩ := h
  obtain ⟨hy124a, hy124b, hy124t⟩ := alo_some hy124
  clear hy124
  refine x_size (x_lo hsl hP hy119a (Nat.lt_succ_self _) rfl) (fun hz => ?_)
  refine x_new hx hb hts in_Nm t_Nm t_Nm_ok hown (hts _ tw_37) (hts _ tw_164) (hts _ tw_10) hK hD hP hS hA (aln_out hla hy124b) hy124t (x_had hsl hy124a hz rfl) rfl rfl df_Nm (Nat.le_of_ble_eq_true rfl) (Nat.le_of_ble_eq_true rfl) dFg_init_104 (fun H hP hD hS => ?_)
  rw [Ln_s (show (n0 + 63) = (n0 + 62) + 1 from rfl) hy124a] at hP hD
  replace hN : (Ln sl (n0 + 63) L).Nodup := Ln_nd rfl hy124a (aln_out hla hy124b) hN
  replace hal := aln_in (sl := sl) hal0 (n0 + 63)
  replace hy122 := okk_n (show (n0 + 62) ≤ (n0 + 63) from Nat.add_le_add_left (by decide) _) hy122
  replace q0 := okk_n (show (n0 + 62) ≤ (n0 + 63) from Nat.add_le_add_left (by decide) _) q0
  have hy124f := okk_new (al := al) (n := (n0 + 63)) hy124a (Nat.lt_succ_self _) hy124t
  refine W.widen (k := 63) (n := 4521) (Nat.le_of_ble_eq_true rfl) (Nat.le_of_ble_eq_true rfl) ?_
  refine lv_dup hx hb dFg_init_107 rfl ?_
  replace h := bd2_some h
  obtain ⟨u125, v125, hc125, h⟩ := h
  refine x_size (x_lo hsl hP hy124a (Nat.lt_succ_self _) rfl) (fun hz => ?_)
  refine z_cv (u := clr (stR u120 y116 (13 : Int32) (some y118)) y123) (out := (u125, v125)) hA hD hS (va_runIN (As := []) (rest := [.ref (ad y123), .int (14 : Int32), .ref (ad y121)]) ⟨hx, hb, hml, hown, hts⟩ (ct_Nm_init hal0 hla hN (sz := H.size) (x_hsl hsl hz) F (clr (stR u120 y116 (13 : Int32) (some y118)) y123) y123 (u125, v125) hc125 hy124f) ⟨va_cnB 0 hts gdNm_init rfl rfl rfl (nn_6 hNx) (hts _ tw_10) hdNm_init ⟨Nat.le_of_ble_eq_true rfl, Nat.le_of_ble_eq_true rfl⟩, rfl, (hts _ tw_166)⟩ (x_preSN hK hD hNx hP hS hA hdZ hdT hno hny) rfl rfl hl.1 rfl (lv_room (Nat.le_of_ble_eq_true rfl)) dFg_init_108 ⟨Nat.le_of_ble_eq_true rfl, Nat.le_of_ble_eq_true rfl⟩) (fun t9 locs hB hS9 => ?_)
  obtain ⟨hP9, hD9, hN9⟩ := hB
  replace hD := x_Dw hA hD hS hD9
  replace hN := hN9
  clear hP hS
  generalize t9.heap = H at hP9 hS9 ⊢
  have hP := hP9
  have hS := hS9
  clear hP9 hS9 hD9 hN9
  refine x_aast hx hb hK hD hN hP hS (hal _ (okk_al hy122)) (okk_t hy122) 5 (fun _ _ _ => rfl) rfl (Or.inl rfl) (by decide) (hal _ (okk_al hy124f)) (okk_t hy124f) rfl rfl (inb_in (show inb (14 : Int32) 16 = true by decide)) dFg_init_111 (fun H locs hP hS => ?_)
  refine lv_iinc (k := 0) (v := (15 : Int32)) (lv' := [(1, .int (15 : Int32)), (0, .ref (ad x0))]) hx hb dFg_init_112 hl rfl (by decide) (by decide) rfl (fun ls hl => ?_)
  refine lv_goto (tgt := 93) hx hb dFg_init_115 rfl ?_
  refine lv_iload_n hx hb dFg_init_93 rfl (lv_at hl 0 rfl) ?_
  refine lv_bipush (v := 16) hx hb dFg_init_94 (by decide) ?_
  refine lv_icmp_ge (tgt := 118) hx hb dFg_init_96 rfl (fun hc => absurd hc (by decide)) (fun _ => ?_)
  refine lv_aload_n hx hb dFg_init_99 rfl (lv_at hl 1 rfl) ?_
  obtain ⟨y126, hy127, h⟩ := bd1_some h
  obtain ⟨hy127a, hy127⟩ := rdR_some hy127
  refine x_get hx hb hts in_Fg hown hK hP (hal _ (okk_al q0)) (okk_t q0) rfl rfl 1 (by decide) (hts _ tw_200) (fun _ h9 => h9) (congrArg some (x_rf hy127a)) dFg_init_100 ?_
  refine lv_iload_n hx hb dFg_init_103 rfl (lv_at hl 0 rfl) ?_
  replace h := bd1_some h
  obtain ⟨y128, hy129, h⟩ := h
  obtain ⟨hy129a, hy129b, hy129t⟩ := alo_some hy129
  clear hy129
  refine x_size (x_lo hsl hP hy124a (Nat.lt_succ_self _) rfl) (fun hz => ?_)
  refine x_new hx hb hts in_Nm t_Nm t_Nm_ok hown (hts _ tw_37) (hts _ tw_164) (hts _ tw_10) hK hD hP hS hA (aln_out hla hy129b) hy129t (x_had hsl hy129a hz rfl) rfl rfl df_Nm (Nat.le_of_ble_eq_true rfl) (Nat.le_of_ble_eq_true rfl) dFg_init_104 (fun H hP hD hS => ?_)
  rw [Ln_s (show (n0 + 64) = (n0 + 63) + 1 from rfl) hy129a] at hP hD
  replace hN : (Ln sl (n0 + 64) L).Nodup := Ln_nd rfl hy129a (aln_out hla hy129b) hN
  replace hal := aln_in (sl := sl) hal0 (n0 + 64)
  replace hy127 := okk_n (show (n0 + 63) ≤ (n0 + 64) from Nat.add_le_add_left (by decide) _) hy127
  replace q0 := okk_n (show (n0 + 63) ≤ (n0 + 64) from Nat.add_le_add_left (by decide) _) q0
  have hy129f := okk_new (al := al) (n := (n0 + 64)) hy129a (Nat.lt_succ_self _) hy129t
  refine W.widen (k := 64) (n := 4528) (Nat.le_of_ble_eq_true rfl) (Nat.le_of_ble_eq_true rfl) ?_
  refine lv_dup hx hb dFg_init_107 rfl ?_
  replace h := bd2_some h
  obtain ⟨u130, v130, hc130, h⟩ := h
  refine x_size (x_lo hsl hP hy129a (Nat.lt_succ_self _) rfl) (fun hz => ?_)
  refine z_cv (u := clr (stR u125 y121 (14 : Int32) (some y123)) y128) (out := (u130, v130)) hA hD hS (va_runIN (As := []) (rest := [.ref (ad y128), .int (15 : Int32), .ref (ad y126)]) ⟨hx, hb, hml, hown, hts⟩ (ct_Nm_init hal0 hla hN (sz := H.size) (x_hsl hsl hz) F (clr (stR u125 y121 (14 : Int32) (some y123)) y128) y128 (u130, v130) hc130 hy129f) ⟨va_cnB 0 hts gdNm_init rfl rfl rfl (nn_6 hNx) (hts _ tw_10) hdNm_init ⟨Nat.le_of_ble_eq_true rfl, Nat.le_of_ble_eq_true rfl⟩, rfl, (hts _ tw_166)⟩ (x_preSN hK hD hNx hP hS hA hdZ hdT hno hny) rfl rfl hl.1 rfl (lv_room (Nat.le_of_ble_eq_true rfl)) dFg_init_108 ⟨Nat.le_of_ble_eq_true rfl, Nat.le_of_ble_eq_true rfl⟩) (fun t9 locs hB hS9 => ?_)
  obtain ⟨hP9, hD9, hN9⟩ := hB
  replace hD := x_Dw hA hD hS hD9
  replace hN := hN9
  clear hP hS
  generalize t9.heap = H at hP9 hS9 ⊢
  have hP := hP9
  have hS := hS9
  clear hP9 hS9 hD9 hN9
  refine x_aast hx hb hK hD hN hP hS (hal _ (okk_al hy127)) (okk_t hy127) 5 (fun _ _ _ => rfl) rfl (Or.inl rfl) (by decide) (hal _ (okk_al hy129f)) (okk_t hy129f) rfl rfl (inb_in (show inb (15 : Int32) 16 = true by decide)) dFg_init_111 (fun H locs hP hS => ?_)
  refine lv_iinc (k := 0) (v := (16 : Int32)) (lv' := [(1, .int (16 : Int32)), (0, .ref (ad x0))]) hx hb dFg_init_112 hl rfl (by decide) (by decide) rfl (fun ls hl => ?_)
  refine lv_goto (tgt := 93) hx hb dFg_init_115 rfl ?_
  refine lv_iload_n hx hb dFg_init_93 rfl (lv_at hl 0 rfl) ?_
  refine lv_bipush (v := 16) hx hb dFg_init_94 (by decide) ?_
  refine lv_icmp_ge (tgt := 118) hx hb dFg_init_96 rfl (fun _ => ?_) (fun hc => absurd (by decide) hc)
  exact x_vretN hx hb hr hlocks h hP hD hN hS (Nat.le_of_ble_eq_true rfl) (Nat.le_of_ble_eq_true rfl) dFg_init_118
def fn_Fg_init (F : Nat) (al : Nat → Bool) (sl : Nat → Option Nat) (n0 : Nat) (u : Mr) (x0 : Nat) : Option (Mr × Int32) := bk_Fg_init_0 F al sl n0 u x0
set_option maxHeartbeats 4000000 in
set_option maxRecDepth 100000 in
theorem ct_Fg_init {l : Launch} {D : va_G} {cA : Nat → ClassId} {ad : Nat → Nat} {L : List Nat} {rs : va_W} {al : Nat → Bool} {sl : Nat → Option Nat} {n0 sz : Nat} (hal0 : ∀ k, al k = true → k ∈ L) (hla : ∀ k, k ∈ L → al k = true) (hN : (Ln sl n0 L).Nodup) (hsl : ∀ i k, sl i = some k → ad k + n0 = sz + i) (F : Nat) (u : Mr) (x0 : Nat) (out : Mr × Int32) (h : fn_Fg_init F al sl n0 u x0 = some out) (q0 : okk (aln al sl n0) 1 x0 = true) : CtVn l yFg_init wsFg_init rm_Fg_init [.ref (ad x0)] D cA ad (Ln sl n0 L) (Ln sl (n0 + 64) L) rs u out 64 4528 sz := by
  refine Met.ofW (cc := cFg_init) (maxL := 2) (ret := none) (by decide) rfl ?_
  intro p e s m args below meth c s₁ B hml hv
  obtain ⟨rfl, ⟨hsz, hP, hK, hD0, hNx⟩, hdZ, hdT, hno, hny⟩ := hv
  subst hsz
  have hD := hD0.self (sz := s.heap.size)
  generalize hAe : va_A (ww ad cA (Ln sl n0 L) rs u) s.heap.size = A at hD hdZ hdT ⊢
  have hA : ∀ q, s.heap.size ≤ q → A q := fun q h => by rw [← hAe]; exact Or.inr h
  have hl := lv_entry ([.ref (ad x0)]) (n := 2) (Nat.le_of_ble_eq_true rfl)
  rw [lg_entry_eq]
  generalize (lg_sl ([.ref (ad x0)]) ++ List.replicate (2 - (lg_sl ([.ref (ad x0)])).length) Slot.unset).toArray = ls at hl ⊢
  have hpre := atoms_spec (ws := wsFg_init) B.pre
  have hnm : meth.name = "<init>" := (name_of_methodNamed B.named B.method).1
  exact wk_Fg_init_0 ⟨B.exec, B.bytes, hml, findClass_of_methodNamed B.named, hts_bw hpre, B.returns, B.notSynchronized, hK, hA, fun v => ww_D hD, hN, aln_in hal0 n0, hNx⟩ ⟨hal0, hla, hsl, hnm, hdZ, hdT, hno, hny⟩ F out u x0 h q0 _ _ _ (lv_sub hl [0] rfl) hP va_S.rf
end

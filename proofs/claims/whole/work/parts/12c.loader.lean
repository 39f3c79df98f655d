abbrev yLd_relocate : MethodName := ⟨"ImageForge$Loader", "relocate", "(LImageForge$Image;I)Z"⟩
abbrev cLd_relocate : ByteArray := prog_4_method_6_code
abbrev wsLd_relocate : List Cond := .code yLd_relocate cLd_relocate 6 (some .boolean) :: bw
theorem gdLd_relocate : GoodIn bw wsLd_relocate := gd_of tw_752
theorem hdLd_relocate : yLd_relocate.cls ≠ "java/lang/invoke/MethodHandle" ∧ yLd_relocate.cls ≠ "java/lang/invoke/VarHandle" ∧ (parseMethodDescriptor yLd_relocate.desc).map (fun d => d.parameters.length) = some 2 := by decide +kernel
theorem dLd_relocate_0 : decode cLd_relocate 0 = .ok (.aload_n 1, 1) := by decide +kernel
theorem dLd_relocate_1 : decode cLd_relocate 1 = .ok (.iconst 4, 1) := by decide +kernel
theorem dLd_relocate_2 : decode cLd_relocate 2 = .ok (.invokevirtual 33, 3) := by decide +kernel
theorem dLd_relocate_5 : decode cLd_relocate 5 = .ok (.istore_n 3, 1) := by decide +kernel
theorem dLd_relocate_6 : decode cLd_relocate 6 = .ok (.iload_n 3, 1) := by decide +kernel
theorem dLd_relocate_7 : decode cLd_relocate 7 = .ok (.aload_n 1, 1) := by decide +kernel
theorem dLd_relocate_8 : decode cLd_relocate 8 = .ok (.iconst 4, 1) := by decide +kernel
theorem dLd_relocate_9 : decode cLd_relocate 9 = .ok (.invokevirtual 40, 3) := by decide +kernel
theorem dLd_relocate_12 : decode cLd_relocate 12 = .ok (.iadd, 1) := by decide +kernel
theorem dLd_relocate_13 : decode cLd_relocate 13 = .ok (.istore 4, 2) := by decide +kernel
theorem dLd_relocate_15 : decode cLd_relocate 15 = .ok (.iload_n 3, 1) := by decide +kernel
theorem dLd_relocate_16 : decode cLd_relocate 16 = .ok (.iload 4, 2) := by decide +kernel
theorem dLd_relocate_18 : decode cLd_relocate 18 = .ok (.if_icmp .ge 72, 3) := by decide +kernel
theorem dLd_relocate_21 : decode cLd_relocate 21 = .ok (.iload 4, 2) := by decide +kernel
theorem dLd_relocate_23 : decode cLd_relocate 23 = .ok (.iload_n 3, 1) := by decide +kernel
theorem dLd_relocate_24 : decode cLd_relocate 24 = .ok (.isub, 1) := by decide +kernel
theorem dLd_relocate_25 : decode cLd_relocate 25 = .ok (.bipush 8, 2) := by decide +kernel
theorem dLd_relocate_27 : decode cLd_relocate 27 = .ok (.if_icmp .ge 5, 3) := by decide +kernel
theorem dLd_relocate_30 : decode cLd_relocate 30 = .ok (.iconst 0, 1) := by decide +kernel
theorem dLd_relocate_31 : decode cLd_relocate 31 = .ok (.ireturn, 1) := by decide +kernel
theorem dLd_relocate_32 : decode cLd_relocate 32 = .ok (.aload_n 1, 1) := by decide +kernel
theorem dLd_relocate_33 : decode cLd_relocate 33 = .ok (.iload_n 3, 1) := by decide +kernel
theorem dLd_relocate_34 : decode cLd_relocate 34 = .ok (.iconst 4, 1) := by decide +kernel
theorem dLd_relocate_35 : decode cLd_relocate 35 = .ok (.iadd, 1) := by decide +kernel
theorem dLd_relocate_36 : decode cLd_relocate 36 = .ok (.invokevirtual 50, 3) := by decide +kernel
theorem dLd_relocate_39 : decode cLd_relocate 39 = .ok (.istore 5, 2) := by decide +kernel
theorem dLd_relocate_41 : decode cLd_relocate 41 = .ok (.iload 5, 2) := by decide +kernel
theorem dLd_relocate_43 : decode cLd_relocate 43 = .ok (.bipush 8, 2) := by decide +kernel
theorem dLd_relocate_45 : decode cLd_relocate 45 = .ok (.if_icmp .lt 19, 3) := by decide +kernel
theorem dLd_relocate_48 : decode cLd_relocate 48 = .ok (.iload 5, 2) := by decide +kernel
theorem dLd_relocate_50 : decode cLd_relocate 50 = .ok (.iconst 2, 1) := by decide +kernel
theorem dLd_relocate_51 : decode cLd_relocate 51 = .ok (.irem, 1) := by decide +kernel
theorem dLd_relocate_52 : decode cLd_relocate 52 = .ok (.ifCond .ne 12, 3) := by decide +kernel
theorem dLd_relocate_55 : decode cLd_relocate 55 = .ok (.iload 5, 2) := by decide +kernel
theorem dLd_relocate_57 : decode cLd_relocate 57 = .ok (.iload 4, 2) := by decide +kernel
theorem dLd_relocate_59 : decode cLd_relocate 59 = .ok (.iload_n 3, 1) := by decide +kernel
theorem dLd_relocate_60 : decode cLd_relocate 60 = .ok (.isub, 1) := by decide +kernel
theorem dLd_relocate_61 : decode cLd_relocate 61 = .ok (.if_icmp .le 5, 3) := by decide +kernel
theorem dLd_relocate_64 : decode cLd_relocate 64 = .ok (.iconst 0, 1) := by decide +kernel
theorem dLd_relocate_65 : decode cLd_relocate 65 = .ok (.ireturn, 1) := by decide +kernel
theorem dLd_relocate_66 : decode cLd_relocate 66 = .ok (.aload_n 0, 1) := by decide +kernel
theorem dLd_relocate_67 : decode cLd_relocate 67 = .ok (.aload_n 1, 1) := by decide +kernel
theorem dLd_relocate_68 : decode cLd_relocate 68 = .ok (.iload_n 3, 1) := by decide +kernel
theorem dLd_relocate_69 : decode cLd_relocate 69 = .ok (.iload_n 3, 1) := by decide +kernel
theorem dLd_relocate_70 : decode cLd_relocate 70 = .ok (.iload 5, 2) := by decide +kernel
theorem dLd_relocate_72 : decode cLd_relocate 72 = .ok (.iadd, 1) := by decide +kernel
theorem dLd_relocate_73 : decode cLd_relocate 73 = .ok (.iload_n 2, 1) := by decide +kernel
theorem dLd_relocate_74 : decode cLd_relocate 74 = .ok (.invokevirtual 75, 3) := by decide +kernel
theorem dLd_relocate_77 : decode cLd_relocate 77 = .ok (.ifCond .ne 5, 3) := by decide +kernel
theorem dLd_relocate_80 : decode cLd_relocate 80 = .ok (.iconst 0, 1) := by decide +kernel
theorem dLd_relocate_81 : decode cLd_relocate 81 = .ok (.ireturn, 1) := by decide +kernel
theorem dLd_relocate_82 : decode cLd_relocate 82 = .ok (.iload_n 3, 1) := by decide +kernel
theorem dLd_relocate_83 : decode cLd_relocate 83 = .ok (.iload 5, 2) := by decide +kernel
theorem dLd_relocate_85 : decode cLd_relocate 85 = .ok (.iadd, 1) := by decide +kernel
theorem dLd_relocate_86 : decode cLd_relocate 86 = .ok (.istore_n 3, 1) := by decide +kernel
theorem dLd_relocate_87 : decode cLd_relocate 87 = .ok (.goto (-72), 3) := by decide +kernel
theorem dLd_relocate_90 : decode cLd_relocate 90 = .ok (.iconst 1, 1) := by decide +kernel
theorem dLd_relocate_91 : decode cLd_relocate 91 = .ok (.ireturn, 1) := by decide +kernel
section
variable {p : Program} {l : Launch} {e : Env} {s : State} {m : MethodId} {args : Array Value} {below : List Frame} {meth : Method} {c : Code} {D : va_G} {cA : Nat → ClassId} {ad : Nat → Nat} {L : List Nat} {rs : va_W} {al : Nat → Bool} {A : Nat → Prop}
abbrev rm_Ld_relocate : Room := { frames := 3, cells := 0, slots := 0, locals := 75 }
def bk_Ld_relocate_15 (F : Nat) (al : Nat → Bool) : Nat → Mr → Nat → Nat → Int32 → Int32 → Int32 → Option (Mr × Int32)
  | 0, _, _, _, _, _, _ => none
  | n + 1, u, x0, x1, x2, x3, x4 => if x4 ≤ x3 then (some (u, (1 : Int32))) else (if (8 : Int32) ≤ (x4 - x3) then (bd2 (fn_Im_wordAt F al u x1 (x3 + (4 : Int32))) fun u1 v1 => (if v1 < (8 : Int32) then (some (u1, (0 : Int32))) else (if (v1 - v1 / (2 : Int32) * (2 : Int32)) = 0 then (if v1 ≤ (x4 - x3) then (bd2 (fn_Ld_relocateBlock F al u1 x0 x1 x3 (x3 + v1) x2) fun u2 v2 => (if v2 = 0 then (some (u2, (0 : Int32))) else (bk_Ld_relocate_15 F al n u2 x0 x1 x2 (x3 + v1) x4))) else (some (u1, (0 : Int32)))) else (some (u1, (0 : Int32)))))) else (some (u, (0 : Int32))))
set_option maxHeartbeats 4000000 in
set_option maxRecDepth 100000 in
theorem wk_Ld_relocate_15 (cx : Cx p l e s m args below meth c cLd_relocate 6 bw "ImageForge$Loader" (some .boolean) D cA ad L rs al A) (F : Nat) (out : Mr × Int32) : ∀ n : Nat, ∀ (u : Mr) (x0 : Nat) (x1 : Nat) (x2 : Int32) (x3 : Int32) (x4 : Int32), bk_Ld_relocate_15 F al n u x0 x1 x2 x3 x4 = some out → okk al 13 x0 = true → okk al 6 x1 = true → Wb p l e rm_Ld_relocate s m args below meth c D cA ad L rs A (QI below args s D cA ad L rs A out) 6 15 [(0, .ref (ad x0)), (1, .ref (ad x1)), (2, .int x2), (3, .int x3), (4, .int x4)] [] u := by
  obtain ⟨hx, hb, hml, hown, hts, hr, hlocks, hK, hA, hD, hN, hal, hNx⟩ := cx
  intro n
  induction n with
  | zero =>
    intro u x0 x1 x2 x3 x4 h
    cases h
  | succ n ih =>
    intro u x0 x1 x2 x3 x4 h q0 q1 H locs ls hl hP hS
    rw [bk_Ld_relocate_15] at h
    refine lv_iload_n hx hb dLd_relocate_15 rfl (lv_at hl 3 rfl) ?_
    refine lv_iload hx hb dLd_relocate_16 (lv_at hl 4 rfl) ?_
    refine lv_icmp_ge (tgt := 90) hx hb dLd_relocate_18 rfl (fun hc => ?_) (fun hc => ?_)
    · replace h := it_t h hc
      refine lv_iconst (v := 1) hx hb dLd_relocate_90 (by decide) ?_
      exact x_zret hx hb hr hlocks rfl h hP hS dLd_relocate_91
    · replace h := it_f h hc
      refine lv_iload hx hb dLd_relocate_21 (lv_at hl 4 rfl) ?_
      refine lv_iload_n hx hb dLd_relocate_23 rfl (lv_at hl 3 rfl) ?_
      refine lv_isub hx hb dLd_relocate_24 ?_
      refine lv_bipush (v := 8) hx hb dLd_relocate_25 (by decide) ?_
      refine lv_icmp_ge (tgt := 32) hx hb dLd_relocate_27 rfl (fun hc => ?_) (fun hc => ?_)
      · replace h := it_t h hc
        refine lv_aload_n hx hb dLd_relocate_32 rfl (lv_at hl 1 rfl) ?_
        refine lv_iload_n hx hb dLd_relocate_33 rfl (lv_at hl 3 rfl) ?_
        refine lv_iconst (v := 4) hx hb dLd_relocate_34 (by decide) ?_
        refine lv_iadd hx hb dLd_relocate_35 ?_
        obtain ⟨u1, v1, hc1, h⟩ := bd2_some h
        refine x_ci (u := u) (out := (u1, v1)) hA hD hS (va_runVN (As := [.int (x3 + (4 : Int32))]) (rest := []) ⟨hx, hb, hml, hown, hts⟩ (ct_Im_wordAt hal hN F u x1 (x3 + (4 : Int32)) (u1, v1) hc1 q1 _) ⟨va_cnB 1 hts gdIm_wordAt rfl rfl rfl (nn_10 hNx) (hts _ tw_2) hdIm_wordAt ⟨Nat.le_of_ble_eq_true rfl, Nat.le_of_ble_eq_true rfl⟩, (hts _ tw_240), (hts _ tp_3)⟩ (x_preV hK hD hNx hP (hal _ (okk_al q1)) (okk_t q1) rfl rfl) rfl rfl hl.1 rfl (lv_room (Nat.le_of_ble_eq_true rfl)) dLd_relocate_36 ⟨Nat.zero_le _, Nat.zero_le _⟩) (fun H locs hP hS => ?_)
        refine lv_istore (lv' := [(5, .int v1), (0, .ref (ad x0)), (1, .ref (ad x1)), (2, .int x2), (3, .int x3), (4, .int x4)]) hx hb dLd_relocate_39 hl (by decide) rfl (fun ls hl => ?_)
        refine lv_iload hx hb dLd_relocate_41 (lv_at hl 0 rfl) ?_
        refine lv_bipush (v := 8) hx hb dLd_relocate_43 (by decide) ?_
        refine lv_icmp_lt (tgt := 64) hx hb dLd_relocate_45 rfl (fun hc => ?_) (fun hc => ?_)
        · replace h := it_t h hc
          refine lv_iconst (v := 0) hx hb dLd_relocate_64 (by decide) ?_
          exact x_zret hx hb hr hlocks rfl h hP hS dLd_relocate_65
        · replace h := it_f h hc
          refine lv_iload hx hb dLd_relocate_48 (lv_at hl 0 rfl) ?_
          refine lv_iconst (v := 2) hx hb dLd_relocate_50 (by decide) ?_
          refine lv_irem hx hb dLd_relocate_51 (by decide) ?_
          refine lv_if_ne (tgt := 64) hx hb dLd_relocate_52 rfl (fun hc => ?_) (fun hc => ?_)
          · replace h := it_f h hc
            refine lv_iconst (v := 0) hx hb dLd_relocate_64 (by decide) ?_
            exact x_zret hx hb hr hlocks rfl h hP hS dLd_relocate_65
          · replace h := it_t h hc
            refine lv_iload hx hb dLd_relocate_55 (lv_at hl 0 rfl) ?_
            refine lv_iload hx hb dLd_relocate_57 (lv_at hl 5 rfl) ?_
            refine lv_iload_n hx hb dLd_relocate_59 rfl (lv_at hl 4 rfl) ?_
            refine lv_isub hx hb dLd_relocate_60 ?_
            refine lv_icmp_le (tgt := 66) hx hb dLd_relocate_61 rfl (fun hc => ?_) (fun hc => ?_)
            · replace h := it_t h hc
              refine lv_aload_n hx hb dLd_relocate_66 rfl (lv_at hl 1 rfl) ?_
              refine lv_aload_n hx hb dLd_relocate_67 rfl (lv_at hl 2 rfl) ?_
              refine lv_iload_n hx hb dLd_relocate_68 rfl (lv_at hl 4 rfl) ?_
              refine lv_iload_n hx hb dLd_relocate_69 rfl (lv_at hl 4 rfl) ?_
              refine lv_iload hx hb dLd_relocate_70 (lv_at hl 0 rfl) ?_
              refine lv_iadd hx hb dLd_relocate_72 ?_
              refine lv_iload_n hx hb dLd_relocate_73 rfl (lv_at hl 3 rfl) ?_
              obtain ⟨u2, v2, hc2, h⟩ := bd2_some h
              refine x_ci (u := u1) (out := (u2, v2)) hA hD hS (va_runV (As := [.ref (ad x1), .int x3, .int (x3 + v1), .int x2]) (rest := []) ⟨hx, hb, hml, hown, hts⟩ (ct_Ld_relocateBlock hal hN F u1 x0 x1 x3 (x3 + v1) x2 (u2, v2) hc2 q0 q1 _) ⟨callB_of 4 hts gdLd_relocateBlock rfl rfl rfl (hts _ tw_4) (hts _ tw_755) hdLd_relocateBlock ⟨Nat.le_of_ble_eq_true rfl, Nat.le_of_ble_eq_true rfl⟩, (hts _ tw_757), (hts _ tp_48)⟩ (x_preV hK hD hNx hP (hal _ (okk_al q0)) (okk_t q0) rfl rfl) rfl rfl hl.1 rfl (lv_room (Nat.le_of_ble_eq_true rfl)) dLd_relocate_74 ⟨Nat.zero_le _, Nat.zero_le _⟩) (fun H locs hP hS => ?_)
              refine lv_if_ne (tgt := 82) hx hb dLd_relocate_77 rfl (fun hc => ?_) (fun hc => ?_)
              · replace h := it_f h hc
                refine lv_iload_n hx hb dLd_relocate_82 rfl (lv_at hl 4 rfl) ?_
                refine lv_iload hx hb dLd_relocate_83 (lv_at hl 0 rfl) ?_
                refine lv_iadd hx hb dLd_relocate_85 ?_
                refine lv_istore_n (lv' := [(3, .int (x3 + v1)), (5, .int v1), (0, .ref (ad x0)), (1, .ref (ad x1)), (2, .int x2), (4, .int x4)]) hx hb dLd_relocate_86 rfl hl (by decide) rfl (fun ls hl => ?_)
                refine lv_goto (tgt := 15) hx hb dLd_relocate_87 rfl ?_
                exact ih u2 x0 x1 x2 (x3 + v1) x4 h q0 q1 _ _ _ (lv_sub hl [2, 3, 4, 0, 5] rfl) hP hS
              · replace h := it_t h hc
                refine lv_iconst (v := 0) hx hb dLd_relocate_80 (by decide) ?_
                exact x_zret hx hb hr hlocks rfl h hP hS dLd_relocate_81
            · replace h := it_f h hc
              refine lv_iconst (v := 0) hx hb dLd_relocate_64 (by decide) ?_
              exact x_zret hx hb hr hlocks rfl h hP hS dLd_relocate_65
      · replace h := it_f h hc
        refine lv_iconst (v := 0) hx hb dLd_relocate_30 (by decide) ?_
        exact x_zret hx hb hr hlocks rfl h hP hS dLd_relocate_31
def bk_Ld_relocate_0 (F : Nat) (al : Nat → Bool) (u : Mr) (x0 : Nat) (x1 : Nat) (x2 : Int32) : Option (Mr × Int32) := bd2 (fn_Im_sectionBegin F al u x1 (4 : Int32)) fun u1 v1 => (bd2 (fn_Im_sectionSize F al u1 x1 (4 : Int32)) fun u2 v2 => (bk_Ld_relocate_15 F al F u2 x0 x1 x2 v1 (v1 + v2)))
set_option maxHeartbeats 4000000 in
set_option maxRecDepth 100000 in
theorem wk_Ld_relocate_0 (cx : Cx p l e s m args below meth c cLd_relocate 6 bw "ImageForge$Loader" (some .boolean) D cA ad L rs al A) (F : Nat) (out : Mr × Int32) : ∀ (u : Mr) (x0 : Nat) (x1 : Nat) (x2 : Int32), bk_Ld_relocate_0 F al u x0 x1 x2 = some out → okk al 13 x0 = true → okk al 6 x1 = true → Wb p l e rm_Ld_relocate s m args below meth c D cA ad L rs A (QI below args s D cA ad L rs A out) 6 0 [(0, .ref (ad x0)), (1, .ref (ad x1)), (2, .int x2)] [] u := by
  obtain ⟨hx, hb, hml, hown, hts, hr, hlocks, hK, hA, hD, hN, hal, hNx⟩ := cx
  intro u x0 x1 x2 h q0 q1 H locs ls hl hP hS
  unfold bk_Ld_relocate_0 at h
  refine lv_aload_n hx hb dLd_relocate_0 rfl (lv_at hl 1 rfl) ?_
  refine lv_iconst (v := 4) hx hb dLd_relocate_1 (by decide) ?_
  obtain ⟨u1, v1, hc1, h⟩ := bd2_some h
  refine x_ci (u := u) (out := (u1, v1)) hA hD hS (va_runVN (As := [.int (4 : Int32)]) (rest := []) ⟨hx, hb, hml, hown, hts⟩ (ct_Im_sectionBegin hal hN F u x1 (4 : Int32) (u1, v1) hc1 q1 _) ⟨va_cnB 1 hts gdIm_sectionBegin rfl rfl rfl (nn_37 hNx) (hts _ tw_2) hdIm_sectionBegin ⟨Nat.le_of_ble_eq_true rfl, Nat.le_of_ble_eq_true rfl⟩, (hts _ tw_743), (hts _ tp_45)⟩ (x_preV hK hD hNx hP (hal _ (okk_al q1)) (okk_t q1) rfl rfl) rfl rfl hl.1 rfl (lv_room (Nat.le_of_ble_eq_true rfl)) dLd_relocate_2 ⟨Nat.zero_le _, Nat.zero_le _⟩) (fun H locs hP hS => ?_)
  refine lv_istore_n (lv' := [(3, .int v1), (0, .ref (ad x0)), (1, .ref (ad x1)), (2, .int x2)]) hx hb dLd_relocate_5 rfl hl (by decide) rfl (fun ls hl => ?_)
  refine lv_iload_n hx hb dLd_relocate_6 rfl (lv_at hl 0 rfl) ?_
  refine lv_aload_n hx hb dLd_relocate_7 rfl (lv_at hl 2 rfl) ?_
  refine lv_iconst (v := 4) hx hb dLd_relocate_8 (by decide) ?_
  obtain ⟨u2, v2, hc2, h⟩ := bd2_some h
  refine x_ci (u := u1) (out := (u2, v2)) hA hD hS (va_runVN (As := [.int (4 : Int32)]) (rest := [.int v1]) ⟨hx, hb, hml, hown, hts⟩ (ct_Im_sectionSize hal hN F u1 x1 (4 : Int32) (u2, v2) hc2 q1 _) ⟨va_cnB 1 hts gdIm_sectionSize rfl rfl rfl (nn_38 hNx) (hts _ tw_2) hdIm_sectionSize ⟨Nat.le_of_ble_eq_true rfl, Nat.le_of_ble_eq_true rfl⟩, (hts _ tw_747), (hts _ tp_46)⟩ (x_preV hK hD hNx hP (hal _ (okk_al q1)) (okk_t q1) rfl rfl) rfl rfl hl.1 rfl (lv_room (Nat.le_of_ble_eq_true rfl)) dLd_relocate_9 ⟨Nat.zero_le _, Nat.zero_le _⟩) (fun H locs hP hS => ?_)
  refine lv_iadd hx hb dLd_relocate_12 ?_
  refine lv_istore (lv' := [(4, .int (v1 + v2)), (3, .int v1), (0, .ref (ad x0)), (1, .ref (ad x1)), (2, .int x2)]) hx hb dLd_relocate_13 hl (by decide) rfl (fun ls hl => ?_)
  exact wk_Ld_relocate_15 ⟨hx, hb, hml, hown, hts, hr, hlocks, hK, hA, hD, hN, hal, hNx⟩ F out F u2 x0 x1 x2 v1 (v1 + v2) h q0 q1 _ _ _ (lv_sub hl [2, 3, 4, 1, 0] rfl) hP hS
def fn_Ld_relocate (F : Nat) (al : Nat → Bool) (u : Mr) (x0 : Nat) (x1 : Nat) (x2 : Int32) : Option (Mr × Int32) := bk_Ld_relocate_0 F al u x0 x1 x2
set_option maxHeartbeats 4000000 in
set_option maxRecDepth 100000 in
theorem ct_Ld_relocate {l : Launch} {D : va_G} {cA : Nat → ClassId} {ad : Nat → Nat} {L : List Nat} {rs : va_W} {al : Nat → Bool} (hal : ∀ k, al k = true → k ∈ L) (hN : L.Nodup) (F : Nat) (u : Mr) (x0 : Nat) (x1 : Nat) (x2 : Int32) (out : Mr × Int32) (h : fn_Ld_relocate F al u x0 x1 x2 = some out) (q0 : okk al 13 x0 = true) (q1 : okk al 6 x1 = true) : CtI l yLd_relocate wsLd_relocate rm_Ld_relocate [.ref (ad x0), .ref (ad x1), .int x2] D cA ad L rs u out := by
  intro sz
  refine Met.ofW (cc := cLd_relocate) (maxL := 6) (ret := (some .boolean)) (by decide) rfl ?_
  intro p e s m args below meth c s₁ B hml hv
  obtain ⟨rfl, hsz, hP, hK, hD0, hNx⟩ := hv
  subst hsz
  have hD := hD0.self (sz := s.heap.size)
  generalize hAe : va_A (ww ad cA L rs u) s.heap.size = A at hD ⊢
  have hA : ∀ q, s.heap.size ≤ q → A q := fun q h => by rw [← hAe]; exact Or.inr h
  have hl := lv_entry ([.ref (ad x0), .ref (ad x1), .int x2]) (n := 6) (Nat.le_of_ble_eq_true rfl)
  rw [lg_entry_eq]
  generalize (lg_sl ([.ref (ad x0), .ref (ad x1), .int x2]) ++ List.replicate (6 - (lg_sl ([.ref (ad x0), .ref (ad x1), .int x2])).length) Slot.unset).toArray = ls at hl ⊢
  exact wk_Ld_relocate_0 ⟨B.exec, B.bytes, hml, findClass_of_methodNamed B.named, hts_bw (atoms_spec (ws := wsLd_relocate) B.pre), B.returns, B.notSynchronized, hK, hA, fun v => ww_D hD, hN, hal, hNx⟩ F out u x0 x1 x2 h q0 q1 _ _ _ (lv_sub hl [0, 1, 2] rfl) hP va_S.rf
end

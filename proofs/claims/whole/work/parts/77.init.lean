/-! the memory behind the law's beginning -/
def Phi (u : Mr) : Prop := (∀ k i, u.1 k i = 0 ∨ (k / 64 = 20 ∧ i = 4)) ∧ ∀ k j a, u.2.1 k j = some a → a ∈ slL ∨ a = 1472
theorem Phi.clr {u : Mr} {k : Nat} (h : Phi u) : Phi (clr u k) := by
  refine ⟨fun a b => ?_, fun a b c e => ?_⟩
  · show (if a = k then 0 else u.1 a b) = 0 ∨ _
    by_cases e : a = k
    · rw [if_pos e]
      exact Or.inl rfl
    · rw [if_neg e]
      exact h.1 a b
  · have e' : (if a = k then none else u.2.1 a b) = some c := e
    by_cases e9 : a = k
    · rw [if_pos e9] at e'
      cases e'
    · rw [if_neg e9] at e'
      exact h.2 a b c e'
theorem Phi.stR {u : Mr} {k a : Nat} {i : Int32} (ha : a ∈ slL ∨ a = 1472) (h : Phi u) : Phi (stR u k i (some a)) := by
  refine ⟨h.1, fun p q c e => ?_⟩
  have e' : (if p = k ∧ q = i then some a else u.2.1 p q) = some c := e
  by_cases e9 : p = k ∧ q = i
  · rw [if_pos e9] at e'
    cases e'
    exact ha
  · rw [if_neg e9] at e'
    exact h.2 p q c e'
theorem Phi.st0 {u : Mr} {k : Nat} {i : Int32} (h : Phi u) : Phi (stI u k i 0) := by
  refine ⟨fun a b => ?_, h.2⟩
  show (if a = k ∧ b = i then 0 else u.1 a b) = 0 ∨ _
  by_cases e : a = k ∧ b = i
  · rw [if_pos e]
    exact Or.inl rfl
  · rw [if_neg e]
    exact h.1 a b
theorem Phi.stN {u : Mr} {k : Nat} {x : Int32} (hk : k / 64 = 20) (h : Phi u) : Phi (stI u k 4 x) := by
  refine ⟨fun a b => ?_, h.2⟩
  show (if a = k ∧ b = 4 then x else u.1 a b) = 0 ∨ _
  by_cases e : a = k ∧ b = 4
  · rw [if_pos e, e.1, e.2]
    exact Or.inr ⟨hk, rfl⟩
  · rw [if_neg e]
    exact h.1 a b
section
variable {F n x0 : Nat} {al : Nat → Bool} {u u' : Mr} {r : Int32}
theorem alo_mem {m T a : Nat} (h : alo al slI m T = some a) : a ∈ slL ∨ a = 1472 := by
  have h1 : slL[m]? = some a := (alo_some h).1
  exact Or.inl (List.mem_of_getElem? h1)
theorem ph_Pt (h : fn_Pt_init F al slI n u x0 = some (u', r)) (hu : Phi u) : Phi u' := by
  unfold fn_Pt_init bk_Pt_init_0 at h
  obtain ⟨y, hy, h⟩ := bd1_some h
  cases h
  exact Phi.stR (alo_mem hy) (Phi.clr hu)
theorem ph_Im (h : fn_Im_init F al slI n u x0 = some (u', r)) (hu : Phi u) : Phi u' := by
  unfold fn_Im_init bk_Im_init_0 at h
  obtain ⟨y, hy, h⟩ := bd1_some h
  cases h
  exact Phi.stR (alo_mem hy) (Phi.clr hu)
theorem ph_Nm {m : Nat} (h : fn_Nm_init F al slI n u x0 = some (u', r)) (hx : alo al slI m 20 = some x0) (hu : Phi u) : Phi u' := by
  unfold fn_Nm_init bk_Nm_init_0 at h
  cases h
  exact Phi.stN (alo_some hx).2.2 hu
theorem ph_Al (h : fn_Al_init F al slI n u x0 = some (u', r)) (hu : Phi u) : Phi u' := by
  unfold fn_Al_init bk_Al_init_0 fn_Ab_init bk_Ab_init_0 fn_Ac_init bk_Ac_init_0 at h
  cases h
  exact Phi.stR (Or.inr rfl) (Phi.st0 hu)
theorem ph_Ob (h : fn_Ob_init F al slI n u x0 = some (u', r)) (hu : Phi u) : Phi u' := by
  unfold fn_Ob_init bk_Ob_init_0 at h
  obtain ⟨y1, ay1, h⟩ := bd1_some h
  obtain ⟨y3, ay3, h⟩ := bd1_some h
  obtain ⟨u5, v5, fu5, h⟩ := bd2_some h
  have pu5 : Phi u5 := ph_Pt fu5 (Phi.clr (Phi.clr hu))
  obtain ⟨-, h⟩ := ck_some h
  obtain ⟨y7, ay7, h⟩ := bd1_some h
  obtain ⟨u9, v9, fu9, h⟩ := bd2_some h
  have pu9 : Phi u9 := ph_Pt fu9 (Phi.clr (Phi.stR (alo_mem ay3) pu5))
  obtain ⟨-, h⟩ := ck_some h
  obtain ⟨y11, ay11, h⟩ := bd1_some h
  obtain ⟨u13, v13, fu13, h⟩ := bd2_some h
  have pu13 : Phi u13 := ph_Al fu13 (Phi.clr (Phi.stR (alo_mem ay1) (Phi.stR (alo_mem ay7) pu9)))
  obtain ⟨e, -⟩ := Prod.mk.inj (Option.some.inj h)
  rw [← e]
  exact (Phi.stR (alo_mem ay11) pu13)
theorem ph_Lk (h : fn_Lk_init F al slI n u x0 = some (u', r)) (hu : Phi u) : Phi u' := by
  unfold fn_Lk_init bk_Lk_init_0 at h
  obtain ⟨y1, ay1, h⟩ := bd1_some h
  obtain ⟨y3, ay3, h⟩ := bd1_some h
  obtain ⟨y5, ay5, h⟩ := bd1_some h
  obtain ⟨y7, ay7, h⟩ := bd1_some h
  obtain ⟨y9, ay9, h⟩ := bd1_some h
  obtain ⟨e, -⟩ := Prod.mk.inj (Option.some.inj h)
  rw [← e]
  exact (Phi.stR (alo_mem ay9) (Phi.clr (Phi.stR (alo_mem ay3) (Phi.stR (alo_mem ay7) (Phi.stR (alo_mem ay5) (Phi.clr (Phi.clr (Phi.clr (Phi.stR (alo_mem ay1) (Phi.clr hu))))))))))
theorem ph_Ld (h : fn_Ld_init F al slI n u x0 = some (u', r)) (hu : Phi u) : Phi u' := by
  unfold fn_Ld_init bk_Ld_init_0 at h
  obtain ⟨y1, ay1, h⟩ := bd1_some h
  obtain ⟨u3, v3, fu3, h⟩ := bd2_some h
  have pu3 : Phi u3 := ph_Im fu3 (Phi.clr hu)
  obtain ⟨-, h⟩ := ck_some h
  obtain ⟨y5, ay5, h⟩ := bd1_some h
  obtain ⟨u7, v7, fu7, h⟩ := bd2_some h
  have pu7 : Phi u7 := ph_Im fu7 (Phi.clr (Phi.stR (alo_mem ay1) pu3))
  obtain ⟨-, h⟩ := ck_some h
  obtain ⟨e, -⟩ := Prod.mk.inj (Option.some.inj h)
  rw [← e]
  exact (Phi.stR (alo_mem ay5) pu7)
theorem ph_Md (h : fn_Md_init F al slI n u x0 = some (u', r)) (hu : Phi u) : Phi u' := by
  unfold fn_Md_init bk_Md_init_0 at h
  obtain ⟨y1, ay1, h⟩ := bd1_some h
  obtain ⟨y3, ay3, h⟩ := bd1_some h
  obtain ⟨y5, ay5, h⟩ := bd1_some h
  obtain ⟨y7, ay7, h⟩ := bd1_some h
  obtain ⟨y9, ay9, h⟩ := bd1_some h
  obtain ⟨y11, ay11, h⟩ := bd1_some h
  obtain ⟨y13, ay13, h⟩ := bd1_some h
  obtain ⟨y15, ay15, h⟩ := bd1_some h
  obtain ⟨y17, ay17, h⟩ := bd1_some h
  obtain ⟨y19, ay19, h⟩ := bd1_some h
  obtain ⟨y21, ay21, h⟩ := bd1_some h
  obtain ⟨y23, ay23, h⟩ := bd1_some h
  obtain ⟨y25, ay25, h⟩ := bd1_some h
  obtain ⟨y27, ay27, h⟩ := bd1_some h
  obtain ⟨y29, ay29, h⟩ := bd1_some h
  obtain ⟨y31, ay31, h⟩ := bd1_some h
  obtain ⟨y33, ay33, h⟩ := bd1_some h
  obtain ⟨y35, ay35, h⟩ := bd1_some h
  obtain ⟨y37, ay37, h⟩ := bd1_some h
  obtain ⟨y39, ay39, h⟩ := bd1_some h
  obtain ⟨y41, ay41, h⟩ := bd1_some h
  obtain ⟨y43, ay43, h⟩ := bd1_some h
  obtain ⟨y45, ay45, h⟩ := bd1_some h
  obtain ⟨e, -⟩ := Prod.mk.inj (Option.some.inj h)
  rw [← e]
  exact (Phi.stR (alo_mem ay45) (Phi.clr (Phi.stR (alo_mem ay43) (Phi.clr (Phi.stR (alo_mem ay41) (Phi.clr (Phi.stR (alo_mem ay39) (Phi.clr (Phi.stR (alo_mem ay37) (Phi.clr (Phi.stR (alo_mem ay35) (Phi.clr (Phi.stR (alo_mem ay33) (Phi.clr (Phi.stR (alo_mem ay31) (Phi.clr (Phi.stR (alo_mem ay29) (Phi.clr (Phi.stR (alo_mem ay27) (Phi.clr (Phi.stR (alo_mem ay25) (Phi.clr (Phi.stR (alo_mem ay23) (Phi.clr (Phi.stR (alo_mem ay21) (Phi.clr (Phi.stR (alo_mem ay19) (Phi.clr (Phi.stR (alo_mem ay17) (Phi.clr (Phi.stR (alo_mem ay15) (Phi.clr (Phi.stR (alo_mem ay13) (Phi.clr (Phi.stR (alo_mem ay11) (Phi.clr (Phi.stR (alo_mem ay9) (Phi.clr (Phi.stR (alo_mem ay7) (Phi.clr (Phi.stR (alo_mem ay5) (Phi.clr (Phi.stR (alo_mem ay3) (Phi.clr (Phi.stR (alo_mem ay1) (Phi.clr hu))))))))))))))))))))))))))))))))))))))))))))))
set_option maxHeartbeats 4000000 in
theorem ph_Fg (h : fn_Fg_init F al slI n u x0 = some (u', r)) (hu : Phi u) : Phi u' := by
  unfold fn_Fg_init bk_Fg_init_0 at h
  obtain ⟨y1, ay1, h⟩ := bd1_some h
  obtain ⟨y3, ay3, h⟩ := bd1_some h
  obtain ⟨y5, ay5, h⟩ := bd1_some h
  obtain ⟨y7, ay7, h⟩ := bd1_some h
  obtain ⟨y9, ay9, h⟩ := bd1_some h
  obtain ⟨y11, ay11, h⟩ := bd1_some h
  obtain ⟨y13, ay13, h⟩ := bd1_some h
  obtain ⟨y15, ay15, h⟩ := bd1_some h
  obtain ⟨u17, v17, fu17, h⟩ := bd2_some h
  have pu17 : Phi u17 := ph_Im fu17 (Phi.clr (Phi.stR (alo_mem ay5) (Phi.stR (alo_mem ay13) (Phi.stR (alo_mem ay11) (Phi.stR (alo_mem ay9) (Phi.stR (alo_mem ay7) (Phi.clr (Phi.clr (Phi.clr (Phi.clr (Phi.clr (Phi.stR (alo_mem ay3) (Phi.clr (Phi.stR (alo_mem ay1) (Phi.clr hu)))))))))))))))
  obtain ⟨-, h⟩ := ck_some h
  obtain ⟨y19, ay19, h⟩ := bd1_some h
  obtain ⟨u21, v21, fu21, h⟩ := bd2_some h
  have pu21 : Phi u21 := ph_Lk fu21 (Phi.clr (Phi.stR (alo_mem ay15) pu17))
  obtain ⟨-, h⟩ := ck_some h
  obtain ⟨y23, ay23, h⟩ := bd1_some h
  obtain ⟨u25, v25, fu25, h⟩ := bd2_some h
  have pu25 : Phi u25 := ph_Ld fu25 (Phi.clr (Phi.stR (alo_mem ay19) pu21))
  obtain ⟨-, h⟩ := ck_some h
  obtain ⟨y27, -, h⟩ := bd1_some h
  obtain ⟨y29, ay29, h⟩ := bd1_some h
  obtain ⟨u31, v31, fu31, h⟩ := bd2_some h
  have pu31 : Phi u31 := ph_Ob fu31 (Phi.clr (Phi.stR (alo_mem ay23) pu25))
  obtain ⟨-, h⟩ := ck_some h
  obtain ⟨y33, -, h⟩ := bd1_some h
  obtain ⟨y35, ay35, h⟩ := bd1_some h
  obtain ⟨u37, v37, fu37, h⟩ := bd2_some h
  have pu37 : Phi u37 := ph_Ob fu37 (Phi.clr (Phi.stR (alo_mem ay29) pu31))
  obtain ⟨-, h⟩ := ck_some h
  obtain ⟨y39, -, h⟩ := bd1_some h
  obtain ⟨y41, ay41, h⟩ := bd1_some h
  obtain ⟨u43, v43, fu43, h⟩ := bd2_some h
  have pu43 : Phi u43 := ph_Ob fu43 (Phi.clr (Phi.stR (alo_mem ay35) pu37))
  obtain ⟨-, h⟩ := ck_some h
  obtain ⟨y45, -, h⟩ := bd1_some h
  obtain ⟨y47, ay47, h⟩ := bd1_some h
  obtain ⟨u49, v49, fu49, h⟩ := bd2_some h
  have pu49 : Phi u49 := ph_Ob fu49 (Phi.clr (Phi.stR (alo_mem ay41) pu43))
  obtain ⟨-, h⟩ := ck_some h
  obtain ⟨y51, -, h⟩ := bd1_some h
  obtain ⟨y53, ay53, h⟩ := bd1_some h
  obtain ⟨u55, v55, fu55, h⟩ := bd2_some h
  have pu55 : Phi u55 := ph_Nm fu55 ay53 (Phi.clr (Phi.stR (alo_mem ay47) pu49))
  obtain ⟨y56, -, h⟩ := bd1_some h
  obtain ⟨y58, ay58, h⟩ := bd1_some h
  obtain ⟨u60, v60, fu60, h⟩ := bd2_some h
  have pu60 : Phi u60 := ph_Nm fu60 ay58 (Phi.clr (Phi.stR (alo_mem ay53) pu55))
  obtain ⟨y61, -, h⟩ := bd1_some h
  obtain ⟨y63, ay63, h⟩ := bd1_some h
  obtain ⟨u65, v65, fu65, h⟩ := bd2_some h
  have pu65 : Phi u65 := ph_Nm fu65 ay63 (Phi.clr (Phi.stR (alo_mem ay58) pu60))
  obtain ⟨y66, -, h⟩ := bd1_some h
  obtain ⟨y68, ay68, h⟩ := bd1_some h
  obtain ⟨u70, v70, fu70, h⟩ := bd2_some h
  have pu70 : Phi u70 := ph_Nm fu70 ay68 (Phi.clr (Phi.stR (alo_mem ay63) pu65))
  obtain ⟨y71, -, h⟩ := bd1_some h
  obtain ⟨y73, ay73, h⟩ := bd1_some h
  obtain ⟨u75, v75, fu75, h⟩ := bd2_some h
  have pu75 : Phi u75 := ph_Nm fu75 ay73 (Phi.clr (Phi.stR (alo_mem ay68) pu70))
  obtain ⟨y76, -, h⟩ := bd1_some h
  obtain ⟨y78, ay78, h⟩ := bd1_some h
  obtain ⟨u80, v80, fu80, h⟩ := bd2_some h
  have pu80 : Phi u80 := ph_Nm fu80 ay78 (Phi.clr (Phi.stR (alo_mem ay73) pu75))
  obtain ⟨y81, -, h⟩ := bd1_some h
  obtain ⟨y83, ay83, h⟩ := bd1_some h
  obtain ⟨u85, v85, fu85, h⟩ := bd2_some h
  have pu85 : Phi u85 := ph_Nm fu85 ay83 (Phi.clr (Phi.stR (alo_mem ay78) pu80))
  obtain ⟨y86, -, h⟩ := bd1_some h
  obtain ⟨y88, ay88, h⟩ := bd1_some h
  obtain ⟨u90, v90, fu90, h⟩ := bd2_some h
  have pu90 : Phi u90 := ph_Nm fu90 ay88 (Phi.clr (Phi.stR (alo_mem ay83) pu85))
  obtain ⟨y91, -, h⟩ := bd1_some h
  obtain ⟨y93, ay93, h⟩ := bd1_some h
  obtain ⟨u95, v95, fu95, h⟩ := bd2_some h
  have pu95 : Phi u95 := ph_Nm fu95 ay93 (Phi.clr (Phi.stR (alo_mem ay88) pu90))
  obtain ⟨y96, -, h⟩ := bd1_some h
  obtain ⟨y98, ay98, h⟩ := bd1_some h
  obtain ⟨u100, v100, fu100, h⟩ := bd2_some h
  have pu100 : Phi u100 := ph_Nm fu100 ay98 (Phi.clr (Phi.stR (alo_mem ay93) pu95))
  obtain ⟨y101, -, h⟩ := bd1_some h
  obtain ⟨y103, ay103, h⟩ := bd1_some h
  obtain ⟨u105, v105, fu105, h⟩ := bd2_some h
  have pu105 : Phi u105 := ph_Nm fu105 ay103 (Phi.clr (Phi.stR (alo_mem ay98) pu100))
  obtain ⟨y106, -, h⟩ := bd1_some h
  obtain ⟨y108, ay108, h⟩ := bd1_some h
  obtain ⟨u110, v110, fu110, h⟩ := bd2_some h
  have pu110 : Phi u110 := ph_Nm fu110 ay108 (Phi.clr (Phi.stR (alo_mem ay103) pu105))
  obtain ⟨y111, -, h⟩ := bd1_some h
  obtain ⟨y113, ay113, h⟩ := bd1_some h
  obtain ⟨u115, v115, fu115, h⟩ := bd2_some h
  have pu115 : Phi u115 := ph_Nm fu115 ay113 (Phi.clr (Phi.stR (alo_mem ay108) pu110))
  obtain ⟨y116, -, h⟩ := bd1_some h
  obtain ⟨y118, ay118, h⟩ := bd1_some h
  obtain ⟨u120, v120, fu120, h⟩ := bd2_some h
  have pu120 : Phi u120 := ph_Nm fu120 ay118 (Phi.clr (Phi.stR (alo_mem ay113) pu115))
  obtain ⟨y121, -, h⟩ := bd1_some h
  obtain ⟨y123, ay123, h⟩ := bd1_some h
  obtain ⟨u125, v125, fu125, h⟩ := bd2_some h
  have pu125 : Phi u125 := ph_Nm fu125 ay123 (Phi.clr (Phi.stR (alo_mem ay118) pu120))
  obtain ⟨y126, -, h⟩ := bd1_some h
  obtain ⟨y128, ay128, h⟩ := bd1_some h
  obtain ⟨u130, v130, fu130, h⟩ := bd2_some h
  have pu130 : Phi u130 := ph_Nm fu130 ay128 (Phi.clr (Phi.stR (alo_mem ay123) pu125))
  obtain ⟨e, -⟩ := Prod.mk.inj (Option.some.inj h)
  rw [← e]
  exact (Phi.stR (alo_mem ay128) pu130)
end
theorem phi_I : Phi uI := by
  have h := pro_is
  unfold pro at h
  obtain ⟨y1, a1, h⟩ := bd1_some h
  obtain ⟨u1, r1, f1, h⟩ := bd2_some h
  obtain ⟨_, h⟩ := ck_some h
  obtain ⟨y2, a2, h⟩ := bd1_some h
  obtain ⟨u2, r2, f2, h⟩ := bd2_some h
  obtain ⟨_, h⟩ := ck_some h
  obtain ⟨y3, a3, h⟩ := bd1_some h
  have e : clr u2 y3 = uI := congrArg (fun z : Mr × (Nat × (Nat × Nat)) => z.1) (Option.some.inj h)
  rw [← e]
  exact Phi.clr (ph_Md f2 (Phi.clr (ph_Fg f1 (Phi.clr ⟨fun _ _ => Or.inl rfl, fun _ _ _ e => by cases e⟩))))
theorem zI {k : Nat} (hk : k / 64 ≠ 20) (i : Int32) : uI.1 k i = 0 := (phi_I.1 k i).resolve_right (fun z => hk z.1)
theorem zN (k : Nat) {i : Int32} (hi : i ≠ 4) : uI.1 k i = 0 := (phi_I.1 k i).resolve_right (fun z => hi z.2)
theorem al_all : slL.all (fun a => alI a) = true := by decide +kernel
theorem cls_I : Cls alI uI := fun k j a e => (phi_I.2 k j a e).imp (fun z => List.all_eq_true.mp al_all a z) id
set_option maxRecDepth 100000 in
theorem i_base : (okk alI 1 64 && okk alI 32 2048 && okk alI 22 1408 && !(alI 0)) = true := by decide +kernel
def rdq (k i T a : Nat) : Bool := decide (rdR alI uI k (nI i) T = some a)
set_option maxRecDepth 100000 in
theorem i_c1 : (rdq 64 0 2 128 && rdq 64 1 3 192 && rdq 64 2 4 256 && rdq 64 3 6 384 && rdq 64 4 8 512 && rdq 64 5 13 832 && (rdq 512 0 9 576 && rdq 512 1 10 640 && rdq 512 2 12 768) && (rdq 832 0 6 385 && rdq 832 1 6 386)) = true := by decide +kernel
set_option maxRecDepth 100000 in
theorem i_c2 : ((List.range 4).all (fun o => rdq 128 o 14 (896 + o)) && (List.range 16).all (fun k => rdq 192 k 20 (1280 + k)) && (List.range 4).all (fun l => rdq 256 l 5 (320 + l)) && (List.range 3).all (fun g => rdq (384 + g) 0 7 (448 + g)) && (List.range 2).all (fun p => rdq 640 p 11 (704 + p)) && (List.range 4).all (fun o => rdq (896 + o) 0 15 (960 + o) && rdq (896 + o) 1 18 (1152 + o)) && (List.range 4).all (fun o => (List.range 2).all (fun p => rdq (960 + o) p 16 (1024 + (2 * o + p)))) && (List.range 8).all (fun q => rdq (1024 + q) 0 17 (1088 + q))) = true := by decide +kernel
set_option maxRecDepth 100000 in
theorem i_m1 : (rdq 2048 1 33 2112 && rdq 2048 2 34 2176 && rdq 2048 3 35 2240 && rdq 2048 4 36 2304 && rdq 2048 5 36 2305 && rdq 2048 6 36 2306 && rdq 2048 7 35 2241) = true := by decide +kernel
set_option maxRecDepth 100000 in
theorem i_m2 : (rdq 2048 8 37 2368 && rdq 2048 9 37 2369 && rdq 2048 10 37 2370 && rdq 2048 11 37 2371 && rdq 2048 12 38 2432 && rdq 2048 13 38 2433 && rdq 2048 14 39 2496 && rdq 2048 15 40 2560) = true := by decide +kernel
set_option maxRecDepth 100000 in
theorem i_m3 : (rdq 2048 17 41 2624 && rdq 2048 19 41 2625 && rdq 2048 20 42 2688 && rdq 2048 21 42 2689 && rdq 2048 22 33 2113 && rdq 2048 23 38 2434 && rdq 2048 27 41 2626 && rdq 2048 30 41 2627) = true := by decide +kernel
set_option maxRecDepth 100000 in
theorem i_r : (List.range 4).all (fun o => decide (uI.2.1 (1152 + o) 1 = some 1472) && !(alI (1216 + o)) && (List.range 8).all (fun r => !(alI (1344 + (8 * o + r))))) = true := by decide +kernel
set_option maxRecDepth 100000 in
theorem i_n : (List.range 16).all (fun k => decide (uI.1 (1280 + k) 4 = -1)) = true := by decide +kernel
theorem byt_0 : byt 0 := by
  unfold byt
  rfl
theorem inv_I : Inv alI uI := by
  have b := i_base
  simp only [Bool.and_eq_true, Bool.not_eq_true'] at b
  have c1 := i_c1
  have c2 := i_c2
  have m1 := i_m1
  have m2 := i_m2
  have m3 := i_m3
  have rr := i_r
  have nn := i_n
  simp only [Bool.and_eq_true, List.all_eq_true, List.mem_range, rdq, decide_eq_true_eq, Bool.not_eq_true'] at c1 c2 m1 m2 m3 rr nn
  obtain ⟨⟨⟨⟨⟨⟨⟨p1, p2⟩, p3⟩, p4⟩, p5⟩, p6⟩, ⟨p7, p8⟩, p9⟩, p10, p11⟩ := c1
  obtain ⟨⟨⟨⟨⟨⟨⟨d1, d2⟩, d3⟩, d4⟩, d5⟩, d6⟩, d7⟩, d8⟩ := c2
  obtain ⟨⟨⟨⟨⟨⟨a1, a2⟩, a3⟩, a4⟩, a5⟩, a6⟩, a7⟩ := m1
  obtain ⟨⟨⟨⟨⟨⟨⟨b1, b2⟩, b3⟩, b4⟩, b5⟩, b6⟩, b7⟩, b8⟩ := m2
  obtain ⟨⟨⟨⟨⟨⟨⟨e1, e2⟩, e3⟩, e4⟩, e5⟩, e6⟩, e7⟩, e8⟩ := m3
  refine ⟨⟨b.1.1.1, b.1.1.2, b.1.2, b.2⟩, cls_I, ⟨⟨p1, p2, p3, p4, p5, p6⟩, d1, d2, d3, d4, ⟨p7, p8, p9⟩, d5, d6, fun o p ho hp => d7 o ho p hp, d8⟩, ⟨⟨a1, a2, a3, a4, a5, a6, a7⟩, ⟨b1, b2, b3, b4, b5, b6, b7, b8⟩, e1, e2, e3, e4, e5, e6, e7, e8⟩, fun o ho => ?_, fun q hq => ?_, ?_, fun o ho => ?_, fun k hk => ?_, fun l n hl hn => ?_, ?_, ?_, 0, ⟨by decide, p10, p11⟩, ?_⟩
  · obtain ⟨⟨r1, r2⟩, r3⟩ := rr o ho
    exact ⟨0, by decide, zI (by omega) _, fun _ => ⟨r1, r2⟩, fun z => absurd z (by decide), fun r _ hr => r3 r hr⟩
  · exact ⟨0, by decide, zI (by omega) _, zI (by decide) _, fun i hi => absurd hi (Nat.not_lt_zero _), fun i => by rw [zI (by omega)]; exact byt_0⟩
  · refine ⟨fun _ => 0, fun o ho => ⟨Nat.zero_le _, zI (by omega) _, zI (by decide) _⟩, fun o j ho hj => absurd hj (Nat.not_lt_zero _), fun k hk => ⟨zN _ (by decide), ⟨0, 0, 0, by decide, by decide, by decide, zN _ (by decide), zN _ (by decide), zN _ (by decide)⟩, fun o j ho hj => absurd hj (Nat.not_lt_zero _)⟩⟩
  · exact ⟨0, by decide, zI (by omega) _, zI (by decide) _, fun r hr => absurd hr (Nat.not_lt_zero _), fun r r' p w w' hr => absurd hr (Nat.not_lt_zero _)⟩
  · refine ⟨Or.inl ⟨nn k hk, zI (by decide) _⟩, ?_, Or.inl (zN _ (by decide))⟩
    rw [zN _ (by decide), zI (by decide)]
  · rw [zI (by omega), zI (by decide)]
  · exact ⟨0, by decide, zI (by decide) _, zI (by decide) _, fun j hj => absurd hj (by omega)⟩
  · exact ⟨fun i => by rw [zI (by decide)]; exact byt_0, fun i => by rw [zI (by decide)]; exact byt_0, fun i => by rw [zI (by decide)]; exact byt_0⟩
  · refine ⟨?_, Or.inl ⟨zI (by decide) _, zI (by decide) _, zI (by decide) _, zI (by decide) _⟩⟩
    rw [zI (by decide), zI (by decide)]

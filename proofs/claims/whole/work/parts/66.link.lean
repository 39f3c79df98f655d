/-! link: the two linkers in step; tools, and the parts -/
abbrev SC (k : Nat) : Prop := k = 384 ∨ k = 448 ∨ k = 576 ∨ k = 704 ∨ k = 705 ∨ k = 768
abbrev SM (k : Nat) : Prop := k = 2048 ∨ k = 2113 ∨ k = 2434 ∨ k = 2625 ∨ k = 2688 ∨ k = 2689
def LkB (al : Nat → Bool) (u wB : Mr) : Prop := Inv al u ∧ Sm al wB ∧ ∀ k, 2048 < k → wB.1 k = u.1 k
def LkR (u wB uc um : Mr) : Prop := Fr SC u uc ∧ Fr SM wB um ∧ (∀ i : Int32, i ≠ 18 → um.1 2048 i = wB.1 2048 i) ∧ um.2.2 = wB.2.2 ∧ ∀ z, byt (uc.1 448 z)
def EQ (P : Nat → Prop) (uc um : Mr) : Prop := ∀ j, P j → j < 896 → uc.1 448 (nI j) &&& 255 = um.1 2625 (nI j)
/-- nothing changes below lo or from hi on -/
def StB (lo hi : Nat) (uc um uc' um' : Mr) : Prop := ∀ j, j < 896 → (j < lo ∨ hi ≤ j) → uc'.1 448 (nI j) = uc.1 448 (nI j) ∧ um'.1 2625 (nI j) = um.1 2625 (nI j)
def upn (a e : Nat) : Nat := (e + a - 1) / a * a
def endp (m : Nat → Nat) (b : Nat) : Nat → Nat
  | 0 => b
  | o + 1 => if m o = 0 then endp m b o else upn 4 (endp m b o) + m o
def plc (m : Nat → Nat) (b o : Nat) : Nat := upn 4 (endp m b o)
section
variable {f F : Nat} {al : Nat → Bool} {u wB uc um : Mr}
theorem LkR.sc (hb : LkB al u wB) (h : LkR u wB uc um) : Sc al uc := hb.1.base.1.fr h.1
theorem LkR.sm (hb : LkB al u wB) (h : LkR u wB uc um) : Sm al um := hb.2.1.fr h.2.1
theorem LkR.cr (h : LkR u wB uc um) {k : Nat} (hk : ¬ SC k) : uc.1 k = u.1 k := h.1.2 k hk
theorem LkR.mr (hb : LkB al u wB) (h : LkR u wB uc um) {k : Nat} (h1 : 2048 < k) (hk : ¬ SM k) : um.1 k = u.1 k := (h.2.1.2 k hk).trans (hb.2.2 k h1)
theorem LkR.c (h : LkR u wB uc um) {k : Nat} {i x : Int32} (hk : SC k) (h4 : k ≠ 448) : LkR u wB (stI uc k i x) um := ⟨h.1.trans (Fr.st hk), h.2.1, h.2.2.1, h.2.2.2.1, by rw [stI_ne (Ne.symm h4)]; exact h.2.2.2.2⟩
theorem LkR.cwr (h : LkR u wB uc um) {p n : Nat} {g : Nat → Int32} (hg : ∀ i, byt (g i)) : LkR u wB (wr uc 448 p n g) um := ⟨h.1.trans (wr_fr (by omega)), h.2.1, h.2.2.1, h.2.2.2.1, wr_byt h.2.2.2.2 hg⟩
theorem LkR.m (h : LkR u wB uc um) {k : Nat} {i x : Int32} (hk : SM k) (h4 : k ≠ 2048) : LkR u wB uc (stI um k i x) := ⟨h.1, h.2.1.trans (Fr.st hk), fun i hi => by rw [stI_ne (Ne.symm h4)]; exact h.2.2.1 i hi, h.2.2.2.1, h.2.2.2.2⟩
theorem LkR.mwr (h : LkR u wB uc um) {k p n : Nat} {g : Nat → Int32} (hk : SM k) (h4 : k ≠ 2048) : LkR u wB uc (wr um k p n g) := ⟨h.1, h.2.1.trans (wr_fr hk), fun i hi => by rw [wr_ne (Ne.symm h4)]; exact h.2.2.1 i hi, h.2.2.2.1, h.2.2.2.2⟩
theorem LkR.m18 (h : LkR u wB uc um) {x : Int32} : LkR u wB uc (stI um 2048 18 x) := ⟨h.1, h.2.1.trans (Fr.st (by omega)), fun i hi => by rw [stI_at, if_neg hi]; exact h.2.2.1 i hi, h.2.2.2.1, h.2.2.2.2⟩
theorem EQ.both {P : Nat → Prop} {p n : Nat} {gc gm : Nat → Int32} (h : EQ P uc um) (hg : ∀ i, i < n → gc i &&& 255 = gm i) : EQ (fun j => P j ∨ (p ≤ j ∧ j < p + n)) (wr uc 448 p n gc) (wr um 2625 p n gm) := by
  intro j hj h8
  rw [wr_at (by omega), wr_at (by omega)]
  by_cases c : p ≤ j ∧ j < p + n
  · rw [if_pos c, if_pos c]
    exact hg _ (by omega)
  · rw [if_neg c, if_neg c]
    exact h j (hj.resolve_right c) h8
theorem EQ.mono {P Q : Nat → Prop} (h : EQ P uc um) (hq : ∀ j, j < 896 → Q j → P j) : EQ Q uc um := fun j hj h8 => h j (hq j h8 hj) h8
theorem EQ.cg {P : Nat → Prop} {uc' um' : Mr} (h : EQ P uc um) (h1 : uc'.1 448 = uc.1 448) (h2 : um'.1 2625 = um.1 2625) : EQ P uc' um' := by
  intro j hj h8
  rw [h1, h2]
  exact h j hj h8
theorem EQ.c {P Q : Nat → Prop} {p n : Nat} {g : Nat → Int32} (h : EQ P uc um) (hq : ∀ j, j < 896 → Q j → P j ∧ ¬ (p ≤ j ∧ j < p + n)) : EQ Q (wr uc 448 p n g) um := by
  intro j hj h8
  obtain ⟨q1, q2⟩ := hq j h8 hj
  rw [wr_at (by omega), if_neg q2]
  exact h j q1 h8
theorem EQ.m {P Q : Nat → Prop} {p n : Nat} {g : Nat → Int32} (h : EQ P uc um) (hq : ∀ j, j < 896 → Q j → P j ∧ ¬ (p ≤ j ∧ j < p + n)) : EQ Q uc (wr um 2625 p n g) := by
  intro j hj h8
  obtain ⟨q1, q2⟩ := hq j h8 hj
  rw [wr_at (by omega), if_neg q2]
  exact h j q1 h8
theorem StB.refl {lo hi : Nat} : StB lo hi uc um uc um := fun _ _ _ => ⟨rfl, rfl⟩
theorem StB.trans {lo hi : Nat} {a b c a' b' c' : Mr} (h1 : StB lo hi a a' b b') (h2 : StB lo hi b b' c c') : StB lo hi a a' c c' := fun j h8 hj => ⟨(h2 j h8 hj).1.trans (h1 j h8 hj).1, (h2 j h8 hj).2.trans (h1 j h8 hj).2⟩
theorem StB.mono {lo hi lo' hi' : Nat} {a b a' b' : Mr} (h : StB lo hi a a' b b') (h1 : lo' ≤ lo) (h2 : hi ≤ hi') : StB lo' hi' a a' b b' := fun j h8 hj => h j h8 (by omega)
theorem StB.c {lo hi p n : Nat} {g : Nat → Int32} (h1 : lo ≤ p) (h2 : p + n ≤ hi) : StB lo hi uc um (wr uc 448 p n g) um := fun j h8 hj => ⟨by rw [wr_at (by omega), if_neg (by omega)], rfl⟩
theorem StB.m {lo hi p n : Nat} {g : Nat → Int32} (h1 : lo ≤ p) (h2 : p + n ≤ hi) : StB lo hi uc um uc (wr um 2625 p n g) := fun j h8 hj => ⟨rfl, by rw [wr_at (by omega), if_neg (by omega)]⟩
theorem StB.cg {lo hi : Nat} {uc' um' : Mr} (h1 : uc'.1 448 = uc.1 448) (h2 : um'.1 2625 = um.1 2625) : StB lo hi uc um uc' um' := fun j _ _ => ⟨by rw [h1], by rw [h2]⟩
theorem e_up {e a : Nat} (ha : 0 < a) (ha2 : a < 2 ^ 20) (he : e < 2 ^ 20) : fn_Fg_roundUp F al uc (nI e) (nI a) = some (uc, nI (upn a e)) ∧ fn_Md_up F al um (nI e) (nI a) = some (um, nI (upn a e)) := by
  have h0 : decide (¬ nI a = 0) = true := decide_eq_true (fun z => absurd (nI_inj (b := 0) (by omega) (by decide) z) (by omega))
  have h1 : (nI e + nI a - 1) / nI a * nI a = nI (upn a e) := by
    rw [na_add, show nI (e + a) - (1 : Int32) = nI (e + a - 1) from na_sub (b := 1) (by omega), na_div (by omega) (by omega) ha, na_mul]
    rfl
  unfold fn_Fg_roundUp bk_Fg_roundUp_0 fn_Md_up bk_Md_up_0
  rw [ck_eq h0, ck_eq h0, h1]
  exact ⟨rfl, rfl⟩
theorem endp_le {m : Nat → Nat} {b : Nat} (hm : ∀ o, m o ≤ 40) (hb : b % 4 = 0) : ∀ o, b ≤ endp m b o ∧ endp m b o ≤ b + 40 * o
  | 0 => ⟨Nat.le_refl _, by rw [endp]; omega⟩
  | o + 1 => by
    obtain ⟨h1, h2⟩ := endp_le hm hb o
    have := hm o
    rw [endp]
    unfold upn
    split <;> omega
theorem plc_le {m : Nat → Nat} {b : Nat} (hm : ∀ o, m o ≤ 40) (hb : b % 4 = 0) (o : Nat) : endp m b o ≤ plc m b o ∧ b ≤ plc m b o ∧ plc m b o ≤ b + 40 * o := by
  obtain ⟨h1, h2⟩ := endp_le hm hb o
  unfold plc upn
  omega
theorem endp_s {m : Nat → Nat} {b o : Nat} (h : 0 < m o) : endp m b (o + 1) = plc m b o + m o := by
  rw [endp, if_neg (by omega)]
  rfl
theorem endp_mono {m : Nat → Nat} {b o : Nat} : ∀ d, endp m b o ≤ endp m b (o + d)
  | 0 => Nat.le_refl _
  | d + 1 => by
    have h := endp_mono (m := m) (b := b) (o := o) d
    rw [← Nat.add_assoc, endp]
    unfold upn
    split <;> omega
theorem plc_end {m : Nat → Nat} {b o o' : Nat} (h : o < o') (hm : 0 < m o) : plc m b o + m o ≤ endp m b o' := by
  rw [← endp_s hm]
  have := endp_mono (m := m) (b := b) (o := o + 1) (o' - (o + 1))
  rw [show o + 1 + (o' - (o + 1)) = o' by omega] at this
  exact this
theorem lay_in {k12 : Mr → Nat → Int32 → Int32 → Int32 → Option (Mr × Int32)} {v : Mr} {o p q y M : Nat} (hv : Sm al v) (hM : v.1 2112 (nI y) = nI M) (hM4 : M ≤ 40) (hy : y < 8) (hq : q + M ≤ 2048) :
    ∀ d c i, d + i = M → d < c → bk_Md_layParts_41 F al k12 c (wr v 2625 q i (fun i => v.1 2176 (nI (40 * y + i)))) 2048 (nI p) (nI q) (nI o) (nI y) (nI i) = k12 (if M = 0 then wr v 2625 q M (fun i => v.1 2176 (nI (40 * y + i))) else stI (wr v 2625 q M (fun i => v.1 2176 (nI (40 * y + i)))) 2048 18 (nI (q + M))) 2048 (nI p) (nI (q + M)) (nI (o + 1)) := by
  intro d
  induction d with
  | zero =>
    intro c i hi hc
    obtain ⟨c, rfl⟩ : ∃ k, c = k + 1 := ⟨c - 1, by omega⟩
    have e : i = M := by omega
    rw [e]
    have hs : Sm al (wr v 2625 q M (fun i => v.1 2176 (nI (40 * y + i)))) := hv.any rfl
    have hM' : (wr v 2625 q M (fun i => v.1 2176 (nI (40 * y + i)))).1 2112 (nI y) = nI M := by rw [wr_ne (by decide)]; exact hM
    rw [bk_Md_layParts_41, bd1_eq hs.1.1, ck_eq (in_t hy (by decide)), hM', if_pos (Int32.le_refl _), bd1_eq hs.1.1, ck_eq (in_t hy (by decide)), bd1_eq hs.1.1, ck_eq (in_t hy (by decide)), hM', na_add]
    unfold bk_Md_layParts_106
    rw [show nI o + (1 : Int32) = nI (o + 1) from na_add _ 1]
    by_cases h0 : M = 0
    · rw [if_pos (show nI M ≤ 0 by rw [h0]; decide), if_pos h0]
    · rw [if_neg (show ¬ nI M ≤ 0 from fun z => absurd ((na_le (b := 0) (by omega) (by decide)).mp z) (by omega)), if_neg h0]
  | succ d ih =>
    intro c i hi hc
    obtain ⟨c, rfl⟩ : ∃ k, c = k + 1 := ⟨c - 1, by omega⟩
    have hs : Sm al (wr v 2625 q i (fun i => v.1 2176 (nI (40 * y + i)))) := hv.any rfl
    have e := wr_s (u := v) (k := 2625) (p := q) (n := i) (g := fun i => v.1 2176 (nI (40 * y + i))) (by omega)
    rw [bk_Md_layParts_41, bd1_eq hs.1.1, ck_eq (in_t hy (by decide)), wr_ne (show (2112 : Nat) ≠ 2625 by decide), hM, if_neg (fun z => absurd ((na_le (by omega) (by omega)).mp z) (by omega)), bd1_eq hs.2.2.2.1, bd1_eq hs.1.2.1, show ((40 : Int32) * nI y) + nI i = nI (40 * y + i) by rw [show (40 : Int32) = nI 40 from rfl, na_mul, na_add], ck_eq (in_t (by omega) (by decide)), na_add, ck_eq (in_t (by omega) (by decide)), wr_ne (show (2176 : Nat) ≠ 2625 by decide), e, show nI i + (1 : Int32) = nI (i + 1) from na_add _ 1]
    exact ih c (i + 1) (by omega) (by omega)
theorem lk_parts (hb : LkB al u wB) {P : Nat → Prop} {p b : Nat} {m : Nat → Nat} (hp : p < 2) (hm : ∀ o, m o ≤ 40) (hmu : ∀ o, o < 4 → u.1 (1024 + (2 * o + p)) 1 = nI (m o)) (hb4 : b % 4 = 0) (hb2 : b ≤ 256) :
    ∀ d c o uc um x, d + o = 4 → d < c → LkR u wB uc um → EQ P uc um → um.1 2048 18 = nI (endp m b o) → upn 4 x = plc m b o → x < 2 ^ 20 →
    ∃ uc' um', bk_Lk_writeParts_7 (f + 4000) al c uc 512 128 (nI p) 384 (nI (endp m b o)) (nI o) = some (uc', nI (endp m b 4)) ∧ bk_Md_layParts_12 (f + 4000) al c um 2048 (nI p) (nI x) (nI o) = some (um', 0) ∧ LkR u wB uc' um' ∧ EQ P uc' um' ∧ um'.1 2048 18 = nI (endp m b 4) ∧ um'.1 2689 (nI p) = nI (endp m b 4) ∧
      (∀ o', o ≤ o' → o' < 4 → uc'.1 (704 + p) (nI o') = nI (plc m b o') ∧ um'.1 2113 (nI (2 * o' + p)) = nI (plc m b o')) ∧ (∀ o', o' < o → uc'.1 (704 + p) (nI o') = uc.1 (704 + p) (nI o') ∧ um'.1 2113 (nI (2 * o' + p)) = um.1 2113 (nI (2 * o' + p))) ∧
      (∀ k, k ≠ 448 → k ≠ 704 + p → uc'.1 k = uc.1 k) ∧ (∀ k, ¬ (k = 2048 ∨ k = 2113 ∨ k = 2625 ∨ k = 2689) → um'.1 k = um.1 k) ∧ (∀ o', o' < 4 → um'.1 2113 (nI (2 * o' + (1 - p))) = um.1 2113 (nI (2 * o' + (1 - p)))) ∧ (∀ i, i < 5 → i ≠ p → um'.1 2689 (nI i) = um.1 2689 (nI i)) ∧ StB b (endp m b 4) uc um uc' um' := by
  intro d
  induction d with
  | zero =>
    intro c o uc um x hd hc h hE h18 hx hx2
    obtain ⟨c, rfl⟩ : ∃ k, c = k + 1 := ⟨c - 1, by omega⟩
    have e4 : o = 4 := by omega
    rw [e4] at h18 ⊢
    refine ⟨uc, stI um 2689 (nI p) (nI (endp m b 4)), ?_, ?_, h.m (by omega) (by decide), hE.cg rfl (stI_ne (by decide)), by rw [stI_ne (by decide)]; exact h18, stI_same, fun o' h1 h2 => by omega, fun o' h1 => ⟨rfl, by rw [stI_ne (by decide)]⟩, fun k _ _ => rfl, fun k hk => stI_ne (by omega), fun o' _ => by rw [stI_ne (by decide)], fun i hi hip => ?_, StB.cg rfl (stI_ne (by decide))⟩
    · rw [bk_Lk_writeParts_7, if_pos (by decide)]
    · rw [bk_Md_layParts_12, if_pos (by decide), bd1_eq (LkR.sm hb h).2.2.2.2.2.1, ck_eq (in_t (by omega) (by decide)), h18]
    · rw [stI_at, if_neg (fun z => hip (nI_inj (by omega) (by omega) z))]
  | succ d ih =>
    intro c o uc um x hd hc h hE h18 hx hx2
    obtain ⟨c, rfl⟩ : ∃ k, c = k + 1 := ⟨c - 1, by omega⟩
    have ho : o < 4 := by omega
    have hmo := hm o
    obtain ⟨l1, l2⟩ := endp_le hm hb4 o
    obtain ⟨l3, l4, l5⟩ := plc_le hm hb4 o
    have hsc := LkR.sc hb h
    have hsm := LkR.sm hb h
    obtain ⟨M, M1, M2, M3, M4, M5⟩ := hb.1.2.2.2.2.2.1 (2 * o + p) (by omega)
    have eM : M = m o := nI_inj (by omega) (by omega) (M2.symm.trans (hmu o ho))
    rw [eM] at M3 M4
    generalize hq : plc m b o = q at l3 l4 l5
    -- the class
    have c1 : (stI uc (704 + p) (nI o) (nI q)).1 (1024 + (2 * o + p)) 1 = nI (m o) := by rw [stI_ne (by omega), LkR.cr h (by omega)]; exact hmu o ho
    have cB : ∀ i, byt ((stI uc (704 + p) (nI o) (nI q)).1 (1088 + (2 * o + p)) i) := by rw [stI_ne (by omega), LkR.cr h (by omega)]; exact M5
    have ecp : cpI (stI uc (704 + p) (nI o) (nI q)) (1088 + (2 * o + p)) (0 : Int32) 448 (nI q) (nI (m o)) = wr (stI uc (704 + p) (nI o) (nI q)) 448 q (m o) (fun i => (stI uc (704 + p) (nI o) (nI q)).1 (1088 + (2 * o + p)) (nI (0 + i))) := cpI_wr (s := 0) (by omega) (by omega) (by decide)
    generalize hgc : (fun i => (stI uc (704 + p) (nI o) (nI q)).1 (1088 + (2 * o + p)) (nI (0 + i))) = gc at ecp
    generalize hU : wr (stI uc (704 + p) (nI o) (nI q)) 448 q (m o) gc = U1 at ecp
    have U18 : U1.1 (1024 + (2 * o + p)) 1 = nI (m o) := by rw [← hU, wr_ne (by omega)]; exact c1
    have eC : bk_Lk_writeParts_7 (f + 4000) al (c + 1) uc 512 128 (nI p) 384 (nI (endp m b o)) (nI o) = bk_Lk_writeParts_7 (f + 4000) al c U1 512 128 (nI p) 384 (nI (endp m b (o + 1))) (nI (o + 1)) := by
      have hup := (e_up (F := f + 4000) (al := al) (uc := uc) (um := um) (e := endp m b o) (a := 4) (by decide) (by decide) (by omega)).1
      rw [bk_Lk_writeParts_7, if_neg (show ¬ (4 : Int32) ≤ nI o from fun z => absurd ((na_le (a := 4) (by decide) (by omega)).mp z) (by omega)), ck_eq (in_t ho (by decide)), bd1_eq (hsc.2.1 o ho), bd1_eq (hsc.2.2.2.2.2.2.2.1 o ho).1, ck_eq (in_t hp (by decide)), bd1_eq (hsc.2.2.2.2.2.2.2.2.1 o p ho hp), show fn_Fg_roundUp (f + 4000) al uc (nI (endp m b o)) (4 : Int32) = some (uc, nI q) by rw [← hq]; exact hup, bd2_s, bd1_eq hsc.2.2.2.2.2.1.2.1, ck_eq (in_t hp (by decide)), bd1_eq (hsc.2.2.2.2.2.2.1 p hp), ck_eq (in_t ho (by decide)), bd1_eq (show rdR al (stI uc (704 + p) (nI o) (nI q)) (1024 + (2 * o + p)) 0 17 = some (1088 + (2 * o + p)) from hsc.2.2.2.2.2.2.2.2.2 (2 * o + p) (by omega)), bd1_eq (show rdR al (stI uc (704 + p) (nI o) (nI q)) 384 0 7 = some 448 from hsc.2.2.2.2.1 0 (by decide)), c1, ck_eq (show cpk (stI uc (704 + p) (nI o) (nI q)) (1088 + (2 * o + p)) 40 (0 : Int32) 896 (nI q) (nI (m o)) = true from cpk_t (s := 0) (by omega) (by omega) (by decide) (by decide) cB), ecp, U18]
      unfold bk_Lk_writeParts_84
      rw [show nI o + (1 : Int32) = nI (o + 1) from na_add _ 1, na_add]
      by_cases m0 : m o = 0
      · rw [if_pos (show nI (m o) = 0 by rw [m0]; rfl), endp, if_pos m0]
      · rw [if_neg (show ¬ nI (m o) = 0 from fun z => m0 (nI_inj (b := 0) (by omega) (by decide) z)), endp_s (by omega), hq]
    -- the reference
    have hv : Sm al (stI um 2113 (nI (2 * o + p)) (nI q)) := hsm
    have eM2 : (stI um 2113 (nI (2 * o + p)) (nI q)).1 2112 (nI (2 * o + p)) = nI (m o) := by rw [stI_ne (by decide), LkR.mr hb h (by decide) (by omega)]; exact M3
    have lin := lay_in (F := f + 4000) (k12 := bk_Md_layParts_12 (f + 4000) al c) (o := o) (p := p) (q := q) hv eM2 (by omega) (show 2 * o + p < 8 by omega) (by omega) (m o) (f + 4000) 0 (by omega) (by omega)
    rw [wr_0] at lin
    generalize hgm : (fun i => (stI um 2113 (nI (2 * o + p)) (nI q)).1 2176 (nI (40 * (2 * o + p) + i))) = gm at lin
    generalize hV : wr (stI um 2113 (nI (2 * o + p)) (nI q)) 2625 q (m o) gm = V1 at lin
    have eMd : bk_Md_layParts_12 (f + 4000) al (c + 1) um 2048 (nI p) (nI x) (nI o) = bk_Md_layParts_12 (f + 4000) al c (if m o = 0 then V1 else stI V1 2048 18 (nI (q + m o))) 2048 (nI p) (nI (q + m o)) (nI (o + 1)) := by
      have hup := (e_up (F := f + 4000) (al := al) (uc := uc) (um := um) (e := x) (a := 4) (by decide) (by decide) hx2).2
      rw [bk_Md_layParts_12, if_neg (show ¬ (4 : Int32) ≤ nI o from fun z => absurd ((na_le (a := 4) (by decide) (by omega)).mp z) (by omega)), show fn_Md_up (f + 4000) al um (nI x) (4 : Int32) = some (um, nI q) by rw [← hq, ← hx]; exact hup, bd2_s, bd1_eq hsm.2.2.2.2.2.2.1, show ((2 : Int32) * nI o) + nI p = nI (2 * o + p) by rw [show (2 : Int32) = nI 2 from rfl, na_mul, na_add], ck_eq (in_t (by omega) (by decide))]
      exact lin
    have hR : LkR u wB U1 V1 := by
      rw [← hU, ← hV]
      refine LkR.mwr (LkR.m (LkR.cwr (LkR.c h (by omega) (by omega)) (fun i => ?_)) (by omega) (by decide)) (by omega) (by decide)
      rw [← hgc]
      exact cB _
    have hE1 : EQ P U1 V1 := by
      have h9 : EQ P (stI uc (704 + p) (nI o) (nI q)) (stI um 2113 (nI (2 * o + p)) (nI q)) := hE.cg (stI_ne (by omega)) (stI_ne (by decide))
      rw [← hU, ← hV]
      refine (EQ.both h9 (fun i hi => ?_)).mono (fun j _ hj => Or.inl hj)
      rw [← hgc, ← hgm]
      show (stI uc (704 + p) (nI o) (nI q)).1 (1088 + (2 * o + p)) (nI (0 + i)) &&& 255 = (stI um 2113 (nI (2 * o + p)) (nI q)).1 2176 (nI (40 * (2 * o + p) + i))
      rw [stI_ne (by omega), LkR.cr h (by omega), stI_ne (by decide), LkR.mr hb h (by decide) (by omega), Nat.zero_add]
      exact M4 i hi
    have V18 : (if m o = 0 then V1 else stI V1 2048 18 (nI (q + m o))).1 2048 18 = nI (endp m b (o + 1)) := by
      by_cases m0 : m o = 0
      · rw [if_pos m0, endp, if_pos m0, ← hV, wr_ne (by decide), stI_ne (by decide)]
        exact h18
      · rw [if_neg m0, stI_same, endp_s (by omega), hq]
    generalize hV2 : (if m o = 0 then V1 else stI V1 2048 18 (nI (q + m o))) = V2 at V18
    have V2r : ∀ k, k ≠ 2048 → V2.1 k = V1.1 k := fun k hk => by
      rw [← hV2]
      split
      · rfl
      · exact stI_ne hk
    have hR2 : LkR u wB U1 V2 := by
      rw [← hV2]
      split
      · exact hR
      · exact hR.m18
    have hE2 : EQ P U1 V2 := hE1.cg rfl (V2r _ (by decide))
    have xx : upn 4 (q + m o) = plc m b (o + 1) := by
      unfold plc
      by_cases m0 : m o = 0
      · rw [m0, endp, if_pos m0]
        have : q = upn 4 (endp m b o) := hq.symm
        rw [this]
        unfold upn
        omega
      · rw [endp_s (by omega), hq]
    obtain ⟨uc', um', r1, r2, r3, r4, r5, r6, r7, r8, r9, r10, r11, r12, r13⟩ := ih c (o + 1) U1 V2 (q + m o) (by omega) (by omega) hR2 hE2 V18 xx (by omega)
    have UP : ∀ j, j < 4 → U1.1 (704 + p) (nI j) = if j = o then nI q else uc.1 (704 + p) (nI j) := fun j hj => by
      rw [← hU, wr_ne (by omega), stI_at]
      by_cases e : j = o
      · rw [if_pos (by rw [e]), if_pos e]
      · rw [if_neg (fun z => e (nI_inj (by omega) (by omega) z)), if_neg e]
    have VP : ∀ j, j < 8 → V2.1 2113 (nI j) = if j = 2 * o + p then nI q else um.1 2113 (nI j) := fun j hj => by
      rw [V2r _ (by decide), ← hV, wr_ne (by decide), stI_at]
      by_cases e : j = 2 * o + p
      · rw [if_pos (by rw [e]), if_pos e]
      · rw [if_neg (fun z => e (nI_inj (by omega) (by omega) z)), if_neg e]
    have st : StB b (endp m b 4) uc um U1 V2 := by
      refine StB.trans (b := U1) (b' := V1) ?_ (StB.cg rfl (V2r _ (by decide)))
      by_cases m0 : m o = 0
      · refine StB.cg ?_ ?_
        · rw [← hU, m0, wr_0, stI_ne (by omega)]
        · rw [← hV, m0, wr_0, stI_ne (by decide)]
      · have pe := plc_end (m := m) (b := b) ho (show 0 < m o by omega)
        rw [hq] at pe
        rw [← hU, ← hV]
        refine StB.trans (b := stI uc (704 + p) (nI o) (nI q)) (b' := stI um 2113 (nI (2 * o + p)) (nI q)) (StB.cg (stI_ne (by omega)) (stI_ne (by decide))) (StB.trans (StB.c l4 pe) (StB.m l4 pe))
    refine ⟨uc', um', eC.trans r1, eMd.trans (by rw [hV2]; exact r2), r3, r4, r5, r6, fun o' h1 h2 => ?_, fun o' h1 => ?_, fun k h1 h2 => ?_, fun k hk => ?_, fun o' h1 => ?_, fun i hi hip => ?_, st.trans r13⟩
    · by_cases e : o' = o
      · rw [e]
        obtain ⟨z1, z2⟩ := r8 o (by omega)
        rw [z1, z2, UP o ho, VP _ (by omega), if_pos rfl, if_pos rfl, hq]
        exact ⟨rfl, rfl⟩
      · exact r7 o' (by omega) h2
    · obtain ⟨z1, z2⟩ := r8 o' (by omega)
      rw [z1, z2, UP o' (by omega), VP _ (by omega), if_neg (by omega), if_neg (by omega)]
      exact ⟨rfl, rfl⟩
    · rw [r9 k h1 h2, ← hU, wr_ne h1, stI_ne h2]
    · rw [r10 k hk, V2r k (by omega), ← hV, wr_ne (by omega), stI_ne (by omega)]
    · rw [r11 o' h1, VP _ (by omega), if_neg (by omega)]
    · rw [r12 i hi hip, V2r _ (by decide), ← hV, wr_ne (by decide), stI_ne (by decide)]
end

/-! Numbers: int places as natural numbers; what memory reads after writes. -/
theorem na_add (a b : Nat) : nI a + nI b = nI (a + b) := (Int32.ofNat_add a b).symm
theorem na_mul (a b : Nat) : nI a * nI b = nI (a * b) := (Int32.ofNat_mul a b).symm
theorem na_sub {a b : Nat} (h : b ≤ a) : nI a - nI b = nI (a - b) := by
  have e : nI a = nI (a - b) + nI b := by rw [na_add, Nat.sub_add_cancel h]
  rw [e, Int32.add_sub_cancel]
theorem na_lt {a b : Nat} (ha : a < 2 ^ 31) (hb : b < 2 ^ 31) : nI a < nI b ↔ a < b := by
  rw [Int32.lt_iff_toInt_lt, nI_toInt ha, nI_toInt hb]
  omega
theorem na_le {a b : Nat} (ha : a < 2 ^ 31) (hb : b < 2 ^ 31) : nI a ≤ nI b ↔ a ≤ b := by
  rw [Int32.le_iff_toInt_le, nI_toInt ha, nI_toInt hb]
  omega
theorem na_neg {a : Nat} (ha : a < 2 ^ 31) : ¬ nI a < 0 := by
  have := na_lt (b := 0) ha (by decide)
  intro h
  exact absurd (this.mp h) (Nat.not_lt_zero _)
theorem na_inb {a n : Nat} (ha : a < 2 ^ 31) : inb (nI a) n = decide (a < n) := by
  unfold inb
  rw [nI_clamp ha]
  congr 1
  have h0 := na_neg ha
  simp only [h0, false_or, Nat.not_le]
theorem na_div {a b : Nat} (ha : a < 2 ^ 31) (hb : b < 2 ^ 31) (h0 : 0 < b) : nI a / nI b = nI (a / b) := by
  apply Int32.toInt_inj.mp
  have h1 : a / b < 2 ^ 31 := Nat.lt_of_le_of_lt (Nat.div_le_self a b) ha
  rw [Int32.toInt_div_of_ne_left _ _ (fun h => by have := congrArg Int32.toInt h; rw [nI_toInt ha] at this; have e : Int32.minValue.toInt = -2147483648 := rfl; omega), nI_toInt ha, nI_toInt hb, nI_toInt h1]
  exact (Int.ofNat_tdiv a b).symm ▸ rfl
theorem na_of {x : Int32} (h0 : ¬ x < 0) : ∃ a, a < 2 ^ 31 ∧ x = nI a := by
  obtain ⟨a, ha, rfl⟩ := nI_of h0
  exact ⟨a, ha, rfl⟩
theorem na_of_lt {x : Int32} {n : Nat} (hn : n < 2 ^ 31) (h0 : ¬ x < 0) (h1 : x < nI n) : ∃ a, a < n ∧ x = nI a := by
  obtain ⟨a, ha, rfl⟩ := na_of h0
  exact ⟨a, (na_lt ha hn).mp h1, rfl⟩
theorem rdR_I {al : Nat → Bool} {u : Mr} {k a T : Nat} {i x j : Int32} : rdR al (stI u k i x) a j T = rdR al u a j T := rfl
theorem rdR_L {al : Nat → Bool} {u : Mr} {k a T : Nat} {i j : Int32} {x : Int64} : rdR al (stL u k i x) a j T = rdR al u a j T := rfl
theorem stI_ne {u : Mr} {k a : Nat} {i x : Int32} (h : a ≠ k) : (stI u k i x).1 a = u.1 a := (stI_o a h).1
theorem stI_at {u : Mr} {k : Nat} {i x : Int32} (b : Int32) : (stI u k i x).1 k b = if b = i then x else u.1 k b := by
  unfold stI
  simp
theorem stI_same {u : Mr} {k : Nat} {i x : Int32} : (stI u k i x).1 k i = x := by
  rw [stI_at, if_pos rfl]
theorem stI_2 {u : Mr} {k : Nat} {i x : Int32} : (stI u k i x).2 = u.2 := rfl
theorem stL_1 {u : Mr} {k : Nat} {i : Int32} {x : Int64} : (stL u k i x).1 = u.1 := rfl
theorem stL_21 {u : Mr} {k : Nat} {i : Int32} {x : Int64} : (stL u k i x).2.1 = u.2.1 := rfl
theorem stL_same {u : Mr} {k : Nat} {i : Int32} {x : Int64} : (stL u k i x).2.2 k i = x := by
  unfold stL
  simp
theorem rd_of {al : Nat → Bool} {u : Mr} {k a T : Nat} {i : Int32} (h : u.2.1 k i = some a) (hk : okk al T a = true) : rdR al u k i T = some a := by
  unfold rdR
  rw [h]
  exact if_pos hk
/-- slots outside S are as they were; references too -/
def Fr (S : Nat → Prop) (u v : Mr) : Prop := v.2.1 = u.2.1 ∧ ∀ k, ¬ S k → v.1 k = u.1 k
theorem Fr.refl {S : Nat → Prop} {u : Mr} : Fr S u u := ⟨rfl, fun _ _ => rfl⟩
theorem Fr.trans {S : Nat → Prop} {u v w : Mr} (h1 : Fr S u v) (h2 : Fr S v w) : Fr S u w := ⟨h2.1.trans h1.1, fun k hk => (h2.2 k hk).trans (h1.2 k hk)⟩
theorem Fr.mono {S S' : Nat → Prop} {u v : Mr} (h : Fr S u v) (hs : ∀ k, S k → S' k) : Fr S' u v := ⟨h.1, fun k hk => h.2 k (fun q => hk (hs k q))⟩
theorem Fr.st {S : Nat → Prop} {u : Mr} {k : Nat} {i x : Int32} (h : S k) : Fr S u (stI u k i x) := ⟨rfl, fun k' hk => stI_ne (fun e => hk (e ▸ h))⟩
theorem Fr.rd {S : Nat → Prop} {u v : Mr} (h : Fr S u v) {al : Nat → Bool} {k T : Nat} {i : Int32} : rdR al v k i T = rdR al u k i T := by
  unfold rdR
  rw [h.1]
theorem bd2_eq {α β : Type} {x : Option (Mr × α)} {f : Mr → α → Option β} {a : Mr} {b : α} (h : x = some (a, b)) : bd2 x f = f a b := by rw [h]; rfl
theorem bd1_eq {α β : Type} {x : Option α} {f : α → Option β} {a : α} (h : x = some a) : bd1 x f = f a := by rw [h]; rfl
theorem ck_eq {α : Type} {b : Bool} {x : Option α} (h : b = true) : ck b x = x := by rw [h]; rfl
theorem bd2_s {α β : Type} {f : Mr → α → Option β} {a : Mr} {b : α} : bd2 (some (a, b)) f = f a b := rfl
theorem bd1_s {α β : Type} {f : α → Option β} {a : α} : bd1 (some a) f = f a := rfl
theorem ck_t {α : Type} {x : Option α} : ck true x = x := rfl
theorem Fr.out {S : Nat → Prop} {u : Mr} {k : Nat} {i : Int32} {x : Int64} : Fr S u (stL u k i x) := ⟨rfl, fun _ _ => rfl⟩
theorem inR_in {x4 : Int32} {Ls : Nat} (hL : Ls ≤ 3072) (h : InR x4 Ls) : inb (x4 + 1) Ls = true ∧ inb (x4 + 2) Ls = true ∧ inb (x4 + 3) Ls = true ∧ inb (x4 + 4) Ls = true ∧ inb (x4 + 5) Ls = true := by
  obtain ⟨j, rfl, hj⟩ := h
  have k : ∀ d : Nat, d < 6 → inb (nI (6 * j) + nI d) Ls = true := fun d hd => by
    rw [na_add, na_inb (by omega)]
    exact decide_eq_true (by omega)
  exact ⟨k 1 (by omega), k 2 (by omega), k 3 (by omega), k 4 (by omega), k 5 (by omega)⟩
theorem lg_self (x : Int64) : lg_cmp x x = 0 := by
  unfold lg_cmp
  rw [if_neg (by simp), if_pos rfl]

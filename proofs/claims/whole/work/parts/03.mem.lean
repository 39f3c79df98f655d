/-! The flat picture: a slot is 64 * tag + place; the memory holds ints, references (as slots) and longs by slot and place. A world is the list of the slots that are there, with what each holds, and a rest. -/
abbrev Mr : Type := (Nat → Int32 → Int32) × (Nat → Int32 → Option Nat) × (Nat → Int32 → Int64)
def stI (u : Mr) (k : Nat) (i x : Int32) : Mr := (fun a b => if a = k ∧ b = i then x else u.1 a b, u.2.1, u.2.2)
def stR (u : Mr) (k : Nat) (i : Int32) (x : Option Nat) : Mr := (u.1, fun a b => if a = k ∧ b = i then x else u.2.1 a b, u.2.2)
def stL (u : Mr) (k : Nat) (i : Int32) (x : Int64) : Mr := (u.1, u.2.1, fun a b => if a = k ∧ b = i then x else u.2.2 a b)
def inb (i : Int32) (n : Nat) : Bool := decide (¬ (i < 0 ∨ n ≤ i.toNatClampNeg))
def isz (i : Int32) : Bool := decide (i = 0 ∨ i = 1)
def ck {α : Type} (b : Bool) (x : Option α) : Option α := match b with
  | true => x
  | false => none
def bd2 {α β : Type} (x : Option (Mr × α)) (f : Mr → α → Option β) : Option β := match x with
  | some (a, b) => f a b
  | none => none
def bd1 {α β : Type} (x : Option α) (f : α → Option β) : Option β := match x with
  | some a => f a
  | none => none
def okk (al : Nat → Bool) (T k : Nat) : Bool := al k && decide (k / 64 = T)
def rdR (al : Nat → Bool) (u : Mr) (k : Nat) (i : Int32) (T : Nat) : Option Nat := match u.2.1 k i with
  | some a => if okk al T a = true then some a else none
  | none => none
theorem inb_in {i : Int32} {n : Nat} (h : inb i n = true) : vp_in i n := by
  have h1 : ¬ (i < 0 ∨ n ≤ i.toNatClampNeg) := of_decide_eq_true h
  exact h1
theorem ck_some {α : Type} {b : Bool} {x : Option α} {y : α} (h : ck b x = some y) : b = true ∧ x = some y := by
  cases b with
  | true => exact ⟨rfl, h⟩
  | false => cases h
theorem bd2_some {α β : Type} {x : Option (Mr × α)} {f : Mr → α → Option β} {y : β} (h : bd2 x f = some y) : ∃ a b, x = some (a, b) ∧ f a b = some y := by
  cases x with
  | none => cases h
  | some q => exact ⟨q.1, q.2, rfl, h⟩
theorem bd1_some {α β : Type} {x : Option α} {f : α → Option β} {y : β} (h : bd1 x f = some y) : ∃ a, x = some a ∧ f a = some y := by
  cases x with
  | none => cases h
  | some q => exact ⟨q, rfl, h⟩
theorem it_t {α : Type} {c : Prop} {i : Decidable c} {a b : Option α} {y : α} (h : @ite _ c i a b = some y) (hc : c) : a = some y := by
  rw [if_pos hc] at h
  exact h
theorem it_f {α : Type} {c : Prop} {i : Decidable c} {a b : Option α} {y : α} (h : @ite _ c i a b = some y) (hc : ¬ c) : b = some y := by
  rw [if_neg hc] at h
  exact h
theorem okk_al {al : Nat → Bool} {T k : Nat} (h : okk al T k = true) : al k = true := by
  unfold okk at h
  exact (Bool.and_eq_true _ _ ▸ h : al k = true ∧ decide (k / 64 = T) = true).1
theorem okk_t {al : Nat → Bool} {T k : Nat} (h : okk al T k = true) : k / 64 = T := by
  unfold okk at h
  exact of_decide_eq_true (Bool.and_eq_true _ _ ▸ h : al k = true ∧ decide (k / 64 = T) = true).2
theorem rdR_some {al : Nat → Bool} {u : Mr} {k : Nat} {i : Int32} {T a : Nat} (h : rdR al u k i T = some a) : u.2.1 k i = some a ∧ okk al T a = true := by
  unfold rdR at h
  cases h1 : u.2.1 k i with
  | none => rw [h1] at h; cases h
  | some q =>
    rw [h1] at h
    by_cases h2 : okk al T q = true
    · have h3 : (if okk al T q = true then some q else none) = some a := h
      rw [if_pos h2] at h3
      cases h3
      exact ⟨rfl, h2⟩
    · have h3 : (if okk al T q = true then some q else none) = some a := h
      rw [if_neg h2] at h3
      cases h3
theorem isz_nar {v : Int32} (h : isz v = true) : narrow .boolean (.int v) = .int v := by
  have h1 : v = 0 ∨ v = 1 := of_decide_eq_true h
  rcases h1 with rfl | rfl <;> rfl
theorem isz_fit {v : Int32} (h : isz v = true) : fits .boolean (.int v) = true := by
  have h1 : v = 0 ∨ v = 1 := of_decide_eq_true h
  rcases h1 with rfl | rfl <;> rfl
theorem in_nI {i : Int32} {n : Nat} (h : vp_in i n) : nI i.toNatClampNeg = i := by
  have h0 : ¬ i < 0 := fun q => h (Or.inl q)
  obtain ⟨j, hj, rfl⟩ := nI_of h0
  rw [nI_clamp hj]
def tyl (cA : Nat → ClassId) : List (ClassId × FieldType) := [(cA 0, .int), (cA 1, .byte), (cA 2, .boolean), (cA 3, .long), (cA 4, .object "ImageForge$ObjectFile"), (cA 5, .object "ImageForge$Name"), (cA 6, .object "ImageForge$Part"), (cA 7, .object "java/lang/Object"), (cA 8, .array .int)]
/-- what a slot of a tag holds -/
def Eg (ad : Nat → Nat) (cA : Nat → ClassId) (T : Nat) (row : Int32 → Int32) (rr : Int32 → Option Nat) (lr : Int32 → Int64) : va_E := match T with
  | 1 => .inr (0, [va_rf ((rr 0).map ad), va_rf ((rr 1).map ad), va_rf ((rr 2).map ad), va_rf ((rr 3).map ad), va_rf ((rr 4).map ad), va_rf ((rr 5).map ad)])
  | 2 => .inl (cA 4, 4, .inr (.inr (.inr (.inr (fun j => (rr (nI j)).map ad)))))
  | 3 => .inl (cA 5, 16, .inr (.inr (.inr (.inr (fun j => (rr (nI j)).map ad)))))
  | 4 => .inl (cA 8, 4, .inr (.inr (.inr (.inr (fun j => (rr (nI j)).map ad)))))
  | 5 => .inl (cA 0, 100, .inl (fun j => row (nI j)))
  | 6 => .inr (1, [va_rf ((rr 0).map ad), .int (row 1)])
  | 7 => .inl (cA 1, 896, .inl (fun j => row (nI j)))
  | 8 => .inr (2, [va_rf ((rr 0).map ad), va_rf ((rr 1).map ad), va_rf ((rr 2).map ad)])
  | 9 => .inl (cA 0, 16, .inl (fun j => row (nI j)))
  | 10 => .inl (cA 8, 2, .inr (.inr (.inr (.inr (fun j => (rr (nI j)).map ad)))))
  | 11 => .inl (cA 0, 4, .inl (fun j => row (nI j)))
  | 12 => .inl (cA 2, 896, .inl (fun j => row (nI j)))
  | 13 => .inr (3, [va_rf ((rr 0).map ad), va_rf ((rr 1).map ad), .int (row 2), .int (row 3), .int (row 4)])
  | 14 => .inr (4, [va_rf ((rr 0).map ad), va_rf ((rr 1).map ad), .int (row 2)])
  | 15 => .inl (cA 6, 2, .inr (.inr (.inr (.inr (fun j => (rr (nI j)).map ad)))))
  | 16 => .inr (5, [va_rf ((rr 0).map ad), .int (row 1)])
  | 17 => .inl (cA 1, 40, .inl (fun j => row (nI j)))
  | 18 => .inr (6, [.int (row 0), va_rf ((rr 1).map ad), .int (row 2)])
  | 19 => .inl (cA 7, 10, .inr (.inr (.inr (.inr (fun j => (rr (nI j)).map ad)))))
  | 20 => .inr (7, [.int (row 0), .int (row 1), .int (row 2), .int (row 3), .int (row 4), .int (row 5), .int (row 6)])
  | 21 => .inr (8, [.int (row 0), .int (row 1), .int (row 2), .int (row 3)])
  | 22 => .inl (cA 3, 1, .inr (.inl (fun j => lr (nI j))))
  | 32 => .inr (9, [.int (row 0), va_rf ((rr 1).map ad), va_rf ((rr 2).map ad), va_rf ((rr 3).map ad), va_rf ((rr 4).map ad), va_rf ((rr 5).map ad), va_rf ((rr 6).map ad), va_rf ((rr 7).map ad), va_rf ((rr 8).map ad), va_rf ((rr 9).map ad), va_rf ((rr 10).map ad), va_rf ((rr 11).map ad), va_rf ((rr 12).map ad), va_rf ((rr 13).map ad), va_rf ((rr 14).map ad), va_rf ((rr 15).map ad), .int (row 16), va_rf ((rr 17).map ad), .int (row 18), va_rf ((rr 19).map ad), va_rf ((rr 20).map ad), va_rf ((rr 21).map ad), va_rf ((rr 22).map ad), va_rf ((rr 23).map ad), .int (row 24), .int (row 25), .int (row 26), va_rf ((rr 27).map ad), .int (row 28), .int (row 29), va_rf ((rr 30).map ad), .int (row 31)])
  | 33 => .inl (cA 0, 8, .inl (fun j => row (nI j)))
  | 34 => .inl (cA 0, 320, .inl (fun j => row (nI j)))
  | 35 => .inl (cA 0, 4, .inl (fun j => row (nI j)))
  | 36 => .inl (cA 0, 24, .inl (fun j => row (nI j)))
  | 37 => .inl (cA 0, 32, .inl (fun j => row (nI j)))
  | 38 => .inl (cA 0, 16, .inl (fun j => row (nI j)))
  | 39 => .inl (cA 2, 16, .inl (fun j => row (nI j)))
  | 40 => .inl (cA 0, 400, .inl (fun j => row (nI j)))
  | 41 => .inl (cA 0, 2048, .inl (fun j => row (nI j)))
  | 42 => .inl (cA 0, 5, .inl (fun j => row (nI j)))
  | _ => .inl (0, 0, .inl (fun _ => 0))
def nx_f : List (String × Nat × String × String × String × String) := [
  ]
def nx_m : List (String × Nat × MethodName × String) := [
  ]
/-- what the tables hold of private members across the nest -/
def Nx (U : State) : Prop := (∀ q ∈ nx_f, va_Nw (.fieldLinkNest q.1 q.2.1 q.2.2.1 q.2.2.2.1 q.2.2.2.2.1 q.2.2.2.2.2) U) ∧ ∀ q ∈ nx_m, va_Nw (.methodLinkNest q.1 q.2.1 q.2.2.1 q.2.2.2) U
theorem Nx.same {u U : State} (h : u.vm = U.vm) (q : Nx u) : Nx U := ⟨fun w hw => va_Nw.same rfl h (q.1 w hw), fun w hw => va_Nw.same rfl h (q.2 w hw)⟩
theorem Nx.warm {s U : State} (hW : s.WarmedH U.vm) (q : Nx s) : Nx U := ⟨fun w hw => va_Nw.warmF hW (q.1 w hw), fun w hw => va_Nw.warmM hW (q.2 w hw)⟩

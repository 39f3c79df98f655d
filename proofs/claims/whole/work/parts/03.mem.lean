/-! The flat picture: a slot is 64 * tag + place; the memory holds ints, references (as slots) and longs by slot and place. A world is the list of the slots that are there, with what each holds, and a rest. -/
abbrev Mr : Type := (Nat → Int32 → Int32) × (Nat → Int32 → Option Nat) × (Nat → Int32 → Int64)
def stI (u : Mr) (k : Nat) (i x : Int32) : Mr := (fun a b => if a = k ∧ b = i then x else u.1 a b, u.2.1, u.2.2)
def stR (u : Mr) (k : Nat) (i : Int32) (x : Option Nat) : Mr := (u.1, fun a b => if a = k ∧ b = i then x else u.2.1 a b, u.2.2)
def stL (u : Mr) (k : Nat) (i : Int32) (x : Int64) : Mr := (u.1, u.2.1, fun a b => if a = k ∧ b = i then x else u.2.2 a b)
def inb (i : Int32) (n : Nat) : Bool := decide (¬ (i < 0 ∨ n ≤ i.toNatClampNeg))
def isz (i : Int32) : Bool := decide (i = 0 ∨ i = 1)
def ck {α : Type} (b : Bool) (x : Option α) : Option α := match b with
  | true => x
  | false => none
def bd2 {α β : Type} (x : Option (Mr × α)) (f : Mr → α → Option β) : Option β := match x with
  | some (a, b) => f a b
  | none => none
def bd1 {α β : Type} (x : Option α) (f : α → Option β) : Option β := match x with
  | some a => f a
  | none => none
def okk (al : Nat → Bool) (T k : Nat) : Bool := al k && decide (k / 64 = T)
def rdR (al : Nat → Bool) (u : Mr) (k : Nat) (i : Int32) (T : Nat) : Option Nat := match u.2.1 k i with
  | some a => if okk al T a = true then some a else none
  | none => none
theorem inb_in {i : Int32} {n : Nat} (h : inb i n = true) : vp_in i n := by
  have h1 : ¬ (i < 0 ∨ n ≤ i.toNatClampNeg) := of_decide_eq_true h
  exact h1
theorem ck_some {α : Type} {b : Bool} {x : Option α} {y : α} (h : ck b x = some y) : b = true ∧ x = some y := by
  cases b with
  | true => exact ⟨rfl, h⟩
  | false => cases h
theorem bd2_some {α β : Type} {x : Option (Mr × α)} {f : Mr → α → Option β} {y : β} (h : bd2 x f = some y) : ∃ a b, x = some (a, b) ∧ f a b = some y := by
  cases x with
  | none => cases h
  | some q => exact ⟨q.1, q.2, rfl, h⟩
theorem bd1_some {α β : Type} {x : Option α} {f : α → Option β} {y : β} (h : bd1 x f = some y) : ∃ a, x = some a ∧ f a = some y := by
  cases x with
  | none => cases h
  | some q => exact ⟨q, rfl, h⟩
theorem it_t {α : Type} {c : Prop} {i : Decidable c} {a b : Option α} {y : α} (h : @ite _ c i a b = some y) (hc : c) : a = some y := by
  rw [if_pos hc] at h
  exact h
theorem it_f {α : Type} {c : Prop} {i : Decidable c} {a b : Option α} {y : α} (h : @ite _ c i a b = some y) (hc : ¬ c) : b = some y := by
  rw [if_neg hc] at h
  exact h
theorem okk_al {al : Nat → Bool} {T k : Nat} (h : okk al T k = true) : al k = true := by
  unfold okk at h
  exact (Bool.and_eq_true _ _ ▸ h : al k = true ∧ decide (k / 64 = T) = true).1
theorem okk_t {al : Nat → Bool} {T k : Nat} (h : okk al T k = true) : k / 64 = T := by
  unfold okk at h
  exact of_decide_eq_true (Bool.and_eq_true _ _ ▸ h : al k = true ∧ decide (k / 64 = T) = true).2
theorem rdR_some {al : Nat → Bool} {u : Mr} {k : Nat} {i : Int32} {T a : Nat} (h : rdR al u k i T = some a) : u.2.1 k i = some a ∧ okk al T a = true := by
  unfold rdR at h
  cases h1 : u.2.1 k i with
  | none => rw [h1] at h; cases h
  | some q =>
    rw [h1] at h
    by_cases h2 : okk al T q = true
    · have h3 : (if okk al T q = true then some q else none) = some a := h
      rw [if_pos h2] at h3
      cases h3
      exact ⟨rfl, h2⟩
    · have h3 : (if okk al T q = true then some q else none) = some a := h
      rw [if_neg h2] at h3
      cases h3
theorem isz_nar {v : Int32} (h : isz v = true) : narrow .boolean (.int v) = .int v := by
  have h1 : v = 0 ∨ v = 1 := of_decide_eq_true h
  rcases h1 with rfl | rfl <;> rfl
theorem isz_fit {v : Int32} (h : isz v = true) : fits .boolean (.int v) = true := by
  have h1 : v = 0 ∨ v = 1 := of_decide_eq_true h
  rcases h1 with rfl | rfl <;> rfl
theorem in_nI {i : Int32} {n : Nat} (h : vp_in i n) : nI i.toNatClampNeg = i := by
  have h0 : ¬ i < 0 := fun q => h (Or.inl q)
  obtain ⟨j, hj, rfl⟩ := nI_of h0
  rw [nI_clamp hj]
def tyl (cA : Nat → ClassId) : List (ClassId × FieldType) := [(cA 0, .int), (cA 1, .byte), (cA 2, .boolean), (cA 3, .long), (cA 4, .object "ImageForge$ObjectFile"), (cA 5, .object "ImageForge$Name"), (cA 6, .object "ImageForge$Part"), (cA 7, .object "java/lang/Object"), (cA 8, .array .int)]
/-- what a slot of a tag holds -/
def Eg (ad : Nat → Nat) (cA : Nat → ClassId) (T : Nat) (row : Int32 → Int32) (rr : Int32 → Option Nat) (lr : Int32 → Int64) : va_E := match T with
  | 1 => .inr (0, [va_rf ((rr 0).map ad), va_rf ((rr 1).map ad), va_rf ((rr 2).map ad), va_rf ((rr 3).map ad), va_rf ((rr 4).map ad), va_rf ((rr 5).map ad)])
  | 2 => .inl (cA 4, 4, .inr (.inr (.inr (.inr (fun j => (rr (nI j)).map ad)))))
  | 3 => .inl (cA 5, 16, .inr (.inr (.inr (.inr (fun j => (rr (nI j)).map ad)))))
  | 4 => .inl (cA 8, 4, .inr (.inr (.inr (.inr (fun j => (rr (nI j)).map ad)))))
  | 5 => .inl (cA 0, 100, .inl (fun j => row (nI j)))
  | 6 => .inr (1, [va_rf ((rr 0).map ad), .int (row 1)])
  | 7 => .inl (cA 1, 896, .inl (fun j => row (nI j)))
  | 8 => .inr (2, [va_rf ((rr 0).map ad), va_rf ((rr 1).map ad), va_rf ((rr 2).map ad)])
  | 9 => .inl (cA 0, 16, .inl (fun j => row (nI j)))
  | 10 => .inl (cA 8, 2, .inr (.inr (.inr (.inr (fun j => (rr (nI j)).map ad)))))
  | 11 => .inl (cA 0, 4, .inl (fun j => row (nI j)))
  | 12 => .inl (cA 2, 896, .inl (fun j => row (nI j)))
  | 13 => .inr (3, [va_rf ((rr 0).map ad), va_rf ((rr 1).map ad), .int (row 2), .int (row 3), .int (row 4)])
  | 14 => .inr (4, [va_rf ((rr 0).map ad), va_rf ((rr 1).map ad), .int (row 2)])
  | 15 => .inl (cA 6, 2, .inr (.inr (.inr (.inr (fun j => (rr (nI j)).map ad)))))
  | 16 => .inr (5, [va_rf ((rr 0).map ad), .int (row 1)])
  | 17 => .inl (cA 1, 40, .inl (fun j => row (nI j)))
  | 18 => .inr (6, [.int (row 0), va_rf ((rr 1).map ad), .int (row 2)])
  | 19 => .inl (cA 7, 10, .inr (.inr (.inr (.inr (fun j => (rr (nI j)).map ad)))))
  | 20 => .inr (7, [.int (row 0), .int (row 1), .int (row 2), .int (row 3), .int (row 4), .int (row 5), .int (row 6)])
  | 21 => .inr (8, [.int (row 0), .int (row 1), .int (row 2), .int (row 3)])
  | 22 => .inl (cA 3, 1, .inr (.inl (fun j => lr (nI j))))
  | 32 => .inr (9, [.int (row 0), va_rf ((rr 1).map ad), va_rf ((rr 2).map ad), va_rf ((rr 3).map ad), va_rf ((rr 4).map ad), va_rf ((rr 5).map ad), va_rf ((rr 6).map ad), va_rf ((rr 7).map ad), va_rf ((rr 8).map ad), va_rf ((rr 9).map ad), va_rf ((rr 10).map ad), va_rf ((rr 11).map ad), va_rf ((rr 12).map ad), va_rf ((rr 13).map ad), va_rf ((rr 14).map ad), va_rf ((rr 15).map ad), .int (row 16), va_rf ((rr 17).map ad), .int (row 18), va_rf ((rr 19).map ad), va_rf ((rr 20).map ad), va_rf ((rr 21).map ad), va_rf ((rr 22).map ad), va_rf ((rr 23).map ad), .int (row 24), .int (row 25), .int (row 26), va_rf ((rr 27).map ad), .int (row 28), .int (row 29), va_rf ((rr 30).map ad), .int (row 31)])
  | 33 => .inl (cA 0, 8, .inl (fun j => row (nI j)))
  | 34 => .inl (cA 0, 320, .inl (fun j => row (nI j)))
  | 35 => .inl (cA 0, 4, .inl (fun j => row (nI j)))
  | 36 => .inl (cA 0, 24, .inl (fun j => row (nI j)))
  | 37 => .inl (cA 0, 32, .inl (fun j => row (nI j)))
  | 38 => .inl (cA 0, 16, .inl (fun j => row (nI j)))
  | 39 => .inl (cA 2, 16, .inl (fun j => row (nI j)))
  | 40 => .inl (cA 0, 400, .inl (fun j => row (nI j)))
  | 41 => .inl (cA 0, 2048, .inl (fun j => row (nI j)))
  | 42 => .inl (cA 0, 5, .inl (fun j => row (nI j)))
  | _ => .inl (0, 0, .inl (fun _ => 0))
def nx_f : List (String × Nat × String × String × String × String) := [
  ("ImageForge$Linker", 84, "ImageForge$Image", "bytes", "[B", "ImageForge"),
  ("ImageForge$Linker", 56, "ImageForge$Image", "size", "I", "ImageForge"),
  ("ImageForge$Loader", 68, "ImageForge$Image", "size", "I", "ImageForge"),
  ("ImageForge", 161, "ImageForge$Image", "size", "I", "ImageForge"),
  ("ImageForge$Linker", 78, "ImageForge$Part", "bytes", "[B", "ImageForge"),
  ("ImageForge", 64, "ImageForge$Part", "size", "I", "ImageForge"),
  ("ImageForge$Linker", 85, "ImageForge$Part", "size", "I", "ImageForge"),
  ("ImageForge", 60, "ImageForge$ObjectFile", "parts", "[LImageForge$Part;", "ImageForge"),
  ("ImageForge$Linker", 72, "ImageForge$ObjectFile", "parts", "[LImageForge$Part;", "ImageForge"),
  ("ImageForge", 103, "ImageForge$ObjectFile", "references", "Ljava/util/ArrayList;", "ImageForge"),
  ("ImageForge$Linker", 136, "ImageForge$ObjectFile", "references", "Ljava/util/ArrayList;", "ImageForge"),
  ("ImageForge", 83, "ImageForge$ObjectFile", "definitions", "I", "ImageForge"),
  ("ImageForge", 196, "ImageForge$Name", "definitions", "I", "ImageForge"),
  ("ImageForge$Linker", 97, "ImageForge$Name", "object", "I", "ImageForge"),
  ("ImageForge$Linker", 92, "ImageForge$Name", "part", "I", "ImageForge"),
  ("ImageForge$Linker", 100, "ImageForge$Name", "place", "I", "ImageForge"),
  ("ImageForge", 128, "ImageForge$Name", "library", "I", "ImageForge"),
  ("ImageForge$Linker", 119, "ImageForge$Name", "library", "I", "ImageForge"),
  ("ImageForge", 131, "ImageForge$Name", "ordinal", "I", "ImageForge"),
  ("ImageForge$Linker", 128, "ImageForge$Name", "ordinal", "I", "ImageForge"),
  ("ImageForge", 136, "ImageForge$Name", "exported", "Z", "ImageForge"),
  ("ImageForge$Linker", 132, "ImageForge$Name", "exported", "Z", "ImageForge")]
def nx_m : List (String × Nat × MethodName × String) := [
  ("ImageForge", 28, ⟨"ImageForge$Image", "<init>", "()V"⟩, "ImageForge"),
  ("ImageForge", 35, ⟨"ImageForge$Linker", "<init>", "()V"⟩, "ImageForge"),
  ("ImageForge", 42, ⟨"ImageForge$Loader", "<init>", "()V"⟩, "ImageForge"),
  ("ImageForge$Loader", 11, ⟨"ImageForge$Image", "<init>", "()V"⟩, "ImageForge"),
  ("ImageForge", 47, ⟨"ImageForge$ObjectFile", "<init>", "()V"⟩, "ImageForge"),
  ("ImageForge$ObjectFile", 11, ⟨"ImageForge$Part", "<init>", "()V"⟩, "ImageForge"),
  ("ImageForge", 48, ⟨"ImageForge$Name", "<init>", "()V"⟩, "ImageForge"),
  ("ImageForge", 192, ⟨"ImageForge$Loader", "byteAt", "(I)I"⟩, "ImageForge"),
  ("ImageForge$Loader", 102, ⟨"ImageForge$Image", "byteAt", "(I)I"⟩, "ImageForge"),
  ("ImageForge", 193, ⟨"ImageForge$Loader", "addressOf", "(I)I"⟩, "ImageForge"),
  ("ImageForge$Loader", 50, ⟨"ImageForge$Image", "wordAt", "(I)I"⟩, "ImageForge"),
  ("ImageForge", 75, ⟨"ImageForge$Part", "append", "(JI)V"⟩, "ImageForge"),
  ("ImageForge", 88, ⟨"ImageForge$Name", "defineAt", "(III)V"⟩, "ImageForge"),
  ("ImageForge", 94, ⟨"ImageForge$Part", "holdsWord", "(I)Z"⟩, "ImageForge"),
  ("ImageForge", 98, ⟨"ImageForge$ObjectFile", "overlaps", "(II)Z"⟩, "ImageForge"),
  ("ImageForge", 116, ⟨"ImageForge$Reference", "<init>", "(IIII)V"⟩, "ImageForge"),
  ("ImageForge", 197, ⟨"ImageForge$Name", "isDefined", "()Z"⟩, "ImageForge"),
  ("ImageForge", 200, ⟨"ImageForge$Name", "isImported", "()Z"⟩, "ImageForge"),
  ("ImageForge", 157, ⟨"ImageForge$Linker", "build", "([LImageForge$ObjectFile;[LImageForge$Name;LImageForge$Image;)V"⟩, "ImageForge"),
  ("ImageForge$Linker", 24, ⟨"ImageForge$Image", "clear", "()V"⟩, "ImageForge"),
  ("ImageForge$Linker", 68, ⟨"ImageForge", "roundUp", "(II)I"⟩, "ImageForge"),
  ("ImageForge$Linker", 64, ⟨"ImageForge$Image", "setSection", "(III)V"⟩, "ImageForge"),
  ("ImageForge$Linker", 115, ⟨"ImageForge$Name", "isImported", "()Z"⟩, "ImageForge"),
  ("ImageForge$Linker", 111, ⟨"ImageForge$Image", "setWord", "(II)V"⟩, "ImageForge"),
  ("ImageForge$Linker", 159, ⟨"ImageForge$Image", "addToWord", "(II)V"⟩, "ImageForge"),
  ("ImageForge$Linker", 172, ⟨"ImageForge$Image", "setHalf", "(II)V"⟩, "ImageForge"),
  ("ImageForge$Linker", 175, ⟨"ImageForge$Name", "isDefined", "()Z"⟩, "ImageForge"),
  ("ImageForge$Linker", 178, ⟨"ImageForge$Image", "checksum", "()I"⟩, "ImageForge"),
  ("ImageForge", 164, ⟨"ImageForge$Image", "byteAt", "(I)I"⟩, "ImageForge"),
  ("ImageForge", 168, ⟨"ImageForge$Image", "setByte", "(II)V"⟩, "ImageForge"),
  ("ImageForge", 172, ⟨"ImageForge$Image", "isNone", "()Z"⟩, "ImageForge"),
  ("ImageForge", 177, ⟨"ImageForge$Image", "checksum", "()I"⟩, "ImageForge"),
  ("ImageForge", 180, ⟨"ImageForge$Image", "setWord", "(II)V"⟩, "ImageForge"),
  ("ImageForge", 188, ⟨"ImageForge$Loader", "bring", "(LImageForge$Image;[[II)I"⟩, "ImageForge"),
  ("ImageForge$Loader", 21, ⟨"ImageForge$Image", "copyFrom", "(LImageForge$Image;)V"⟩, "ImageForge"),
  ("ImageForge$Loader", 53, ⟨"ImageForge$Image", "checksum", "()I"⟩, "ImageForge"),
  ("ImageForge$Loader", 71, ⟨"ImageForge$Image", "holdsSection", "(I)Z"⟩, "ImageForge"),
  ("ImageForge$Loader", 33, ⟨"ImageForge$Image", "sectionBegin", "(I)I"⟩, "ImageForge"),
  ("ImageForge$Loader", 40, ⟨"ImageForge$Image", "sectionSize", "(I)I"⟩, "ImageForge"),
  ("ImageForge$Loader", 79, ⟨"ImageForge$Image", "halfAt", "(I)I"⟩, "ImageForge"),
  ("ImageForge$Loader", 82, ⟨"ImageForge$Image", "holdsWord", "(J)Z"⟩, "ImageForge"),
  ("ImageForge$Loader", 86, ⟨"ImageForge$Image", "addToWord", "(II)V"⟩, "ImageForge"),
  ("ImageForge$Loader", 95, ⟨"ImageForge", "isBelow", "(II)Z"⟩, "ImageForge"),
  ("ImageForge$Loader", 99, ⟨"ImageForge$Image", "setWord", "(II)V"⟩, "ImageForge")]
/-- what the tables hold of private members across the nest -/
def Nx (U : State) : Prop := (∀ q ∈ nx_f, va_Nw (.fieldLinkNest q.1 q.2.1 q.2.2.1 q.2.2.2.1 q.2.2.2.2.1 q.2.2.2.2.2) U) ∧ ∀ q ∈ nx_m, va_Nw (.methodLinkNest q.1 q.2.1 q.2.2.1 q.2.2.2) U
theorem Nx.same {u U : State} (h : u.vm = U.vm) (q : Nx u) : Nx U := ⟨fun w hw => va_Nw.same rfl h (q.1 w hw), fun w hw => va_Nw.same rfl h (q.2 w hw)⟩
theorem Nx.warm {s U : State} (hW : s.WarmedH U.vm) (q : Nx s) : Nx U := ⟨fun w hw => va_Nw.warmF hW (q.1 w hw), fun w hw => va_Nw.warmM hW (q.2 w hw)⟩
theorem nf_0 {U : State} {a : Array Value} (h : Nx U) : (Cond.fieldLinkNest "ImageForge$Linker" 84 "ImageForge$Image" "bytes" "[B" "ImageForge").before a U = true := va_Nw.use rfl (h.1 ("ImageForge$Linker", 84, "ImageForge$Image", "bytes", "[B", "ImageForge") (List.mem_of_getElem? (i := 0) rfl))
theorem nf_1 {U : State} {a : Array Value} (h : Nx U) : (Cond.fieldLinkNest "ImageForge$Linker" 56 "ImageForge$Image" "size" "I" "ImageForge").before a U = true := va_Nw.use rfl (h.1 ("ImageForge$Linker", 56, "ImageForge$Image", "size", "I", "ImageForge") (List.mem_of_getElem? (i := 1) rfl))
theorem nf_2 {U : State} {a : Array Value} (h : Nx U) : (Cond.fieldLinkNest "ImageForge$Loader" 68 "ImageForge$Image" "size" "I" "ImageForge").before a U = true := va_Nw.use rfl (h.1 ("ImageForge$Loader", 68, "ImageForge$Image", "size", "I", "ImageForge") (List.mem_of_getElem? (i := 2) rfl))
theorem nf_3 {U : State} {a : Array Value} (h : Nx U) : (Cond.fieldLinkNest "ImageForge" 161 "ImageForge$Image" "size" "I" "ImageForge").before a U = true := va_Nw.use rfl (h.1 ("ImageForge", 161, "ImageForge$Image", "size", "I", "ImageForge") (List.mem_of_getElem? (i := 3) rfl))
theorem nf_4 {U : State} {a : Array Value} (h : Nx U) : (Cond.fieldLinkNest "ImageForge$Linker" 78 "ImageForge$Part" "bytes" "[B" "ImageForge").before a U = true := va_Nw.use rfl (h.1 ("ImageForge$Linker", 78, "ImageForge$Part", "bytes", "[B", "ImageForge") (List.mem_of_getElem? (i := 4) rfl))
theorem nf_5 {U : State} {a : Array Value} (h : Nx U) : (Cond.fieldLinkNest "ImageForge" 64 "ImageForge$Part" "size" "I" "ImageForge").before a U = true := va_Nw.use rfl (h.1 ("ImageForge", 64, "ImageForge$Part", "size", "I", "ImageForge") (List.mem_of_getElem? (i := 5) rfl))
theorem nf_6 {U : State} {a : Array Value} (h : Nx U) : (Cond.fieldLinkNest "ImageForge$Linker" 85 "ImageForge$Part" "size" "I" "ImageForge").before a U = true := va_Nw.use rfl (h.1 ("ImageForge$Linker", 85, "ImageForge$Part", "size", "I", "ImageForge") (List.mem_of_getElem? (i := 6) rfl))
theorem nf_7 {U : State} {a : Array Value} (h : Nx U) : (Cond.fieldLinkNest "ImageForge" 60 "ImageForge$ObjectFile" "parts" "[LImageForge$Part;" "ImageForge").before a U = true := va_Nw.use rfl (h.1 ("ImageForge", 60, "ImageForge$ObjectFile", "parts", "[LImageForge$Part;", "ImageForge") (List.mem_of_getElem? (i := 7) rfl))
theorem nf_8 {U : State} {a : Array Value} (h : Nx U) : (Cond.fieldLinkNest "ImageForge$Linker" 72 "ImageForge$ObjectFile" "parts" "[LImageForge$Part;" "ImageForge").before a U = true := va_Nw.use rfl (h.1 ("ImageForge$Linker", 72, "ImageForge$ObjectFile", "parts", "[LImageForge$Part;", "ImageForge") (List.mem_of_getElem? (i := 8) rfl))
theorem nf_9 {U : State} {a : Array Value} (h : Nx U) : (Cond.fieldLinkNest "ImageForge" 103 "ImageForge$ObjectFile" "references" "Ljava/util/ArrayList;" "ImageForge").before a U = true := va_Nw.use rfl (h.1 ("ImageForge", 103, "ImageForge$ObjectFile", "references", "Ljava/util/ArrayList;", "ImageForge") (List.mem_of_getElem? (i := 9) rfl))
theorem nf_10 {U : State} {a : Array Value} (h : Nx U) : (Cond.fieldLinkNest "ImageForge$Linker" 136 "ImageForge$ObjectFile" "references" "Ljava/util/ArrayList;" "ImageForge").before a U = true := va_Nw.use rfl (h.1 ("ImageForge$Linker", 136, "ImageForge$ObjectFile", "references", "Ljava/util/ArrayList;", "ImageForge") (List.mem_of_getElem? (i := 10) rfl))
theorem nf_11 {U : State} {a : Array Value} (h : Nx U) : (Cond.fieldLinkNest "ImageForge" 83 "ImageForge$ObjectFile" "definitions" "I" "ImageForge").before a U = true := va_Nw.use rfl (h.1 ("ImageForge", 83, "ImageForge$ObjectFile", "definitions", "I", "ImageForge") (List.mem_of_getElem? (i := 11) rfl))
theorem nf_12 {U : State} {a : Array Value} (h : Nx U) : (Cond.fieldLinkNest "ImageForge" 196 "ImageForge$Name" "definitions" "I" "ImageForge").before a U = true := va_Nw.use rfl (h.1 ("ImageForge", 196, "ImageForge$Name", "definitions", "I", "ImageForge") (List.mem_of_getElem? (i := 12) rfl))
theorem nf_13 {U : State} {a : Array Value} (h : Nx U) : (Cond.fieldLinkNest "ImageForge$Linker" 97 "ImageForge$Name" "object" "I" "ImageForge").before a U = true := va_Nw.use rfl (h.1 ("ImageForge$Linker", 97, "ImageForge$Name", "object", "I", "ImageForge") (List.mem_of_getElem? (i := 13) rfl))
theorem nf_14 {U : State} {a : Array Value} (h : Nx U) : (Cond.fieldLinkNest "ImageForge$Linker" 92 "ImageForge$Name" "part" "I" "ImageForge").before a U = true := va_Nw.use rfl (h.1 ("ImageForge$Linker", 92, "ImageForge$Name", "part", "I", "ImageForge") (List.mem_of_getElem? (i := 14) rfl))
theorem nf_15 {U : State} {a : Array Value} (h : Nx U) : (Cond.fieldLinkNest "ImageForge$Linker" 100 "ImageForge$Name" "place" "I" "ImageForge").before a U = true := va_Nw.use rfl (h.1 ("ImageForge$Linker", 100, "ImageForge$Name", "place", "I", "ImageForge") (List.mem_of_getElem? (i := 15) rfl))
theorem nf_16 {U : State} {a : Array Value} (h : Nx U) : (Cond.fieldLinkNest "ImageForge" 128 "ImageForge$Name" "library" "I" "ImageForge").before a U = true := va_Nw.use rfl (h.1 ("ImageForge", 128, "ImageForge$Name", "library", "I", "ImageForge") (List.mem_of_getElem? (i := 16) rfl))
theorem nf_17 {U : State} {a : Array Value} (h : Nx U) : (Cond.fieldLinkNest "ImageForge$Linker" 119 "ImageForge$Name" "library" "I" "ImageForge").before a U = true := va_Nw.use rfl (h.1 ("ImageForge$Linker", 119, "ImageForge$Name", "library", "I", "ImageForge") (List.mem_of_getElem? (i := 17) rfl))
theorem nf_18 {U : State} {a : Array Value} (h : Nx U) : (Cond.fieldLinkNest "ImageForge" 131 "ImageForge$Name" "ordinal" "I" "ImageForge").before a U = true := va_Nw.use rfl (h.1 ("ImageForge", 131, "ImageForge$Name", "ordinal", "I", "ImageForge") (List.mem_of_getElem? (i := 18) rfl))
theorem nf_19 {U : State} {a : Array Value} (h : Nx U) : (Cond.fieldLinkNest "ImageForge$Linker" 128 "ImageForge$Name" "ordinal" "I" "ImageForge").before a U = true := va_Nw.use rfl (h.1 ("ImageForge$Linker", 128, "ImageForge$Name", "ordinal", "I", "ImageForge") (List.mem_of_getElem? (i := 19) rfl))
theorem nf_20 {U : State} {a : Array Value} (h : Nx U) : (Cond.fieldLinkNest "ImageForge" 136 "ImageForge$Name" "exported" "Z" "ImageForge").before a U = true := va_Nw.use rfl (h.1 ("ImageForge", 136, "ImageForge$Name", "exported", "Z", "ImageForge") (List.mem_of_getElem? (i := 20) rfl))
theorem nf_21 {U : State} {a : Array Value} (h : Nx U) : (Cond.fieldLinkNest "ImageForge$Linker" 132 "ImageForge$Name" "exported" "Z" "ImageForge").before a U = true := va_Nw.use rfl (h.1 ("ImageForge$Linker", 132, "ImageForge$Name", "exported", "Z", "ImageForge") (List.mem_of_getElem? (i := 21) rfl))
theorem nn_0 {U : State} (h : Nx U) : va_Nw (.methodLinkNest "ImageForge" 28 ⟨"ImageForge$Image", "<init>", "()V"⟩ "ImageForge") U := h.2 ("ImageForge", 28, ⟨"ImageForge$Image", "<init>", "()V"⟩, "ImageForge") (List.mem_of_getElem? (i := 0) rfl)
theorem nn_1 {U : State} (h : Nx U) : va_Nw (.methodLinkNest "ImageForge" 35 ⟨"ImageForge$Linker", "<init>", "()V"⟩ "ImageForge") U := h.2 ("ImageForge", 35, ⟨"ImageForge$Linker", "<init>", "()V"⟩, "ImageForge") (List.mem_of_getElem? (i := 1) rfl)
theorem nn_2 {U : State} (h : Nx U) : va_Nw (.methodLinkNest "ImageForge" 42 ⟨"ImageForge$Loader", "<init>", "()V"⟩ "ImageForge") U := h.2 ("ImageForge", 42, ⟨"ImageForge$Loader", "<init>", "()V"⟩, "ImageForge") (List.mem_of_getElem? (i := 2) rfl)
theorem nn_3 {U : State} (h : Nx U) : va_Nw (.methodLinkNest "ImageForge$Loader" 11 ⟨"ImageForge$Image", "<init>", "()V"⟩ "ImageForge") U := h.2 ("ImageForge$Loader", 11, ⟨"ImageForge$Image", "<init>", "()V"⟩, "ImageForge") (List.mem_of_getElem? (i := 3) rfl)
theorem nn_4 {U : State} (h : Nx U) : va_Nw (.methodLinkNest "ImageForge" 47 ⟨"ImageForge$ObjectFile", "<init>", "()V"⟩ "ImageForge") U := h.2 ("ImageForge", 47, ⟨"ImageForge$ObjectFile", "<init>", "()V"⟩, "ImageForge") (List.mem_of_getElem? (i := 4) rfl)
theorem nn_5 {U : State} (h : Nx U) : va_Nw (.methodLinkNest "ImageForge$ObjectFile" 11 ⟨"ImageForge$Part", "<init>", "()V"⟩ "ImageForge") U := h.2 ("ImageForge$ObjectFile", 11, ⟨"ImageForge$Part", "<init>", "()V"⟩, "ImageForge") (List.mem_of_getElem? (i := 5) rfl)
theorem nn_6 {U : State} (h : Nx U) : va_Nw (.methodLinkNest "ImageForge" 48 ⟨"ImageForge$Name", "<init>", "()V"⟩ "ImageForge") U := h.2 ("ImageForge", 48, ⟨"ImageForge$Name", "<init>", "()V"⟩, "ImageForge") (List.mem_of_getElem? (i := 6) rfl)
theorem nn_7 {U : State} (h : Nx U) : va_Nw (.methodLinkNest "ImageForge" 192 ⟨"ImageForge$Loader", "byteAt", "(I)I"⟩ "ImageForge") U := h.2 ("ImageForge", 192, ⟨"ImageForge$Loader", "byteAt", "(I)I"⟩, "ImageForge") (List.mem_of_getElem? (i := 7) rfl)
theorem nn_8 {U : State} (h : Nx U) : va_Nw (.methodLinkNest "ImageForge$Loader" 102 ⟨"ImageForge$Image", "byteAt", "(I)I"⟩ "ImageForge") U := h.2 ("ImageForge$Loader", 102, ⟨"ImageForge$Image", "byteAt", "(I)I"⟩, "ImageForge") (List.mem_of_getElem? (i := 8) rfl)
theorem nn_9 {U : State} (h : Nx U) : va_Nw (.methodLinkNest "ImageForge" 193 ⟨"ImageForge$Loader", "addressOf", "(I)I"⟩ "ImageForge") U := h.2 ("ImageForge", 193, ⟨"ImageForge$Loader", "addressOf", "(I)I"⟩, "ImageForge") (List.mem_of_getElem? (i := 9) rfl)
theorem nn_10 {U : State} (h : Nx U) : va_Nw (.methodLinkNest "ImageForge$Loader" 50 ⟨"ImageForge$Image", "wordAt", "(I)I"⟩ "ImageForge") U := h.2 ("ImageForge$Loader", 50, ⟨"ImageForge$Image", "wordAt", "(I)I"⟩, "ImageForge") (List.mem_of_getElem? (i := 10) rfl)
theorem nn_11 {U : State} (h : Nx U) : va_Nw (.methodLinkNest "ImageForge" 75 ⟨"ImageForge$Part", "append", "(JI)V"⟩ "ImageForge") U := h.2 ("ImageForge", 75, ⟨"ImageForge$Part", "append", "(JI)V"⟩, "ImageForge") (List.mem_of_getElem? (i := 11) rfl)
theorem nn_12 {U : State} (h : Nx U) : va_Nw (.methodLinkNest "ImageForge" 88 ⟨"ImageForge$Name", "defineAt", "(III)V"⟩ "ImageForge") U := h.2 ("ImageForge", 88, ⟨"ImageForge$Name", "defineAt", "(III)V"⟩, "ImageForge") (List.mem_of_getElem? (i := 12) rfl)
theorem nn_13 {U : State} (h : Nx U) : va_Nw (.methodLinkNest "ImageForge" 94 ⟨"ImageForge$Part", "holdsWord", "(I)Z"⟩ "ImageForge") U := h.2 ("ImageForge", 94, ⟨"ImageForge$Part", "holdsWord", "(I)Z"⟩, "ImageForge") (List.mem_of_getElem? (i := 13) rfl)
theorem nn_14 {U : State} (h : Nx U) : va_Nw (.methodLinkNest "ImageForge" 98 ⟨"ImageForge$ObjectFile", "overlaps", "(II)Z"⟩ "ImageForge") U := h.2 ("ImageForge", 98, ⟨"ImageForge$ObjectFile", "overlaps", "(II)Z"⟩, "ImageForge") (List.mem_of_getElem? (i := 14) rfl)
theorem nn_15 {U : State} (h : Nx U) : va_Nw (.methodLinkNest "ImageForge" 116 ⟨"ImageForge$Reference", "<init>", "(IIII)V"⟩ "ImageForge") U := h.2 ("ImageForge", 116, ⟨"ImageForge$Reference", "<init>", "(IIII)V"⟩, "ImageForge") (List.mem_of_getElem? (i := 15) rfl)
theorem nn_16 {U : State} (h : Nx U) : va_Nw (.methodLinkNest "ImageForge" 197 ⟨"ImageForge$Name", "isDefined", "()Z"⟩ "ImageForge") U := h.2 ("ImageForge", 197, ⟨"ImageForge$Name", "isDefined", "()Z"⟩, "ImageForge") (List.mem_of_getElem? (i := 16) rfl)
theorem nn_17 {U : State} (h : Nx U) : va_Nw (.methodLinkNest "ImageForge" 200 ⟨"ImageForge$Name", "isImported", "()Z"⟩ "ImageForge") U := h.2 ("ImageForge", 200, ⟨"ImageForge$Name", "isImported", "()Z"⟩, "ImageForge") (List.mem_of_getElem? (i := 17) rfl)
theorem nn_18 {U : State} (h : Nx U) : va_Nw (.methodLinkNest "ImageForge" 157 ⟨"ImageForge$Linker", "build", "([LImageForge$ObjectFile;[LImageForge$Name;LImageForge$Image;)V"⟩ "ImageForge") U := h.2 ("ImageForge", 157, ⟨"ImageForge$Linker", "build", "([LImageForge$ObjectFile;[LImageForge$Name;LImageForge$Image;)V"⟩, "ImageForge") (List.mem_of_getElem? (i := 18) rfl)
theorem nn_19 {U : State} (h : Nx U) : va_Nw (.methodLinkNest "ImageForge$Linker" 24 ⟨"ImageForge$Image", "clear", "()V"⟩ "ImageForge") U := h.2 ("ImageForge$Linker", 24, ⟨"ImageForge$Image", "clear", "()V"⟩, "ImageForge") (List.mem_of_getElem? (i := 19) rfl)
theorem nn_20 {U : State} (h : Nx U) : va_Nw (.methodLinkNest "ImageForge$Linker" 68 ⟨"ImageForge", "roundUp", "(II)I"⟩ "ImageForge") U := h.2 ("ImageForge$Linker", 68, ⟨"ImageForge", "roundUp", "(II)I"⟩, "ImageForge") (List.mem_of_getElem? (i := 20) rfl)
theorem nn_21 {U : State} (h : Nx U) : va_Nw (.methodLinkNest "ImageForge$Linker" 64 ⟨"ImageForge$Image", "setSection", "(III)V"⟩ "ImageForge") U := h.2 ("ImageForge$Linker", 64, ⟨"ImageForge$Image", "setSection", "(III)V"⟩, "ImageForge") (List.mem_of_getElem? (i := 21) rfl)
theorem nn_22 {U : State} (h : Nx U) : va_Nw (.methodLinkNest "ImageForge$Linker" 115 ⟨"ImageForge$Name", "isImported", "()Z"⟩ "ImageForge") U := h.2 ("ImageForge$Linker", 115, ⟨"ImageForge$Name", "isImported", "()Z"⟩, "ImageForge") (List.mem_of_getElem? (i := 22) rfl)
theorem nn_23 {U : State} (h : Nx U) : va_Nw (.methodLinkNest "ImageForge$Linker" 111 ⟨"ImageForge$Image", "setWord", "(II)V"⟩ "ImageForge") U := h.2 ("ImageForge$Linker", 111, ⟨"ImageForge$Image", "setWord", "(II)V"⟩, "ImageForge") (List.mem_of_getElem? (i := 23) rfl)
theorem nn_24 {U : State} (h : Nx U) : va_Nw (.methodLinkNest "ImageForge$Linker" 159 ⟨"ImageForge$Image", "addToWord", "(II)V"⟩ "ImageForge") U := h.2 ("ImageForge$Linker", 159, ⟨"ImageForge$Image", "addToWord", "(II)V"⟩, "ImageForge") (List.mem_of_getElem? (i := 24) rfl)
theorem nn_25 {U : State} (h : Nx U) : va_Nw (.methodLinkNest "ImageForge$Linker" 172 ⟨"ImageForge$Image", "setHalf", "(II)V"⟩ "ImageForge") U := h.2 ("ImageForge$Linker", 172, ⟨"ImageForge$Image", "setHalf", "(II)V"⟩, "ImageForge") (List.mem_of_getElem? (i := 25) rfl)
theorem nn_26 {U : State} (h : Nx U) : va_Nw (.methodLinkNest "ImageForge$Linker" 175 ⟨"ImageForge$Name", "isDefined", "()Z"⟩ "ImageForge") U := h.2 ("ImageForge$Linker", 175, ⟨"ImageForge$Name", "isDefined", "()Z"⟩, "ImageForge") (List.mem_of_getElem? (i := 26) rfl)
theorem nn_27 {U : State} (h : Nx U) : va_Nw (.methodLinkNest "ImageForge$Linker" 178 ⟨"ImageForge$Image", "checksum", "()I"⟩ "ImageForge") U := h.2 ("ImageForge$Linker", 178, ⟨"ImageForge$Image", "checksum", "()I"⟩, "ImageForge") (List.mem_of_getElem? (i := 27) rfl)
theorem nn_28 {U : State} (h : Nx U) : va_Nw (.methodLinkNest "ImageForge" 164 ⟨"ImageForge$Image", "byteAt", "(I)I"⟩ "ImageForge") U := h.2 ("ImageForge", 164, ⟨"ImageForge$Image", "byteAt", "(I)I"⟩, "ImageForge") (List.mem_of_getElem? (i := 28) rfl)
theorem nn_29 {U : State} (h : Nx U) : va_Nw (.methodLinkNest "ImageForge" 168 ⟨"ImageForge$Image", "setByte", "(II)V"⟩ "ImageForge") U := h.2 ("ImageForge", 168, ⟨"ImageForge$Image", "setByte", "(II)V"⟩, "ImageForge") (List.mem_of_getElem? (i := 29) rfl)
theorem nn_30 {U : State} (h : Nx U) : va_Nw (.methodLinkNest "ImageForge" 172 ⟨"ImageForge$Image", "isNone", "()Z"⟩ "ImageForge") U := h.2 ("ImageForge", 172, ⟨"ImageForge$Image", "isNone", "()Z"⟩, "ImageForge") (List.mem_of_getElem? (i := 30) rfl)
theorem nn_31 {U : State} (h : Nx U) : va_Nw (.methodLinkNest "ImageForge" 177 ⟨"ImageForge$Image", "checksum", "()I"⟩ "ImageForge") U := h.2 ("ImageForge", 177, ⟨"ImageForge$Image", "checksum", "()I"⟩, "ImageForge") (List.mem_of_getElem? (i := 31) rfl)
theorem nn_32 {U : State} (h : Nx U) : va_Nw (.methodLinkNest "ImageForge" 180 ⟨"ImageForge$Image", "setWord", "(II)V"⟩ "ImageForge") U := h.2 ("ImageForge", 180, ⟨"ImageForge$Image", "setWord", "(II)V"⟩, "ImageForge") (List.mem_of_getElem? (i := 32) rfl)
theorem nn_33 {U : State} (h : Nx U) : va_Nw (.methodLinkNest "ImageForge" 188 ⟨"ImageForge$Loader", "bring", "(LImageForge$Image;[[II)I"⟩ "ImageForge") U := h.2 ("ImageForge", 188, ⟨"ImageForge$Loader", "bring", "(LImageForge$Image;[[II)I"⟩, "ImageForge") (List.mem_of_getElem? (i := 33) rfl)
theorem nn_34 {U : State} (h : Nx U) : va_Nw (.methodLinkNest "ImageForge$Loader" 21 ⟨"ImageForge$Image", "copyFrom", "(LImageForge$Image;)V"⟩ "ImageForge") U := h.2 ("ImageForge$Loader", 21, ⟨"ImageForge$Image", "copyFrom", "(LImageForge$Image;)V"⟩, "ImageForge") (List.mem_of_getElem? (i := 34) rfl)
theorem nn_35 {U : State} (h : Nx U) : va_Nw (.methodLinkNest "ImageForge$Loader" 53 ⟨"ImageForge$Image", "checksum", "()I"⟩ "ImageForge") U := h.2 ("ImageForge$Loader", 53, ⟨"ImageForge$Image", "checksum", "()I"⟩, "ImageForge") (List.mem_of_getElem? (i := 35) rfl)
theorem nn_36 {U : State} (h : Nx U) : va_Nw (.methodLinkNest "ImageForge$Loader" 71 ⟨"ImageForge$Image", "holdsSection", "(I)Z"⟩ "ImageForge") U := h.2 ("ImageForge$Loader", 71, ⟨"ImageForge$Image", "holdsSection", "(I)Z"⟩, "ImageForge") (List.mem_of_getElem? (i := 36) rfl)
theorem nn_37 {U : State} (h : Nx U) : va_Nw (.methodLinkNest "ImageForge$Loader" 33 ⟨"ImageForge$Image", "sectionBegin", "(I)I"⟩ "ImageForge") U := h.2 ("ImageForge$Loader", 33, ⟨"ImageForge$Image", "sectionBegin", "(I)I"⟩, "ImageForge") (List.mem_of_getElem? (i := 37) rfl)
theorem nn_38 {U : State} (h : Nx U) : va_Nw (.methodLinkNest "ImageForge$Loader" 40 ⟨"ImageForge$Image", "sectionSize", "(I)I"⟩ "ImageForge") U := h.2 ("ImageForge$Loader", 40, ⟨"ImageForge$Image", "sectionSize", "(I)I"⟩, "ImageForge") (List.mem_of_getElem? (i := 38) rfl)
theorem nn_39 {U : State} (h : Nx U) : va_Nw (.methodLinkNest "ImageForge$Loader" 79 ⟨"ImageForge$Image", "halfAt", "(I)I"⟩ "ImageForge") U := h.2 ("ImageForge$Loader", 79, ⟨"ImageForge$Image", "halfAt", "(I)I"⟩, "ImageForge") (List.mem_of_getElem? (i := 39) rfl)
theorem nn_40 {U : State} (h : Nx U) : va_Nw (.methodLinkNest "ImageForge$Loader" 82 ⟨"ImageForge$Image", "holdsWord", "(J)Z"⟩ "ImageForge") U := h.2 ("ImageForge$Loader", 82, ⟨"ImageForge$Image", "holdsWord", "(J)Z"⟩, "ImageForge") (List.mem_of_getElem? (i := 40) rfl)
theorem nn_41 {U : State} (h : Nx U) : va_Nw (.methodLinkNest "ImageForge$Loader" 86 ⟨"ImageForge$Image", "addToWord", "(II)V"⟩ "ImageForge") U := h.2 ("ImageForge$Loader", 86, ⟨"ImageForge$Image", "addToWord", "(II)V"⟩, "ImageForge") (List.mem_of_getElem? (i := 41) rfl)
theorem nn_42 {U : State} (h : Nx U) : va_Nw (.methodLinkNest "ImageForge$Loader" 95 ⟨"ImageForge", "isBelow", "(II)Z"⟩ "ImageForge") U := h.2 ("ImageForge$Loader", 95, ⟨"ImageForge", "isBelow", "(II)Z"⟩, "ImageForge") (List.mem_of_getElem? (i := 42) rfl)
theorem nn_43 {U : State} (h : Nx U) : va_Nw (.methodLinkNest "ImageForge$Loader" 99 ⟨"ImageForge$Image", "setWord", "(II)V"⟩ "ImageForge") U := h.2 ("ImageForge$Loader", 99, ⟨"ImageForge$Image", "setWord", "(II)V"⟩, "ImageForge") (List.mem_of_getElem? (i := 43) rfl)

/-! The invariant: where things lie, and how the class's memory and the reference's answer each other. -/
def Sc (al : Nat → Bool) (u : Mr) : Prop :=
  (rdR al u 64 0 2 = some 128 ∧ rdR al u 64 1 3 = some 192 ∧ rdR al u 64 2 4 = some 256 ∧ rdR al u 64 3 6 = some 384 ∧ rdR al u 64 4 8 = some 512 ∧ rdR al u 64 5 13 = some 832) ∧
  (∀ o, o < 4 → rdR al u 128 (nI o) 14 = some (896 + o)) ∧ (∀ k, k < 16 → rdR al u 192 (nI k) 20 = some (1280 + k)) ∧ (∀ l, l < 4 → rdR al u 256 (nI l) 5 = some (320 + l)) ∧
  (∀ g, g < 3 → rdR al u (384 + g) 0 7 = some (448 + g)) ∧ (rdR al u 512 0 9 = some 576 ∧ rdR al u 512 1 10 = some 640 ∧ rdR al u 512 2 12 = some 768) ∧ (∀ p, p < 2 → rdR al u 640 (nI p) 11 = some (704 + p)) ∧
  (∀ o, o < 4 → rdR al u (896 + o) 0 15 = some (960 + o) ∧ rdR al u (896 + o) 1 18 = some (1152 + o)) ∧ (∀ o p, o < 4 → p < 2 → rdR al u (960 + o) (nI p) 16 = some (1024 + (2 * o + p))) ∧ (∀ q, q < 8 → rdR al u (1024 + q) 0 17 = some (1088 + q))
def Sm (al : Nat → Bool) (u : Mr) : Prop :=
  (rdR al u 2048 1 33 = some 2112 ∧ rdR al u 2048 2 34 = some 2176 ∧ rdR al u 2048 3 35 = some 2240 ∧ rdR al u 2048 4 36 = some 2304 ∧ rdR al u 2048 5 36 = some 2305 ∧ rdR al u 2048 6 36 = some 2306 ∧ rdR al u 2048 7 35 = some 2241) ∧
  (rdR al u 2048 8 37 = some 2368 ∧ rdR al u 2048 9 37 = some 2369 ∧ rdR al u 2048 10 37 = some 2370 ∧ rdR al u 2048 11 37 = some 2371 ∧ rdR al u 2048 12 38 = some 2432 ∧ rdR al u 2048 13 38 = some 2433 ∧ rdR al u 2048 14 39 = some 2496 ∧ rdR al u 2048 15 40 = some 2560) ∧
  (rdR al u 2048 17 41 = some 2624 ∧ rdR al u 2048 19 41 = some 2625 ∧ rdR al u 2048 20 42 = some 2688 ∧ rdR al u 2048 21 42 = some 2689 ∧ rdR al u 2048 22 33 = some 2113 ∧ rdR al u 2048 23 38 = some 2434 ∧ rdR al u 2048 27 41 = some 2626 ∧ rdR al u 2048 30 41 = some 2627)
/-- the loader's two images: which is loaded -/
def Sg (al : Nat → Bool) (u : Mr) (g : Nat) : Prop := g < 2 ∧ rdR al u 832 0 6 = some (385 + g) ∧ rdR al u 832 1 6 = some (386 - g)
/-- the lists of references -/
def Sr (al : Nat → Bool) (u : Mr) : Prop := ∀ o, o < 4 → ∃ n, n ≤ 8 ∧ u.1 (1152 + o) 2 = nI n ∧ (n = 0 → u.2.1 (1152 + o) 1 = some 1472 ∧ al (1216 + o) = false) ∧ (0 < n → rdR al u (1152 + o) 1 19 = some (1216 + o) ∧ ∀ r, r < n → rdR al u (1216 + o) (nI r) 21 = some (1344 + (8 * o + r))) ∧ ∀ r, n ≤ r → r < 8 → al (1344 + (8 * o + r)) = false
def byt (x : Int32) : Prop := fits .byte (.int x) = true
/-- parts -/
def RPart (u : Mr) : Prop := ∀ q, q < 8 → ∃ n, n ≤ 40 ∧ u.1 (1024 + q) 1 = nI n ∧ u.1 2112 (nI q) = nI n ∧ (∀ i, i < n → u.1 (1088 + q) (nI i) &&& 255 = u.1 2176 (nI (40 * q + i))) ∧ ∀ i, byt (u.1 (1088 + q) i)
/-- how many definitions of the first n of an object's are of the name k -/
def dcnt (u : Mr) (o k : Nat) : Nat → Nat
  | 0 => 0
  | n + 1 => dcnt u o k n + if u.1 2304 (nI (6 * o + n)) = nI k then 1 else 0
def RDef (u : Mr) : Prop := ∃ d : Nat → Nat, (∀ o, o < 4 → d o ≤ 6 ∧ u.1 (896 + o) 2 = nI (d o) ∧ u.1 2240 (nI o) = nI (d o)) ∧
  (∀ o j, o < 4 → j < d o → (∃ k, k < 16 ∧ u.1 2304 (nI (6 * o + j)) = nI k) ∧ (∃ p, p < 2 ∧ u.1 2305 (nI (6 * o + j)) = nI p) ∧ ∃ w, w ≤ 40 ∧ u.1 2306 (nI (6 * o + j)) = nI w) ∧
  ∀ k, k < 16 → u.1 (1280 + k) 0 = nI (dcnt u 0 k (d 0) + dcnt u 1 k (d 1) + dcnt u 2 k (d 2) + dcnt u 3 k (d 3)) ∧ (∃ o p w, o < 4 ∧ p < 2 ∧ w ≤ 40 ∧ u.1 (1280 + k) 1 = nI o ∧ u.1 (1280 + k) 2 = nI p ∧ u.1 (1280 + k) 3 = nI w) ∧
    ∀ o j, o < 4 → j < d o → u.1 2304 (nI (6 * o + j)) = nI k → u.1 (1280 + k) 0 = 1 → u.1 (1280 + k) 1 = nI o ∧ u.1 (1280 + k) 2 = u.1 2305 (nI (6 * o + j)) ∧ u.1 (1280 + k) 3 = u.1 2306 (nI (6 * o + j))
/-- references; those of one part of an object lie apart, and in the part -/
def RRef (u : Mr) : Prop := ∀ o, o < 4 → ∃ n, n ≤ 8 ∧ u.1 (1152 + o) 2 = nI n ∧ u.1 2241 (nI o) = nI n ∧
  (∀ r, r < n → ∃ p w t k m, p < 2 ∧ t < 3 ∧ k < 16 ∧ w + 4 ≤ m ∧ m ≤ 40 ∧ u.1 (1024 + (2 * o + p)) 1 = nI m ∧ u.1 (1344 + (8 * o + r)) 0 = nI p ∧ u.1 (1344 + (8 * o + r)) 1 = nI w ∧ u.1 (1344 + (8 * o + r)) 2 = nI t ∧ u.1 (1344 + (8 * o + r)) 3 = nI k ∧
    u.1 2368 (nI (8 * o + r)) = nI p ∧ u.1 2369 (nI (8 * o + r)) = nI w ∧ u.1 2370 (nI (8 * o + r)) = nI t ∧ u.1 2371 (nI (8 * o + r)) = nI k) ∧
  ∀ r r' p w w', r < n → r' < n → r ≠ r' → w < 2 ^ 31 → w' < 2 ^ 31 → u.1 2368 (nI (8 * o + r)) = nI p → u.1 2368 (nI (8 * o + r')) = nI p → u.1 2369 (nI (8 * o + r)) = nI w → u.1 2369 (nI (8 * o + r')) = nI w' → w + 4 ≤ w' ∨ w' + 4 ≤ w
def RNam (u : Mr) : Prop := ∀ k, k < 16 → (u.1 (1280 + k) 4 = -1 ∧ u.1 2432 (nI k) = 0 ∨ ∃ l n, l < 4 ∧ n < 100 ∧ u.1 (1280 + k) 4 = nI l ∧ u.1 2432 (nI k) = nI (l + 1) ∧ u.1 (1280 + k) 5 = nI n ∧ u.1 2433 (nI k) = nI n) ∧ u.1 (1280 + k) 6 = u.1 2496 (nI k) ∧ (u.1 (1280 + k) 6 = 0 ∨ u.1 (1280 + k) 6 = 1)
def ROff (u : Mr) : Prop := ∀ l n, l < 4 → n < 100 → u.1 (320 + l) (nI n) = u.1 2560 (nI (100 * l + n))
/-- an image of the class (its object i, its bytes i + 64) and a row of the reference, of the same length -/
def RImg (u : Mr) (i : Nat) (row : Nat) (len : Int32) : Prop := ∃ n, n ≤ 14 ∧ u.1 i 1 = nI (64 * n) ∧ len = nI (64 * n) ∧ ∀ j, j < 64 * n → u.1 (i + 64) (nI j) &&& 255 = u.1 row (nI j)
def RByt (u : Mr) : Prop := (∀ i, byt (u.1 448 i)) ∧ (∀ i, byt (u.1 449 i)) ∧ ∀ i, byt (u.1 450 i)
def RLd (u : Mr) (g : Nat) : Prop := u.1 832 2 = u.1 2048 25 ∧ ((u.1 2048 24 = 0 ∧ u.1 (385 + g) 1 = 0 ∧ u.1 832 2 = 0 ∧ u.1 832 4 = 0) ∨
  (u.1 2048 24 = 1 ∧ RImg u (385 + g) 2626 (u.1 2048 26) ∧ (∃ a, a ≤ 1073741824 ∧ u.1 832 2 = nI a) ∧ u.1 832 3 = u.1 2048 28 ∧ u.1 832 4 = u.1 2048 29 ∧ ∃ b n m, u.1 832 3 = nI b ∧ u.1 832 4 = nI n ∧ u.1 (385 + g) 1 = nI m ∧ b + n ≤ m ∧ m ≤ 896))
def Cls (al : Nat → Bool) (u : Mr) : Prop := ∀ k j a, u.2.1 k j = some a → al a = true ∨ a = 1472
def Inv (al : Nat → Bool) (u : Mr) : Prop := (okk al 1 64 = true ∧ okk al 32 2048 = true ∧ okk al 22 1408 = true ∧ al 0 = false) ∧ Cls al u ∧ Sc al u ∧ Sm al u ∧ Sr al u ∧ RPart u ∧ RDef u ∧ RRef u ∧ RNam u ∧ ROff u ∧ RImg u 384 2624 (u.1 2048 16) ∧ RByt u ∧ ∃ g, Sg al u g ∧ RLd u g
theorem Sc.fr {S : Nat → Prop} {al : Nat → Bool} {u v : Mr} (h : Fr S u v) (q : Sc al u) : Sc al v := by
  unfold Sc at q ⊢
  simp only [h.rd]
  exact q
theorem Sm.fr {S : Nat → Prop} {al : Nat → Bool} {u v : Mr} (h : Fr S u v) (q : Sm al u) : Sm al v := by
  unfold Sm at q ⊢
  simp only [h.rd]
  exact q
theorem Sg.fr {S : Nat → Prop} {al : Nat → Bool} {u v : Mr} {g : Nat} (h : Fr S u v) (q : Sg al u g) : Sg al v g := by
  unfold Sg at q ⊢
  simp only [h.rd]
  exact q
theorem Cls.fr {S : Nat → Prop} {al : Nat → Bool} {u v : Mr} (h : Fr S u v) (q : Cls al u) : Cls al v := by
  unfold Cls at q ⊢
  rw [h.1]
  exact q
theorem Sr.fr {S : Nat → Prop} {al : Nat → Bool} {u v : Mr} (h : Fr S u v) (hs : ∀ o, o < 4 → ¬ S (1152 + o)) (q : Sr al u) : Sr al v := by
  intro o ho
  obtain ⟨n, h1, h2, h3, h4, h5⟩ := q o ho
  refine ⟨n, h1, by rw [h.2 _ (hs o ho)]; exact h2, by rw [h.1]; exact h3, ?_, h5⟩
  simp only [h.rd]
  exact h4
theorem RPart.fr {S : Nat → Prop} {u v : Mr} (h : Fr S u v) (h1 : ∀ q, q < 8 → ¬ S (1024 + q) ∧ ¬ S (1088 + q)) (h2 : ¬ S 2112 ∧ ¬ S 2176) (q : RPart u) : RPart v := by
  intro k hk
  obtain ⟨n, a1, a2, a3, a4, a5⟩ := q k hk
  obtain ⟨b1, b2⟩ := h1 k hk
  refine ⟨n, a1, by rw [h.2 _ b1]; exact a2, by rw [h.2 _ h2.1]; exact a3, ?_, ?_⟩
  · rw [h.2 _ b2, h.2 _ h2.2]
    exact a4
  · rw [h.2 _ b2]
    exact a5
theorem dcnt_fr {u v : Mr} (h : v.1 2304 = u.1 2304) (o k : Nat) : ∀ n, dcnt v o k n = dcnt u o k n
  | 0 => rfl
  | n + 1 => by rw [dcnt, dcnt, dcnt_fr h o k n, h]
theorem RDef.fr {S : Nat → Prop} {u v : Mr} (h : Fr S u v) (h1 : ∀ o, o < 4 → ¬ S (896 + o)) (h2 : ∀ k, k < 16 → v.1 (1280 + k) 0 = u.1 (1280 + k) 0 ∧ v.1 (1280 + k) 1 = u.1 (1280 + k) 1 ∧ v.1 (1280 + k) 2 = u.1 (1280 + k) 2 ∧ v.1 (1280 + k) 3 = u.1 (1280 + k) 3) (h3 : ¬ S 2240 ∧ ¬ S 2304 ∧ ¬ S 2305 ∧ ¬ S 2306) (q : RDef u) : RDef v := by
  obtain ⟨d, a1, a2, a3⟩ := q
  have e := dcnt_fr (h.2 _ h3.2.1)
  refine ⟨d, fun o ho => ?_, fun o j ho hj => ?_, fun k hk => ?_⟩
  · rw [h.2 _ (h1 o ho), h.2 _ h3.1]
    exact a1 o ho
  · rw [h.2 _ h3.2.1, h.2 _ h3.2.2.1, h.2 _ h3.2.2.2]
    exact a2 o j ho hj
  · obtain ⟨e0, e1, e2, e3⟩ := h2 k hk
    rw [e0, e1, e2, e3]
    simp only [e]
    rw [h.2 _ h3.2.1, h.2 _ h3.2.2.1, h.2 _ h3.2.2.2]
    exact a3 k hk
theorem RRef.fr {S : Nat → Prop} {u v : Mr} (h : Fr S u v) (h1 : ∀ o, o < 4 → ¬ S (1152 + o)) (h2 : ∀ r, r < 32 → ¬ S (1344 + r)) (h3 : ∀ q, q < 8 → ¬ S (1024 + q)) (h4 : ¬ S 2241 ∧ ¬ S 2368 ∧ ¬ S 2369 ∧ ¬ S 2370 ∧ ¬ S 2371) (q : RRef u) : RRef v := by
  intro o ho
  obtain ⟨n, a1, a2, a3, a4, a5⟩ := q o ho
  refine ⟨n, a1, by rw [h.2 _ (h1 o ho)]; exact a2, by rw [h.2 _ h4.1]; exact a3, fun r hr => ?_, ?_⟩
  · obtain ⟨p, w, t, k, m, b1, b⟩ := a4 r hr
    refine ⟨p, w, t, k, m, b1, ?_⟩
    rw [h.2 _ (h2 _ (by omega)), h.2 _ (h3 (2 * o + p) (by omega)), h.2 _ h4.2.1, h.2 _ h4.2.2.1, h.2 _ h4.2.2.2.1, h.2 _ h4.2.2.2.2]
    exact b
  · rw [h.2 _ h4.2.1, h.2 _ h4.2.2.1]
    exact a5
theorem RNam.fr {S : Nat → Prop} {u v : Mr} (h : Fr S u v) (h1 : ∀ k, k < 16 → v.1 (1280 + k) 4 = u.1 (1280 + k) 4 ∧ v.1 (1280 + k) 5 = u.1 (1280 + k) 5 ∧ v.1 (1280 + k) 6 = u.1 (1280 + k) 6) (h2 : ¬ S 2432 ∧ ¬ S 2433 ∧ ¬ S 2496) (q : RNam u) : RNam v := by
  intro k hk
  obtain ⟨e1, e2, e3⟩ := h1 k hk
  rw [e1, e2, e3, h.2 _ h2.1, h.2 _ h2.2.1, h.2 _ h2.2.2]
  exact q k hk
theorem ROff.fr {S : Nat → Prop} {u v : Mr} (h : Fr S u v) (h1 : ∀ l, l < 4 → ¬ S (320 + l)) (h2 : ¬ S 2560) (q : ROff u) : ROff v := by
  intro l n hl hn
  rw [h.2 _ (h1 l hl), h.2 _ h2]
  exact q l n hl hn
theorem RImg.fr {u v : Mr} {i row : Nat} {len : Int32} (h1 : v.1 i 1 = u.1 i 1) (h2 : v.1 (i + 64) = u.1 (i + 64)) (h3 : v.1 row = u.1 row) (q : RImg u i row len) : RImg v i row len := by
  obtain ⟨n, a1, a2, a3, a4⟩ := q
  exact ⟨n, a1, by rw [h1]; exact a2, a3, by rw [h2, h3]; exact a4⟩
theorem RByt.fr {S : Nat → Prop} {u v : Mr} (h : Fr S u v) (h1 : ¬ S 448 ∧ ¬ S 449 ∧ ¬ S 450) (q : RByt u) : RByt v := by
  unfold RByt at q ⊢
  rw [h.2 _ h1.1, h.2 _ h1.2.1, h.2 _ h1.2.2]
  exact q
theorem RLd.fr {S : Nat → Prop} {u v : Mr} {g : Nat} (h : Fr S u v) (h1 : ¬ S 832 ∧ ¬ S (385 + g) ∧ ¬ S (449 + g) ∧ ¬ S 2626) (h2 : v.1 2048 24 = u.1 2048 24 ∧ v.1 2048 25 = u.1 2048 25 ∧ v.1 2048 26 = u.1 2048 26 ∧ v.1 2048 28 = u.1 2048 28 ∧ v.1 2048 29 = u.1 2048 29) (q : RLd u g) : RLd v g := by
  unfold RLd at q ⊢
  obtain ⟨e1, e2, e3, e4, e5⟩ := h2
  have hi : ∀ len, RImg u (385 + g) 2626 len → RImg v (385 + g) 2626 len := fun len => RImg.fr (by rw [h.2 _ h1.2.1]) (by rw [show 385 + g + 64 = 449 + g by omega, h.2 _ h1.2.2.1]) (h.2 _ h1.2.2.2)
  rw [h.2 _ h1.1, h.2 _ h1.2.1, e1, e2, e3, e4, e5]
  exact ⟨q.1, q.2.imp id (fun z => ⟨z.1, hi _ z.2.1, z.2.2⟩)⟩
/-- all but what a call changes -/
theorem Inv.base {al : Nat → Bool} {u : Mr} (h : Inv al u) : Sc al u ∧ Sm al u := ⟨h.2.2.1, h.2.2.2.1⟩

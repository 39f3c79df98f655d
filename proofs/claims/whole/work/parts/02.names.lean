/-! Names: classes, fields, methods, by program out of the Statement's tables and the listings. -/
def T_Fg : u_T := fun k => match k with
  | 0 => ("ImageForge", "objects", "[LImageForge$ObjectFile;", true)
  | 1 => ("ImageForge", "names", "[LImageForge$Name;", true)
  | 2 => ("ImageForge", "offers", "[[I", true)
  | 3 => ("ImageForge", "linked", "LImageForge$Image;", true)
  | 4 => ("ImageForge", "linker", "LImageForge$Linker;", true)
  | _ => ("ImageForge", "loader", "LImageForge$Loader;", true)
def t_Fg : Nat → FieldType := fun k => match k with
  | 0 => .array (.object "ImageForge$ObjectFile")
  | 1 => .array (.object "ImageForge$Name")
  | 2 => .array (.array .int)
  | 3 => .object "ImageForge$Image"
  | 4 => .object "ImageForge$Linker"
  | _ => .object "ImageForge$Loader"
theorem nm_Fg : ∀ a, a < 6 → ∀ b, b < 6 → a ≠ b → (T_Fg a).2.1 ≠ (T_Fg b).2.1 := by decide +kernel
theorem t_Fg_ok : ∀ k, k < 6 → parseFieldDescriptor (T_Fg k).2.2.1 = some (t_Fg k) := by decide +kernel
def T_Im : u_T := fun k => match k with
  | 0 => ("ImageForge$Image", "bytes", "[B", true)
  | _ => ("ImageForge$Image", "size", "I", false)
def t_Im : Nat → FieldType := fun k => match k with
  | 0 => .array .byte
  | _ => .int
theorem nm_Im : ∀ a, a < 2 → ∀ b, b < 2 → a ≠ b → (T_Im a).2.1 ≠ (T_Im b).2.1 := by decide +kernel
theorem t_Im_ok : ∀ k, k < 2 → parseFieldDescriptor (T_Im k).2.2.1 = some (t_Im k) := by decide +kernel
def T_Lk : u_T := fun k => match k with
  | 0 => ("ImageForge$Linker", "placeOfName", "[I", true)
  | 1 => ("ImageForge$Linker", "placeOfPart", "[[I", true)
  | _ => ("ImageForge$Linker", "absolute", "[Z", true)
def t_Lk : Nat → FieldType := fun k => match k with
  | 0 => .array .int
  | 1 => .array (.array .int)
  | _ => .array .boolean
theorem nm_Lk : ∀ a, a < 3 → ∀ b, b < 3 → a ≠ b → (T_Lk a).2.1 ≠ (T_Lk b).2.1 := by decide +kernel
theorem t_Lk_ok : ∀ k, k < 3 → parseFieldDescriptor (T_Lk k).2.2.1 = some (t_Lk k) := by decide +kernel
def T_Ld : u_T := fun k => match k with
  | 0 => ("ImageForge$Loader", "loaded", "LImageForge$Image;", false)
  | 1 => ("ImageForge$Loader", "draft", "LImageForge$Image;", false)
  | 2 => ("ImageForge$Loader", "loadedAt", "I", false)
  | 3 => ("ImageForge$Loader", "exportsBegin", "I", false)
  | _ => ("ImageForge$Loader", "exportsSize", "I", false)
def t_Ld : Nat → FieldType := fun k => match k with
  | 0 => .object "ImageForge$Image"
  | 1 => .object "ImageForge$Image"
  | 2 => .int
  | 3 => .int
  | _ => .int
theorem nm_Ld : ∀ a, a < 5 → ∀ b, b < 5 → a ≠ b → (T_Ld a).2.1 ≠ (T_Ld b).2.1 := by decide +kernel
theorem t_Ld_ok : ∀ k, k < 5 → parseFieldDescriptor (T_Ld k).2.2.1 = some (t_Ld k) := by decide +kernel
def T_Ob : u_T := fun k => match k with
  | 0 => ("ImageForge$ObjectFile", "parts", "[LImageForge$Part;", true)
  | 1 => ("ImageForge$ObjectFile", "references", "Ljava/util/ArrayList;", true)
  | _ => ("ImageForge$ObjectFile", "definitions", "I", false)
def t_Ob : Nat → FieldType := fun k => match k with
  | 0 => .array (.object "ImageForge$Part")
  | 1 => .object "java/util/ArrayList"
  | _ => .int
theorem nm_Ob : ∀ a, a < 3 → ∀ b, b < 3 → a ≠ b → (T_Ob a).2.1 ≠ (T_Ob b).2.1 := by decide +kernel
theorem t_Ob_ok : ∀ k, k < 3 → parseFieldDescriptor (T_Ob k).2.2.1 = some (t_Ob k) := by decide +kernel
def T_Pt : u_T := fun k => match k with
  | 0 => ("ImageForge$Part", "bytes", "[B", true)
  | _ => ("ImageForge$Part", "size", "I", false)
def t_Pt : Nat → FieldType := fun k => match k with
  | 0 => .array .byte
  | _ => .int
theorem nm_Pt : ∀ a, a < 2 → ∀ b, b < 2 → a ≠ b → (T_Pt a).2.1 ≠ (T_Pt b).2.1 := by decide +kernel
theorem t_Pt_ok : ∀ k, k < 2 → parseFieldDescriptor (T_Pt k).2.2.1 = some (t_Pt k) := by decide +kernel
def T_Al : u_T := fun k => match k with
  | 0 => ("java/util/AbstractList", "modCount", "I", false)
  | 1 => ("java/util/ArrayList", "elementData", "[Ljava/lang/Object;", false)
  | _ => ("java/util/ArrayList", "size", "I", false)
def t_Al : Nat → FieldType := fun k => match k with
  | 0 => .int
  | 1 => .array (.object "java/lang/Object")
  | _ => .int
theorem nm_Al : ∀ a, a < 3 → ∀ b, b < 3 → a ≠ b → (T_Al a).2.1 ≠ (T_Al b).2.1 := by decide +kernel
theorem t_Al_ok : ∀ k, k < 3 → parseFieldDescriptor (T_Al k).2.2.1 = some (t_Al k) := by decide +kernel
def T_Nm : u_T := fun k => match k with
  | 0 => ("ImageForge$Name", "definitions", "I", false)
  | 1 => ("ImageForge$Name", "object", "I", false)
  | 2 => ("ImageForge$Name", "part", "I", false)
  | 3 => ("ImageForge$Name", "place", "I", false)
  | 4 => ("ImageForge$Name", "library", "I", false)
  | 5 => ("ImageForge$Name", "ordinal", "I", false)
  | _ => ("ImageForge$Name", "exported", "Z", false)
def t_Nm : Nat → FieldType := fun k => match k with
  | 0 => .int
  | 1 => .int
  | 2 => .int
  | 3 => .int
  | 4 => .int
  | 5 => .int
  | _ => .boolean
theorem nm_Nm : ∀ a, a < 7 → ∀ b, b < 7 → a ≠ b → (T_Nm a).2.1 ≠ (T_Nm b).2.1 := by decide +kernel
theorem t_Nm_ok : ∀ k, k < 7 → parseFieldDescriptor (T_Nm k).2.2.1 = some (t_Nm k) := by decide +kernel
def T_Rf : u_T := fun k => match k with
  | 0 => ("ImageForge$Reference", "part", "I", true)
  | 1 => ("ImageForge$Reference", "place", "I", true)
  | 2 => ("ImageForge$Reference", "kind", "I", true)
  | _ => ("ImageForge$Reference", "name", "I", true)
def t_Rf : Nat → FieldType := fun k => match k with
  | 0 => .int
  | 1 => .int
  | 2 => .int
  | _ => .int
theorem nm_Rf : ∀ a, a < 4 → ∀ b, b < 4 → a ≠ b → (T_Rf a).2.1 ≠ (T_Rf b).2.1 := by decide +kernel
theorem t_Rf_ok : ∀ k, k < 4 → parseFieldDescriptor (T_Rf k).2.2.1 = some (t_Rf k) := by decide +kernel
def T_Md : u_T := fun k => match k with
  | 0 => ("ImageForgeModel", "thrown", "I", false)
  | 1 => ("ImageForgeModel", "size", "[I", true)
  | 2 => ("ImageForgeModel", "bytes", "[I", true)
  | 3 => ("ImageForgeModel", "definitions", "[I", true)
  | 4 => ("ImageForgeModel", "definedName", "[I", true)
  | 5 => ("ImageForgeModel", "definedPart", "[I", true)
  | 6 => ("ImageForgeModel", "definedPlace", "[I", true)
  | 7 => ("ImageForgeModel", "references", "[I", true)
  | 8 => ("ImageForgeModel", "refersPart", "[I", true)
  | 9 => ("ImageForgeModel", "refersPlace", "[I", true)
  | 10 => ("ImageForgeModel", "refersKind", "[I", true)
  | 11 => ("ImageForgeModel", "refersName", "[I", true)
  | 12 => ("ImageForgeModel", "library", "[I", true)
  | 13 => ("ImageForgeModel", "ordinal", "[I", true)
  | 14 => ("ImageForgeModel", "exported", "[Z", true)
  | 15 => ("ImageForgeModel", "offers", "[I", true)
  | 16 => ("ImageForgeModel", "length", "I", false)
  | 17 => ("ImageForgeModel", "image", "[I", true)
  | 18 => ("ImageForgeModel", "grown", "I", false)
  | 19 => ("ImageForgeModel", "next", "[I", true)
  | 20 => ("ImageForgeModel", "begins", "[I", true)
  | 21 => ("ImageForgeModel", "ends", "[I", true)
  | 22 => ("ImageForgeModel", "partAt", "[I", true)
  | 23 => ("ImageForgeModel", "place", "[I", true)
  | 24 => ("ImageForgeModel", "loaded", "Z", false)
  | 25 => ("ImageForgeModel", "at", "I", false)
  | 26 => ("ImageForgeModel", "loadedLength", "I", false)
  | 27 => ("ImageForgeModel", "there", "[I", true)
  | 28 => ("ImageForgeModel", "exportsAt", "I", false)
  | 29 => ("ImageForgeModel", "exportsSize", "I", false)
  | 30 => ("ImageForgeModel", "draft", "[I", true)
  | _ => ("ImageForgeModel", "wrong", "I", false)
def t_Md : Nat → FieldType := fun k => match k with
  | 0 => .int
  | 1 => .array .int
  | 2 => .array .int
  | 3 => .array .int
  | 4 => .array .int
  | 5 => .array .int
  | 6 => .array .int
  | 7 => .array .int
  | 8 => .array .int
  | 9 => .array .int
  | 10 => .array .int
  | 11 => .array .int
  | 12 => .array .int
  | 13 => .array .int
  | 14 => .array .boolean
  | 15 => .array .int
  | 16 => .int
  | 17 => .array .int
  | 18 => .int
  | 19 => .array .int
  | 20 => .array .int
  | 21 => .array .int
  | 22 => .array .int
  | 23 => .array .int
  | 24 => .boolean
  | 25 => .int
  | 26 => .int
  | 27 => .array .int
  | 28 => .int
  | 29 => .int
  | 30 => .array .int
  | _ => .int
theorem nm_Md : ∀ a, a < 32 → ∀ b, b < 32 → a ≠ b → (T_Md a).2.1 ≠ (T_Md b).2.1 := by decide +kernel
theorem t_Md_ok : ∀ k, k < 32 → parseFieldDescriptor (T_Md k).2.2.1 = some (t_Md k) := by decide +kernel
abbrev vwCl : List vw_C := [("ImageForge", T_Fg, 6), ("ImageForge$Image", T_Im, 2), ("ImageForge$Linker", T_Lk, 3), ("ImageForge$Loader", T_Ld, 5), ("ImageForge$ObjectFile", T_Ob, 3), ("ImageForge$Part", T_Pt, 2), ("java/util/ArrayList", T_Al, 3), ("ImageForge$Name", T_Nm, 7), ("ImageForge$Reference", T_Rf, 4), ("ImageForgeModel", T_Md, 32)]
/-- the good words of the tables: every method of ours is proved over this one list -/
def bw : List Cond := lw_tbl.filter goodWord
theorem bw_t {w : Cond} (h : w ∈ tables_1) (g : goodWord w = true) : w ∈ bw := List.mem_filter.mpr ⟨List.mem_append_right _ h, g⟩
theorem bw_s {w : Cond} (h : w ∈ k2_sels lw_privs) (g : goodWord w = true) : w ∈ bw := List.mem_filter.mpr ⟨List.mem_append_left _ h, g⟩
theorem gd_of {w : Cond} (h : w ∈ bw) : GoodIn bw (w :: bw) := fun x hx => (List.mem_cons.mp hx).elim (fun e => by rw [e]; exact ⟨h, good_of_word (List.mem_filter.mp h).2⟩) (fun q => ⟨q, good_of_word (List.mem_filter.mp q).2⟩)
theorem hts_bw {w : Cond} {args : Array Value} {s : State} (h : ∀ x ∈ w :: bw, x.before args s = true) : ∀ x ∈ bw, x.before args s = true := fun x hx => h x (List.mem_cons_of_mem _ hx)
set_option maxRecDepth 100000 in
theorem in_Fg : ∀ w ∈ u_ws "ImageForge" T_Fg 6, w ∈ bw := by
  intro w hw
  have h : (u_ws "ImageForge" T_Fg 6).all (fun w => decide (w ∈ tables_1) && goodWord w) = true := by decide +kernel
  have h2 := List.all_eq_true.mp h w hw
  rw [Bool.and_eq_true] at h2
  exact bw_t (of_decide_eq_true h2.1) h2.2
set_option maxRecDepth 100000 in
theorem in_Im : ∀ w ∈ u_ws "ImageForge$Image" T_Im 2, w ∈ bw := by
  intro w hw
  have h : (u_ws "ImageForge$Image" T_Im 2).all (fun w => decide (w ∈ tables_1) && goodWord w) = true := by decide +kernel
  have h2 := List.all_eq_true.mp h w hw
  rw [Bool.and_eq_true] at h2
  exact bw_t (of_decide_eq_true h2.1) h2.2
set_option maxRecDepth 100000 in
theorem in_Lk : ∀ w ∈ u_ws "ImageForge$Linker" T_Lk 3, w ∈ bw := by
  intro w hw
  have h : (u_ws "ImageForge$Linker" T_Lk 3).all (fun w => decide (w ∈ tables_1) && goodWord w) = true := by decide +kernel
  have h2 := List.all_eq_true.mp h w hw
  rw [Bool.and_eq_true] at h2
  exact bw_t (of_decide_eq_true h2.1) h2.2
set_option maxRecDepth 100000 in
theorem in_Ld : ∀ w ∈ u_ws "ImageForge$Loader" T_Ld 5, w ∈ bw := by
  intro w hw
  have h : (u_ws "ImageForge$Loader" T_Ld 5).all (fun w => decide (w ∈ tables_1) && goodWord w) = true := by decide +kernel
  have h2 := List.all_eq_true.mp h w hw
  rw [Bool.and_eq_true] at h2
  exact bw_t (of_decide_eq_true h2.1) h2.2
set_option maxRecDepth 100000 in
theorem in_Ob : ∀ w ∈ u_ws "ImageForge$ObjectFile" T_Ob 3, w ∈ bw := by
  intro w hw
  have h : (u_ws "ImageForge$ObjectFile" T_Ob 3).all (fun w => decide (w ∈ tables_1) && goodWord w) = true := by decide +kernel
  have h2 := List.all_eq_true.mp h w hw
  rw [Bool.and_eq_true] at h2
  exact bw_t (of_decide_eq_true h2.1) h2.2
set_option maxRecDepth 100000 in
theorem in_Pt : ∀ w ∈ u_ws "ImageForge$Part" T_Pt 2, w ∈ bw := by
  intro w hw
  have h : (u_ws "ImageForge$Part" T_Pt 2).all (fun w => decide (w ∈ tables_1) && goodWord w) = true := by decide +kernel
  have h2 := List.all_eq_true.mp h w hw
  rw [Bool.and_eq_true] at h2
  exact bw_t (of_decide_eq_true h2.1) h2.2
set_option maxRecDepth 100000 in
theorem in_Al : ∀ w ∈ u_ws "java/util/ArrayList" T_Al 3, w ∈ bw := by
  intro w hw
  have h : (u_ws "java/util/ArrayList" T_Al 3).all (fun w => decide (w ∈ tables_1) && goodWord w) = true := by decide +kernel
  have h2 := List.all_eq_true.mp h w hw
  rw [Bool.and_eq_true] at h2
  exact bw_t (of_decide_eq_true h2.1) h2.2
set_option maxRecDepth 100000 in
theorem in_Nm : ∀ w ∈ u_ws "ImageForge$Name" T_Nm 7, w ∈ bw := by
  intro w hw
  have h : (u_ws "ImageForge$Name" T_Nm 7).all (fun w => decide (w ∈ tables_1) && goodWord w) = true := by decide +kernel
  have h2 := List.all_eq_true.mp h w hw
  rw [Bool.and_eq_true] at h2
  exact bw_t (of_decide_eq_true h2.1) h2.2
set_option maxRecDepth 100000 in
theorem in_Rf : ∀ w ∈ u_ws "ImageForge$Reference" T_Rf 4, w ∈ bw := by
  intro w hw
  have h : (u_ws "ImageForge$Reference" T_Rf 4).all (fun w => decide (w ∈ tables_1) && goodWord w) = true := by decide +kernel
  have h2 := List.all_eq_true.mp h w hw
  rw [Bool.and_eq_true] at h2
  exact bw_t (of_decide_eq_true h2.1) h2.2
set_option maxRecDepth 100000 in
theorem in_Md : ∀ w ∈ u_ws "ImageForgeModel" T_Md 32, w ∈ bw := by
  intro w hw
  have h : (u_ws "ImageForgeModel" T_Md 32).all (fun w => decide (w ∈ tables_1) && goodWord w) = true := by decide +kernel
  have h2 := List.all_eq_true.mp h w hw
  rw [Bool.and_eq_true] at h2
  exact bw_t (of_decide_eq_true h2.1) h2.2
theorem tw_1 : (Jvm.Cond.initialized "ImageForge") ∈ bw := bw_t (List.mem_of_getElem? (i := 1) (by decide +kernel)) (by decide +kernel)
theorem tw_2 : (Jvm.Cond.initialized "ImageForge$Image") ∈ bw := bw_t (List.mem_of_getElem? (i := 2) (by decide +kernel)) (by decide +kernel)
theorem tw_3 : (Jvm.Cond.initialized "ImageForge$Linker") ∈ bw := bw_t (List.mem_of_getElem? (i := 3) (by decide +kernel)) (by decide +kernel)
theorem tw_4 : (Jvm.Cond.initialized "ImageForge$Loader") ∈ bw := bw_t (List.mem_of_getElem? (i := 4) (by decide +kernel)) (by decide +kernel)
theorem tw_9 : (Jvm.Cond.initialized "java/util/ArrayList") ∈ bw := bw_t (List.mem_of_getElem? (i := 9) (by decide +kernel)) (by decide +kernel)
theorem tw_10 : (Jvm.Cond.initialized "ImageForge$Name") ∈ bw := bw_t (List.mem_of_getElem? (i := 10) (by decide +kernel)) (by decide +kernel)
theorem tw_11 : (Jvm.Cond.initialized "ImageForgeModel") ∈ bw := bw_t (List.mem_of_getElem? (i := 11) (by decide +kernel)) (by decide +kernel)
theorem tw_17 : (Jvm.Cond.initialized "java/util/Objects") ∈ bw := bw_t (List.mem_of_getElem? (i := 17) (by decide +kernel)) (by decide +kernel)
theorem tw_18 : (Jvm.Cond.initialized "jdk/internal/util/Preconditions") ∈ bw := bw_t (List.mem_of_getElem? (i := 18) (by decide +kernel)) (by decide +kernel)
theorem tw_19 : (Jvm.Cond.initialized "java/lang/Math") ∈ bw := bw_t (List.mem_of_getElem? (i := 19) (by decide +kernel)) (by decide +kernel)
theorem tw_21 : (Jvm.Cond.initialized "ImageForge$Reference") ∈ bw := bw_t (List.mem_of_getElem? (i := 21) (by decide +kernel)) (by decide +kernel)
theorem tw_23 : (Jvm.Cond.initialized "java/util/Arrays") ∈ bw := bw_t (List.mem_of_getElem? (i := 23) (by decide +kernel)) (by decide +kernel)
theorem tw_24 : (Jvm.Cond.initialized "java/lang/System") ∈ bw := bw_t (List.mem_of_getElem? (i := 24) (by decide +kernel)) (by decide +kernel)
theorem tw_26 : (Jvm.Cond.initialized "java/lang/Integer") ∈ bw := bw_t (List.mem_of_getElem? (i := 26) (by decide +kernel)) (by decide +kernel)
theorem tw_47 : (Jvm.Cond.fieldLink "ImageForge$Image" (9 : Nat) "ImageForge$Image" "bytes" "[B") ∈ bw := bw_t (List.mem_of_getElem? (i := 47) (by decide +kernel)) (by decide +kernel)
theorem tw_49 : (Jvm.Cond.fieldLink "ImageForge$Image" (15 : Nat) "ImageForge$Image" "size" "I") ∈ bw := bw_t (List.mem_of_getElem? (i := 49) (by decide +kernel)) (by decide +kernel)
theorem tw_67 : (Jvm.Cond.fieldLink "ImageForge$Linker" (9 : Nat) "ImageForge$Linker" "placeOfName" "[I") ∈ bw := bw_t (List.mem_of_getElem? (i := 67) (by decide +kernel)) (by decide +kernel)
theorem tw_68 : (Jvm.Cond.fieldLink "ImageForge$Linker" (17 : Nat) "ImageForge$Linker" "placeOfPart" "[[I") ∈ bw := bw_t (List.mem_of_getElem? (i := 68) (by decide +kernel)) (by decide +kernel)
theorem tw_69 : (Jvm.Cond.fieldLink "ImageForge$Linker" (20 : Nat) "ImageForge$Linker" "absolute" "[Z") ∈ bw := bw_t (List.mem_of_getElem? (i := 69) (by decide +kernel)) (by decide +kernel)
theorem tw_86 : (Jvm.Cond.fieldLink "ImageForge$Loader" (12 : Nat) "ImageForge$Loader" "loaded" "LImageForge$Image;") ∈ bw := bw_t (List.mem_of_getElem? (i := 86) (by decide +kernel)) (by decide +kernel)
theorem tw_87 : (Jvm.Cond.fieldLink "ImageForge$Loader" (18 : Nat) "ImageForge$Loader" "draft" "LImageForge$Image;") ∈ bw := bw_t (List.mem_of_getElem? (i := 87) (by decide +kernel)) (by decide +kernel)
theorem tw_88 : (Jvm.Cond.fieldLink "ImageForge$Loader" (29 : Nat) "ImageForge$Loader" "loadedAt" "I") ∈ bw := bw_t (List.mem_of_getElem? (i := 88) (by decide +kernel)) (by decide +kernel)
theorem tw_89 : (Jvm.Cond.fieldLink "ImageForge$Loader" (37 : Nat) "ImageForge$Loader" "exportsBegin" "I") ∈ bw := bw_t (List.mem_of_getElem? (i := 89) (by decide +kernel)) (by decide +kernel)
theorem tw_90 : (Jvm.Cond.fieldLink "ImageForge$Loader" (43 : Nat) "ImageForge$Loader" "exportsSize" "I") ∈ bw := bw_t (List.mem_of_getElem? (i := 90) (by decide +kernel)) (by decide +kernel)
theorem tw_114 : (Jvm.Cond.fieldLink "ImageForge$Part" (9 : Nat) "ImageForge$Part" "bytes" "[B") ∈ bw := bw_t (List.mem_of_getElem? (i := 114) (by decide +kernel)) (by decide +kernel)
theorem tw_116 : (Jvm.Cond.fieldLink "ImageForge$Part" (15 : Nat) "ImageForge$Part" "size" "I") ∈ bw := bw_t (List.mem_of_getElem? (i := 116) (by decide +kernel)) (by decide +kernel)
theorem tw_138 : (Jvm.Cond.fieldLink "java/util/ArrayList" (9 : Nat) "java/util/ArrayList" "elementData" "[Ljava/lang/Object;") ∈ bw := bw_t (List.mem_of_getElem? (i := 138) (by decide +kernel)) (by decide +kernel)
theorem tw_139 : (Jvm.Cond.fieldLink "java/util/ArrayList" (48 : Nat) "java/util/ArrayList" "size" "I") ∈ bw := bw_t (List.mem_of_getElem? (i := 139) (by decide +kernel)) (by decide +kernel)
theorem tw_153 : (Jvm.Cond.fieldLink "ImageForge$ObjectFile" (21 : Nat) "ImageForge$ObjectFile" "references" "Ljava/util/ArrayList;") ∈ bw := bw_t (List.mem_of_getElem? (i := 153) (by decide +kernel)) (by decide +kernel)
theorem tw_169 : (Jvm.Cond.fieldLink "ImageForge$Name" (15 : Nat) "ImageForge$Name" "definitions" "I") ∈ bw := bw_t (List.mem_of_getElem? (i := 169) (by decide +kernel)) (by decide +kernel)
theorem tw_171 : (Jvm.Cond.fieldLink "ImageForge$Name" (18 : Nat) "ImageForge$Name" "object" "I") ∈ bw := bw_t (List.mem_of_getElem? (i := 171) (by decide +kernel)) (by decide +kernel)
theorem tw_173 : (Jvm.Cond.fieldLink "ImageForge$Name" (21 : Nat) "ImageForge$Name" "part" "I") ∈ bw := bw_t (List.mem_of_getElem? (i := 173) (by decide +kernel)) (by decide +kernel)
theorem tw_175 : (Jvm.Cond.fieldLink "ImageForge$Name" (24 : Nat) "ImageForge$Name" "place" "I") ∈ bw := bw_t (List.mem_of_getElem? (i := 175) (by decide +kernel)) (by decide +kernel)
theorem tw_177 : (Jvm.Cond.fieldLink "ImageForge$Name" (9 : Nat) "ImageForge$Name" "library" "I") ∈ bw := bw_t (List.mem_of_getElem? (i := 177) (by decide +kernel)) (by decide +kernel)
theorem tw_199 : (Jvm.Cond.fieldLink "ImageForge" (11 : Nat) "ImageForge" "objects" "[LImageForge$ObjectFile;") ∈ bw := bw_t (List.mem_of_getElem? (i := 199) (by decide +kernel)) (by decide +kernel)
theorem tw_200 : (Jvm.Cond.fieldLink "ImageForge" (17 : Nat) "ImageForge" "names" "[LImageForge$Name;") ∈ bw := bw_t (List.mem_of_getElem? (i := 200) (by decide +kernel)) (by decide +kernel)
theorem tw_204 : (Jvm.Cond.fieldLink "ImageForge" (43 : Nat) "ImageForge" "loader" "LImageForge$Loader;") ∈ bw := bw_t (List.mem_of_getElem? (i := 204) (by decide +kernel)) (by decide +kernel)
theorem tw_221 : (Jvm.Cond.code ({ cls := "ImageForge", name := "at", desc := "(I)I" } : Jvm.MethodName) prog_1_method_13_code (2 : Nat) (Option.some Jvm.ClassFile.FieldType.int)) ∈ bw := bw_t (List.mem_of_getElem? (i := 221) (by decide +kernel)) (by decide +kernel)
theorem tw_224 : (Jvm.Cond.instanceMethod ({ cls := "ImageForge$Loader", name := "byteAt", desc := "(I)I" } : Jvm.MethodName)) ∈ bw := bw_t (List.mem_of_getElem? (i := 224) (by decide +kernel)) (by decide +kernel)
theorem tw_225 : (Jvm.Cond.code ({ cls := "ImageForge$Loader", name := "byteAt", desc := "(I)I" } : Jvm.MethodName) prog_4_method_10_code (2 : Nat) (Option.some Jvm.ClassFile.FieldType.int)) ∈ bw := bw_t (List.mem_of_getElem? (i := 225) (by decide +kernel)) (by decide +kernel)
theorem tw_228 : (Jvm.Cond.instanceMethod ({ cls := "ImageForge$Image", name := "byteAt", desc := "(I)I" } : Jvm.MethodName)) ∈ bw := bw_t (List.mem_of_getElem? (i := 228) (by decide +kernel)) (by decide +kernel)
theorem tw_229 : (Jvm.Cond.code ({ cls := "ImageForge$Image", name := "byteAt", desc := "(I)I" } : Jvm.MethodName) prog_2_method_5_code (2 : Nat) (Option.some Jvm.ClassFile.FieldType.int)) ∈ bw := bw_t (List.mem_of_getElem? (i := 229) (by decide +kernel)) (by decide +kernel)
theorem tw_233 : (Jvm.Cond.code ({ cls := "ImageForge", name := "find", desc := "(I)I" } : Jvm.MethodName) prog_1_method_14_code (2 : Nat) (Option.some Jvm.ClassFile.FieldType.int)) ∈ bw := bw_t (List.mem_of_getElem? (i := 233) (by decide +kernel)) (by decide +kernel)
theorem tw_236 : (Jvm.Cond.instanceMethod ({ cls := "ImageForge$Loader", name := "addressOf", desc := "(I)I" } : Jvm.MethodName)) ∈ bw := bw_t (List.mem_of_getElem? (i := 236) (by decide +kernel)) (by decide +kernel)
theorem tw_237 : (Jvm.Cond.code ({ cls := "ImageForge$Loader", name := "addressOf", desc := "(I)I" } : Jvm.MethodName) prog_4_method_11_code (6 : Nat) (Option.some Jvm.ClassFile.FieldType.int)) ∈ bw := bw_t (List.mem_of_getElem? (i := 237) (by decide +kernel)) (by decide +kernel)
theorem tw_240 : (Jvm.Cond.instanceMethod ({ cls := "ImageForge$Image", name := "wordAt", desc := "(I)I" } : Jvm.MethodName)) ∈ bw := bw_t (List.mem_of_getElem? (i := 240) (by decide +kernel)) (by decide +kernel)
theorem tw_241 : (Jvm.Cond.code ({ cls := "ImageForge$Image", name := "wordAt", desc := "(I)I" } : Jvm.MethodName) prog_2_method_9_code (2 : Nat) (Option.some Jvm.ClassFile.FieldType.int)) ∈ bw := bw_t (List.mem_of_getElem? (i := 241) (by decide +kernel)) (by decide +kernel)
theorem tw_251 : (Jvm.Cond.methodLink "ImageForge" (49 : Nat) ({ cls := "ImageForge", name := "isBelow", desc := "(II)Z" } : Jvm.MethodName)) ∈ bw := bw_t (List.mem_of_getElem? (i := 251) (by decide +kernel)) (by decide +kernel)
theorem tw_252 : (Jvm.Cond.static ({ cls := "ImageForge", name := "isBelow", desc := "(II)Z" } : Jvm.MethodName)) ∈ bw := bw_t (List.mem_of_getElem? (i := 252) (by decide +kernel)) (by decide +kernel)
theorem tw_253 : (Jvm.Cond.code ({ cls := "ImageForge", name := "isBelow", desc := "(II)Z" } : Jvm.MethodName) prog_1_method_15_code (2 : Nat) (Option.some Jvm.ClassFile.FieldType.boolean)) ∈ bw := bw_t (List.mem_of_getElem? (i := 253) (by decide +kernel)) (by decide +kernel)
theorem tw_340 : (Jvm.Cond.code ({ cls := "ImageForge$Part", name := "append", desc := "(JI)V" } : Jvm.MethodName) prog_7_method_2_code (5 : Nat) (Option.none : Option Jvm.ClassFile.FieldType)) ∈ bw := bw_t (List.mem_of_getElem? (i := 340) (by decide +kernel)) (by decide +kernel)
theorem tw_354 : (Jvm.Cond.code ({ cls := "ImageForge$Name", name := "defineAt", desc := "(III)V" } : Jvm.MethodName) prog_5_method_2_code (4 : Nat) (Option.none : Option Jvm.ClassFile.FieldType)) ∈ bw := bw_t (List.mem_of_getElem? (i := 354) (by decide +kernel)) (by decide +kernel)
theorem tw_366 : (Jvm.Cond.code ({ cls := "ImageForge$Part", name := "holdsWord", desc := "(I)Z" } : Jvm.MethodName) prog_7_method_3_code (2 : Nat) (Option.some Jvm.ClassFile.FieldType.boolean)) ∈ bw := bw_t (List.mem_of_getElem? (i := 366) (by decide +kernel)) (by decide +kernel)
theorem tw_370 : (Jvm.Cond.code ({ cls := "ImageForge$ObjectFile", name := "overlaps", desc := "(II)Z" } : Jvm.MethodName) prog_6_method_2_code (5 : Nat) (Option.some Jvm.ClassFile.FieldType.boolean)) ∈ bw := bw_t (List.mem_of_getElem? (i := 370) (by decide +kernel)) (by decide +kernel)
theorem tw_371 : (Jvm.Cond.methodLink "ImageForge$ObjectFile" (25 : Nat) ({ cls := "java/util/ArrayList", name := "size", desc := "()I" } : Jvm.MethodName)) ∈ bw := bw_t (List.mem_of_getElem? (i := 371) (by decide +kernel)) (by decide +kernel)
theorem tw_372 : (Jvm.Cond.instanceMethod ({ cls := "java/util/ArrayList", name := "size", desc := "()I" } : Jvm.MethodName)) ∈ bw := bw_t (List.mem_of_getElem? (i := 372) (by decide +kernel)) (by decide +kernel)
theorem tw_373 : (Jvm.Cond.selects "java/util/ArrayList" ({ cls := "java/util/ArrayList", name := "size", desc := "()I" } : Jvm.MethodName) ({ cls := "java/util/ArrayList", name := "size", desc := "()I" } : Jvm.MethodName)) ∈ bw := bw_t (List.mem_of_getElem? (i := 373) (by decide +kernel)) (by decide +kernel)
theorem tw_374 : (Jvm.Cond.code ({ cls := "java/util/ArrayList", name := "size", desc := "()I" } : Jvm.MethodName) prog_26_method_8_code (1 : Nat) (Option.some Jvm.ClassFile.FieldType.int)) ∈ bw := bw_t (List.mem_of_getElem? (i := 374) (by decide +kernel)) (by decide +kernel)
theorem tw_375 : (Jvm.Cond.methodLink "ImageForge$ObjectFile" (29 : Nat) ({ cls := "java/util/ArrayList", name := "get", desc := "(I)Ljava/lang/Object;" } : Jvm.MethodName)) ∈ bw := bw_t (List.mem_of_getElem? (i := 375) (by decide +kernel)) (by decide +kernel)
theorem tw_376 : (Jvm.Cond.instanceMethod ({ cls := "java/util/ArrayList", name := "get", desc := "(I)Ljava/lang/Object;" } : Jvm.MethodName)) ∈ bw := bw_t (List.mem_of_getElem? (i := 376) (by decide +kernel)) (by decide +kernel)
theorem tw_377 : (Jvm.Cond.selects "java/util/ArrayList" ({ cls := "java/util/ArrayList", name := "get", desc := "(I)Ljava/lang/Object;" } : Jvm.MethodName) ({ cls := "java/util/ArrayList", name := "get", desc := "(I)Ljava/lang/Object;" } : Jvm.MethodName)) ∈ bw := bw_t (List.mem_of_getElem? (i := 377) (by decide +kernel)) (by decide +kernel)
theorem tw_378 : (Jvm.Cond.code ({ cls := "java/util/ArrayList", name := "get", desc := "(I)Ljava/lang/Object;" } : Jvm.MethodName) prog_26_method_20_code (2 : Nat) (Option.some (Jvm.ClassFile.FieldType.object "java/lang/Object"))) ∈ bw := bw_t (List.mem_of_getElem? (i := 378) (by decide +kernel)) (by decide +kernel)
theorem tw_379 : (Jvm.Cond.methodLink "java/util/ArrayList" (118 : Nat) ({ cls := "java/util/Objects", name := "checkIndex", desc := "(II)I" } : Jvm.MethodName)) ∈ bw := bw_t (List.mem_of_getElem? (i := 379) (by decide +kernel)) (by decide +kernel)
theorem tw_380 : (Jvm.Cond.static ({ cls := "java/util/Objects", name := "checkIndex", desc := "(II)I" } : Jvm.MethodName)) ∈ bw := bw_t (List.mem_of_getElem? (i := 380) (by decide +kernel)) (by decide +kernel)
theorem tw_381 : (Jvm.Cond.code ({ cls := "java/util/Objects", name := "checkIndex", desc := "(II)I" } : Jvm.MethodName) prog_31_method_17_code (2 : Nat) (Option.some Jvm.ClassFile.FieldType.int)) ∈ bw := bw_t (List.mem_of_getElem? (i := 381) (by decide +kernel)) (by decide +kernel)
theorem tw_382 : (Jvm.Cond.methodLink "java/util/Objects" (105 : Nat) ({ cls := "jdk/internal/util/Preconditions", name := "checkIndex", desc := "(IILjava/util/function/BiFunction;)I" } : Jvm.MethodName)) ∈ bw := bw_t (List.mem_of_getElem? (i := 382) (by decide +kernel)) (by decide +kernel)
theorem tw_383 : (Jvm.Cond.static ({ cls := "jdk/internal/util/Preconditions", name := "checkIndex", desc := "(IILjava/util/function/BiFunction;)I" } : Jvm.MethodName)) ∈ bw := bw_t (List.mem_of_getElem? (i := 383) (by decide +kernel)) (by decide +kernel)
theorem tw_384 : (Jvm.Cond.code ({ cls := "jdk/internal/util/Preconditions", name := "checkIndex", desc := "(IILjava/util/function/BiFunction;)I" } : Jvm.MethodName) prog_35_method_11_code (3 : Nat) (Option.some Jvm.ClassFile.FieldType.int)) ∈ bw := bw_t (List.mem_of_getElem? (i := 384) (by decide +kernel)) (by decide +kernel)
theorem tw_385 : (Jvm.Cond.methodLink "java/util/ArrayList" (123 : Nat) ({ cls := "java/util/ArrayList", name := "elementData", desc := "(I)Ljava/lang/Object;" } : Jvm.MethodName)) ∈ bw := bw_t (List.mem_of_getElem? (i := 385) (by decide +kernel)) (by decide +kernel)
theorem tw_386 : (Jvm.Cond.instanceMethod ({ cls := "java/util/ArrayList", name := "elementData", desc := "(I)Ljava/lang/Object;" } : Jvm.MethodName)) ∈ bw := bw_t (List.mem_of_getElem? (i := 386) (by decide +kernel)) (by decide +kernel)
theorem tw_387 : (Jvm.Cond.selects "java/util/ArrayList" ({ cls := "java/util/ArrayList", name := "elementData", desc := "(I)Ljava/lang/Object;" } : Jvm.MethodName) ({ cls := "java/util/ArrayList", name := "elementData", desc := "(I)Ljava/lang/Object;" } : Jvm.MethodName)) ∈ bw := bw_t (List.mem_of_getElem? (i := 387) (by decide +kernel)) (by decide +kernel)
theorem tw_388 : (Jvm.Cond.code ({ cls := "java/util/ArrayList", name := "elementData", desc := "(I)Ljava/lang/Object;" } : Jvm.MethodName) prog_26_method_18_code (2 : Nat) (Option.some (Jvm.ClassFile.FieldType.object "java/lang/Object"))) ∈ bw := bw_t (List.mem_of_getElem? (i := 388) (by decide +kernel)) (by decide +kernel)
theorem tw_389 : (Jvm.Cond.classLink "ImageForge$ObjectFile" (33 : Nat) "ImageForge$Reference") ∈ bw := bw_t (List.mem_of_getElem? (i := 389) (by decide +kernel)) (by decide +kernel)
theorem tw_390 : (Jvm.Cond.methodLink "ImageForge$ObjectFile" (35 : Nat) ({ cls := "ImageForge$Reference", name := "part", desc := "()I" } : Jvm.MethodName)) ∈ bw := bw_t (List.mem_of_getElem? (i := 390) (by decide +kernel)) (by decide +kernel)
theorem tw_391 : (Jvm.Cond.instanceMethod ({ cls := "ImageForge$Reference", name := "part", desc := "()I" } : Jvm.MethodName)) ∈ bw := bw_t (List.mem_of_getElem? (i := 391) (by decide +kernel)) (by decide +kernel)
theorem tw_392 : (Jvm.Cond.selects "ImageForge$Reference" ({ cls := "ImageForge$Reference", name := "part", desc := "()I" } : Jvm.MethodName) ({ cls := "ImageForge$Reference", name := "part", desc := "()I" } : Jvm.MethodName)) ∈ bw := bw_t (List.mem_of_getElem? (i := 392) (by decide +kernel)) (by decide +kernel)
theorem tw_393 : (Jvm.Cond.code ({ cls := "ImageForge$Reference", name := "part", desc := "()I" } : Jvm.MethodName) prog_8_method_5_code (1 : Nat) (Option.some Jvm.ClassFile.FieldType.int)) ∈ bw := bw_t (List.mem_of_getElem? (i := 393) (by decide +kernel)) (by decide +kernel)
theorem tw_394 : (Jvm.Cond.methodLink "ImageForge$ObjectFile" (38 : Nat) ({ cls := "ImageForge$Reference", name := "place", desc := "()I" } : Jvm.MethodName)) ∈ bw := bw_t (List.mem_of_getElem? (i := 394) (by decide +kernel)) (by decide +kernel)
theorem tw_395 : (Jvm.Cond.instanceMethod ({ cls := "ImageForge$Reference", name := "place", desc := "()I" } : Jvm.MethodName)) ∈ bw := bw_t (List.mem_of_getElem? (i := 395) (by decide +kernel)) (by decide +kernel)
theorem tw_396 : (Jvm.Cond.selects "ImageForge$Reference" ({ cls := "ImageForge$Reference", name := "place", desc := "()I" } : Jvm.MethodName) ({ cls := "ImageForge$Reference", name := "place", desc := "()I" } : Jvm.MethodName)) ∈ bw := bw_t (List.mem_of_getElem? (i := 396) (by decide +kernel)) (by decide +kernel)
theorem tw_397 : (Jvm.Cond.code ({ cls := "ImageForge$Reference", name := "place", desc := "()I" } : Jvm.MethodName) prog_8_method_6_code (1 : Nat) (Option.some Jvm.ClassFile.FieldType.int)) ∈ bw := bw_t (List.mem_of_getElem? (i := 397) (by decide +kernel)) (by decide +kernel)
theorem tw_398 : (Jvm.Cond.methodLink "ImageForge$ObjectFile" (41 : Nat) ({ cls := "java/lang/Math", name := "abs", desc := "(I)I" } : Jvm.MethodName)) ∈ bw := bw_t (List.mem_of_getElem? (i := 398) (by decide +kernel)) (by decide +kernel)
theorem tw_399 : (Jvm.Cond.static ({ cls := "java/lang/Math", name := "abs", desc := "(I)I" } : Jvm.MethodName)) ∈ bw := bw_t (List.mem_of_getElem? (i := 399) (by decide +kernel)) (by decide +kernel)
theorem tw_400 : (Jvm.Cond.code ({ cls := "java/lang/Math", name := "abs", desc := "(I)I" } : Jvm.MethodName) prog_18_method_59_code (1 : Nat) (Option.some Jvm.ClassFile.FieldType.int)) ∈ bw := bw_t (List.mem_of_getElem? (i := 400) (by decide +kernel)) (by decide +kernel)
theorem tw_402 : (Jvm.Cond.methodLink "ImageForge" (107 : Nat) ({ cls := "java/util/ArrayList", name := "size", desc := "()I" } : Jvm.MethodName)) ∈ bw := bw_t (List.mem_of_getElem? (i := 402) (by decide +kernel)) (by decide +kernel)
theorem tw_404 : (Jvm.Cond.classLink "ImageForge" (114 : Nat) "ImageForge$Reference") ∈ bw := bw_t (List.mem_of_getElem? (i := 404) (by decide +kernel)) (by decide +kernel)
theorem tw_413 : (Jvm.Cond.fieldLink "ImageForge$Reference" (7 : Nat) "ImageForge$Reference" "part" "I") ∈ bw := bw_t (List.mem_of_getElem? (i := 413) (by decide +kernel)) (by decide +kernel)
theorem tw_414 : (Jvm.Cond.fieldLink "ImageForge$Reference" (13 : Nat) "ImageForge$Reference" "place" "I") ∈ bw := bw_t (List.mem_of_getElem? (i := 414) (by decide +kernel)) (by decide +kernel)
theorem tw_415 : (Jvm.Cond.fieldLink "ImageForge$Reference" (16 : Nat) "ImageForge$Reference" "kind" "I") ∈ bw := bw_t (List.mem_of_getElem? (i := 415) (by decide +kernel)) (by decide +kernel)
theorem tw_416 : (Jvm.Cond.fieldLink "ImageForge$Reference" (19 : Nat) "ImageForge$Reference" "name" "I") ∈ bw := bw_t (List.mem_of_getElem? (i := 416) (by decide +kernel)) (by decide +kernel)
theorem tw_482 : (Jvm.Cond.static ({ cls := "java/lang/System", name := "arraycopy", desc := "(Ljava/lang/Object;ILjava/lang/Object;II)V" } : Jvm.MethodName)) ∈ bw := bw_t (List.mem_of_getElem? (i := 482) (by decide +kernel)) (by decide +kernel)
theorem tw_483 : (Jvm.Cond.native ({ cls := "java/lang/System", name := "arraycopy", desc := "(Ljava/lang/Object;ILjava/lang/Object;II)V" } : Jvm.MethodName)) ∈ bw := bw_t (List.mem_of_getElem? (i := 483) (by decide +kernel)) (by decide +kernel)
theorem tw_495 : (Jvm.Cond.code ({ cls := "ImageForge", name := "isSlot", desc := "(II)Z" } : Jvm.MethodName) prog_1_method_16_code (2 : Nat) (Option.some Jvm.ClassFile.FieldType.boolean)) ∈ bw := bw_t (List.mem_of_getElem? (i := 495) (by decide +kernel)) (by decide +kernel)
theorem tw_516 : (Jvm.Cond.code ({ cls := "ImageForge", name := "someNameClashes", desc := "()Z" } : Jvm.MethodName) prog_1_method_18_code (5 : Nat) (Option.some Jvm.ClassFile.FieldType.boolean)) ∈ bw := bw_t (List.mem_of_getElem? (i := 516) (by decide +kernel)) (by decide +kernel)
theorem tw_519 : (Jvm.Cond.instanceMethod ({ cls := "ImageForge$Name", name := "isDefined", desc := "()Z" } : Jvm.MethodName)) ∈ bw := bw_t (List.mem_of_getElem? (i := 519) (by decide +kernel)) (by decide +kernel)
theorem tw_520 : (Jvm.Cond.code ({ cls := "ImageForge$Name", name := "isDefined", desc := "()Z" } : Jvm.MethodName) prog_5_method_3_code (1 : Nat) (Option.some Jvm.ClassFile.FieldType.boolean)) ∈ bw := bw_t (List.mem_of_getElem? (i := 520) (by decide +kernel)) (by decide +kernel)
theorem tw_523 : (Jvm.Cond.instanceMethod ({ cls := "ImageForge$Name", name := "isImported", desc := "()Z" } : Jvm.MethodName)) ∈ bw := bw_t (List.mem_of_getElem? (i := 523) (by decide +kernel)) (by decide +kernel)
theorem tw_524 : (Jvm.Cond.code ({ cls := "ImageForge$Name", name := "isImported", desc := "()Z" } : Jvm.MethodName) prog_5_method_4_code (1 : Nat) (Option.some Jvm.ClassFile.FieldType.boolean)) ∈ bw := bw_t (List.mem_of_getElem? (i := 524) (by decide +kernel)) (by decide +kernel)
theorem tw_529 : (Jvm.Cond.code ({ cls := "ImageForge", name := "someExportLacks", desc := "()Z" } : Jvm.MethodName) prog_1_method_19_code (5 : Nat) (Option.some Jvm.ClassFile.FieldType.boolean)) ∈ bw := bw_t (List.mem_of_getElem? (i := 529) (by decide +kernel)) (by decide +kernel)
theorem tw_533 : (Jvm.Cond.code ({ cls := "ImageForge", name := "someReferenceLacks", desc := "()Z" } : Jvm.MethodName) prog_1_method_20_code (7 : Nat) (Option.some Jvm.ClassFile.FieldType.boolean)) ∈ bw := bw_t (List.mem_of_getElem? (i := 533) (by decide +kernel)) (by decide +kernel)
theorem tw_534 : (Jvm.Cond.methodLink "ImageForge" (203 : Nat) ({ cls := "java/util/ArrayList", name := "get", desc := "(I)Ljava/lang/Object;" } : Jvm.MethodName)) ∈ bw := bw_t (List.mem_of_getElem? (i := 534) (by decide +kernel)) (by decide +kernel)
theorem tw_535 : (Jvm.Cond.methodLink "ImageForge" (207 : Nat) ({ cls := "ImageForge$Reference", name := "name", desc := "()I" } : Jvm.MethodName)) ∈ bw := bw_t (List.mem_of_getElem? (i := 535) (by decide +kernel)) (by decide +kernel)
theorem tw_536 : (Jvm.Cond.instanceMethod ({ cls := "ImageForge$Reference", name := "name", desc := "()I" } : Jvm.MethodName)) ∈ bw := bw_t (List.mem_of_getElem? (i := 536) (by decide +kernel)) (by decide +kernel)
theorem tw_537 : (Jvm.Cond.selects "ImageForge$Reference" ({ cls := "ImageForge$Reference", name := "name", desc := "()I" } : Jvm.MethodName) ({ cls := "ImageForge$Reference", name := "name", desc := "()I" } : Jvm.MethodName)) ∈ bw := bw_t (List.mem_of_getElem? (i := 537) (by decide +kernel)) (by decide +kernel)
theorem tw_538 : (Jvm.Cond.code ({ cls := "ImageForge$Reference", name := "name", desc := "()I" } : Jvm.MethodName) prog_8_method_8_code (1 : Nat) (Option.some Jvm.ClassFile.FieldType.int)) ∈ bw := bw_t (List.mem_of_getElem? (i := 538) (by decide +kernel)) (by decide +kernel)
theorem tw_558 : (Jvm.Cond.code ({ cls := "ImageForge$Linker", name := "build", desc := "([LImageForge$ObjectFile;[LImageForge$Name;LImageForge$Image;)V" } : Jvm.MethodName) prog_3_method_2_code (5 : Nat) (Option.none : Option Jvm.ClassFile.FieldType)) ∈ bw := bw_t (List.mem_of_getElem? (i := 558) (by decide +kernel)) (by decide +kernel)
theorem tw_561 : (Jvm.Cond.instanceMethod ({ cls := "ImageForge$Image", name := "clear", desc := "()V" } : Jvm.MethodName)) ∈ bw := bw_t (List.mem_of_getElem? (i := 561) (by decide +kernel)) (by decide +kernel)
theorem tw_562 : (Jvm.Cond.code ({ cls := "ImageForge$Image", name := "clear", desc := "()V" } : Jvm.MethodName) prog_2_method_3_code (1 : Nat) (Option.none : Option Jvm.ClassFile.FieldType)) ∈ bw := bw_t (List.mem_of_getElem? (i := 562) (by decide +kernel)) (by decide +kernel)
theorem tw_563 : (Jvm.Cond.methodLink "ImageForge$Image" (19 : Nat) ({ cls := "java/util/Arrays", name := "fill", desc := "([BB)V" } : Jvm.MethodName)) ∈ bw := bw_t (List.mem_of_getElem? (i := 563) (by decide +kernel)) (by decide +kernel)
theorem tw_564 : (Jvm.Cond.static ({ cls := "java/util/Arrays", name := "fill", desc := "([BB)V" } : Jvm.MethodName)) ∈ bw := bw_t (List.mem_of_getElem? (i := 564) (by decide +kernel)) (by decide +kernel)
theorem tw_565 : (Jvm.Cond.code ({ cls := "java/util/Arrays", name := "fill", desc := "([BB)V" } : Jvm.MethodName) prog_27_method_109_code (4 : Nat) (Option.none : Option Jvm.ClassFile.FieldType)) ∈ bw := bw_t (List.mem_of_getElem? (i := 565) (by decide +kernel)) (by decide +kernel)
theorem tw_566 : (Jvm.Cond.methodLink "ImageForge$Linker" (29 : Nat) ({ cls := "ImageForge$Linker", name := "writeParts", desc := "([LImageForge$ObjectFile;ILImageForge$Image;I)I" } : Jvm.MethodName)) ∈ bw := bw_t (List.mem_of_getElem? (i := 566) (by decide +kernel)) (by decide +kernel)
theorem tw_568 : (Jvm.Cond.instanceMethod ({ cls := "ImageForge$Linker", name := "writeParts", desc := "([LImageForge$ObjectFile;ILImageForge$Image;I)I" } : Jvm.MethodName)) ∈ bw := bw_t (List.mem_of_getElem? (i := 568) (by decide +kernel)) (by decide +kernel)
theorem tw_569 : (Jvm.Cond.code ({ cls := "ImageForge$Linker", name := "writeParts", desc := "([LImageForge$ObjectFile;ILImageForge$Image;I)I" } : Jvm.MethodName) prog_3_method_4_code (9 : Nat) (Option.some Jvm.ClassFile.FieldType.int)) ∈ bw := bw_t (List.mem_of_getElem? (i := 569) (by decide +kernel)) (by decide +kernel)
theorem tw_571 : (Jvm.Cond.static ({ cls := "ImageForge", name := "roundUp", desc := "(II)I" } : Jvm.MethodName)) ∈ bw := bw_t (List.mem_of_getElem? (i := 571) (by decide +kernel)) (by decide +kernel)
theorem tw_572 : (Jvm.Cond.code ({ cls := "ImageForge", name := "roundUp", desc := "(II)I" } : Jvm.MethodName) prog_1_method_17_code (2 : Nat) (Option.some Jvm.ClassFile.FieldType.int)) ∈ bw := bw_t (List.mem_of_getElem? (i := 572) (by decide +kernel)) (by decide +kernel)
theorem tw_573 : (Jvm.Cond.methodLink "ImageForge$Linker" (86 : Nat) ({ cls := "java/lang/System", name := "arraycopy", desc := "(Ljava/lang/Object;ILjava/lang/Object;II)V" } : Jvm.MethodName)) ∈ bw := bw_t (List.mem_of_getElem? (i := 573) (by decide +kernel)) (by decide +kernel)
theorem tw_574 : (Jvm.Cond.methodLink "ImageForge$Linker" (33 : Nat) ({ cls := "ImageForge$Linker", name := "endSection", desc := "(LImageForge$Image;III)I" } : Jvm.MethodName)) ∈ bw := bw_t (List.mem_of_getElem? (i := 574) (by decide +kernel)) (by decide +kernel)
theorem tw_576 : (Jvm.Cond.instanceMethod ({ cls := "ImageForge$Linker", name := "endSection", desc := "(LImageForge$Image;III)I" } : Jvm.MethodName)) ∈ bw := bw_t (List.mem_of_getElem? (i := 576) (by decide +kernel)) (by decide +kernel)
theorem tw_577 : (Jvm.Cond.code ({ cls := "ImageForge$Linker", name := "endSection", desc := "(LImageForge$Image;III)I" } : Jvm.MethodName) prog_3_method_3_code (5 : Nat) (Option.some Jvm.ClassFile.FieldType.int)) ∈ bw := bw_t (List.mem_of_getElem? (i := 577) (by decide +kernel)) (by decide +kernel)
theorem tw_580 : (Jvm.Cond.instanceMethod ({ cls := "ImageForge$Image", name := "setSection", desc := "(III)V" } : Jvm.MethodName)) ∈ bw := bw_t (List.mem_of_getElem? (i := 580) (by decide +kernel)) (by decide +kernel)
theorem tw_581 : (Jvm.Cond.code ({ cls := "ImageForge$Image", name := "setSection", desc := "(III)V" } : Jvm.MethodName) prog_2_method_15_code (4 : Nat) (Option.none : Option Jvm.ClassFile.FieldType)) ∈ bw := bw_t (List.mem_of_getElem? (i := 581) (by decide +kernel)) (by decide +kernel)
theorem tw_582 : (Jvm.Cond.methodLink "ImageForge$Image" (35 : Nat) ({ cls := "ImageForge$Image", name := "setWord", desc := "(II)V" } : Jvm.MethodName)) ∈ bw := bw_t (List.mem_of_getElem? (i := 582) (by decide +kernel)) (by decide +kernel)
theorem tw_584 : (Jvm.Cond.instanceMethod ({ cls := "ImageForge$Image", name := "setWord", desc := "(II)V" } : Jvm.MethodName)) ∈ bw := bw_t (List.mem_of_getElem? (i := 584) (by decide +kernel)) (by decide +kernel)
theorem tw_585 : (Jvm.Cond.code ({ cls := "ImageForge$Image", name := "setWord", desc := "(II)V" } : Jvm.MethodName) prog_2_method_10_code (4 : Nat) (Option.none : Option Jvm.ClassFile.FieldType)) ∈ bw := bw_t (List.mem_of_getElem? (i := 585) (by decide +kernel)) (by decide +kernel)
theorem tw_586 : (Jvm.Cond.methodLink "ImageForge$Linker" (37 : Nat) ({ cls := "ImageForge$Linker", name := "placeDefinitions", desc := "([LImageForge$Name;)V" } : Jvm.MethodName)) ∈ bw := bw_t (List.mem_of_getElem? (i := 586) (by decide +kernel)) (by decide +kernel)
theorem tw_588 : (Jvm.Cond.instanceMethod ({ cls := "ImageForge$Linker", name := "placeDefinitions", desc := "([LImageForge$Name;)V" } : Jvm.MethodName)) ∈ bw := bw_t (List.mem_of_getElem? (i := 588) (by decide +kernel)) (by decide +kernel)
theorem tw_589 : (Jvm.Cond.code ({ cls := "ImageForge$Linker", name := "placeDefinitions", desc := "([LImageForge$Name;)V" } : Jvm.MethodName) prog_3_method_5_code (4 : Nat) (Option.none : Option Jvm.ClassFile.FieldType)) ∈ bw := bw_t (List.mem_of_getElem? (i := 589) (by decide +kernel)) (by decide +kernel)
theorem tw_590 : (Jvm.Cond.methodLink "ImageForge$Linker" (41 : Nat) ({ cls := "ImageForge$Linker", name := "writeImports", desc := "([LImageForge$Name;LImageForge$Image;I)I" } : Jvm.MethodName)) ∈ bw := bw_t (List.mem_of_getElem? (i := 590) (by decide +kernel)) (by decide +kernel)
theorem tw_592 : (Jvm.Cond.instanceMethod ({ cls := "ImageForge$Linker", name := "writeImports", desc := "([LImageForge$Name;LImageForge$Image;I)I" } : Jvm.MethodName)) ∈ bw := bw_t (List.mem_of_getElem? (i := 592) (by decide +kernel)) (by decide +kernel)
theorem tw_593 : (Jvm.Cond.code ({ cls := "ImageForge$Linker", name := "writeImports", desc := "([LImageForge$Name;LImageForge$Image;I)I" } : Jvm.MethodName) prog_3_method_6_code (9 : Nat) (Option.some Jvm.ClassFile.FieldType.int)) ∈ bw := bw_t (List.mem_of_getElem? (i := 593) (by decide +kernel)) (by decide +kernel)
theorem tw_594 : (Jvm.Cond.methodLink "ImageForge$Linker" (103 : Nat) ({ cls := "ImageForge$Linker", name := "countLibraries", desc := "([LImageForge$Name;)I" } : Jvm.MethodName)) ∈ bw := bw_t (List.mem_of_getElem? (i := 594) (by decide +kernel)) (by decide +kernel)
theorem tw_596 : (Jvm.Cond.instanceMethod ({ cls := "ImageForge$Linker", name := "countLibraries", desc := "([LImageForge$Name;)I" } : Jvm.MethodName)) ∈ bw := bw_t (List.mem_of_getElem? (i := 596) (by decide +kernel)) (by decide +kernel)
theorem tw_597 : (Jvm.Cond.code ({ cls := "ImageForge$Linker", name := "countLibraries", desc := "([LImageForge$Name;)I" } : Jvm.MethodName) prog_3_method_7_code (7 : Nat) (Option.some Jvm.ClassFile.FieldType.int)) ∈ bw := bw_t (List.mem_of_getElem? (i := 597) (by decide +kernel)) (by decide +kernel)
theorem tw_599 : (Jvm.Cond.methodLink "ImageForge$Linker" (122 : Nat) ({ cls := "java/lang/Integer", name := "bitCount", desc := "(I)I" } : Jvm.MethodName)) ∈ bw := bw_t (List.mem_of_getElem? (i := 599) (by decide +kernel)) (by decide +kernel)
theorem tw_600 : (Jvm.Cond.static ({ cls := "java/lang/Integer", name := "bitCount", desc := "(I)I" } : Jvm.MethodName)) ∈ bw := bw_t (List.mem_of_getElem? (i := 600) (by decide +kernel)) (by decide +kernel)
theorem tw_601 : (Jvm.Cond.code ({ cls := "java/lang/Integer", name := "bitCount", desc := "(I)I" } : Jvm.MethodName) prog_16_method_49_code (1 : Nat) (Option.some Jvm.ClassFile.FieldType.int)) ∈ bw := bw_t (List.mem_of_getElem? (i := 601) (by decide +kernel)) (by decide +kernel)
theorem tw_602 : (Jvm.Cond.constant "java/lang/Integer" (265 : Nat) (1431655765 : Int32)) ∈ bw := bw_t (List.mem_of_getElem? (i := 602) (by decide +kernel)) (by decide +kernel)
theorem tw_603 : (Jvm.Cond.constant "java/lang/Integer" (266 : Nat) (858993459 : Int32)) ∈ bw := bw_t (List.mem_of_getElem? (i := 603) (by decide +kernel)) (by decide +kernel)
theorem tw_604 : (Jvm.Cond.constant "java/lang/Integer" (267 : Nat) (252645135 : Int32)) ∈ bw := bw_t (List.mem_of_getElem? (i := 604) (by decide +kernel)) (by decide +kernel)
theorem tw_605 : (Jvm.Cond.methodLink "ImageForge$Linker" (107 : Nat) ({ cls := "ImageForge$Linker", name := "writeSlots", desc := "([LImageForge$Name;ILImageForge$Image;I)I" } : Jvm.MethodName)) ∈ bw := bw_t (List.mem_of_getElem? (i := 605) (by decide +kernel)) (by decide +kernel)
theorem tw_607 : (Jvm.Cond.instanceMethod ({ cls := "ImageForge$Linker", name := "writeSlots", desc := "([LImageForge$Name;ILImageForge$Image;I)I" } : Jvm.MethodName)) ∈ bw := bw_t (List.mem_of_getElem? (i := 607) (by decide +kernel)) (by decide +kernel)
theorem tw_608 : (Jvm.Cond.code ({ cls := "ImageForge$Linker", name := "writeSlots", desc := "([LImageForge$Name;ILImageForge$Image;I)I" } : Jvm.MethodName) prog_3_method_8_code (7 : Nat) (Option.some Jvm.ClassFile.FieldType.int)) ∈ bw := bw_t (List.mem_of_getElem? (i := 608) (by decide +kernel)) (by decide +kernel)
theorem tw_609 : (Jvm.Cond.constant "ImageForge$Linker" (131 : Nat) (-2147483648 : Int32)) ∈ bw := bw_t (List.mem_of_getElem? (i := 609) (by decide +kernel)) (by decide +kernel)
theorem tw_611 : (Jvm.Cond.methodLink "ImageForge$Linker" (45 : Nat) ({ cls := "ImageForge$Linker", name := "writeExports", desc := "([LImageForge$Name;LImageForge$Image;I)I" } : Jvm.MethodName)) ∈ bw := bw_t (List.mem_of_getElem? (i := 611) (by decide +kernel)) (by decide +kernel)
theorem tw_613 : (Jvm.Cond.instanceMethod ({ cls := "ImageForge$Linker", name := "writeExports", desc := "([LImageForge$Name;LImageForge$Image;I)I" } : Jvm.MethodName)) ∈ bw := bw_t (List.mem_of_getElem? (i := 613) (by decide +kernel)) (by decide +kernel)
theorem tw_614 : (Jvm.Cond.code ({ cls := "ImageForge$Linker", name := "writeExports", desc := "([LImageForge$Name;LImageForge$Image;I)I" } : Jvm.MethodName) prog_3_method_9_code (7 : Nat) (Option.some Jvm.ClassFile.FieldType.int)) ∈ bw := bw_t (List.mem_of_getElem? (i := 614) (by decide +kernel)) (by decide +kernel)
theorem tw_615 : (Jvm.Cond.methodLink "ImageForge$Linker" (48 : Nat) ({ cls := "ImageForge$Linker", name := "writeReferences", desc := "([LImageForge$ObjectFile;LImageForge$Image;)V" } : Jvm.MethodName)) ∈ bw := bw_t (List.mem_of_getElem? (i := 615) (by decide +kernel)) (by decide +kernel)
theorem tw_617 : (Jvm.Cond.instanceMethod ({ cls := "ImageForge$Linker", name := "writeReferences", desc := "([LImageForge$ObjectFile;LImageForge$Image;)V" } : Jvm.MethodName)) ∈ bw := bw_t (List.mem_of_getElem? (i := 617) (by decide +kernel)) (by decide +kernel)
theorem tw_618 : (Jvm.Cond.code ({ cls := "ImageForge$Linker", name := "writeReferences", desc := "([LImageForge$ObjectFile;LImageForge$Image;)V" } : Jvm.MethodName) prog_3_method_10_code (8 : Nat) (Option.none : Option Jvm.ClassFile.FieldType)) ∈ bw := bw_t (List.mem_of_getElem? (i := 618) (by decide +kernel)) (by decide +kernel)
theorem tw_619 : (Jvm.Cond.methodLink "ImageForge$Linker" (140 : Nat) ({ cls := "java/util/ArrayList", name := "size", desc := "()I" } : Jvm.MethodName)) ∈ bw := bw_t (List.mem_of_getElem? (i := 619) (by decide +kernel)) (by decide +kernel)
theorem tw_620 : (Jvm.Cond.methodLink "ImageForge$Linker" (145 : Nat) ({ cls := "java/util/ArrayList", name := "get", desc := "(I)Ljava/lang/Object;" } : Jvm.MethodName)) ∈ bw := bw_t (List.mem_of_getElem? (i := 620) (by decide +kernel)) (by decide +kernel)
theorem tw_621 : (Jvm.Cond.classLink "ImageForge$Linker" (149 : Nat) "ImageForge$Reference") ∈ bw := bw_t (List.mem_of_getElem? (i := 621) (by decide +kernel)) (by decide +kernel)
theorem tw_622 : (Jvm.Cond.methodLink "ImageForge$Linker" (151 : Nat) ({ cls := "ImageForge$Reference", name := "part", desc := "()I" } : Jvm.MethodName)) ∈ bw := bw_t (List.mem_of_getElem? (i := 622) (by decide +kernel)) (by decide +kernel)
theorem tw_623 : (Jvm.Cond.methodLink "ImageForge$Linker" (153 : Nat) ({ cls := "ImageForge$Reference", name := "place", desc := "()I" } : Jvm.MethodName)) ∈ bw := bw_t (List.mem_of_getElem? (i := 623) (by decide +kernel)) (by decide +kernel)
theorem tw_624 : (Jvm.Cond.methodLink "ImageForge$Linker" (155 : Nat) ({ cls := "ImageForge$Linker", name := "amountFor", desc := "(LImageForge$Reference;I)I" } : Jvm.MethodName)) ∈ bw := bw_t (List.mem_of_getElem? (i := 624) (by decide +kernel)) (by decide +kernel)
theorem tw_626 : (Jvm.Cond.instanceMethod ({ cls := "ImageForge$Linker", name := "amountFor", desc := "(LImageForge$Reference;I)I" } : Jvm.MethodName)) ∈ bw := bw_t (List.mem_of_getElem? (i := 626) (by decide +kernel)) (by decide +kernel)
theorem tw_627 : (Jvm.Cond.code ({ cls := "ImageForge$Linker", name := "amountFor", desc := "(LImageForge$Reference;I)I" } : Jvm.MethodName) prog_3_method_11_code (4 : Nat) (Option.some Jvm.ClassFile.FieldType.int)) ∈ bw := bw_t (List.mem_of_getElem? (i := 627) (by decide +kernel)) (by decide +kernel)
theorem tw_628 : (Jvm.Cond.methodLink "ImageForge$Linker" (165 : Nat) ({ cls := "ImageForge$Reference", name := "name", desc := "()I" } : Jvm.MethodName)) ∈ bw := bw_t (List.mem_of_getElem? (i := 628) (by decide +kernel)) (by decide +kernel)
theorem tw_629 : (Jvm.Cond.methodLink "ImageForge$Linker" (162 : Nat) ({ cls := "ImageForge$Reference", name := "kind", desc := "()I" } : Jvm.MethodName)) ∈ bw := bw_t (List.mem_of_getElem? (i := 629) (by decide +kernel)) (by decide +kernel)
theorem tw_630 : (Jvm.Cond.instanceMethod ({ cls := "ImageForge$Reference", name := "kind", desc := "()I" } : Jvm.MethodName)) ∈ bw := bw_t (List.mem_of_getElem? (i := 630) (by decide +kernel)) (by decide +kernel)
theorem tw_631 : (Jvm.Cond.selects "ImageForge$Reference" ({ cls := "ImageForge$Reference", name := "kind", desc := "()I" } : Jvm.MethodName) ({ cls := "ImageForge$Reference", name := "kind", desc := "()I" } : Jvm.MethodName)) ∈ bw := bw_t (List.mem_of_getElem? (i := 631) (by decide +kernel)) (by decide +kernel)
theorem tw_632 : (Jvm.Cond.code ({ cls := "ImageForge$Reference", name := "kind", desc := "()I" } : Jvm.MethodName) prog_8_method_7_code (1 : Nat) (Option.some Jvm.ClassFile.FieldType.int)) ∈ bw := bw_t (List.mem_of_getElem? (i := 632) (by decide +kernel)) (by decide +kernel)
theorem tw_635 : (Jvm.Cond.instanceMethod ({ cls := "ImageForge$Image", name := "addToWord", desc := "(II)V" } : Jvm.MethodName)) ∈ bw := bw_t (List.mem_of_getElem? (i := 635) (by decide +kernel)) (by decide +kernel)
theorem tw_636 : (Jvm.Cond.code ({ cls := "ImageForge$Image", name := "addToWord", desc := "(II)V" } : Jvm.MethodName) prog_2_method_11_code (3 : Nat) (Option.none : Option Jvm.ClassFile.FieldType)) ∈ bw := bw_t (List.mem_of_getElem? (i := 636) (by decide +kernel)) (by decide +kernel)
theorem tw_637 : (Jvm.Cond.methodLink "ImageForge$Image" (31 : Nat) ({ cls := "ImageForge$Image", name := "wordAt", desc := "(I)I" } : Jvm.MethodName)) ∈ bw := bw_t (List.mem_of_getElem? (i := 637) (by decide +kernel)) (by decide +kernel)
theorem tw_638 : (Jvm.Cond.methodLink "ImageForge$Linker" (52 : Nat) ({ cls := "ImageForge$Linker", name := "writeRelocations", desc := "(LImageForge$Image;I)I" } : Jvm.MethodName)) ∈ bw := bw_t (List.mem_of_getElem? (i := 638) (by decide +kernel)) (by decide +kernel)
theorem tw_640 : (Jvm.Cond.instanceMethod ({ cls := "ImageForge$Linker", name := "writeRelocations", desc := "(LImageForge$Image;I)I" } : Jvm.MethodName)) ∈ bw := bw_t (List.mem_of_getElem? (i := 640) (by decide +kernel)) (by decide +kernel)
theorem tw_641 : (Jvm.Cond.code ({ cls := "ImageForge$Linker", name := "writeRelocations", desc := "(LImageForge$Image;I)I" } : Jvm.MethodName) prog_3_method_12_code (5 : Nat) (Option.some Jvm.ClassFile.FieldType.int)) ∈ bw := bw_t (List.mem_of_getElem? (i := 641) (by decide +kernel)) (by decide +kernel)
theorem tw_642 : (Jvm.Cond.methodLink "ImageForge$Linker" (168 : Nat) ({ cls := "ImageForge$Linker", name := "writeBlock", desc := "(LImageForge$Image;II)I" } : Jvm.MethodName)) ∈ bw := bw_t (List.mem_of_getElem? (i := 642) (by decide +kernel)) (by decide +kernel)
theorem tw_644 : (Jvm.Cond.instanceMethod ({ cls := "ImageForge$Linker", name := "writeBlock", desc := "(LImageForge$Image;II)I" } : Jvm.MethodName)) ∈ bw := bw_t (List.mem_of_getElem? (i := 644) (by decide +kernel)) (by decide +kernel)
theorem tw_645 : (Jvm.Cond.code ({ cls := "ImageForge$Linker", name := "writeBlock", desc := "(LImageForge$Image;II)I" } : Jvm.MethodName) prog_3_method_13_code (7 : Nat) (Option.some Jvm.ClassFile.FieldType.int)) ∈ bw := bw_t (List.mem_of_getElem? (i := 645) (by decide +kernel)) (by decide +kernel)
theorem tw_648 : (Jvm.Cond.instanceMethod ({ cls := "ImageForge$Image", name := "setHalf", desc := "(II)V" } : Jvm.MethodName)) ∈ bw := bw_t (List.mem_of_getElem? (i := 648) (by decide +kernel)) (by decide +kernel)
theorem tw_649 : (Jvm.Cond.code ({ cls := "ImageForge$Image", name := "setHalf", desc := "(II)V" } : Jvm.MethodName) prog_2_method_8_code (3 : Nat) (Option.none : Option Jvm.ClassFile.FieldType)) ∈ bw := bw_t (List.mem_of_getElem? (i := 649) (by decide +kernel)) (by decide +kernel)
theorem tw_650 : (Jvm.Cond.methodLink "ImageForge$Linker" (60 : Nat) ({ cls := "ImageForge$Linker", name := "writeHeader", desc := "([LImageForge$Name;LImageForge$Image;)V" } : Jvm.MethodName)) ∈ bw := bw_t (List.mem_of_getElem? (i := 650) (by decide +kernel)) (by decide +kernel)
theorem tw_652 : (Jvm.Cond.instanceMethod ({ cls := "ImageForge$Linker", name := "writeHeader", desc := "([LImageForge$Name;LImageForge$Image;)V" } : Jvm.MethodName)) ∈ bw := bw_t (List.mem_of_getElem? (i := 652) (by decide +kernel)) (by decide +kernel)
theorem tw_653 : (Jvm.Cond.code ({ cls := "ImageForge$Linker", name := "writeHeader", desc := "([LImageForge$Name;LImageForge$Image;)V" } : Jvm.MethodName) prog_3_method_14_code (3 : Nat) (Option.none : Option Jvm.ClassFile.FieldType)) ∈ bw := bw_t (List.mem_of_getElem? (i := 653) (by decide +kernel)) (by decide +kernel)
theorem tw_657 : (Jvm.Cond.instanceMethod ({ cls := "ImageForge$Image", name := "checksum", desc := "()I" } : Jvm.MethodName)) ∈ bw := bw_t (List.mem_of_getElem? (i := 657) (by decide +kernel)) (by decide +kernel)
theorem tw_658 : (Jvm.Cond.code ({ cls := "ImageForge$Image", name := "checksum", desc := "()I" } : Jvm.MethodName) prog_2_method_17_code (3 : Nat) (Option.some Jvm.ClassFile.FieldType.int)) ∈ bw := bw_t (List.mem_of_getElem? (i := 658) (by decide +kernel)) (by decide +kernel)
theorem tw_659 : (Jvm.Cond.methodLink "ImageForge$Image" (45 : Nat) ({ cls := "ImageForge$Image", name := "halfAt", desc := "(I)I" } : Jvm.MethodName)) ∈ bw := bw_t (List.mem_of_getElem? (i := 659) (by decide +kernel)) (by decide +kernel)
theorem tw_661 : (Jvm.Cond.instanceMethod ({ cls := "ImageForge$Image", name := "halfAt", desc := "(I)I" } : Jvm.MethodName)) ∈ bw := bw_t (List.mem_of_getElem? (i := 661) (by decide +kernel)) (by decide +kernel)
theorem tw_662 : (Jvm.Cond.code ({ cls := "ImageForge$Image", name := "halfAt", desc := "(I)I" } : Jvm.MethodName) prog_2_method_7_code (2 : Nat) (Option.some Jvm.ClassFile.FieldType.int)) ∈ bw := bw_t (List.mem_of_getElem? (i := 662) (by decide +kernel)) (by decide +kernel)
theorem tw_663 : (Jvm.Cond.constant "ImageForge$Image" (48 : Nat) (65535 : Int32)) ∈ bw := bw_t (List.mem_of_getElem? (i := 663) (by decide +kernel)) (by decide +kernel)
theorem tw_683 : (Jvm.Cond.code ({ cls := "ImageForge$Image", name := "setByte", desc := "(II)V" } : Jvm.MethodName) prog_2_method_6_code (3 : Nat) (Option.none : Option Jvm.ClassFile.FieldType)) ∈ bw := bw_t (List.mem_of_getElem? (i := 683) (by decide +kernel)) (by decide +kernel)
theorem tw_694 : (Jvm.Cond.code ({ cls := "ImageForge$Image", name := "isNone", desc := "()Z" } : Jvm.MethodName) prog_2_method_2_code (1 : Nat) (Option.some Jvm.ClassFile.FieldType.boolean)) ∈ bw := bw_t (List.mem_of_getElem? (i := 694) (by decide +kernel)) (by decide +kernel)
theorem tw_718 : (Jvm.Cond.code ({ cls := "ImageForge$Loader", name := "bring", desc := "(LImageForge$Image;[[II)I" } : Jvm.MethodName) prog_4_method_2_code (6 : Nat) (Option.some Jvm.ClassFile.FieldType.int)) ∈ bw := bw_t (List.mem_of_getElem? (i := 718) (by decide +kernel)) (by decide +kernel)
theorem tw_721 : (Jvm.Cond.instanceMethod ({ cls := "ImageForge$Image", name := "copyFrom", desc := "(LImageForge$Image;)V" } : Jvm.MethodName)) ∈ bw := bw_t (List.mem_of_getElem? (i := 721) (by decide +kernel)) (by decide +kernel)
theorem tw_722 : (Jvm.Cond.code ({ cls := "ImageForge$Image", name := "copyFrom", desc := "(LImageForge$Image;)V" } : Jvm.MethodName) prog_2_method_4_code (2 : Nat) (Option.none : Option Jvm.ClassFile.FieldType)) ∈ bw := bw_t (List.mem_of_getElem? (i := 722) (by decide +kernel)) (by decide +kernel)
theorem tw_723 : (Jvm.Cond.methodLink "ImageForge$Image" (25 : Nat) ({ cls := "java/lang/System", name := "arraycopy", desc := "(Ljava/lang/Object;ILjava/lang/Object;II)V" } : Jvm.MethodName)) ∈ bw := bw_t (List.mem_of_getElem? (i := 723) (by decide +kernel)) (by decide +kernel)
theorem tw_724 : (Jvm.Cond.methodLink "ImageForge$Loader" (25 : Nat) ({ cls := "ImageForge$Loader", name := "prepare", desc := "(LImageForge$Image;[[II)I" } : Jvm.MethodName)) ∈ bw := bw_t (List.mem_of_getElem? (i := 724) (by decide +kernel)) (by decide +kernel)
theorem tw_726 : (Jvm.Cond.instanceMethod ({ cls := "ImageForge$Loader", name := "prepare", desc := "(LImageForge$Image;[[II)I" } : Jvm.MethodName)) ∈ bw := bw_t (List.mem_of_getElem? (i := 726) (by decide +kernel)) (by decide +kernel)
theorem tw_727 : (Jvm.Cond.code ({ cls := "ImageForge$Loader", name := "prepare", desc := "(LImageForge$Image;[[II)I" } : Jvm.MethodName) prog_4_method_3_code (4 : Nat) (Option.some Jvm.ClassFile.FieldType.int)) ∈ bw := bw_t (List.mem_of_getElem? (i := 727) (by decide +kernel)) (by decide +kernel)
theorem tw_728 : (Jvm.Cond.methodLink "ImageForge$Loader" (46 : Nat) ({ cls := "ImageForge$Loader", name := "hasHeader", desc := "(LImageForge$Image;)Z" } : Jvm.MethodName)) ∈ bw := bw_t (List.mem_of_getElem? (i := 728) (by decide +kernel)) (by decide +kernel)
theorem tw_730 : (Jvm.Cond.instanceMethod ({ cls := "ImageForge$Loader", name := "hasHeader", desc := "(LImageForge$Image;)Z" } : Jvm.MethodName)) ∈ bw := bw_t (List.mem_of_getElem? (i := 730) (by decide +kernel)) (by decide +kernel)
theorem tw_731 : (Jvm.Cond.code ({ cls := "ImageForge$Loader", name := "hasHeader", desc := "(LImageForge$Image;)Z" } : Jvm.MethodName) prog_4_method_4_code (2 : Nat) (Option.some Jvm.ClassFile.FieldType.boolean)) ∈ bw := bw_t (List.mem_of_getElem? (i := 731) (by decide +kernel)) (by decide +kernel)
theorem tw_733 : (Jvm.Cond.methodLink "ImageForge$Loader" (57 : Nat) ({ cls := "ImageForge$Loader", name := "holdsSections", desc := "(LImageForge$Image;)Z" } : Jvm.MethodName)) ∈ bw := bw_t (List.mem_of_getElem? (i := 733) (by decide +kernel)) (by decide +kernel)
theorem tw_735 : (Jvm.Cond.instanceMethod ({ cls := "ImageForge$Loader", name := "holdsSections", desc := "(LImageForge$Image;)Z" } : Jvm.MethodName)) ∈ bw := bw_t (List.mem_of_getElem? (i := 735) (by decide +kernel)) (by decide +kernel)
theorem tw_736 : (Jvm.Cond.code ({ cls := "ImageForge$Loader", name := "holdsSections", desc := "(LImageForge$Image;)Z" } : Jvm.MethodName) prog_4_method_5_code (3 : Nat) (Option.some Jvm.ClassFile.FieldType.boolean)) ∈ bw := bw_t (List.mem_of_getElem? (i := 736) (by decide +kernel)) (by decide +kernel)
theorem tw_739 : (Jvm.Cond.instanceMethod ({ cls := "ImageForge$Image", name := "holdsSection", desc := "(I)Z" } : Jvm.MethodName)) ∈ bw := bw_t (List.mem_of_getElem? (i := 739) (by decide +kernel)) (by decide +kernel)
theorem tw_740 : (Jvm.Cond.code ({ cls := "ImageForge$Image", name := "holdsSection", desc := "(I)Z" } : Jvm.MethodName) prog_2_method_16_code (4 : Nat) (Option.some Jvm.ClassFile.FieldType.boolean)) ∈ bw := bw_t (List.mem_of_getElem? (i := 740) (by decide +kernel)) (by decide +kernel)
theorem tw_741 : (Jvm.Cond.methodLink "ImageForge$Image" (39 : Nat) ({ cls := "ImageForge$Image", name := "sectionBegin", desc := "(I)I" } : Jvm.MethodName)) ∈ bw := bw_t (List.mem_of_getElem? (i := 741) (by decide +kernel)) (by decide +kernel)
theorem tw_743 : (Jvm.Cond.instanceMethod ({ cls := "ImageForge$Image", name := "sectionBegin", desc := "(I)I" } : Jvm.MethodName)) ∈ bw := bw_t (List.mem_of_getElem? (i := 743) (by decide +kernel)) (by decide +kernel)
theorem tw_744 : (Jvm.Cond.code ({ cls := "ImageForge$Image", name := "sectionBegin", desc := "(I)I" } : Jvm.MethodName) prog_2_method_13_code (2 : Nat) (Option.some Jvm.ClassFile.FieldType.int)) ∈ bw := bw_t (List.mem_of_getElem? (i := 744) (by decide +kernel)) (by decide +kernel)
theorem tw_745 : (Jvm.Cond.methodLink "ImageForge$Image" (42 : Nat) ({ cls := "ImageForge$Image", name := "sectionSize", desc := "(I)I" } : Jvm.MethodName)) ∈ bw := bw_t (List.mem_of_getElem? (i := 745) (by decide +kernel)) (by decide +kernel)
theorem tw_747 : (Jvm.Cond.instanceMethod ({ cls := "ImageForge$Image", name := "sectionSize", desc := "(I)I" } : Jvm.MethodName)) ∈ bw := bw_t (List.mem_of_getElem? (i := 747) (by decide +kernel)) (by decide +kernel)
theorem tw_748 : (Jvm.Cond.code ({ cls := "ImageForge$Image", name := "sectionSize", desc := "(I)I" } : Jvm.MethodName) prog_2_method_14_code (2 : Nat) (Option.some Jvm.ClassFile.FieldType.int)) ∈ bw := bw_t (List.mem_of_getElem? (i := 748) (by decide +kernel)) (by decide +kernel)
theorem tw_749 : (Jvm.Cond.methodLink "ImageForge$Loader" (60 : Nat) ({ cls := "ImageForge$Loader", name := "relocate", desc := "(LImageForge$Image;I)Z" } : Jvm.MethodName)) ∈ bw := bw_t (List.mem_of_getElem? (i := 749) (by decide +kernel)) (by decide +kernel)
theorem tw_751 : (Jvm.Cond.instanceMethod ({ cls := "ImageForge$Loader", name := "relocate", desc := "(LImageForge$Image;I)Z" } : Jvm.MethodName)) ∈ bw := bw_t (List.mem_of_getElem? (i := 751) (by decide +kernel)) (by decide +kernel)
theorem tw_752 : (Jvm.Cond.code ({ cls := "ImageForge$Loader", name := "relocate", desc := "(LImageForge$Image;I)Z" } : Jvm.MethodName) prog_4_method_6_code (6 : Nat) (Option.some Jvm.ClassFile.FieldType.boolean)) ∈ bw := bw_t (List.mem_of_getElem? (i := 752) (by decide +kernel)) (by decide +kernel)
theorem tw_755 : (Jvm.Cond.methodLink "ImageForge$Loader" (75 : Nat) ({ cls := "ImageForge$Loader", name := "relocateBlock", desc := "(LImageForge$Image;III)Z" } : Jvm.MethodName)) ∈ bw := bw_t (List.mem_of_getElem? (i := 755) (by decide +kernel)) (by decide +kernel)
theorem tw_757 : (Jvm.Cond.instanceMethod ({ cls := "ImageForge$Loader", name := "relocateBlock", desc := "(LImageForge$Image;III)Z" } : Jvm.MethodName)) ∈ bw := bw_t (List.mem_of_getElem? (i := 757) (by decide +kernel)) (by decide +kernel)
theorem tw_758 : (Jvm.Cond.code ({ cls := "ImageForge$Loader", name := "relocateBlock", desc := "(LImageForge$Image;III)Z" } : Jvm.MethodName) prog_4_method_7_code (11 : Nat) (Option.some Jvm.ClassFile.FieldType.boolean)) ∈ bw := bw_t (List.mem_of_getElem? (i := 758) (by decide +kernel)) (by decide +kernel)
theorem tw_762 : (Jvm.Cond.instanceMethod ({ cls := "ImageForge$Image", name := "holdsWord", desc := "(J)Z" } : Jvm.MethodName)) ∈ bw := bw_t (List.mem_of_getElem? (i := 762) (by decide +kernel)) (by decide +kernel)
theorem tw_763 : (Jvm.Cond.code ({ cls := "ImageForge$Image", name := "holdsWord", desc := "(J)Z" } : Jvm.MethodName) prog_2_method_12_code (3 : Nat) (Option.some Jvm.ClassFile.FieldType.boolean)) ∈ bw := bw_t (List.mem_of_getElem? (i := 763) (by decide +kernel)) (by decide +kernel)
theorem tw_765 : (Jvm.Cond.methodLink "ImageForge$Loader" (64 : Nat) ({ cls := "ImageForge$Loader", name := "bind", desc := "(LImageForge$Image;[[I)I" } : Jvm.MethodName)) ∈ bw := bw_t (List.mem_of_getElem? (i := 765) (by decide +kernel)) (by decide +kernel)
theorem tw_767 : (Jvm.Cond.instanceMethod ({ cls := "ImageForge$Loader", name := "bind", desc := "(LImageForge$Image;[[I)I" } : Jvm.MethodName)) ∈ bw := bw_t (List.mem_of_getElem? (i := 767) (by decide +kernel)) (by decide +kernel)
theorem tw_768 : (Jvm.Cond.code ({ cls := "ImageForge$Loader", name := "bind", desc := "(LImageForge$Image;[[I)I" } : Jvm.MethodName) prog_4_method_8_code (8 : Nat) (Option.some Jvm.ClassFile.FieldType.int)) ∈ bw := bw_t (List.mem_of_getElem? (i := 768) (by decide +kernel)) (by decide +kernel)
theorem tw_769 : (Jvm.Cond.methodLink "ImageForge$Loader" (90 : Nat) ({ cls := "ImageForge$Loader", name := "bindSlots", desc := "(LImageForge$Image;I[I)I" } : Jvm.MethodName)) ∈ bw := bw_t (List.mem_of_getElem? (i := 769) (by decide +kernel)) (by decide +kernel)
theorem tw_771 : (Jvm.Cond.instanceMethod ({ cls := "ImageForge$Loader", name := "bindSlots", desc := "(LImageForge$Image;I[I)I" } : Jvm.MethodName)) ∈ bw := bw_t (List.mem_of_getElem? (i := 771) (by decide +kernel)) (by decide +kernel)
theorem tw_772 : (Jvm.Cond.code ({ cls := "ImageForge$Loader", name := "bindSlots", desc := "(LImageForge$Image;I[I)I" } : Jvm.MethodName) prog_4_method_9_code (8 : Nat) (Option.some Jvm.ClassFile.FieldType.int)) ∈ bw := bw_t (List.mem_of_getElem? (i := 772) (by decide +kernel)) (by decide +kernel)
theorem tw_773 : (Jvm.Cond.constant "ImageForge$Loader" (94 : Nat) (-2147483648 : Int32)) ∈ bw := bw_t (List.mem_of_getElem? (i := 773) (by decide +kernel)) (by decide +kernel)
theorem tw_782 : (Jvm.Cond.fieldLink "ImageForgeModel" (80 : Nat) "ImageForgeModel" "thrown" "I") ∈ bw := bw_t (List.mem_of_getElem? (i := 782) (by decide +kernel)) (by decide +kernel)
theorem tw_783 : (Jvm.Cond.fieldLink "ImageForgeModel" (7 : Nat) "ImageForgeModel" "size" "[I") ∈ bw := bw_t (List.mem_of_getElem? (i := 783) (by decide +kernel)) (by decide +kernel)
theorem tw_784 : (Jvm.Cond.fieldLink "ImageForgeModel" (13 : Nat) "ImageForgeModel" "bytes" "[I") ∈ bw := bw_t (List.mem_of_getElem? (i := 784) (by decide +kernel)) (by decide +kernel)
theorem tw_785 : (Jvm.Cond.fieldLink "ImageForgeModel" (16 : Nat) "ImageForgeModel" "definitions" "[I") ∈ bw := bw_t (List.mem_of_getElem? (i := 785) (by decide +kernel)) (by decide +kernel)
theorem tw_786 : (Jvm.Cond.fieldLink "ImageForgeModel" (19 : Nat) "ImageForgeModel" "definedName" "[I") ∈ bw := bw_t (List.mem_of_getElem? (i := 786) (by decide +kernel)) (by decide +kernel)
theorem tw_787 : (Jvm.Cond.fieldLink "ImageForgeModel" (22 : Nat) "ImageForgeModel" "definedPart" "[I") ∈ bw := bw_t (List.mem_of_getElem? (i := 787) (by decide +kernel)) (by decide +kernel)
theorem tw_788 : (Jvm.Cond.fieldLink "ImageForgeModel" (25 : Nat) "ImageForgeModel" "definedPlace" "[I") ∈ bw := bw_t (List.mem_of_getElem? (i := 788) (by decide +kernel)) (by decide +kernel)
theorem tw_789 : (Jvm.Cond.fieldLink "ImageForgeModel" (28 : Nat) "ImageForgeModel" "references" "[I") ∈ bw := bw_t (List.mem_of_getElem? (i := 789) (by decide +kernel)) (by decide +kernel)
theorem tw_790 : (Jvm.Cond.fieldLink "ImageForgeModel" (31 : Nat) "ImageForgeModel" "refersPart" "[I") ∈ bw := bw_t (List.mem_of_getElem? (i := 790) (by decide +kernel)) (by decide +kernel)
theorem tw_791 : (Jvm.Cond.fieldLink "ImageForgeModel" (34 : Nat) "ImageForgeModel" "refersPlace" "[I") ∈ bw := bw_t (List.mem_of_getElem? (i := 791) (by decide +kernel)) (by decide +kernel)
theorem tw_792 : (Jvm.Cond.fieldLink "ImageForgeModel" (37 : Nat) "ImageForgeModel" "refersKind" "[I") ∈ bw := bw_t (List.mem_of_getElem? (i := 792) (by decide +kernel)) (by decide +kernel)
theorem tw_793 : (Jvm.Cond.fieldLink "ImageForgeModel" (40 : Nat) "ImageForgeModel" "refersName" "[I") ∈ bw := bw_t (List.mem_of_getElem? (i := 793) (by decide +kernel)) (by decide +kernel)
theorem tw_794 : (Jvm.Cond.fieldLink "ImageForgeModel" (43 : Nat) "ImageForgeModel" "library" "[I") ∈ bw := bw_t (List.mem_of_getElem? (i := 794) (by decide +kernel)) (by decide +kernel)
theorem tw_795 : (Jvm.Cond.fieldLink "ImageForgeModel" (46 : Nat) "ImageForgeModel" "ordinal" "[I") ∈ bw := bw_t (List.mem_of_getElem? (i := 795) (by decide +kernel)) (by decide +kernel)
theorem tw_796 : (Jvm.Cond.fieldLink "ImageForgeModel" (49 : Nat) "ImageForgeModel" "exported" "[Z") ∈ bw := bw_t (List.mem_of_getElem? (i := 796) (by decide +kernel)) (by decide +kernel)
theorem tw_797 : (Jvm.Cond.fieldLink "ImageForgeModel" (53 : Nat) "ImageForgeModel" "offers" "[I") ∈ bw := bw_t (List.mem_of_getElem? (i := 797) (by decide +kernel)) (by decide +kernel)
theorem tw_798 : (Jvm.Cond.fieldLink "ImageForgeModel" (163 : Nat) "ImageForgeModel" "length" "I") ∈ bw := bw_t (List.mem_of_getElem? (i := 798) (by decide +kernel)) (by decide +kernel)
theorem tw_799 : (Jvm.Cond.fieldLink "ImageForgeModel" (56 : Nat) "ImageForgeModel" "image" "[I") ∈ bw := bw_t (List.mem_of_getElem? (i := 799) (by decide +kernel)) (by decide +kernel)
theorem tw_800 : (Jvm.Cond.fieldLink "ImageForgeModel" (98 : Nat) "ImageForgeModel" "grown" "I") ∈ bw := bw_t (List.mem_of_getElem? (i := 800) (by decide +kernel)) (by decide +kernel)
theorem tw_801 : (Jvm.Cond.fieldLink "ImageForgeModel" (59 : Nat) "ImageForgeModel" "next" "[I") ∈ bw := bw_t (List.mem_of_getElem? (i := 801) (by decide +kernel)) (by decide +kernel)
theorem tw_802 : (Jvm.Cond.fieldLink "ImageForgeModel" (62 : Nat) "ImageForgeModel" "begins" "[I") ∈ bw := bw_t (List.mem_of_getElem? (i := 802) (by decide +kernel)) (by decide +kernel)
theorem tw_803 : (Jvm.Cond.fieldLink "ImageForgeModel" (65 : Nat) "ImageForgeModel" "ends" "[I") ∈ bw := bw_t (List.mem_of_getElem? (i := 803) (by decide +kernel)) (by decide +kernel)
theorem tw_804 : (Jvm.Cond.fieldLink "ImageForgeModel" (68 : Nat) "ImageForgeModel" "partAt" "[I") ∈ bw := bw_t (List.mem_of_getElem? (i := 804) (by decide +kernel)) (by decide +kernel)
theorem tw_805 : (Jvm.Cond.fieldLink "ImageForgeModel" (71 : Nat) "ImageForgeModel" "place" "[I") ∈ bw := bw_t (List.mem_of_getElem? (i := 805) (by decide +kernel)) (by decide +kernel)
theorem tw_806 : (Jvm.Cond.fieldLink "ImageForgeModel" (199 : Nat) "ImageForgeModel" "loaded" "Z") ∈ bw := bw_t (List.mem_of_getElem? (i := 806) (by decide +kernel)) (by decide +kernel)
theorem tw_807 : (Jvm.Cond.fieldLink "ImageForgeModel" (203 : Nat) "ImageForgeModel" "at" "I") ∈ bw := bw_t (List.mem_of_getElem? (i := 807) (by decide +kernel)) (by decide +kernel)
theorem tw_808 : (Jvm.Cond.fieldLink "ImageForgeModel" (206 : Nat) "ImageForgeModel" "loadedLength" "I") ∈ bw := bw_t (List.mem_of_getElem? (i := 808) (by decide +kernel)) (by decide +kernel)
theorem tw_809 : (Jvm.Cond.fieldLink "ImageForgeModel" (74 : Nat) "ImageForgeModel" "there" "[I") ∈ bw := bw_t (List.mem_of_getElem? (i := 809) (by decide +kernel)) (by decide +kernel)
theorem tw_810 : (Jvm.Cond.fieldLink "ImageForgeModel" (209 : Nat) "ImageForgeModel" "exportsAt" "I") ∈ bw := bw_t (List.mem_of_getElem? (i := 810) (by decide +kernel)) (by decide +kernel)
theorem tw_811 : (Jvm.Cond.fieldLink "ImageForgeModel" (212 : Nat) "ImageForgeModel" "exportsSize" "I") ∈ bw := bw_t (List.mem_of_getElem? (i := 811) (by decide +kernel)) (by decide +kernel)
theorem tw_812 : (Jvm.Cond.fieldLink "ImageForgeModel" (77 : Nat) "ImageForgeModel" "draft" "[I") ∈ bw := bw_t (List.mem_of_getElem? (i := 812) (by decide +kernel)) (by decide +kernel)
theorem tw_813 : (Jvm.Cond.fieldLink "ImageForgeModel" (166 : Nat) "ImageForgeModel" "wrong" "I") ∈ bw := bw_t (List.mem_of_getElem? (i := 813) (by decide +kernel)) (by decide +kernel)
theorem tw_882 : (Jvm.Cond.code ({ cls := "ImageForgeModel", name := "thrown", desc := "()I" } : Jvm.MethodName) prog_10_method_2_code (1 : Nat) (Option.some Jvm.ClassFile.FieldType.int)) ∈ bw := bw_t (List.mem_of_getElem? (i := 882) (by decide +kernel)) (by decide +kernel)
theorem tw_886 : (Jvm.Cond.code ({ cls := "ImageForgeModel", name := "put", desc := "(IIJI)I" } : Jvm.MethodName) prog_10_method_5_code (8 : Nat) (Option.some Jvm.ClassFile.FieldType.int)) ∈ bw := bw_t (List.mem_of_getElem? (i := 886) (by decide +kernel)) (by decide +kernel)
theorem tw_887 : (Jvm.Cond.methodLink "ImageForgeModel" (84 : Nat) ({ cls := "ImageForgeModel", name := "out", desc := "(II)Z" } : Jvm.MethodName)) ∈ bw := bw_t (List.mem_of_getElem? (i := 887) (by decide +kernel)) (by decide +kernel)
theorem tw_888 : (Jvm.Cond.static ({ cls := "ImageForgeModel", name := "out", desc := "(II)Z" } : Jvm.MethodName)) ∈ bw := bw_t (List.mem_of_getElem? (i := 888) (by decide +kernel)) (by decide +kernel)
theorem tw_889 : (Jvm.Cond.code ({ cls := "ImageForgeModel", name := "out", desc := "(II)Z" } : Jvm.MethodName) prog_10_method_4_code (2 : Nat) (Option.some Jvm.ClassFile.FieldType.boolean)) ∈ bw := bw_t (List.mem_of_getElem? (i := 889) (by decide +kernel)) (by decide +kernel)
theorem tw_890 : (Jvm.Cond.methodLink "ImageForgeModel" (88 : Nat) ({ cls := "ImageForgeModel", name := "fails", desc := "(ZI)Z" } : Jvm.MethodName)) ∈ bw := bw_t (List.mem_of_getElem? (i := 890) (by decide +kernel)) (by decide +kernel)
theorem tw_892 : (Jvm.Cond.instanceMethod ({ cls := "ImageForgeModel", name := "fails", desc := "(ZI)Z" } : Jvm.MethodName)) ∈ bw := bw_t (List.mem_of_getElem? (i := 892) (by decide +kernel)) (by decide +kernel)
theorem tw_893 : (Jvm.Cond.code ({ cls := "ImageForgeModel", name := "fails", desc := "(ZI)Z" } : Jvm.MethodName) prog_10_method_3_code (3 : Nat) (Option.some Jvm.ClassFile.FieldType.boolean)) ∈ bw := bw_t (List.mem_of_getElem? (i := 893) (by decide +kernel)) (by decide +kernel)
theorem tw_894 : (Jvm.Cond.constantLong "ImageForgeModel" (92 : Nat) (255 : Int64)) ∈ bw := bw_t (List.mem_of_getElem? (i := 894) (by decide +kernel)) (by decide +kernel)
theorem tw_898 : (Jvm.Cond.code ({ cls := "ImageForgeModel", name := "define", desc := "(IIII)V" } : Jvm.MethodName) prog_10_method_6_code (6 : Nat) (Option.none : Option Jvm.ClassFile.FieldType)) ∈ bw := bw_t (List.mem_of_getElem? (i := 898) (by decide +kernel)) (by decide +kernel)
theorem tw_902 : (Jvm.Cond.code ({ cls := "ImageForgeModel", name := "refer", desc := "(IIIII)V" } : Jvm.MethodName) prog_10_method_8_code (7 : Nat) (Option.none : Option Jvm.ClassFile.FieldType)) ∈ bw := bw_t (List.mem_of_getElem? (i := 902) (by decide +kernel)) (by decide +kernel)
theorem tw_903 : (Jvm.Cond.methodLink "ImageForgeModel" (94 : Nat) ({ cls := "ImageForgeModel", name := "overlaps", desc := "(III)Z" } : Jvm.MethodName)) ∈ bw := bw_t (List.mem_of_getElem? (i := 903) (by decide +kernel)) (by decide +kernel)
theorem tw_905 : (Jvm.Cond.instanceMethod ({ cls := "ImageForgeModel", name := "overlaps", desc := "(III)Z" } : Jvm.MethodName)) ∈ bw := bw_t (List.mem_of_getElem? (i := 905) (by decide +kernel)) (by decide +kernel)
theorem tw_906 : (Jvm.Cond.code ({ cls := "ImageForgeModel", name := "overlaps", desc := "(III)Z" } : Jvm.MethodName) prog_10_method_7_code (6 : Nat) (Option.some Jvm.ClassFile.FieldType.boolean)) ∈ bw := bw_t (List.mem_of_getElem? (i := 906) (by decide +kernel)) (by decide +kernel)
theorem tw_910 : (Jvm.Cond.code ({ cls := "ImageForgeModel", name := "imported", desc := "(III)V" } : Jvm.MethodName) prog_10_method_9_code (4 : Nat) (Option.none : Option Jvm.ClassFile.FieldType)) ∈ bw := bw_t (List.mem_of_getElem? (i := 910) (by decide +kernel)) (by decide +kernel)
theorem tw_914 : (Jvm.Cond.code ({ cls := "ImageForgeModel", name := "exported", desc := "(IZ)V" } : Jvm.MethodName) prog_10_method_10_code (3 : Nat) (Option.none : Option Jvm.ClassFile.FieldType)) ∈ bw := bw_t (List.mem_of_getElem? (i := 914) (by decide +kernel)) (by decide +kernel)
theorem tw_918 : (Jvm.Cond.code ({ cls := "ImageForgeModel", name := "offer", desc := "(III)V" } : Jvm.MethodName) prog_10_method_11_code (4 : Nat) (Option.none : Option Jvm.ClassFile.FieldType)) ∈ bw := bw_t (List.mem_of_getElem? (i := 918) (by decide +kernel)) (by decide +kernel)
theorem tw_922 : (Jvm.Cond.code ({ cls := "ImageForgeModel", name := "link", desc := "()I" } : Jvm.MethodName) prog_10_method_30_code (5 : Nat) (Option.some Jvm.ClassFile.FieldType.int)) ∈ bw := bw_t (List.mem_of_getElem? (i := 922) (by decide +kernel)) (by decide +kernel)
theorem tw_923 : (Jvm.Cond.methodLink "ImageForgeModel" (133 : Nat) ({ cls := "ImageForgeModel", name := "defined", desc := "(I)I" } : Jvm.MethodName)) ∈ bw := bw_t (List.mem_of_getElem? (i := 923) (by decide +kernel)) (by decide +kernel)
theorem tw_925 : (Jvm.Cond.instanceMethod ({ cls := "ImageForgeModel", name := "defined", desc := "(I)I" } : Jvm.MethodName)) ∈ bw := bw_t (List.mem_of_getElem? (i := 925) (by decide +kernel)) (by decide +kernel)
theorem tw_926 : (Jvm.Cond.code ({ cls := "ImageForgeModel", name := "defined", desc := "(I)I" } : Jvm.MethodName) prog_10_method_12_code (5 : Nat) (Option.some Jvm.ClassFile.FieldType.int)) ∈ bw := bw_t (List.mem_of_getElem? (i := 926) (by decide +kernel)) (by decide +kernel)
theorem tw_927 : (Jvm.Cond.methodLink "ImageForgeModel" (139 : Nat) ({ cls := "ImageForgeModel", name := "isMeant", desc := "(I)Z" } : Jvm.MethodName)) ∈ bw := bw_t (List.mem_of_getElem? (i := 927) (by decide +kernel)) (by decide +kernel)
theorem tw_929 : (Jvm.Cond.instanceMethod ({ cls := "ImageForgeModel", name := "isMeant", desc := "(I)Z" } : Jvm.MethodName)) ∈ bw := bw_t (List.mem_of_getElem? (i := 929) (by decide +kernel)) (by decide +kernel)
theorem tw_930 : (Jvm.Cond.code ({ cls := "ImageForgeModel", name := "isMeant", desc := "(I)Z" } : Jvm.MethodName) prog_10_method_13_code (5 : Nat) (Option.some Jvm.ClassFile.FieldType.boolean)) ∈ bw := bw_t (List.mem_of_getElem? (i := 930) (by decide +kernel)) (by decide +kernel)
theorem tw_931 : (Jvm.Cond.methodLink "ImageForgeModel" (142 : Nat) ({ cls := "ImageForgeModel", name := "layParts", desc := "(I)V" } : Jvm.MethodName)) ∈ bw := bw_t (List.mem_of_getElem? (i := 931) (by decide +kernel)) (by decide +kernel)
theorem tw_933 : (Jvm.Cond.instanceMethod ({ cls := "ImageForgeModel", name := "layParts", desc := "(I)V" } : Jvm.MethodName)) ∈ bw := bw_t (List.mem_of_getElem? (i := 933) (by decide +kernel)) (by decide +kernel)
theorem tw_934 : (Jvm.Cond.code ({ cls := "ImageForgeModel", name := "layParts", desc := "(I)V" } : Jvm.MethodName) prog_10_method_20_code (6 : Nat) (Option.none : Option Jvm.ClassFile.FieldType)) ∈ bw := bw_t (List.mem_of_getElem? (i := 934) (by decide +kernel)) (by decide +kernel)
theorem tw_935 : (Jvm.Cond.methodLink "ImageForgeModel" (109 : Nat) ({ cls := "ImageForgeModel", name := "begin", desc := "(I)V" } : Jvm.MethodName)) ∈ bw := bw_t (List.mem_of_getElem? (i := 935) (by decide +kernel)) (by decide +kernel)
theorem tw_937 : (Jvm.Cond.instanceMethod ({ cls := "ImageForgeModel", name := "begin", desc := "(I)V" } : Jvm.MethodName)) ∈ bw := bw_t (List.mem_of_getElem? (i := 937) (by decide +kernel)) (by decide +kernel)
theorem tw_938 : (Jvm.Cond.code ({ cls := "ImageForgeModel", name := "begin", desc := "(I)V" } : Jvm.MethodName) prog_10_method_19_code (2 : Nat) (Option.none : Option Jvm.ClassFile.FieldType)) ∈ bw := bw_t (List.mem_of_getElem? (i := 938) (by decide +kernel)) (by decide +kernel)
theorem tw_939 : (Jvm.Cond.methodLink "ImageForgeModel" (105 : Nat) ({ cls := "ImageForgeModel", name := "up", desc := "(II)I" } : Jvm.MethodName)) ∈ bw := bw_t (List.mem_of_getElem? (i := 939) (by decide +kernel)) (by decide +kernel)
theorem tw_940 : (Jvm.Cond.static ({ cls := "ImageForgeModel", name := "up", desc := "(II)I" } : Jvm.MethodName)) ∈ bw := bw_t (List.mem_of_getElem? (i := 940) (by decide +kernel)) (by decide +kernel)
theorem tw_941 : (Jvm.Cond.code ({ cls := "ImageForgeModel", name := "up", desc := "(II)I" } : Jvm.MethodName) prog_10_method_18_code (2 : Nat) (Option.some Jvm.ClassFile.FieldType.int)) ∈ bw := bw_t (List.mem_of_getElem? (i := 941) (by decide +kernel)) (by decide +kernel)
theorem tw_942 : (Jvm.Cond.methodLink "ImageForgeModel" (145 : Nat) ({ cls := "ImageForgeModel", name := "findPlaces", desc := "()V" } : Jvm.MethodName)) ∈ bw := bw_t (List.mem_of_getElem? (i := 942) (by decide +kernel)) (by decide +kernel)
theorem tw_944 : (Jvm.Cond.instanceMethod ({ cls := "ImageForgeModel", name := "findPlaces", desc := "()V" } : Jvm.MethodName)) ∈ bw := bw_t (List.mem_of_getElem? (i := 944) (by decide +kernel)) (by decide +kernel)
theorem tw_945 : (Jvm.Cond.code ({ cls := "ImageForgeModel", name := "findPlaces", desc := "()V" } : Jvm.MethodName) prog_10_method_26_code (3 : Nat) (Option.none : Option Jvm.ClassFile.FieldType)) ∈ bw := bw_t (List.mem_of_getElem? (i := 945) (by decide +kernel)) (by decide +kernel)
theorem tw_946 : (Jvm.Cond.methodLink "ImageForgeModel" (148 : Nat) ({ cls := "ImageForgeModel", name := "layImports", desc := "()V" } : Jvm.MethodName)) ∈ bw := bw_t (List.mem_of_getElem? (i := 946) (by decide +kernel)) (by decide +kernel)
theorem tw_948 : (Jvm.Cond.instanceMethod ({ cls := "ImageForgeModel", name := "layImports", desc := "()V" } : Jvm.MethodName)) ∈ bw := bw_t (List.mem_of_getElem? (i := 948) (by decide +kernel)) (by decide +kernel)
theorem tw_949 : (Jvm.Cond.code ({ cls := "ImageForgeModel", name := "layImports", desc := "()V" } : Jvm.MethodName) prog_10_method_22_code (5 : Nat) (Option.none : Option Jvm.ClassFile.FieldType)) ∈ bw := bw_t (List.mem_of_getElem? (i := 949) (by decide +kernel)) (by decide +kernel)
theorem tw_950 : (Jvm.Cond.methodLink "ImageForgeModel" (113 : Nat) ({ cls := "ImageForgeModel", name := "namesOf", desc := "(I)I" } : Jvm.MethodName)) ∈ bw := bw_t (List.mem_of_getElem? (i := 950) (by decide +kernel)) (by decide +kernel)
theorem tw_952 : (Jvm.Cond.instanceMethod ({ cls := "ImageForgeModel", name := "namesOf", desc := "(I)I" } : Jvm.MethodName)) ∈ bw := bw_t (List.mem_of_getElem? (i := 952) (by decide +kernel)) (by decide +kernel)
theorem tw_953 : (Jvm.Cond.code ({ cls := "ImageForgeModel", name := "namesOf", desc := "(I)I" } : Jvm.MethodName) prog_10_method_21_code (4 : Nat) (Option.some Jvm.ClassFile.FieldType.int)) ∈ bw := bw_t (List.mem_of_getElem? (i := 953) (by decide +kernel)) (by decide +kernel)
theorem tw_954 : (Jvm.Cond.methodLink "ImageForgeModel" (117 : Nat) ({ cls := "ImageForgeModel", name := "add", desc := "(I)V" } : Jvm.MethodName)) ∈ bw := bw_t (List.mem_of_getElem? (i := 954) (by decide +kernel)) (by decide +kernel)
theorem tw_956 : (Jvm.Cond.instanceMethod ({ cls := "ImageForgeModel", name := "add", desc := "(I)V" } : Jvm.MethodName)) ∈ bw := bw_t (List.mem_of_getElem? (i := 956) (by decide +kernel)) (by decide +kernel)
theorem tw_957 : (Jvm.Cond.code ({ cls := "ImageForgeModel", name := "add", desc := "(I)V" } : Jvm.MethodName) prog_10_method_16_code (2 : Nat) (Option.none : Option Jvm.ClassFile.FieldType)) ∈ bw := bw_t (List.mem_of_getElem? (i := 957) (by decide +kernel)) (by decide +kernel)
theorem tw_958 : (Jvm.Cond.methodLink "ImageForgeModel" (101 : Nat) ({ cls := "ImageForgeModel", name := "word", desc := "(II)V" } : Jvm.MethodName)) ∈ bw := bw_t (List.mem_of_getElem? (i := 958) (by decide +kernel)) (by decide +kernel)
theorem tw_960 : (Jvm.Cond.instanceMethod ({ cls := "ImageForgeModel", name := "word", desc := "(II)V" } : Jvm.MethodName)) ∈ bw := bw_t (List.mem_of_getElem? (i := 960) (by decide +kernel)) (by decide +kernel)
theorem tw_961 : (Jvm.Cond.code ({ cls := "ImageForgeModel", name := "word", desc := "(II)V" } : Jvm.MethodName) prog_10_method_14_code (4 : Nat) (Option.none : Option Jvm.ClassFile.FieldType)) ∈ bw := bw_t (List.mem_of_getElem? (i := 961) (by decide +kernel)) (by decide +kernel)
theorem tw_962 : (Jvm.Cond.constant "ImageForgeModel" (120 : Nat) (-2147483648 : Int32)) ∈ bw := bw_t (List.mem_of_getElem? (i := 962) (by decide +kernel)) (by decide +kernel)
theorem tw_963 : (Jvm.Cond.methodLink "ImageForgeModel" (151 : Nat) ({ cls := "ImageForgeModel", name := "layExports", desc := "()V" } : Jvm.MethodName)) ∈ bw := bw_t (List.mem_of_getElem? (i := 963) (by decide +kernel)) (by decide +kernel)
theorem tw_965 : (Jvm.Cond.instanceMethod ({ cls := "ImageForgeModel", name := "layExports", desc := "()V" } : Jvm.MethodName)) ∈ bw := bw_t (List.mem_of_getElem? (i := 965) (by decide +kernel)) (by decide +kernel)
theorem tw_966 : (Jvm.Cond.code ({ cls := "ImageForgeModel", name := "layExports", desc := "()V" } : Jvm.MethodName) prog_10_method_23_code (3 : Nat) (Option.none : Option Jvm.ClassFile.FieldType)) ∈ bw := bw_t (List.mem_of_getElem? (i := 966) (by decide +kernel)) (by decide +kernel)
theorem tw_967 : (Jvm.Cond.methodLink "ImageForgeModel" (154 : Nat) ({ cls := "ImageForgeModel", name := "layRelocations", desc := "()V" } : Jvm.MethodName)) ∈ bw := bw_t (List.mem_of_getElem? (i := 967) (by decide +kernel)) (by decide +kernel)
theorem tw_969 : (Jvm.Cond.instanceMethod ({ cls := "ImageForgeModel", name := "layRelocations", desc := "()V" } : Jvm.MethodName)) ∈ bw := bw_t (List.mem_of_getElem? (i := 969) (by decide +kernel)) (by decide +kernel)
theorem tw_970 : (Jvm.Cond.code ({ cls := "ImageForgeModel", name := "layRelocations", desc := "()V" } : Jvm.MethodName) prog_10_method_25_code (4 : Nat) (Option.none : Option Jvm.ClassFile.FieldType)) ∈ bw := bw_t (List.mem_of_getElem? (i := 970) (by decide +kernel)) (by decide +kernel)
theorem tw_971 : (Jvm.Cond.methodLink "ImageForgeModel" (121 : Nat) ({ cls := "ImageForgeModel", name := "isAbsolute", desc := "(I)Z" } : Jvm.MethodName)) ∈ bw := bw_t (List.mem_of_getElem? (i := 971) (by decide +kernel)) (by decide +kernel)
theorem tw_973 : (Jvm.Cond.instanceMethod ({ cls := "ImageForgeModel", name := "isAbsolute", desc := "(I)Z" } : Jvm.MethodName)) ∈ bw := bw_t (List.mem_of_getElem? (i := 973) (by decide +kernel)) (by decide +kernel)
theorem tw_974 : (Jvm.Cond.code ({ cls := "ImageForgeModel", name := "isAbsolute", desc := "(I)Z" } : Jvm.MethodName) prog_10_method_24_code (5 : Nat) (Option.some Jvm.ClassFile.FieldType.boolean)) ∈ bw := bw_t (List.mem_of_getElem? (i := 974) (by decide +kernel)) (by decide +kernel)
theorem tw_975 : (Jvm.Cond.methodLink "ImageForgeModel" (125 : Nat) ({ cls := "ImageForgeModel", name := "addPair", desc := "(I)V" } : Jvm.MethodName)) ∈ bw := bw_t (List.mem_of_getElem? (i := 975) (by decide +kernel)) (by decide +kernel)
theorem tw_977 : (Jvm.Cond.instanceMethod ({ cls := "ImageForgeModel", name := "addPair", desc := "(I)V" } : Jvm.MethodName)) ∈ bw := bw_t (List.mem_of_getElem? (i := 977) (by decide +kernel)) (by decide +kernel)
theorem tw_978 : (Jvm.Cond.code ({ cls := "ImageForgeModel", name := "addPair", desc := "(I)V" } : Jvm.MethodName) prog_10_method_17_code (2 : Nat) (Option.none : Option Jvm.ClassFile.FieldType)) ∈ bw := bw_t (List.mem_of_getElem? (i := 978) (by decide +kernel)) (by decide +kernel)
theorem tw_979 : (Jvm.Cond.methodLink "ImageForgeModel" (157 : Nat) ({ cls := "ImageForgeModel", name := "resolve", desc := "()V" } : Jvm.MethodName)) ∈ bw := bw_t (List.mem_of_getElem? (i := 979) (by decide +kernel)) (by decide +kernel)
theorem tw_981 : (Jvm.Cond.instanceMethod ({ cls := "ImageForgeModel", name := "resolve", desc := "()V" } : Jvm.MethodName)) ∈ bw := bw_t (List.mem_of_getElem? (i := 981) (by decide +kernel)) (by decide +kernel)
theorem tw_982 : (Jvm.Cond.code ({ cls := "ImageForgeModel", name := "resolve", desc := "()V" } : Jvm.MethodName) prog_10_method_27_code (6 : Nat) (Option.none : Option Jvm.ClassFile.FieldType)) ∈ bw := bw_t (List.mem_of_getElem? (i := 982) (by decide +kernel)) (by decide +kernel)
theorem tw_983 : (Jvm.Cond.methodLink "ImageForgeModel" (128 : Nat) ({ cls := "ImageForgeModel", name := "wordIn", desc := "([II)I" } : Jvm.MethodName)) ∈ bw := bw_t (List.mem_of_getElem? (i := 983) (by decide +kernel)) (by decide +kernel)
theorem tw_984 : (Jvm.Cond.static ({ cls := "ImageForgeModel", name := "wordIn", desc := "([II)I" } : Jvm.MethodName)) ∈ bw := bw_t (List.mem_of_getElem? (i := 984) (by decide +kernel)) (by decide +kernel)
theorem tw_985 : (Jvm.Cond.code ({ cls := "ImageForgeModel", name := "wordIn", desc := "([II)I" } : Jvm.MethodName) prog_10_method_15_code (2 : Nat) (Option.some Jvm.ClassFile.FieldType.int)) ∈ bw := bw_t (List.mem_of_getElem? (i := 985) (by decide +kernel)) (by decide +kernel)
theorem tw_986 : (Jvm.Cond.methodLink "ImageForgeModel" (160 : Nat) ({ cls := "ImageForgeModel", name := "header", desc := "()V" } : Jvm.MethodName)) ∈ bw := bw_t (List.mem_of_getElem? (i := 986) (by decide +kernel)) (by decide +kernel)
theorem tw_988 : (Jvm.Cond.instanceMethod ({ cls := "ImageForgeModel", name := "header", desc := "()V" } : Jvm.MethodName)) ∈ bw := bw_t (List.mem_of_getElem? (i := 988) (by decide +kernel)) (by decide +kernel)
theorem tw_989 : (Jvm.Cond.code ({ cls := "ImageForgeModel", name := "header", desc := "()V" } : Jvm.MethodName) prog_10_method_29_code (2 : Nat) (Option.none : Option Jvm.ClassFile.FieldType)) ∈ bw := bw_t (List.mem_of_getElem? (i := 989) (by decide +kernel)) (by decide +kernel)
theorem tw_990 : (Jvm.Cond.methodLink "ImageForgeModel" (136 : Nat) ({ cls := "ImageForgeModel", name := "sumOf", desc := "([II)I" } : Jvm.MethodName)) ∈ bw := bw_t (List.mem_of_getElem? (i := 990) (by decide +kernel)) (by decide +kernel)
theorem tw_992 : (Jvm.Cond.instanceMethod ({ cls := "ImageForgeModel", name := "sumOf", desc := "([II)I" } : Jvm.MethodName)) ∈ bw := bw_t (List.mem_of_getElem? (i := 992) (by decide +kernel)) (by decide +kernel)
theorem tw_993 : (Jvm.Cond.code ({ cls := "ImageForgeModel", name := "sumOf", desc := "([II)I" } : Jvm.MethodName) prog_10_method_28_code (5 : Nat) (Option.some Jvm.ClassFile.FieldType.int)) ∈ bw := bw_t (List.mem_of_getElem? (i := 993) (by decide +kernel)) (by decide +kernel)
theorem tw_994 : (Jvm.Cond.constant "ImageForgeModel" (132 : Nat) (65535 : Int32)) ∈ bw := bw_t (List.mem_of_getElem? (i := 994) (by decide +kernel)) (by decide +kernel)
theorem tw_998 : (Jvm.Cond.code ({ cls := "ImageForgeModel", name := "image", desc := "(I)I" } : Jvm.MethodName) prog_10_method_31_code (2 : Nat) (Option.some Jvm.ClassFile.FieldType.int)) ∈ bw := bw_t (List.mem_of_getElem? (i := 998) (by decide +kernel)) (by decide +kernel)
theorem tw_1002 : (Jvm.Cond.code ({ cls := "ImageForgeModel", name := "spoil", desc := "(II)V" } : Jvm.MethodName) prog_10_method_32_code (3 : Nat) (Option.none : Option Jvm.ClassFile.FieldType)) ∈ bw := bw_t (List.mem_of_getElem? (i := 1002) (by decide +kernel)) (by decide +kernel)
theorem tw_1006 : (Jvm.Cond.code ({ cls := "ImageForgeModel", name := "seal", desc := "()I" } : Jvm.MethodName) prog_10_method_33_code (3 : Nat) (Option.some Jvm.ClassFile.FieldType.int)) ∈ bw := bw_t (List.mem_of_getElem? (i := 1006) (by decide +kernel)) (by decide +kernel)
theorem tw_1010 : (Jvm.Cond.code ({ cls := "ImageForgeModel", name := "load", desc := "(I)I" } : Jvm.MethodName) prog_10_method_42_code (3 : Nat) (Option.some Jvm.ClassFile.FieldType.int)) ∈ bw := bw_t (List.mem_of_getElem? (i := 1010) (by decide +kernel)) (by decide +kernel)
theorem tw_1011 : (Jvm.Cond.constant "ImageForgeModel" (189 : Nat) (1073741824 : Int32)) ∈ bw := bw_t (List.mem_of_getElem? (i := 1011) (by decide +kernel)) (by decide +kernel)
theorem tw_1012 : (Jvm.Cond.methodLink "ImageForgeModel" (190 : Nat) ({ cls := "ImageForgeModel", name := "checkHeader", desc := "()V" } : Jvm.MethodName)) ∈ bw := bw_t (List.mem_of_getElem? (i := 1012) (by decide +kernel)) (by decide +kernel)
theorem tw_1014 : (Jvm.Cond.instanceMethod ({ cls := "ImageForgeModel", name := "checkHeader", desc := "()V" } : Jvm.MethodName)) ∈ bw := bw_t (List.mem_of_getElem? (i := 1014) (by decide +kernel)) (by decide +kernel)
theorem tw_1015 : (Jvm.Cond.code ({ cls := "ImageForgeModel", name := "checkHeader", desc := "()V" } : Jvm.MethodName) prog_10_method_37_code (2 : Nat) (Option.none : Option Jvm.ClassFile.FieldType)) ∈ bw := bw_t (List.mem_of_getElem? (i := 1015) (by decide +kernel)) (by decide +kernel)
theorem tw_1016 : (Jvm.Cond.methodLink "ImageForgeModel" (169 : Nat) ({ cls := "ImageForgeModel", name := "refuse", desc := "(I)V" } : Jvm.MethodName)) ∈ bw := bw_t (List.mem_of_getElem? (i := 1016) (by decide +kernel)) (by decide +kernel)
theorem tw_1018 : (Jvm.Cond.instanceMethod ({ cls := "ImageForgeModel", name := "refuse", desc := "(I)V" } : Jvm.MethodName)) ∈ bw := bw_t (List.mem_of_getElem? (i := 1018) (by decide +kernel)) (by decide +kernel)
theorem tw_1019 : (Jvm.Cond.code ({ cls := "ImageForgeModel", name := "refuse", desc := "(I)V" } : Jvm.MethodName) prog_10_method_34_code (2 : Nat) (Option.none : Option Jvm.ClassFile.FieldType)) ∈ bw := bw_t (List.mem_of_getElem? (i := 1019) (by decide +kernel)) (by decide +kernel)
theorem tw_1020 : (Jvm.Cond.methodLink "ImageForgeModel" (172 : Nat) ({ cls := "ImageForgeModel", name := "lies", desc := "(JJJ)Z" } : Jvm.MethodName)) ∈ bw := bw_t (List.mem_of_getElem? (i := 1020) (by decide +kernel)) (by decide +kernel)
theorem tw_1021 : (Jvm.Cond.static ({ cls := "ImageForgeModel", name := "lies", desc := "(JJJ)Z" } : Jvm.MethodName)) ∈ bw := bw_t (List.mem_of_getElem? (i := 1021) (by decide +kernel)) (by decide +kernel)
theorem tw_1022 : (Jvm.Cond.code ({ cls := "ImageForgeModel", name := "lies", desc := "(JJJ)Z" } : Jvm.MethodName) prog_10_method_35_code (6 : Nat) (Option.some Jvm.ClassFile.FieldType.boolean)) ∈ bw := bw_t (List.mem_of_getElem? (i := 1022) (by decide +kernel)) (by decide +kernel)
theorem tw_1023 : (Jvm.Cond.methodLink "ImageForgeModel" (193 : Nat) ({ cls := "ImageForgeModel", name := "relocate", desc := "(I)V" } : Jvm.MethodName)) ∈ bw := bw_t (List.mem_of_getElem? (i := 1023) (by decide +kernel)) (by decide +kernel)
theorem tw_1025 : (Jvm.Cond.instanceMethod ({ cls := "ImageForgeModel", name := "relocate", desc := "(I)V" } : Jvm.MethodName)) ∈ bw := bw_t (List.mem_of_getElem? (i := 1025) (by decide +kernel)) (by decide +kernel)
theorem tw_1026 : (Jvm.Cond.code ({ cls := "ImageForgeModel", name := "relocate", desc := "(I)V" } : Jvm.MethodName) prog_10_method_39_code (7 : Nat) (Option.none : Option Jvm.ClassFile.FieldType)) ∈ bw := bw_t (List.mem_of_getElem? (i := 1026) (by decide +kernel)) (by decide +kernel)
theorem tw_1027 : (Jvm.Cond.methodLink "ImageForgeModel" (181 : Nat) ({ cls := "ImageForgeModel", name := "entry", desc := "(III)V" } : Jvm.MethodName)) ∈ bw := bw_t (List.mem_of_getElem? (i := 1027) (by decide +kernel)) (by decide +kernel)
theorem tw_1029 : (Jvm.Cond.instanceMethod ({ cls := "ImageForgeModel", name := "entry", desc := "(III)V" } : Jvm.MethodName)) ∈ bw := bw_t (List.mem_of_getElem? (i := 1029) (by decide +kernel)) (by decide +kernel)
theorem tw_1030 : (Jvm.Cond.code ({ cls := "ImageForgeModel", name := "entry", desc := "(III)V" } : Jvm.MethodName) prog_10_method_38_code (7 : Nat) (Option.none : Option Jvm.ClassFile.FieldType)) ∈ bw := bw_t (List.mem_of_getElem? (i := 1030) (by decide +kernel)) (by decide +kernel)
theorem tw_1031 : (Jvm.Cond.constantLong "ImageForgeModel" (176 : Nat) (4 : Int64)) ∈ bw := bw_t (List.mem_of_getElem? (i := 1031) (by decide +kernel)) (by decide +kernel)
theorem tw_1032 : (Jvm.Cond.methodLink "ImageForgeModel" (178 : Nat) ({ cls := "ImageForgeModel", name := "change", desc := "(II)V" } : Jvm.MethodName)) ∈ bw := bw_t (List.mem_of_getElem? (i := 1032) (by decide +kernel)) (by decide +kernel)
theorem tw_1034 : (Jvm.Cond.instanceMethod ({ cls := "ImageForgeModel", name := "change", desc := "(II)V" } : Jvm.MethodName)) ∈ bw := bw_t (List.mem_of_getElem? (i := 1034) (by decide +kernel)) (by decide +kernel)
theorem tw_1035 : (Jvm.Cond.code ({ cls := "ImageForgeModel", name := "change", desc := "(II)V" } : Jvm.MethodName) prog_10_method_36_code (4 : Nat) (Option.none : Option Jvm.ClassFile.FieldType)) ∈ bw := bw_t (List.mem_of_getElem? (i := 1035) (by decide +kernel)) (by decide +kernel)
theorem tw_1036 : (Jvm.Cond.methodLink "ImageForgeModel" (196 : Nat) ({ cls := "ImageForgeModel", name := "bind", desc := "()V" } : Jvm.MethodName)) ∈ bw := bw_t (List.mem_of_getElem? (i := 1036) (by decide +kernel)) (by decide +kernel)
theorem tw_1038 : (Jvm.Cond.instanceMethod ({ cls := "ImageForgeModel", name := "bind", desc := "()V" } : Jvm.MethodName)) ∈ bw := bw_t (List.mem_of_getElem? (i := 1038) (by decide +kernel)) (by decide +kernel)
theorem tw_1039 : (Jvm.Cond.code ({ cls := "ImageForgeModel", name := "bind", desc := "()V" } : Jvm.MethodName) prog_10_method_41_code (5 : Nat) (Option.none : Option Jvm.ClassFile.FieldType)) ∈ bw := bw_t (List.mem_of_getElem? (i := 1039) (by decide +kernel)) (by decide +kernel)
theorem tw_1040 : (Jvm.Cond.methodLink "ImageForgeModel" (186 : Nat) ({ cls := "ImageForgeModel", name := "bindSlots", desc := "(II)V" } : Jvm.MethodName)) ∈ bw := bw_t (List.mem_of_getElem? (i := 1040) (by decide +kernel)) (by decide +kernel)
theorem tw_1042 : (Jvm.Cond.instanceMethod ({ cls := "ImageForgeModel", name := "bindSlots", desc := "(II)V" } : Jvm.MethodName)) ∈ bw := bw_t (List.mem_of_getElem? (i := 1042) (by decide +kernel)) (by decide +kernel)
theorem tw_1043 : (Jvm.Cond.code ({ cls := "ImageForgeModel", name := "bindSlots", desc := "(II)V" } : Jvm.MethodName) prog_10_method_40_code (8 : Nat) (Option.none : Option Jvm.ClassFile.FieldType)) ∈ bw := bw_t (List.mem_of_getElem? (i := 1043) (by decide +kernel)) (by decide +kernel)
theorem tw_1044 : (Jvm.Cond.constant "ImageForgeModel" (185 : Nat) (2147483647 : Int32)) ∈ bw := bw_t (List.mem_of_getElem? (i := 1044) (by decide +kernel)) (by decide +kernel)
theorem tw_1048 : (Jvm.Cond.code ({ cls := "ImageForgeModel", name := "at", desc := "(I)I" } : Jvm.MethodName) prog_10_method_43_code (4 : Nat) (Option.some Jvm.ClassFile.FieldType.int)) ∈ bw := bw_t (List.mem_of_getElem? (i := 1048) (by decide +kernel)) (by decide +kernel)
theorem tw_1052 : (Jvm.Cond.code ({ cls := "ImageForgeModel", name := "find", desc := "(I)I" } : Jvm.MethodName) prog_10_method_44_code (5 : Nat) (Option.some Jvm.ClassFile.FieldType.int)) ∈ bw := bw_t (List.mem_of_getElem? (i := 1052) (by decide +kernel)) (by decide +kernel)
theorem tp_0 : (Jvm.Cond.selects "ImageForge$Loader" ({ cls := "ImageForge$Loader", name := "byteAt", desc := "(I)I" } : Jvm.MethodName) ({ cls := "ImageForge$Loader", name := "byteAt", desc := "(I)I" } : Jvm.MethodName)) ∈ bw := bw_s (List.mem_of_getElem? (i := 0) (by decide +kernel)) (by decide +kernel)
theorem tp_1 : (Jvm.Cond.selects "ImageForge$Image" ({ cls := "ImageForge$Image", name := "byteAt", desc := "(I)I" } : Jvm.MethodName) ({ cls := "ImageForge$Image", name := "byteAt", desc := "(I)I" } : Jvm.MethodName)) ∈ bw := bw_s (List.mem_of_getElem? (i := 1) (by decide +kernel)) (by decide +kernel)
theorem tp_2 : (Jvm.Cond.selects "ImageForge$Loader" ({ cls := "ImageForge$Loader", name := "addressOf", desc := "(I)I" } : Jvm.MethodName) ({ cls := "ImageForge$Loader", name := "addressOf", desc := "(I)I" } : Jvm.MethodName)) ∈ bw := bw_s (List.mem_of_getElem? (i := 2) (by decide +kernel)) (by decide +kernel)
theorem tp_3 : (Jvm.Cond.selects "ImageForge$Image" ({ cls := "ImageForge$Image", name := "wordAt", desc := "(I)I" } : Jvm.MethodName) ({ cls := "ImageForge$Image", name := "wordAt", desc := "(I)I" } : Jvm.MethodName)) ∈ bw := bw_s (List.mem_of_getElem? (i := 3) (by decide +kernel)) (by decide +kernel)
theorem tp_13 : (Jvm.Cond.selects "ImageForge$Name" ({ cls := "ImageForge$Name", name := "isDefined", desc := "()Z" } : Jvm.MethodName) ({ cls := "ImageForge$Name", name := "isDefined", desc := "()Z" } : Jvm.MethodName)) ∈ bw := bw_s (List.mem_of_getElem? (i := 13) (by decide +kernel)) (by decide +kernel)
theorem tp_14 : (Jvm.Cond.selects "ImageForge$Name" ({ cls := "ImageForge$Name", name := "isImported", desc := "()Z" } : Jvm.MethodName) ({ cls := "ImageForge$Name", name := "isImported", desc := "()Z" } : Jvm.MethodName)) ∈ bw := bw_s (List.mem_of_getElem? (i := 14) (by decide +kernel)) (by decide +kernel)
theorem tp_18 : (Jvm.Cond.selects "ImageForge$Image" ({ cls := "ImageForge$Image", name := "clear", desc := "()V" } : Jvm.MethodName) ({ cls := "ImageForge$Image", name := "clear", desc := "()V" } : Jvm.MethodName)) ∈ bw := bw_s (List.mem_of_getElem? (i := 18) (by decide +kernel)) (by decide +kernel)
theorem tp_19 : (Jvm.Cond.selects "ImageForge$Linker" ({ cls := "ImageForge$Linker", name := "writeParts", desc := "([LImageForge$ObjectFile;ILImageForge$Image;I)I" } : Jvm.MethodName) ({ cls := "ImageForge$Linker", name := "writeParts", desc := "([LImageForge$ObjectFile;ILImageForge$Image;I)I" } : Jvm.MethodName)) ∈ bw := bw_s (List.mem_of_getElem? (i := 19) (by decide +kernel)) (by decide +kernel)
theorem tp_20 : (Jvm.Cond.selects "ImageForge$Linker" ({ cls := "ImageForge$Linker", name := "endSection", desc := "(LImageForge$Image;III)I" } : Jvm.MethodName) ({ cls := "ImageForge$Linker", name := "endSection", desc := "(LImageForge$Image;III)I" } : Jvm.MethodName)) ∈ bw := bw_s (List.mem_of_getElem? (i := 20) (by decide +kernel)) (by decide +kernel)
theorem tp_21 : (Jvm.Cond.selects "ImageForge$Image" ({ cls := "ImageForge$Image", name := "setSection", desc := "(III)V" } : Jvm.MethodName) ({ cls := "ImageForge$Image", name := "setSection", desc := "(III)V" } : Jvm.MethodName)) ∈ bw := bw_s (List.mem_of_getElem? (i := 21) (by decide +kernel)) (by decide +kernel)
theorem tp_22 : (Jvm.Cond.selects "ImageForge$Image" ({ cls := "ImageForge$Image", name := "setWord", desc := "(II)V" } : Jvm.MethodName) ({ cls := "ImageForge$Image", name := "setWord", desc := "(II)V" } : Jvm.MethodName)) ∈ bw := bw_s (List.mem_of_getElem? (i := 22) (by decide +kernel)) (by decide +kernel)
theorem tp_23 : (Jvm.Cond.selects "ImageForge$Linker" ({ cls := "ImageForge$Linker", name := "placeDefinitions", desc := "([LImageForge$Name;)V" } : Jvm.MethodName) ({ cls := "ImageForge$Linker", name := "placeDefinitions", desc := "([LImageForge$Name;)V" } : Jvm.MethodName)) ∈ bw := bw_s (List.mem_of_getElem? (i := 23) (by decide +kernel)) (by decide +kernel)
theorem tp_24 : (Jvm.Cond.selects "ImageForge$Linker" ({ cls := "ImageForge$Linker", name := "writeImports", desc := "([LImageForge$Name;LImageForge$Image;I)I" } : Jvm.MethodName) ({ cls := "ImageForge$Linker", name := "writeImports", desc := "([LImageForge$Name;LImageForge$Image;I)I" } : Jvm.MethodName)) ∈ bw := bw_s (List.mem_of_getElem? (i := 24) (by decide +kernel)) (by decide +kernel)
theorem tp_25 : (Jvm.Cond.selects "ImageForge$Linker" ({ cls := "ImageForge$Linker", name := "countLibraries", desc := "([LImageForge$Name;)I" } : Jvm.MethodName) ({ cls := "ImageForge$Linker", name := "countLibraries", desc := "([LImageForge$Name;)I" } : Jvm.MethodName)) ∈ bw := bw_s (List.mem_of_getElem? (i := 25) (by decide +kernel)) (by decide +kernel)
theorem tp_26 : (Jvm.Cond.selects "ImageForge$Linker" ({ cls := "ImageForge$Linker", name := "writeSlots", desc := "([LImageForge$Name;ILImageForge$Image;I)I" } : Jvm.MethodName) ({ cls := "ImageForge$Linker", name := "writeSlots", desc := "([LImageForge$Name;ILImageForge$Image;I)I" } : Jvm.MethodName)) ∈ bw := bw_s (List.mem_of_getElem? (i := 26) (by decide +kernel)) (by decide +kernel)
theorem tp_27 : (Jvm.Cond.selects "ImageForge$Linker" ({ cls := "ImageForge$Linker", name := "writeExports", desc := "([LImageForge$Name;LImageForge$Image;I)I" } : Jvm.MethodName) ({ cls := "ImageForge$Linker", name := "writeExports", desc := "([LImageForge$Name;LImageForge$Image;I)I" } : Jvm.MethodName)) ∈ bw := bw_s (List.mem_of_getElem? (i := 27) (by decide +kernel)) (by decide +kernel)
theorem tp_28 : (Jvm.Cond.selects "ImageForge$Linker" ({ cls := "ImageForge$Linker", name := "writeReferences", desc := "([LImageForge$ObjectFile;LImageForge$Image;)V" } : Jvm.MethodName) ({ cls := "ImageForge$Linker", name := "writeReferences", desc := "([LImageForge$ObjectFile;LImageForge$Image;)V" } : Jvm.MethodName)) ∈ bw := bw_s (List.mem_of_getElem? (i := 28) (by decide +kernel)) (by decide +kernel)
theorem tp_29 : (Jvm.Cond.selects "ImageForge$Linker" ({ cls := "ImageForge$Linker", name := "amountFor", desc := "(LImageForge$Reference;I)I" } : Jvm.MethodName) ({ cls := "ImageForge$Linker", name := "amountFor", desc := "(LImageForge$Reference;I)I" } : Jvm.MethodName)) ∈ bw := bw_s (List.mem_of_getElem? (i := 29) (by decide +kernel)) (by decide +kernel)
theorem tp_30 : (Jvm.Cond.selects "ImageForge$Image" ({ cls := "ImageForge$Image", name := "addToWord", desc := "(II)V" } : Jvm.MethodName) ({ cls := "ImageForge$Image", name := "addToWord", desc := "(II)V" } : Jvm.MethodName)) ∈ bw := bw_s (List.mem_of_getElem? (i := 30) (by decide +kernel)) (by decide +kernel)
theorem tp_31 : (Jvm.Cond.selects "ImageForge$Linker" ({ cls := "ImageForge$Linker", name := "writeRelocations", desc := "(LImageForge$Image;I)I" } : Jvm.MethodName) ({ cls := "ImageForge$Linker", name := "writeRelocations", desc := "(LImageForge$Image;I)I" } : Jvm.MethodName)) ∈ bw := bw_s (List.mem_of_getElem? (i := 31) (by decide +kernel)) (by decide +kernel)
theorem tp_32 : (Jvm.Cond.selects "ImageForge$Linker" ({ cls := "ImageForge$Linker", name := "writeBlock", desc := "(LImageForge$Image;II)I" } : Jvm.MethodName) ({ cls := "ImageForge$Linker", name := "writeBlock", desc := "(LImageForge$Image;II)I" } : Jvm.MethodName)) ∈ bw := bw_s (List.mem_of_getElem? (i := 32) (by decide +kernel)) (by decide +kernel)
theorem tp_33 : (Jvm.Cond.selects "ImageForge$Image" ({ cls := "ImageForge$Image", name := "setHalf", desc := "(II)V" } : Jvm.MethodName) ({ cls := "ImageForge$Image", name := "setHalf", desc := "(II)V" } : Jvm.MethodName)) ∈ bw := bw_s (List.mem_of_getElem? (i := 33) (by decide +kernel)) (by decide +kernel)
theorem tp_34 : (Jvm.Cond.selects "ImageForge$Linker" ({ cls := "ImageForge$Linker", name := "writeHeader", desc := "([LImageForge$Name;LImageForge$Image;)V" } : Jvm.MethodName) ({ cls := "ImageForge$Linker", name := "writeHeader", desc := "([LImageForge$Name;LImageForge$Image;)V" } : Jvm.MethodName)) ∈ bw := bw_s (List.mem_of_getElem? (i := 34) (by decide +kernel)) (by decide +kernel)
theorem tp_35 : (Jvm.Cond.selects "ImageForge$Image" ({ cls := "ImageForge$Image", name := "checksum", desc := "()I" } : Jvm.MethodName) ({ cls := "ImageForge$Image", name := "checksum", desc := "()I" } : Jvm.MethodName)) ∈ bw := bw_s (List.mem_of_getElem? (i := 35) (by decide +kernel)) (by decide +kernel)
theorem tp_36 : (Jvm.Cond.selects "ImageForge$Image" ({ cls := "ImageForge$Image", name := "halfAt", desc := "(I)I" } : Jvm.MethodName) ({ cls := "ImageForge$Image", name := "halfAt", desc := "(I)I" } : Jvm.MethodName)) ∈ bw := bw_s (List.mem_of_getElem? (i := 36) (by decide +kernel)) (by decide +kernel)
theorem tp_40 : (Jvm.Cond.selects "ImageForge$Image" ({ cls := "ImageForge$Image", name := "copyFrom", desc := "(LImageForge$Image;)V" } : Jvm.MethodName) ({ cls := "ImageForge$Image", name := "copyFrom", desc := "(LImageForge$Image;)V" } : Jvm.MethodName)) ∈ bw := bw_s (List.mem_of_getElem? (i := 40) (by decide +kernel)) (by decide +kernel)
theorem tp_41 : (Jvm.Cond.selects "ImageForge$Loader" ({ cls := "ImageForge$Loader", name := "prepare", desc := "(LImageForge$Image;[[II)I" } : Jvm.MethodName) ({ cls := "ImageForge$Loader", name := "prepare", desc := "(LImageForge$Image;[[II)I" } : Jvm.MethodName)) ∈ bw := bw_s (List.mem_of_getElem? (i := 41) (by decide +kernel)) (by decide +kernel)
theorem tp_42 : (Jvm.Cond.selects "ImageForge$Loader" ({ cls := "ImageForge$Loader", name := "hasHeader", desc := "(LImageForge$Image;)Z" } : Jvm.MethodName) ({ cls := "ImageForge$Loader", name := "hasHeader", desc := "(LImageForge$Image;)Z" } : Jvm.MethodName)) ∈ bw := bw_s (List.mem_of_getElem? (i := 42) (by decide +kernel)) (by decide +kernel)
theorem tp_43 : (Jvm.Cond.selects "ImageForge$Loader" ({ cls := "ImageForge$Loader", name := "holdsSections", desc := "(LImageForge$Image;)Z" } : Jvm.MethodName) ({ cls := "ImageForge$Loader", name := "holdsSections", desc := "(LImageForge$Image;)Z" } : Jvm.MethodName)) ∈ bw := bw_s (List.mem_of_getElem? (i := 43) (by decide +kernel)) (by decide +kernel)
theorem tp_44 : (Jvm.Cond.selects "ImageForge$Image" ({ cls := "ImageForge$Image", name := "holdsSection", desc := "(I)Z" } : Jvm.MethodName) ({ cls := "ImageForge$Image", name := "holdsSection", desc := "(I)Z" } : Jvm.MethodName)) ∈ bw := bw_s (List.mem_of_getElem? (i := 44) (by decide +kernel)) (by decide +kernel)
theorem tp_45 : (Jvm.Cond.selects "ImageForge$Image" ({ cls := "ImageForge$Image", name := "sectionBegin", desc := "(I)I" } : Jvm.MethodName) ({ cls := "ImageForge$Image", name := "sectionBegin", desc := "(I)I" } : Jvm.MethodName)) ∈ bw := bw_s (List.mem_of_getElem? (i := 45) (by decide +kernel)) (by decide +kernel)
theorem tp_46 : (Jvm.Cond.selects "ImageForge$Image" ({ cls := "ImageForge$Image", name := "sectionSize", desc := "(I)I" } : Jvm.MethodName) ({ cls := "ImageForge$Image", name := "sectionSize", desc := "(I)I" } : Jvm.MethodName)) ∈ bw := bw_s (List.mem_of_getElem? (i := 46) (by decide +kernel)) (by decide +kernel)
theorem tp_47 : (Jvm.Cond.selects "ImageForge$Loader" ({ cls := "ImageForge$Loader", name := "relocate", desc := "(LImageForge$Image;I)Z" } : Jvm.MethodName) ({ cls := "ImageForge$Loader", name := "relocate", desc := "(LImageForge$Image;I)Z" } : Jvm.MethodName)) ∈ bw := bw_s (List.mem_of_getElem? (i := 47) (by decide +kernel)) (by decide +kernel)
theorem tp_48 : (Jvm.Cond.selects "ImageForge$Loader" ({ cls := "ImageForge$Loader", name := "relocateBlock", desc := "(LImageForge$Image;III)Z" } : Jvm.MethodName) ({ cls := "ImageForge$Loader", name := "relocateBlock", desc := "(LImageForge$Image;III)Z" } : Jvm.MethodName)) ∈ bw := bw_s (List.mem_of_getElem? (i := 48) (by decide +kernel)) (by decide +kernel)
theorem tp_49 : (Jvm.Cond.selects "ImageForge$Image" ({ cls := "ImageForge$Image", name := "holdsWord", desc := "(J)Z" } : Jvm.MethodName) ({ cls := "ImageForge$Image", name := "holdsWord", desc := "(J)Z" } : Jvm.MethodName)) ∈ bw := bw_s (List.mem_of_getElem? (i := 49) (by decide +kernel)) (by decide +kernel)
theorem tp_50 : (Jvm.Cond.selects "ImageForge$Loader" ({ cls := "ImageForge$Loader", name := "bind", desc := "(LImageForge$Image;[[I)I" } : Jvm.MethodName) ({ cls := "ImageForge$Loader", name := "bind", desc := "(LImageForge$Image;[[I)I" } : Jvm.MethodName)) ∈ bw := bw_s (List.mem_of_getElem? (i := 50) (by decide +kernel)) (by decide +kernel)
theorem tp_51 : (Jvm.Cond.selects "ImageForge$Loader" ({ cls := "ImageForge$Loader", name := "bindSlots", desc := "(LImageForge$Image;I[I)I" } : Jvm.MethodName) ({ cls := "ImageForge$Loader", name := "bindSlots", desc := "(LImageForge$Image;I[I)I" } : Jvm.MethodName)) ∈ bw := bw_s (List.mem_of_getElem? (i := 51) (by decide +kernel)) (by decide +kernel)
theorem tp_52 : (Jvm.Cond.selects "ImageForgeModel" ({ cls := "ImageForgeModel", name := "fails", desc := "(ZI)Z" } : Jvm.MethodName) ({ cls := "ImageForgeModel", name := "fails", desc := "(ZI)Z" } : Jvm.MethodName)) ∈ bw := bw_s (List.mem_of_getElem? (i := 52) (by decide +kernel)) (by decide +kernel)
theorem tp_53 : (Jvm.Cond.selects "ImageForgeModel" ({ cls := "ImageForgeModel", name := "overlaps", desc := "(III)Z" } : Jvm.MethodName) ({ cls := "ImageForgeModel", name := "overlaps", desc := "(III)Z" } : Jvm.MethodName)) ∈ bw := bw_s (List.mem_of_getElem? (i := 53) (by decide +kernel)) (by decide +kernel)
theorem tp_54 : (Jvm.Cond.selects "ImageForgeModel" ({ cls := "ImageForgeModel", name := "defined", desc := "(I)I" } : Jvm.MethodName) ({ cls := "ImageForgeModel", name := "defined", desc := "(I)I" } : Jvm.MethodName)) ∈ bw := bw_s (List.mem_of_getElem? (i := 54) (by decide +kernel)) (by decide +kernel)
theorem tp_55 : (Jvm.Cond.selects "ImageForgeModel" ({ cls := "ImageForgeModel", name := "isMeant", desc := "(I)Z" } : Jvm.MethodName) ({ cls := "ImageForgeModel", name := "isMeant", desc := "(I)Z" } : Jvm.MethodName)) ∈ bw := bw_s (List.mem_of_getElem? (i := 55) (by decide +kernel)) (by decide +kernel)
theorem tp_56 : (Jvm.Cond.selects "ImageForgeModel" ({ cls := "ImageForgeModel", name := "layParts", desc := "(I)V" } : Jvm.MethodName) ({ cls := "ImageForgeModel", name := "layParts", desc := "(I)V" } : Jvm.MethodName)) ∈ bw := bw_s (List.mem_of_getElem? (i := 56) (by decide +kernel)) (by decide +kernel)
theorem tp_57 : (Jvm.Cond.selects "ImageForgeModel" ({ cls := "ImageForgeModel", name := "begin", desc := "(I)V" } : Jvm.MethodName) ({ cls := "ImageForgeModel", name := "begin", desc := "(I)V" } : Jvm.MethodName)) ∈ bw := bw_s (List.mem_of_getElem? (i := 57) (by decide +kernel)) (by decide +kernel)
theorem tp_58 : (Jvm.Cond.selects "ImageForgeModel" ({ cls := "ImageForgeModel", name := "findPlaces", desc := "()V" } : Jvm.MethodName) ({ cls := "ImageForgeModel", name := "findPlaces", desc := "()V" } : Jvm.MethodName)) ∈ bw := bw_s (List.mem_of_getElem? (i := 58) (by decide +kernel)) (by decide +kernel)
theorem tp_59 : (Jvm.Cond.selects "ImageForgeModel" ({ cls := "ImageForgeModel", name := "layImports", desc := "()V" } : Jvm.MethodName) ({ cls := "ImageForgeModel", name := "layImports", desc := "()V" } : Jvm.MethodName)) ∈ bw := bw_s (List.mem_of_getElem? (i := 59) (by decide +kernel)) (by decide +kernel)
theorem tp_60 : (Jvm.Cond.selects "ImageForgeModel" ({ cls := "ImageForgeModel", name := "namesOf", desc := "(I)I" } : Jvm.MethodName) ({ cls := "ImageForgeModel", name := "namesOf", desc := "(I)I" } : Jvm.MethodName)) ∈ bw := bw_s (List.mem_of_getElem? (i := 60) (by decide +kernel)) (by decide +kernel)
theorem tp_61 : (Jvm.Cond.selects "ImageForgeModel" ({ cls := "ImageForgeModel", name := "add", desc := "(I)V" } : Jvm.MethodName) ({ cls := "ImageForgeModel", name := "add", desc := "(I)V" } : Jvm.MethodName)) ∈ bw := bw_s (List.mem_of_getElem? (i := 61) (by decide +kernel)) (by decide +kernel)
theorem tp_62 : (Jvm.Cond.selects "ImageForgeModel" ({ cls := "ImageForgeModel", name := "word", desc := "(II)V" } : Jvm.MethodName) ({ cls := "ImageForgeModel", name := "word", desc := "(II)V" } : Jvm.MethodName)) ∈ bw := bw_s (List.mem_of_getElem? (i := 62) (by decide +kernel)) (by decide +kernel)
theorem tp_63 : (Jvm.Cond.selects "ImageForgeModel" ({ cls := "ImageForgeModel", name := "layExports", desc := "()V" } : Jvm.MethodName) ({ cls := "ImageForgeModel", name := "layExports", desc := "()V" } : Jvm.MethodName)) ∈ bw := bw_s (List.mem_of_getElem? (i := 63) (by decide +kernel)) (by decide +kernel)
theorem tp_64 : (Jvm.Cond.selects "ImageForgeModel" ({ cls := "ImageForgeModel", name := "layRelocations", desc := "()V" } : Jvm.MethodName) ({ cls := "ImageForgeModel", name := "layRelocations", desc := "()V" } : Jvm.MethodName)) ∈ bw := bw_s (List.mem_of_getElem? (i := 64) (by decide +kernel)) (by decide +kernel)
theorem tp_65 : (Jvm.Cond.selects "ImageForgeModel" ({ cls := "ImageForgeModel", name := "isAbsolute", desc := "(I)Z" } : Jvm.MethodName) ({ cls := "ImageForgeModel", name := "isAbsolute", desc := "(I)Z" } : Jvm.MethodName)) ∈ bw := bw_s (List.mem_of_getElem? (i := 65) (by decide +kernel)) (by decide +kernel)
theorem tp_66 : (Jvm.Cond.selects "ImageForgeModel" ({ cls := "ImageForgeModel", name := "addPair", desc := "(I)V" } : Jvm.MethodName) ({ cls := "ImageForgeModel", name := "addPair", desc := "(I)V" } : Jvm.MethodName)) ∈ bw := bw_s (List.mem_of_getElem? (i := 66) (by decide +kernel)) (by decide +kernel)
theorem tp_67 : (Jvm.Cond.selects "ImageForgeModel" ({ cls := "ImageForgeModel", name := "resolve", desc := "()V" } : Jvm.MethodName) ({ cls := "ImageForgeModel", name := "resolve", desc := "()V" } : Jvm.MethodName)) ∈ bw := bw_s (List.mem_of_getElem? (i := 67) (by decide +kernel)) (by decide +kernel)
theorem tp_68 : (Jvm.Cond.selects "ImageForgeModel" ({ cls := "ImageForgeModel", name := "header", desc := "()V" } : Jvm.MethodName) ({ cls := "ImageForgeModel", name := "header", desc := "()V" } : Jvm.MethodName)) ∈ bw := bw_s (List.mem_of_getElem? (i := 68) (by decide +kernel)) (by decide +kernel)
theorem tp_69 : (Jvm.Cond.selects "ImageForgeModel" ({ cls := "ImageForgeModel", name := "sumOf", desc := "([II)I" } : Jvm.MethodName) ({ cls := "ImageForgeModel", name := "sumOf", desc := "([II)I" } : Jvm.MethodName)) ∈ bw := bw_s (List.mem_of_getElem? (i := 69) (by decide +kernel)) (by decide +kernel)
theorem tp_70 : (Jvm.Cond.selects "ImageForgeModel" ({ cls := "ImageForgeModel", name := "checkHeader", desc := "()V" } : Jvm.MethodName) ({ cls := "ImageForgeModel", name := "checkHeader", desc := "()V" } : Jvm.MethodName)) ∈ bw := bw_s (List.mem_of_getElem? (i := 70) (by decide +kernel)) (by decide +kernel)
theorem tp_71 : (Jvm.Cond.selects "ImageForgeModel" ({ cls := "ImageForgeModel", name := "refuse", desc := "(I)V" } : Jvm.MethodName) ({ cls := "ImageForgeModel", name := "refuse", desc := "(I)V" } : Jvm.MethodName)) ∈ bw := bw_s (List.mem_of_getElem? (i := 71) (by decide +kernel)) (by decide +kernel)
theorem tp_72 : (Jvm.Cond.selects "ImageForgeModel" ({ cls := "ImageForgeModel", name := "relocate", desc := "(I)V" } : Jvm.MethodName) ({ cls := "ImageForgeModel", name := "relocate", desc := "(I)V" } : Jvm.MethodName)) ∈ bw := bw_s (List.mem_of_getElem? (i := 72) (by decide +kernel)) (by decide +kernel)
theorem tp_73 : (Jvm.Cond.selects "ImageForgeModel" ({ cls := "ImageForgeModel", name := "entry", desc := "(III)V" } : Jvm.MethodName) ({ cls := "ImageForgeModel", name := "entry", desc := "(III)V" } : Jvm.MethodName)) ∈ bw := bw_s (List.mem_of_getElem? (i := 73) (by decide +kernel)) (by decide +kernel)
theorem tp_74 : (Jvm.Cond.selects "ImageForgeModel" ({ cls := "ImageForgeModel", name := "change", desc := "(II)V" } : Jvm.MethodName) ({ cls := "ImageForgeModel", name := "change", desc := "(II)V" } : Jvm.MethodName)) ∈ bw := bw_s (List.mem_of_getElem? (i := 74) (by decide +kernel)) (by decide +kernel)
theorem tp_75 : (Jvm.Cond.selects "ImageForgeModel" ({ cls := "ImageForgeModel", name := "bind", desc := "()V" } : Jvm.MethodName) ({ cls := "ImageForgeModel", name := "bind", desc := "()V" } : Jvm.MethodName)) ∈ bw := bw_s (List.mem_of_getElem? (i := 75) (by decide +kernel)) (by decide +kernel)
theorem tp_76 : (Jvm.Cond.selects "ImageForgeModel" ({ cls := "ImageForgeModel", name := "bindSlots", desc := "(II)V" } : Jvm.MethodName) ({ cls := "ImageForgeModel", name := "bindSlots", desc := "(II)V" } : Jvm.MethodName)) ∈ bw := bw_s (List.mem_of_getElem? (i := 76) (by decide +kernel)) (by decide +kernel)

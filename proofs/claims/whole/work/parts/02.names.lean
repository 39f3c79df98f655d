/-! Names: classes, fields, methods, by program out of the Statement's tables and the listings. -/
def T_Fg : u_T := fun k => match k with
  | 0 => ("ImageForge", "objects", "[LImageForge$ObjectFile;", true)
  | 1 => ("ImageForge", "names", "[LImageForge$Name;", true)
  | 2 => ("ImageForge", "offers", "[[I", true)
  | 3 => ("ImageForge", "linked", "LImageForge$Image;", true)
  | 4 => ("ImageForge", "linker", "LImageForge$Linker;", true)
  | _ => ("ImageForge", "loader", "LImageForge$Loader;", true)
def t_Fg : Nat → FieldType := fun k => match k with
  | 0 => .array (.object "ImageForge$ObjectFile")
  | 1 => .array (.object "ImageForge$Name")
  | 2 => .array (.array .int)
  | 3 => .object "ImageForge$Image"
  | 4 => .object "ImageForge$Linker"
  | _ => .object "ImageForge$Loader"
theorem nm_Fg : ∀ a, a < 6 → ∀ b, b < 6 → a ≠ b → (T_Fg a).2.1 ≠ (T_Fg b).2.1 := by decide +kernel
theorem t_Fg_ok : ∀ k, k < 6 → parseFieldDescriptor (T_Fg k).2.2.1 = some (t_Fg k) := by decide +kernel
def T_Im : u_T := fun k => match k with
  | 0 => ("ImageForge$Image", "bytes", "[B", true)
  | _ => ("ImageForge$Image", "size", "I", false)
def t_Im : Nat → FieldType := fun k => match k with
  | 0 => .array .byte
  | _ => .int
theorem nm_Im : ∀ a, a < 2 → ∀ b, b < 2 → a ≠ b → (T_Im a).2.1 ≠ (T_Im b).2.1 := by decide +kernel
theorem t_Im_ok : ∀ k, k < 2 → parseFieldDescriptor (T_Im k).2.2.1 = some (t_Im k) := by decide +kernel
def T_Lk : u_T := fun k => match k with
  | 0 => ("ImageForge$Linker", "placeOfName", "[I", true)
  | 1 => ("ImageForge$Linker", "placeOfPart", "[[I", true)
  | _ => ("ImageForge$Linker", "absolute", "[Z", true)
def t_Lk : Nat → FieldType := fun k => match k with
  | 0 => .array .int
  | 1 => .array (.array .int)
  | _ => .array .boolean
theorem nm_Lk : ∀ a, a < 3 → ∀ b, b < 3 → a ≠ b → (T_Lk a).2.1 ≠ (T_Lk b).2.1 := by decide +kernel
theorem t_Lk_ok : ∀ k, k < 3 → parseFieldDescriptor (T_Lk k).2.2.1 = some (t_Lk k) := by decide +kernel
def T_Ld : u_T := fun k => match k with
  | 0 => ("ImageForge$Loader", "loaded", "LImageForge$Image;", false)
  | 1 => ("ImageForge$Loader", "draft", "LImageForge$Image;", false)
  | 2 => ("ImageForge$Loader", "loadedAt", "I", false)
  | 3 => ("ImageForge$Loader", "exportsBegin", "I", false)
  | _ => ("ImageForge$Loader", "exportsSize", "I", false)
def t_Ld : Nat → FieldType := fun k => match k with
  | 0 => .object "ImageForge$Image"
  | 1 => .object "ImageForge$Image"
  | 2 => .int
  | 3 => .int
  | _ => .int
theorem nm_Ld : ∀ a, a < 5 → ∀ b, b < 5 → a ≠ b → (T_Ld a).2.1 ≠ (T_Ld b).2.1 := by decide +kernel
theorem t_Ld_ok : ∀ k, k < 5 → parseFieldDescriptor (T_Ld k).2.2.1 = some (t_Ld k) := by decide +kernel
def T_Ob : u_T := fun k => match k with
  | 0 => ("ImageForge$ObjectFile", "parts", "[LImageForge$Part;", true)
  | 1 => ("ImageForge$ObjectFile", "references", "Ljava/util/ArrayList;", true)
  | _ => ("ImageForge$ObjectFile", "definitions", "I", false)
def t_Ob : Nat → FieldType := fun k => match k with
  | 0 => .array (.object "ImageForge$Part")
  | 1 => .object "java/util/ArrayList"
  | _ => .int
theorem nm_Ob : ∀ a, a < 3 → ∀ b, b < 3 → a ≠ b → (T_Ob a).2.1 ≠ (T_Ob b).2.1 := by decide +kernel
theorem t_Ob_ok : ∀ k, k < 3 → parseFieldDescriptor (T_Ob k).2.2.1 = some (t_Ob k) := by decide +kernel
def T_Pt : u_T := fun k => match k with
  | 0 => ("ImageForge$Part", "bytes", "[B", true)
  | _ => ("ImageForge$Part", "size", "I", false)
def t_Pt : Nat → FieldType := fun k => match k with
  | 0 => .array .byte
  | _ => .int
theorem nm_Pt : ∀ a, a < 2 → ∀ b, b < 2 → a ≠ b → (T_Pt a).2.1 ≠ (T_Pt b).2.1 := by decide +kernel
theorem t_Pt_ok : ∀ k, k < 2 → parseFieldDescriptor (T_Pt k).2.2.1 = some (t_Pt k) := by decide +kernel
def T_Al : u_T := fun k => match k with
  | 0 => ("java/util/AbstractList", "modCount", "I", false)
  | 1 => ("java/util/ArrayList", "elementData", "[Ljava/lang/Object;", false)
  | _ => ("java/util/ArrayList", "size", "I", false)
def t_Al : Nat → FieldType := fun k => match k with
  | 0 => .int
  | 1 => .array (.object "java/lang/Object")
  | _ => .int
theorem nm_Al : ∀ a, a < 3 → ∀ b, b < 3 → a ≠ b → (T_Al a).2.1 ≠ (T_Al b).2.1 := by decide +kernel
theorem t_Al_ok : ∀ k, k < 3 → parseFieldDescriptor (T_Al k).2.2.1 = some (t_Al k) := by decide +kernel
def T_Nm : u_T := fun k => match k with
  | 0 => ("ImageForge$Name", "definitions", "I", false)
  | 1 => ("ImageForge$Name", "object", "I", false)
  | 2 => ("ImageForge$Name", "part", "I", false)
  | 3 => ("ImageForge$Name", "place", "I", false)
  | 4 => ("ImageForge$Name", "library", "I", false)
  | 5 => ("ImageForge$Name", "ordinal", "I", false)
  | _ => ("ImageForge$Name", "exported", "Z", false)
def t_Nm : Nat → FieldType := fun k => match k with
  | 0 => .int
  | 1 => .int
  | 2 => .int
  | 3 => .int
  | 4 => .int
  | 5 => .int
  | _ => .boolean
theorem nm_Nm : ∀ a, a < 7 → ∀ b, b < 7 → a ≠ b → (T_Nm a).2.1 ≠ (T_Nm b).2.1 := by decide +kernel
theorem t_Nm_ok : ∀ k, k < 7 → parseFieldDescriptor (T_Nm k).2.2.1 = some (t_Nm k) := by decide +kernel
def T_Rf : u_T := fun k => match k with
  | 0 => ("ImageForge$Reference", "part", "I", true)
  | 1 => ("ImageForge$Reference", "place", "I", true)
  | 2 => ("ImageForge$Reference", "kind", "I", true)
  | _ => ("ImageForge$Reference", "name", "I", true)
def t_Rf : Nat → FieldType := fun k => match k with
  | 0 => .int
  | 1 => .int
  | 2 => .int
  | _ => .int
theorem nm_Rf : ∀ a, a < 4 → ∀ b, b < 4 → a ≠ b → (T_Rf a).2.1 ≠ (T_Rf b).2.1 := by decide +kernel
theorem t_Rf_ok : ∀ k, k < 4 → parseFieldDescriptor (T_Rf k).2.2.1 = some (t_Rf k) := by decide +kernel
def T_Md : u_T := fun k => match k with
  | 0 => ("ImageForgeModel", "thrown", "I", false)
  | 1 => ("ImageForgeModel", "size", "[I", true)
  | 2 => ("ImageForgeModel", "bytes", "[I", true)
  | 3 => ("ImageForgeModel", "definitions", "[I", true)
  | 4 => ("ImageForgeModel", "definedName", "[I", true)
  | 5 => ("ImageForgeModel", "definedPart", "[I", true)
  | 6 => ("ImageForgeModel", "definedPlace", "[I", true)
  | 7 => ("ImageForgeModel", "references", "[I", true)
  | 8 => ("ImageForgeModel", "refersPart", "[I", true)
  | 9 => ("ImageForgeModel", "refersPlace", "[I", true)
  | 10 => ("ImageForgeModel", "refersKind", "[I", true)
  | 11 => ("ImageForgeModel", "refersName", "[I", true)
  | 12 => ("ImageForgeModel", "library", "[I", true)
  | 13 => ("ImageForgeModel", "ordinal", "[I", true)
  | 14 => ("ImageForgeModel", "exported", "[Z", true)
  | 15 => ("ImageForgeModel", "offers", "[I", true)
  | 16 => ("ImageForgeModel", "length", "I", false)
  | 17 => ("ImageForgeModel", "image", "[I", true)
  | 18 => ("ImageForgeModel", "grown", "I", false)
  | 19 => ("ImageForgeModel", "next", "[I", true)
  | 20 => ("ImageForgeModel", "begins", "[I", true)
  | 21 => ("ImageForgeModel", "ends", "[I", true)
  | 22 => ("ImageForgeModel", "partAt", "[I", true)
  | 23 => ("ImageForgeModel", "place", "[I", true)
  | 24 => ("ImageForgeModel", "loaded", "Z", false)
  | 25 => ("ImageForgeModel", "at", "I", false)
  | 26 => ("ImageForgeModel", "loadedLength", "I", false)
  | 27 => ("ImageForgeModel", "there", "[I", true)
  | 28 => ("ImageForgeModel", "exportsAt", "I", false)
  | 29 => ("ImageForgeModel", "exportsSize", "I", false)
  | 30 => ("ImageForgeModel", "draft", "[I", true)
  | _ => ("ImageForgeModel", "wrong", "I", false)
def t_Md : Nat → FieldType := fun k => match k with
  | 0 => .int
  | 1 => .array .int
  | 2 => .array .int
  | 3 => .array .int
  | 4 => .array .int
  | 5 => .array .int
  | 6 => .array .int
  | 7 => .array .int
  | 8 => .array .int
  | 9 => .array .int
  | 10 => .array .int
  | 11 => .array .int
  | 12 => .array .int
  | 13 => .array .int
  | 14 => .array .boolean
  | 15 => .array .int
  | 16 => .int
  | 17 => .array .int
  | 18 => .int
  | 19 => .array .int
  | 20 => .array .int
  | 21 => .array .int
  | 22 => .array .int
  | 23 => .array .int
  | 24 => .boolean
  | 25 => .int
  | 26 => .int
  | 27 => .array .int
  | 28 => .int
  | 29 => .int
  | 30 => .array .int
  | _ => .int
theorem nm_Md : ∀ a, a < 32 → ∀ b, b < 32 → a ≠ b → (T_Md a).2.1 ≠ (T_Md b).2.1 := by decide +kernel
theorem t_Md_ok : ∀ k, k < 32 → parseFieldDescriptor (T_Md k).2.2.1 = some (t_Md k) := by decide +kernel
abbrev vwCl : List vw_C := [("ImageForge", T_Fg, 6), ("ImageForge$Image", T_Im, 2), ("ImageForge$Linker", T_Lk, 3), ("ImageForge$Loader", T_Ld, 5), ("ImageForge$ObjectFile", T_Ob, 3), ("ImageForge$Part", T_Pt, 2), ("java/util/ArrayList", T_Al, 3), ("ImageForge$Name", T_Nm, 7), ("ImageForge$Reference", T_Rf, 4), ("ImageForgeModel", T_Md, 32)]
/-- the good words of the tables: every method of ours is proved over this one list -/
def bw : List Cond := lw_tbl.filter goodWord
theorem bw_t {w : Cond} (h : w ∈ tables_1) (g : goodWord w = true) : w ∈ bw := List.mem_filter.mpr ⟨List.mem_append_right _ h, g⟩
theorem bw_s {w : Cond} (h : w ∈ k2_sels lw_privs) (g : goodWord w = true) : w ∈ bw := List.mem_filter.mpr ⟨List.mem_append_left _ h, g⟩
theorem gd_of {w : Cond} (h : w ∈ bw) : GoodIn bw (w :: bw) := fun x hx => (List.mem_cons.mp hx).elim (fun e => by rw [e]; exact ⟨h, good_of_word (List.mem_filter.mp h).2⟩) (fun q => ⟨q, good_of_word (List.mem_filter.mp q).2⟩)
theorem hts_bw {w : Cond} {args : Array Value} {s : State} (h : ∀ x ∈ w :: bw, x.before args s = true) : ∀ x ∈ bw, x.before args s = true := fun x hx => h x (List.mem_cons_of_mem _ hx)
set_option maxRecDepth 100000 in
theorem in_Fg : ∀ w ∈ u_ws "ImageForge" T_Fg 6, w ∈ bw := by
  intro w hw
  have h : (u_ws "ImageForge" T_Fg 6).all (fun w => decide (w ∈ tables_1) && goodWord w) = true := by decide +kernel
  have h2 := List.all_eq_true.mp h w hw
  rw [Bool.and_eq_true] at h2
  exact bw_t (of_decide_eq_true h2.1) h2.2
set_option maxRecDepth 100000 in
theorem in_Im : ∀ w ∈ u_ws "ImageForge$Image" T_Im 2, w ∈ bw := by
  intro w hw
  have h : (u_ws "ImageForge$Image" T_Im 2).all (fun w => decide (w ∈ tables_1) && goodWord w) = true := by decide +kernel
  have h2 := List.all_eq_true.mp h w hw
  rw [Bool.and_eq_true] at h2
  exact bw_t (of_decide_eq_true h2.1) h2.2
set_option maxRecDepth 100000 in
theorem in_Lk : ∀ w ∈ u_ws "ImageForge$Linker" T_Lk 3, w ∈ bw := by
  intro w hw
  have h : (u_ws "ImageForge$Linker" T_Lk 3).all (fun w => decide (w ∈ tables_1) && goodWord w) = true := by decide +kernel
  have h2 := List.all_eq_true.mp h w hw
  rw [Bool.and_eq_true] at h2
  exact bw_t (of_decide_eq_true h2.1) h2.2
set_option maxRecDepth 100000 in
theorem in_Ld : ∀ w ∈ u_ws "ImageForge$Loader" T_Ld 5, w ∈ bw := by
  intro w hw
  have h : (u_ws "ImageForge$Loader" T_Ld 5).all (fun w => decide (w ∈ tables_1) && goodWord w) = true := by decide +kernel
  have h2 := List.all_eq_true.mp h w hw
  rw [Bool.and_eq_true] at h2
  exact bw_t (of_decide_eq_true h2.1) h2.2
set_option maxRecDepth 100000 in
theorem in_Ob : ∀ w ∈ u_ws "ImageForge$ObjectFile" T_Ob 3, w ∈ bw := by
  intro w hw
  have h : (u_ws "ImageForge$ObjectFile" T_Ob 3).all (fun w => decide (w ∈ tables_1) && goodWord w) = true := by decide +kernel
  have h2 := List.all_eq_true.mp h w hw
  rw [Bool.and_eq_true] at h2
  exact bw_t (of_decide_eq_true h2.1) h2.2
set_option maxRecDepth 100000 in
theorem in_Pt : ∀ w ∈ u_ws "ImageForge$Part" T_Pt 2, w ∈ bw := by
  intro w hw
  have h : (u_ws "ImageForge$Part" T_Pt 2).all (fun w => decide (w ∈ tables_1) && goodWord w) = true := by decide +kernel
  have h2 := List.all_eq_true.mp h w hw
  rw [Bool.and_eq_true] at h2
  exact bw_t (of_decide_eq_true h2.1) h2.2
set_option maxRecDepth 100000 in
theorem in_Al : ∀ w ∈ u_ws "java/util/ArrayList" T_Al 3, w ∈ bw := by
  intro w hw
  have h : (u_ws "java/util/ArrayList" T_Al 3).all (fun w => decide (w ∈ tables_1) && goodWord w) = true := by decide +kernel
  have h2 := List.all_eq_true.mp h w hw
  rw [Bool.and_eq_true] at h2
  exact bw_t (of_decide_eq_true h2.1) h2.2
set_option maxRecDepth 100000 in
theorem in_Nm : ∀ w ∈ u_ws "ImageForge$Name" T_Nm 7, w ∈ bw := by
  intro w hw
  have h : (u_ws "ImageForge$Name" T_Nm 7).all (fun w => decide (w ∈ tables_1) && goodWord w) = true := by decide +kernel
  have h2 := List.all_eq_true.mp h w hw
  rw [Bool.and_eq_true] at h2
  exact bw_t (of_decide_eq_true h2.1) h2.2
set_option maxRecDepth 100000 in
theorem in_Rf : ∀ w ∈ u_ws "ImageForge$Reference" T_Rf 4, w ∈ bw := by
  intro w hw
  have h : (u_ws "ImageForge$Reference" T_Rf 4).all (fun w => decide (w ∈ tables_1) && goodWord w) = true := by decide +kernel
  have h2 := List.all_eq_true.mp h w hw
  rw [Bool.and_eq_true] at h2
  exact bw_t (of_decide_eq_true h2.1) h2.2
set_option maxRecDepth 100000 in
theorem in_Md : ∀ w ∈ u_ws "ImageForgeModel" T_Md 32, w ∈ bw := by
  intro w hw
  have h : (u_ws "ImageForgeModel" T_Md 32).all (fun w => decide (w ∈ tables_1) && goodWord w) = true := by decide +kernel
  have h2 := List.all_eq_true.mp h w hw
  rw [Bool.and_eq_true] at h2
  exact bw_t (of_decide_eq_true h2.1) h2.2
theorem tw_2 : (Jvm.Cond.initialized "ImageForge$Image") ∈ bw := bw_t (List.mem_of_getElem? (i := 2) (by decide +kernel)) (by decide +kernel)
theorem tw_47 : (Jvm.Cond.fieldLink "ImageForge$Image" (9 : Nat) "ImageForge$Image" "bytes" "[B") ∈ bw := bw_t (List.mem_of_getElem? (i := 47) (by decide +kernel)) (by decide +kernel)
theorem tw_49 : (Jvm.Cond.fieldLink "ImageForge$Image" (15 : Nat) "ImageForge$Image" "size" "I") ∈ bw := bw_t (List.mem_of_getElem? (i := 49) (by decide +kernel)) (by decide +kernel)
theorem tw_229 : (Jvm.Cond.code ({ cls := "ImageForge$Image", name := "byteAt", desc := "(I)I" } : Jvm.MethodName) prog_2_method_5_code (2 : Nat) (Option.some Jvm.ClassFile.FieldType.int)) ∈ bw := bw_t (List.mem_of_getElem? (i := 229) (by decide +kernel)) (by decide +kernel)
theorem tw_240 : (Jvm.Cond.instanceMethod ({ cls := "ImageForge$Image", name := "wordAt", desc := "(I)I" } : Jvm.MethodName)) ∈ bw := bw_t (List.mem_of_getElem? (i := 240) (by decide +kernel)) (by decide +kernel)
theorem tw_241 : (Jvm.Cond.code ({ cls := "ImageForge$Image", name := "wordAt", desc := "(I)I" } : Jvm.MethodName) prog_2_method_9_code (2 : Nat) (Option.some Jvm.ClassFile.FieldType.int)) ∈ bw := bw_t (List.mem_of_getElem? (i := 241) (by decide +kernel)) (by decide +kernel)
theorem tw_581 : (Jvm.Cond.code ({ cls := "ImageForge$Image", name := "setSection", desc := "(III)V" } : Jvm.MethodName) prog_2_method_15_code (4 : Nat) (Option.none : Option Jvm.ClassFile.FieldType)) ∈ bw := bw_t (List.mem_of_getElem? (i := 581) (by decide +kernel)) (by decide +kernel)
theorem tw_582 : (Jvm.Cond.methodLink "ImageForge$Image" (35 : Nat) ({ cls := "ImageForge$Image", name := "setWord", desc := "(II)V" } : Jvm.MethodName)) ∈ bw := bw_t (List.mem_of_getElem? (i := 582) (by decide +kernel)) (by decide +kernel)
theorem tw_584 : (Jvm.Cond.instanceMethod ({ cls := "ImageForge$Image", name := "setWord", desc := "(II)V" } : Jvm.MethodName)) ∈ bw := bw_t (List.mem_of_getElem? (i := 584) (by decide +kernel)) (by decide +kernel)
theorem tw_585 : (Jvm.Cond.code ({ cls := "ImageForge$Image", name := "setWord", desc := "(II)V" } : Jvm.MethodName) prog_2_method_10_code (4 : Nat) (Option.none : Option Jvm.ClassFile.FieldType)) ∈ bw := bw_t (List.mem_of_getElem? (i := 585) (by decide +kernel)) (by decide +kernel)
theorem tw_636 : (Jvm.Cond.code ({ cls := "ImageForge$Image", name := "addToWord", desc := "(II)V" } : Jvm.MethodName) prog_2_method_11_code (3 : Nat) (Option.none : Option Jvm.ClassFile.FieldType)) ∈ bw := bw_t (List.mem_of_getElem? (i := 636) (by decide +kernel)) (by decide +kernel)
theorem tw_637 : (Jvm.Cond.methodLink "ImageForge$Image" (31 : Nat) ({ cls := "ImageForge$Image", name := "wordAt", desc := "(I)I" } : Jvm.MethodName)) ∈ bw := bw_t (List.mem_of_getElem? (i := 637) (by decide +kernel)) (by decide +kernel)
theorem tw_649 : (Jvm.Cond.code ({ cls := "ImageForge$Image", name := "setHalf", desc := "(II)V" } : Jvm.MethodName) prog_2_method_8_code (3 : Nat) (Option.none : Option Jvm.ClassFile.FieldType)) ∈ bw := bw_t (List.mem_of_getElem? (i := 649) (by decide +kernel)) (by decide +kernel)
theorem tw_658 : (Jvm.Cond.code ({ cls := "ImageForge$Image", name := "checksum", desc := "()I" } : Jvm.MethodName) prog_2_method_17_code (3 : Nat) (Option.some Jvm.ClassFile.FieldType.int)) ∈ bw := bw_t (List.mem_of_getElem? (i := 658) (by decide +kernel)) (by decide +kernel)
theorem tw_659 : (Jvm.Cond.methodLink "ImageForge$Image" (45 : Nat) ({ cls := "ImageForge$Image", name := "halfAt", desc := "(I)I" } : Jvm.MethodName)) ∈ bw := bw_t (List.mem_of_getElem? (i := 659) (by decide +kernel)) (by decide +kernel)
theorem tw_661 : (Jvm.Cond.instanceMethod ({ cls := "ImageForge$Image", name := "halfAt", desc := "(I)I" } : Jvm.MethodName)) ∈ bw := bw_t (List.mem_of_getElem? (i := 661) (by decide +kernel)) (by decide +kernel)
theorem tw_662 : (Jvm.Cond.code ({ cls := "ImageForge$Image", name := "halfAt", desc := "(I)I" } : Jvm.MethodName) prog_2_method_7_code (2 : Nat) (Option.some Jvm.ClassFile.FieldType.int)) ∈ bw := bw_t (List.mem_of_getElem? (i := 662) (by decide +kernel)) (by decide +kernel)
theorem tw_663 : (Jvm.Cond.constant "ImageForge$Image" (48 : Nat) (65535 : Int32)) ∈ bw := bw_t (List.mem_of_getElem? (i := 663) (by decide +kernel)) (by decide +kernel)
theorem tw_683 : (Jvm.Cond.code ({ cls := "ImageForge$Image", name := "setByte", desc := "(II)V" } : Jvm.MethodName) prog_2_method_6_code (3 : Nat) (Option.none : Option Jvm.ClassFile.FieldType)) ∈ bw := bw_t (List.mem_of_getElem? (i := 683) (by decide +kernel)) (by decide +kernel)
theorem tw_694 : (Jvm.Cond.code ({ cls := "ImageForge$Image", name := "isNone", desc := "()Z" } : Jvm.MethodName) prog_2_method_2_code (1 : Nat) (Option.some Jvm.ClassFile.FieldType.boolean)) ∈ bw := bw_t (List.mem_of_getElem? (i := 694) (by decide +kernel)) (by decide +kernel)
theorem tw_740 : (Jvm.Cond.code ({ cls := "ImageForge$Image", name := "holdsSection", desc := "(I)Z" } : Jvm.MethodName) prog_2_method_16_code (4 : Nat) (Option.some Jvm.ClassFile.FieldType.boolean)) ∈ bw := bw_t (List.mem_of_getElem? (i := 740) (by decide +kernel)) (by decide +kernel)
theorem tw_741 : (Jvm.Cond.methodLink "ImageForge$Image" (39 : Nat) ({ cls := "ImageForge$Image", name := "sectionBegin", desc := "(I)I" } : Jvm.MethodName)) ∈ bw := bw_t (List.mem_of_getElem? (i := 741) (by decide +kernel)) (by decide +kernel)
theorem tw_743 : (Jvm.Cond.instanceMethod ({ cls := "ImageForge$Image", name := "sectionBegin", desc := "(I)I" } : Jvm.MethodName)) ∈ bw := bw_t (List.mem_of_getElem? (i := 743) (by decide +kernel)) (by decide +kernel)
theorem tw_744 : (Jvm.Cond.code ({ cls := "ImageForge$Image", name := "sectionBegin", desc := "(I)I" } : Jvm.MethodName) prog_2_method_13_code (2 : Nat) (Option.some Jvm.ClassFile.FieldType.int)) ∈ bw := bw_t (List.mem_of_getElem? (i := 744) (by decide +kernel)) (by decide +kernel)
theorem tw_745 : (Jvm.Cond.methodLink "ImageForge$Image" (42 : Nat) ({ cls := "ImageForge$Image", name := "sectionSize", desc := "(I)I" } : Jvm.MethodName)) ∈ bw := bw_t (List.mem_of_getElem? (i := 745) (by decide +kernel)) (by decide +kernel)
theorem tw_747 : (Jvm.Cond.instanceMethod ({ cls := "ImageForge$Image", name := "sectionSize", desc := "(I)I" } : Jvm.MethodName)) ∈ bw := bw_t (List.mem_of_getElem? (i := 747) (by decide +kernel)) (by decide +kernel)
theorem tw_748 : (Jvm.Cond.code ({ cls := "ImageForge$Image", name := "sectionSize", desc := "(I)I" } : Jvm.MethodName) prog_2_method_14_code (2 : Nat) (Option.some Jvm.ClassFile.FieldType.int)) ∈ bw := bw_t (List.mem_of_getElem? (i := 748) (by decide +kernel)) (by decide +kernel)
theorem tw_763 : (Jvm.Cond.code ({ cls := "ImageForge$Image", name := "holdsWord", desc := "(J)Z" } : Jvm.MethodName) prog_2_method_12_code (3 : Nat) (Option.some Jvm.ClassFile.FieldType.boolean)) ∈ bw := bw_t (List.mem_of_getElem? (i := 763) (by decide +kernel)) (by decide +kernel)
theorem tp_3 : (Jvm.Cond.selects "ImageForge$Image" ({ cls := "ImageForge$Image", name := "wordAt", desc := "(I)I" } : Jvm.MethodName) ({ cls := "ImageForge$Image", name := "wordAt", desc := "(I)I" } : Jvm.MethodName)) ∈ bw := bw_s (List.mem_of_getElem? (i := 3) (by decide +kernel)) (by decide +kernel)
theorem tp_22 : (Jvm.Cond.selects "ImageForge$Image" ({ cls := "ImageForge$Image", name := "setWord", desc := "(II)V" } : Jvm.MethodName) ({ cls := "ImageForge$Image", name := "setWord", desc := "(II)V" } : Jvm.MethodName)) ∈ bw := bw_s (List.mem_of_getElem? (i := 22) (by decide +kernel)) (by decide +kernel)
theorem tp_36 : (Jvm.Cond.selects "ImageForge$Image" ({ cls := "ImageForge$Image", name := "halfAt", desc := "(I)I" } : Jvm.MethodName) ({ cls := "ImageForge$Image", name := "halfAt", desc := "(I)I" } : Jvm.MethodName)) ∈ bw := bw_s (List.mem_of_getElem? (i := 36) (by decide +kernel)) (by decide +kernel)
theorem tp_45 : (Jvm.Cond.selects "ImageForge$Image" ({ cls := "ImageForge$Image", name := "sectionBegin", desc := "(I)I" } : Jvm.MethodName) ({ cls := "ImageForge$Image", name := "sectionBegin", desc := "(I)I" } : Jvm.MethodName)) ∈ bw := bw_s (List.mem_of_getElem? (i := 45) (by decide +kernel)) (by decide +kernel)
theorem tp_46 : (Jvm.Cond.selects "ImageForge$Image" ({ cls := "ImageForge$Image", name := "sectionSize", desc := "(I)I" } : Jvm.MethodName) ({ cls := "ImageForge$Image", name := "sectionSize", desc := "(I)I" } : Jvm.MethodName)) ∈ bw := bw_s (List.mem_of_getElem? (i := 46) (by decide +kernel)) (by decide +kernel)

theorem tw_6 : (Jvm.Cond.initialized "ImageForge$Part") ∈ bw := bw_t (List.mem_of_getElem? (i := 6) (by decide +kernel)) (by decide +kernel)
theorem tw_15 : (Jvm.Cond.initialized "java/lang/IllegalArgumentException") ∈ bw := bw_t (List.mem_of_getElem? (i := 15) (by decide +kernel)) (by decide +kernel)
theorem tw_16 : (Jvm.Cond.initialized "java/lang/IllegalStateException") ∈ bw := bw_t (List.mem_of_getElem? (i := 16) (by decide +kernel)) (by decide +kernel)
theorem tw_25 : (Jvm.Cond.initialized "java/util/NoSuchElementException") ∈ bw := bw_t (List.mem_of_getElem? (i := 25) (by decide +kernel)) (by decide +kernel)
theorem tw_201 : (Jvm.Cond.fieldLink "ImageForge" (23 : Nat) "ImageForge" "offers" "[[I") ∈ bw := bw_t (List.mem_of_getElem? (i := 201) (by decide +kernel)) (by decide +kernel)
theorem tw_202 : (Jvm.Cond.fieldLink "ImageForge" (29 : Nat) "ImageForge" "linked" "LImageForge$Image;") ∈ bw := bw_t (List.mem_of_getElem? (i := 202) (by decide +kernel)) (by decide +kernel)
theorem tw_203 : (Jvm.Cond.fieldLink "ImageForge" (36 : Nat) "ImageForge" "linker" "LImageForge$Linker;") ∈ bw := bw_t (List.mem_of_getElem? (i := 203) (by decide +kernel)) (by decide +kernel)
theorem tw_250 : (Jvm.Cond.code ({ cls := "ImageForge", name := "put", desc := "(IIJI)I" } : Jvm.MethodName) prog_1_method_2_code (7 : Nat) (Option.some Jvm.ClassFile.FieldType.int)) ∈ bw := bw_t (List.mem_of_getElem? (i := 250) (by decide +kernel)) (by decide +kernel)
theorem tw_254 : (Jvm.Cond.classLink "ImageForge" (53 : Nat) "java/lang/IllegalArgumentException") ∈ bw := bw_t (List.mem_of_getElem? (i := 254) (by decide +kernel)) (by decide +kernel)
theorem tw_255 : (Jvm.Cond.instantiable "java/lang/IllegalArgumentException" (6 : Nat)) ∈ bw := bw_t (List.mem_of_getElem? (i := 255) (by decide +kernel)) (by decide +kernel)
theorem tw_321 : (Jvm.Cond.classLink "ImageForge" (70 : Nat) "java/lang/IllegalStateException") ∈ bw := bw_t (List.mem_of_getElem? (i := 321) (by decide +kernel)) (by decide +kernel)
theorem tw_322 : (Jvm.Cond.instantiable "java/lang/IllegalStateException" (6 : Nat)) ∈ bw := bw_t (List.mem_of_getElem? (i := 322) (by decide +kernel)) (by decide +kernel)
theorem tw_339 : (Jvm.Cond.instanceMethod ({ cls := "ImageForge$Part", name := "append", desc := "(JI)V" } : Jvm.MethodName)) ∈ bw := bw_t (List.mem_of_getElem? (i := 339) (by decide +kernel)) (by decide +kernel)
theorem tw_347 : (Jvm.Cond.code ({ cls := "ImageForge", name := "define", desc := "(IIII)V" } : Jvm.MethodName) prog_1_method_3_code (6 : Nat) (Option.none : Option Jvm.ClassFile.FieldType)) ∈ bw := bw_t (List.mem_of_getElem? (i := 347) (by decide +kernel)) (by decide +kernel)
theorem tw_353 : (Jvm.Cond.instanceMethod ({ cls := "ImageForge$Name", name := "defineAt", desc := "(III)V" } : Jvm.MethodName)) ∈ bw := bw_t (List.mem_of_getElem? (i := 353) (by decide +kernel)) (by decide +kernel)
theorem tw_492 : (Jvm.Cond.code ({ cls := "ImageForge", name := "imported", desc := "(III)V" } : Jvm.MethodName) prog_1_method_5_code (5 : Nat) (Option.none : Option Jvm.ClassFile.FieldType)) ∈ bw := bw_t (List.mem_of_getElem? (i := 492) (by decide +kernel)) (by decide +kernel)
theorem tw_493 : (Jvm.Cond.methodLink "ImageForge" (123 : Nat) ({ cls := "ImageForge", name := "isSlot", desc := "(II)Z" } : Jvm.MethodName)) ∈ bw := bw_t (List.mem_of_getElem? (i := 493) (by decide +kernel)) (by decide +kernel)
theorem tw_494 : (Jvm.Cond.static ({ cls := "ImageForge", name := "isSlot", desc := "(II)Z" } : Jvm.MethodName)) ∈ bw := bw_t (List.mem_of_getElem? (i := 494) (by decide +kernel)) (by decide +kernel)
theorem tw_503 : (Jvm.Cond.code ({ cls := "ImageForge", name := "exported", desc := "(IZ)V" } : Jvm.MethodName) prog_1_method_6_code (3 : Nat) (Option.none : Option Jvm.ClassFile.FieldType)) ∈ bw := bw_t (List.mem_of_getElem? (i := 503) (by decide +kernel)) (by decide +kernel)
theorem tw_512 : (Jvm.Cond.code ({ cls := "ImageForge", name := "link", desc := "()I" } : Jvm.MethodName) prog_1_method_7_code (1 : Nat) (Option.some Jvm.ClassFile.FieldType.int)) ∈ bw := bw_t (List.mem_of_getElem? (i := 512) (by decide +kernel)) (by decide +kernel)
theorem tw_513 : (Jvm.Cond.methodLink "ImageForge" (140 : Nat) ({ cls := "ImageForge", name := "someNameClashes", desc := "()Z" } : Jvm.MethodName)) ∈ bw := bw_t (List.mem_of_getElem? (i := 513) (by decide +kernel)) (by decide +kernel)
theorem tw_515 : (Jvm.Cond.instanceMethod ({ cls := "ImageForge", name := "someNameClashes", desc := "()Z" } : Jvm.MethodName)) ∈ bw := bw_t (List.mem_of_getElem? (i := 515) (by decide +kernel)) (by decide +kernel)
theorem tw_526 : (Jvm.Cond.methodLink "ImageForge" (146 : Nat) ({ cls := "ImageForge", name := "someExportLacks", desc := "()Z" } : Jvm.MethodName)) ∈ bw := bw_t (List.mem_of_getElem? (i := 526) (by decide +kernel)) (by decide +kernel)
theorem tw_528 : (Jvm.Cond.instanceMethod ({ cls := "ImageForge", name := "someExportLacks", desc := "()Z" } : Jvm.MethodName)) ∈ bw := bw_t (List.mem_of_getElem? (i := 528) (by decide +kernel)) (by decide +kernel)
theorem tw_530 : (Jvm.Cond.methodLink "ImageForge" (149 : Nat) ({ cls := "ImageForge", name := "someReferenceLacks", desc := "()Z" } : Jvm.MethodName)) ∈ bw := bw_t (List.mem_of_getElem? (i := 530) (by decide +kernel)) (by decide +kernel)
theorem tw_532 : (Jvm.Cond.instanceMethod ({ cls := "ImageForge", name := "someReferenceLacks", desc := "()Z" } : Jvm.MethodName)) ∈ bw := bw_t (List.mem_of_getElem? (i := 532) (by decide +kernel)) (by decide +kernel)
theorem tw_539 : (Jvm.Cond.classLink "ImageForge" (152 : Nat) "java/util/NoSuchElementException") ∈ bw := bw_t (List.mem_of_getElem? (i := 539) (by decide +kernel)) (by decide +kernel)
theorem tw_540 : (Jvm.Cond.instantiable "java/util/NoSuchElementException" (6 : Nat)) ∈ bw := bw_t (List.mem_of_getElem? (i := 540) (by decide +kernel)) (by decide +kernel)
theorem tw_557 : (Jvm.Cond.instanceMethod ({ cls := "ImageForge$Linker", name := "build", desc := "([LImageForge$ObjectFile;[LImageForge$Name;LImageForge$Image;)V" } : Jvm.MethodName)) ∈ bw := bw_t (List.mem_of_getElem? (i := 557) (by decide +kernel)) (by decide +kernel)
theorem tw_670 : (Jvm.Cond.code ({ cls := "ImageForge", name := "image", desc := "(I)I" } : Jvm.MethodName) prog_1_method_8_code (2 : Nat) (Option.some Jvm.ClassFile.FieldType.int)) ∈ bw := bw_t (List.mem_of_getElem? (i := 670) (by decide +kernel)) (by decide +kernel)
theorem tw_679 : (Jvm.Cond.code ({ cls := "ImageForge", name := "spoil", desc := "(II)V" } : Jvm.MethodName) prog_1_method_9_code (3 : Nat) (Option.none : Option Jvm.ClassFile.FieldType)) ∈ bw := bw_t (List.mem_of_getElem? (i := 679) (by decide +kernel)) (by decide +kernel)
theorem tw_682 : (Jvm.Cond.instanceMethod ({ cls := "ImageForge$Image", name := "setByte", desc := "(II)V" } : Jvm.MethodName)) ∈ bw := bw_t (List.mem_of_getElem? (i := 682) (by decide +kernel)) (by decide +kernel)
theorem tw_690 : (Jvm.Cond.code ({ cls := "ImageForge", name := "seal", desc := "()I" } : Jvm.MethodName) prog_1_method_10_code (2 : Nat) (Option.some Jvm.ClassFile.FieldType.int)) ∈ bw := bw_t (List.mem_of_getElem? (i := 690) (by decide +kernel)) (by decide +kernel)
theorem tw_693 : (Jvm.Cond.instanceMethod ({ cls := "ImageForge$Image", name := "isNone", desc := "()Z" } : Jvm.MethodName)) ∈ bw := bw_t (List.mem_of_getElem? (i := 693) (by decide +kernel)) (by decide +kernel)
theorem tw_704 : (Jvm.Cond.code ({ cls := "ImageForge", name := "offer", desc := "(III)V" } : Jvm.MethodName) prog_1_method_11_code (4 : Nat) (Option.none : Option Jvm.ClassFile.FieldType)) ∈ bw := bw_t (List.mem_of_getElem? (i := 704) (by decide +kernel)) (by decide +kernel)
theorem tw_712 : (Jvm.Cond.code ({ cls := "ImageForge", name := "load", desc := "(I)I" } : Jvm.MethodName) prog_1_method_12_code (2 : Nat) (Option.some Jvm.ClassFile.FieldType.int)) ∈ bw := bw_t (List.mem_of_getElem? (i := 712) (by decide +kernel)) (by decide +kernel)
theorem tw_713 : (Jvm.Cond.constant "ImageForge" (185 : Nat) (1073741824 : Int32)) ∈ bw := bw_t (List.mem_of_getElem? (i := 713) (by decide +kernel)) (by decide +kernel)
theorem tw_717 : (Jvm.Cond.instanceMethod ({ cls := "ImageForge$Loader", name := "bring", desc := "(LImageForge$Image;[[II)I" } : Jvm.MethodName)) ∈ bw := bw_t (List.mem_of_getElem? (i := 717) (by decide +kernel)) (by decide +kernel)
theorem tp_5 : (Jvm.Cond.selects "ImageForge$Part" ({ cls := "ImageForge$Part", name := "append", desc := "(JI)V" } : Jvm.MethodName) ({ cls := "ImageForge$Part", name := "append", desc := "(JI)V" } : Jvm.MethodName)) ∈ bw := bw_s (List.mem_of_getElem? (i := 5) (by decide +kernel)) (by decide +kernel)
theorem tp_6 : (Jvm.Cond.selects "ImageForge$Name" ({ cls := "ImageForge$Name", name := "defineAt", desc := "(III)V" } : Jvm.MethodName) ({ cls := "ImageForge$Name", name := "defineAt", desc := "(III)V" } : Jvm.MethodName)) ∈ bw := bw_s (List.mem_of_getElem? (i := 6) (by decide +kernel)) (by decide +kernel)
theorem tp_12 : (Jvm.Cond.selects "ImageForge" ({ cls := "ImageForge", name := "someNameClashes", desc := "()Z" } : Jvm.MethodName) ({ cls := "ImageForge", name := "someNameClashes", desc := "()Z" } : Jvm.MethodName)) ∈ bw := bw_s (List.mem_of_getElem? (i := 12) (by decide +kernel)) (by decide +kernel)
theorem tp_15 : (Jvm.Cond.selects "ImageForge" ({ cls := "ImageForge", name := "someExportLacks", desc := "()Z" } : Jvm.MethodName) ({ cls := "ImageForge", name := "someExportLacks", desc := "()Z" } : Jvm.MethodName)) ∈ bw := bw_s (List.mem_of_getElem? (i := 15) (by decide +kernel)) (by decide +kernel)
theorem tp_16 : (Jvm.Cond.selects "ImageForge" ({ cls := "ImageForge", name := "someReferenceLacks", desc := "()Z" } : Jvm.MethodName) ({ cls := "ImageForge", name := "someReferenceLacks", desc := "()Z" } : Jvm.MethodName)) ∈ bw := bw_s (List.mem_of_getElem? (i := 16) (by decide +kernel)) (by decide +kernel)
theorem tp_17 : (Jvm.Cond.selects "ImageForge$Linker" ({ cls := "ImageForge$Linker", name := "build", desc := "([LImageForge$ObjectFile;[LImageForge$Name;LImageForge$Image;)V" } : Jvm.MethodName) ({ cls := "ImageForge$Linker", name := "build", desc := "([LImageForge$ObjectFile;[LImageForge$Name;LImageForge$Image;)V" } : Jvm.MethodName)) ∈ bw := bw_s (List.mem_of_getElem? (i := 17) (by decide +kernel)) (by decide +kernel)
theorem tp_37 : (Jvm.Cond.selects "ImageForge$Image" ({ cls := "ImageForge$Image", name := "setByte", desc := "(II)V" } : Jvm.MethodName) ({ cls := "ImageForge$Image", name := "setByte", desc := "(II)V" } : Jvm.MethodName)) ∈ bw := bw_s (List.mem_of_getElem? (i := 37) (by decide +kernel)) (by decide +kernel)
theorem tp_38 : (Jvm.Cond.selects "ImageForge$Image" ({ cls := "ImageForge$Image", name := "isNone", desc := "()Z" } : Jvm.MethodName) ({ cls := "ImageForge$Image", name := "isNone", desc := "()Z" } : Jvm.MethodName)) ∈ bw := bw_s (List.mem_of_getElem? (i := 38) (by decide +kernel)) (by decide +kernel)
theorem tp_39 : (Jvm.Cond.selects "ImageForge$Loader" ({ cls := "ImageForge$Loader", name := "bring", desc := "(LImageForge$Image;[[II)I" } : Jvm.MethodName) ({ cls := "ImageForge$Loader", name := "bring", desc := "(LImageForge$Image;[[II)I" } : Jvm.MethodName)) ∈ bw := bw_s (List.mem_of_getElem? (i := 39) (by decide +kernel)) (by decide +kernel)
def ny_s : List (Nat × String) := [(55, "no such object or part, or n is not 1 .. 8"), (72, "the part would have more than 40 bytes"), (79, "no such object, name or part"), (81, "the place is not 0 .. the part's size"), (86, "the object has 6 definitions"), (92, "no such object, part, kind or name"), (101, "the word is not all in the part, or not free"), (112, "the object has 8 references"), (126, "no such name, library or ordinal"), (134, "no such name"), (144, "a name is defined twice, or defined and imported"), (154, "a name is meant or exported that is not there"), (162, "no such byte"), (175, "no image"), (183, "no such library or ordinal"), (186, "not a multiple of 64 from 0 to 1073741824")]
def ny_c : List (String × String) := [("java/lang/IllegalArgumentException", "java/lang/IllegalArgumentException"), ("java/lang/IllegalStateException", "java/lang/IllegalStateException"), ("java/util/NoSuchElementException", "java/util/NoSuchElementException"), ("ImageForge$Reference", "ImageForge$Reference"), ("ImageForge", "java/lang/Object"), ("ImageForge$Image", "java/lang/Object"), ("ImageForge$Linker", "java/lang/Object"), ("ImageForge$Loader", "java/lang/Object"), ("ImageForge$ObjectFile", "java/lang/Object"), ("ImageForge$Part", "java/lang/Object"), ("ImageForge$Name", "java/lang/Object"), ("ImageForgeModel", "java/lang/Object"), ("ImageForge$Reference", "java/lang/Object"), ("java/lang/String", "java/lang/Object")]
def ny_d : List MethodName := [⟨"java/lang/RuntimeException", "<init>", "()V"⟩, ⟨"java/lang/RuntimeException", "<init>", "(Ljava/lang/String;)V"⟩, ⟨"java/lang/Exception", "<init>", "()V"⟩, ⟨"java/lang/Exception", "<init>", "(Ljava/lang/String;)V"⟩, ⟨"java/lang/Throwable", "<init>", "()V"⟩, ⟨"java/lang/Throwable", "<init>", "(Ljava/lang/String;)V"⟩, ⟨"java/lang/Object", "getClass", "()Ljava/lang/Class;"⟩]
def nyw : List Cond := ny_c.map (fun q => .castable q.1 q.2) ++ ny_d.map (fun x => .declares x)
def Ny (U : State) : Prop := (∀ q ∈ ny_s, ∃ sa : Nat, vk_R "ImageForge" q.1 q.2 sa U) ∧ (∀ q ∈ ny_c, va_Nw (.castable q.1 q.2) U) ∧ ∀ x ∈ ny_d, va_Nw (.declares x) U
theorem Ny.same {u U : State} (h : u.vm = U.vm) (q : Ny u) : Ny U := ⟨fun w hw => (q.1 w hw).elim fun a ha => ⟨a, vk_R.same h.symm ha⟩, fun w hw => va_Nw.same rfl h (q.2.1 w hw), fun w hw => va_Nw.same rfl h (q.2.2 w hw)⟩
theorem Ny.warm {s U : State} (hW : s.WarmedH U.vm) (q : Ny s) : Ny U := ⟨fun w hw => (q.1 w hw).elim fun a ha => ⟨a, vk_R.warm hW ha⟩, fun w hw => va_Nw.warmC hW (q.2.1 w hw), fun w hw => va_Nw.warmD hW (q.2.2 w hw)⟩
theorem Ny.w {U : State} (q : Ny U) : ∀ w ∈ nyw, va_Nw w U := fun w hw => by
  rcases List.mem_append.mp hw with h | h
  · obtain ⟨x, hx, rfl⟩ := List.mem_map.mp h
    exact q.2.1 x hx
  · obtain ⟨x, hx, rfl⟩ := List.mem_map.mp h
    exact q.2.2 x hx
theorem ns_0 {U : State} (q : Ny U) : ∃ sa : Nat, vk_R "ImageForge" 55 "no such object or part, or n is not 1 .. 8" sa U := q.1 (55, "no such object or part, or n is not 1 .. 8") (List.mem_of_getElem? (i := 0) rfl)
theorem ns_1 {U : State} (q : Ny U) : ∃ sa : Nat, vk_R "ImageForge" 72 "the part would have more than 40 bytes" sa U := q.1 (72, "the part would have more than 40 bytes") (List.mem_of_getElem? (i := 1) rfl)
theorem ns_2 {U : State} (q : Ny U) : ∃ sa : Nat, vk_R "ImageForge" 79 "no such object, name or part" sa U := q.1 (79, "no such object, name or part") (List.mem_of_getElem? (i := 2) rfl)
theorem ns_3 {U : State} (q : Ny U) : ∃ sa : Nat, vk_R "ImageForge" 81 "the place is not 0 .. the part's size" sa U := q.1 (81, "the place is not 0 .. the part's size") (List.mem_of_getElem? (i := 3) rfl)
theorem ns_4 {U : State} (q : Ny U) : ∃ sa : Nat, vk_R "ImageForge" 86 "the object has 6 definitions" sa U := q.1 (86, "the object has 6 definitions") (List.mem_of_getElem? (i := 4) rfl)
theorem ns_5 {U : State} (q : Ny U) : ∃ sa : Nat, vk_R "ImageForge" 92 "no such object, part, kind or name" sa U := q.1 (92, "no such object, part, kind or name") (List.mem_of_getElem? (i := 5) rfl)
theorem ns_6 {U : State} (q : Ny U) : ∃ sa : Nat, vk_R "ImageForge" 101 "the word is not all in the part, or not free" sa U := q.1 (101, "the word is not all in the part, or not free") (List.mem_of_getElem? (i := 6) rfl)
theorem ns_7 {U : State} (q : Ny U) : ∃ sa : Nat, vk_R "ImageForge" 112 "the object has 8 references" sa U := q.1 (112, "the object has 8 references") (List.mem_of_getElem? (i := 7) rfl)
theorem ns_8 {U : State} (q : Ny U) : ∃ sa : Nat, vk_R "ImageForge" 126 "no such name, library or ordinal" sa U := q.1 (126, "no such name, library or ordinal") (List.mem_of_getElem? (i := 8) rfl)
theorem ns_9 {U : State} (q : Ny U) : ∃ sa : Nat, vk_R "ImageForge" 134 "no such name" sa U := q.1 (134, "no such name") (List.mem_of_getElem? (i := 9) rfl)
theorem ns_10 {U : State} (q : Ny U) : ∃ sa : Nat, vk_R "ImageForge" 144 "a name is defined twice, or defined and imported" sa U := q.1 (144, "a name is defined twice, or defined and imported") (List.mem_of_getElem? (i := 10) rfl)
theorem ns_11 {U : State} (q : Ny U) : ∃ sa : Nat, vk_R "ImageForge" 154 "a name is meant or exported that is not there" sa U := q.1 (154, "a name is meant or exported that is not there") (List.mem_of_getElem? (i := 11) rfl)
theorem ns_12 {U : State} (q : Ny U) : ∃ sa : Nat, vk_R "ImageForge" 162 "no such byte" sa U := q.1 (162, "no such byte") (List.mem_of_getElem? (i := 12) rfl)
theorem ns_13 {U : State} (q : Ny U) : ∃ sa : Nat, vk_R "ImageForge" 175 "no image" sa U := q.1 (175, "no image") (List.mem_of_getElem? (i := 13) rfl)
theorem ns_14 {U : State} (q : Ny U) : ∃ sa : Nat, vk_R "ImageForge" 183 "no such library or ordinal" sa U := q.1 (183, "no such library or ordinal") (List.mem_of_getElem? (i := 14) rfl)
theorem ns_15 {U : State} (q : Ny U) : ∃ sa : Nat, vk_R "ImageForge" 186 "not a multiple of 64 from 0 to 1073741824" sa U := q.1 (186, "not a multiple of 64 from 0 to 1073741824") (List.mem_of_getElem? (i := 15) rfl)
def rx_1 : ByteArray := ⟨#[0x2a, 0x2b, 0xb7, 0x00, 7, 0xb1]⟩
set_option maxRecDepth 100000 in
theorem own_1 : (Bundle.ownAtomsX "ImageForge" 57 "java/lang/IllegalArgumentException" 7 rx_1 ["java/lang/RuntimeException", "java/lang/Exception"]).all (fun w => (decide (w ∈ lw_tbl) && goodWord w) || ((decide (w ∈ nyw) && w.onTables) || (decide (w = .isRef (.static Bundle.tN "UNASSIGNED_STACK" Bundle.steD)) || (decide (w = .isRef (.static Bundle.tN "SUPPRESSED_SENTINEL" Bundle.listD)) || (decide (w = .laysStatic Bundle.tN "UNASSIGNED_STACK" Bundle.steD) || decide (w = .laysStatic Bundle.tN "SUPPRESSED_SENTINEL" Bundle.listD)))))) = true := by decide +kernel
theorem hat_1 {args : Array Value} {s : State} (hts : ∀ w ∈ bw, w.before args s = true) (hny : Ny s) : ∀ w ∈ Bundle.ownAtomsX "ImageForge" 57 "java/lang/IllegalArgumentException" 7 rx_1 ["java/lang/RuntimeException", "java/lang/Exception"], ((w.onTables || goodWord w) = true ∧ w.before args s = true) ∨ w = .isRef (.static Bundle.tN "UNASSIGNED_STACK" Bundle.steD) ∨ w = .isRef (.static Bundle.tN "SUPPRESSED_SENTINEL" Bundle.listD) ∨ w = .laysStatic Bundle.tN "UNASSIGNED_STACK" Bundle.steD ∨ w = .laysStatic Bundle.tN "SUPPRESSED_SENTINEL" Bundle.listD := by
  intro w hw
  have h := List.all_eq_true.mp own_1 w hw
  simp only [Bool.or_eq_true, Bool.and_eq_true, decide_eq_true_eq] at h
  rcases h with ⟨h1, h2⟩ | ⟨h1, h2⟩ | h
  · exact Or.inl ⟨by rw [h2, Bool.or_true], hts w (List.mem_filter.mpr ⟨h1, h2⟩)⟩
  · exact Or.inl ⟨by rw [h2, Bool.true_or], va_Nw.use h2 (hny.w w h1)⟩
  · exact Or.inr h
def rx_2 : ByteArray := ⟨#[0x2a, 0x2b, 0xb7, 0x00, 7, 0xb1]⟩
set_option maxRecDepth 100000 in
theorem own_2 : (Bundle.ownAtomsX "ImageForge" 74 "java/lang/IllegalStateException" 7 rx_2 ["java/lang/RuntimeException", "java/lang/Exception"]).all (fun w => (decide (w ∈ lw_tbl) && goodWord w) || ((decide (w ∈ nyw) && w.onTables) || (decide (w = .isRef (.static Bundle.tN "UNASSIGNED_STACK" Bundle.steD)) || (decide (w = .isRef (.static Bundle.tN "SUPPRESSED_SENTINEL" Bundle.listD)) || (decide (w = .laysStatic Bundle.tN "UNASSIGNED_STACK" Bundle.steD) || decide (w = .laysStatic Bundle.tN "SUPPRESSED_SENTINEL" Bundle.listD)))))) = true := by decide +kernel
theorem hat_2 {args : Array Value} {s : State} (hts : ∀ w ∈ bw, w.before args s = true) (hny : Ny s) : ∀ w ∈ Bundle.ownAtomsX "ImageForge" 74 "java/lang/IllegalStateException" 7 rx_2 ["java/lang/RuntimeException", "java/lang/Exception"], ((w.onTables || goodWord w) = true ∧ w.before args s = true) ∨ w = .isRef (.static Bundle.tN "UNASSIGNED_STACK" Bundle.steD) ∨ w = .isRef (.static Bundle.tN "SUPPRESSED_SENTINEL" Bundle.listD) ∨ w = .laysStatic Bundle.tN "UNASSIGNED_STACK" Bundle.steD ∨ w = .laysStatic Bundle.tN "SUPPRESSED_SENTINEL" Bundle.listD := by
  intro w hw
  have h := List.all_eq_true.mp own_2 w hw
  simp only [Bool.or_eq_true, Bool.and_eq_true, decide_eq_true_eq] at h
  rcases h with ⟨h1, h2⟩ | ⟨h1, h2⟩ | h
  · exact Or.inl ⟨by rw [h2, Bool.or_true], hts w (List.mem_filter.mpr ⟨h1, h2⟩)⟩
  · exact Or.inl ⟨by rw [h2, Bool.true_or], va_Nw.use h2 (hny.w w h1)⟩
  · exact Or.inr h
def rx_3 : ByteArray := ⟨#[0x2a, 0x2b, 0xb7, 0x00, 13, 0xb1]⟩
set_option maxRecDepth 100000 in
theorem own_3 : (Bundle.ownAtomsX "ImageForge" 156 "java/util/NoSuchElementException" 13 rx_3 ["java/lang/RuntimeException", "java/lang/Exception"]).all (fun w => (decide (w ∈ lw_tbl) && goodWord w) || ((decide (w ∈ nyw) && w.onTables) || (decide (w = .isRef (.static Bundle.tN "UNASSIGNED_STACK" Bundle.steD)) || (decide (w = .isRef (.static Bundle.tN "SUPPRESSED_SENTINEL" Bundle.listD)) || (decide (w = .laysStatic Bundle.tN "UNASSIGNED_STACK" Bundle.steD) || decide (w = .laysStatic Bundle.tN "SUPPRESSED_SENTINEL" Bundle.listD)))))) = true := by decide +kernel
theorem hat_3 {args : Array Value} {s : State} (hts : ∀ w ∈ bw, w.before args s = true) (hny : Ny s) : ∀ w ∈ Bundle.ownAtomsX "ImageForge" 156 "java/util/NoSuchElementException" 13 rx_3 ["java/lang/RuntimeException", "java/lang/Exception"], ((w.onTables || goodWord w) = true ∧ w.before args s = true) ∨ w = .isRef (.static Bundle.tN "UNASSIGNED_STACK" Bundle.steD) ∨ w = .isRef (.static Bundle.tN "SUPPRESSED_SENTINEL" Bundle.listD) ∨ w = .laysStatic Bundle.tN "UNASSIGNED_STACK" Bundle.steD ∨ w = .laysStatic Bundle.tN "SUPPRESSED_SENTINEL" Bundle.listD := by
  intro w hw
  have h := List.all_eq_true.mp own_3 w hw
  simp only [Bool.or_eq_true, Bool.and_eq_true, decide_eq_true_eq] at h
  rcases h with ⟨h1, h2⟩ | ⟨h1, h2⟩ | h
  · exact Or.inl ⟨by rw [h2, Bool.or_true], hts w (List.mem_filter.mpr ⟨h1, h2⟩)⟩
  · exact Or.inl ⟨by rw [h2, Bool.true_or], va_Nw.use h2 (hny.w w h1)⟩
  · exact Or.inr h
abbrev Cy (l : Launch) (c : Code) (s : State) (A : Nat → Prop) : Prop := l.stackTraces = false ∧ c.exceptionTable.isEmpty = true ∧ zL Bundle.tN "UNASSIGNED_STACK" Bundle.steD A s s.heap ∧ zL Bundle.tN "SUPPRESSED_SENTINEL" Bundle.listD A s s.heap ∧ Ny s
abbrev PrX (D : va_G) (cA : Nat → ClassId) (ad : Nat → Nat) (L : List Nat) (rs : va_W) (u : Mr) (sz : Nat) (U : State) : Prop := PrU D cA ad L rs u sz U ∧ zL Bundle.tN "UNASSIGNED_STACK" Bundle.steD (va_A (ww ad cA L rs u) sz) U U.heap ∧ zL Bundle.tN "SUPPRESSED_SENTINEL" Bundle.listD (va_A (ww ad cA L rs u) sz) U U.heap ∧ Ny U
def CtX (l : Launch) (y : MethodName) (ws : List Cond) (rm : Room) (as : List Value) (D : va_G) (cA : Nat → ClassId) (ad : Nat → Nat) (L : List Nat) (rs : va_W) (u : Mr) (rv : Int32 → Option Value) (out : Mr × (Nat × Int32)) : Prop :=
  ∀ sz : Nat, MetFree l y (headSpec ws rm) (va_Pc as (PrX D cA ad L rs u sz)) (fun _ _ _ _ _ => True) (fun _ st o t => XQ D cA ad L rs (va_A (ww ad cA L rs u) sz) rv out st o t)
theorem MetX_ofW {l : Launch} {y : MethodName} {ws ws' : List Cond} {rm : Room} {Pc : Array Value → State → Prop} {Qx : Array Value → State → Outcome → State → Prop} {cc : ByteArray} {maxL : Nat} {ret : Option FieldType} (hy : plainName y.cls = true) (hw : ws = Cond.code y cc maxL ret :: ws')
    (body : ∀ p e s m args below meth c s₁, BodyLoose p l y (headSpec ws rm) cc maxL ret e s m args below meth c s₁ → c.maxLocals = maxL → Pc args s → W p l e (headSpec ws rm).room s m args below meth c s.heap [] 0 0 (fun t => ∃ o : Outcome, t.status = .running ∧ Ended t below o ∧ Qx args s o t) (entryFrame m args maxL)) : MetFree l y (headSpec ws rm) Pc (fun _ _ _ _ _ => True) Qx := by
  refine MetFree.of_bodyS (code := cc) (maxLocals := maxL) (ret := ret) hy ?_ ?_
  · intro args s m h hn
    obtain ⟨meth, c, h1, h2, h3, h4, h5, h6, -, -⟩ := Cond.code_spec hn (atoms_spec (ws := ws) h _ (by rw [hw]; exact List.mem_cons_self))
    exact ⟨meth, c, h1, h2, h3, h4, h5, h6⟩
  · intro p e s m args below meth c s₁ B hml hP _
    have hh : s₁.heap = s.heap := by rw [B.state]; rfl
    obtain ⟨t, a1, o, b1, b2, b3⟩ := body p e s m args below meth c s₁ B hml hP s₁ hh (Stand.of_body B)
    exact ⟨t, o, a1, b1, b2, b3⟩

section
-- ===== PART A: goes FIRST, ahead of the names: the tables' words, and 'selects' of the private methods out of them =====
/-- a private method of a class that the tables say can be made, by its rows of tables_1 -/
def lw_okq (q : MethodName × Nat) : Prop := (q.1.cls ≠ "java/lang/invoke/MethodHandle" ∧ q.1.cls ≠ "java/lang/invoke/VarHandle") ∧ Cond.instantiable q.1.cls q.2 ∈ tables_1 ∧ Cond.privateMethod q.1 ∈ tables_1 ∧ Cond.instanceMethod q.1 ∈ tables_1
theorem lw_p0 : lw_okq (⟨"ImageForge$Loader", "byteAt", "(I)I"⟩, 5) := ⟨⟨by decide +kernel, by decide +kernel⟩, List.mem_of_getElem? (i := 79) (by decide +kernel), List.mem_of_getElem? (i := 223) (by decide +kernel), List.mem_of_getElem? (i := 224) (by decide +kernel)⟩
theorem lw_p1 : lw_okq (⟨"ImageForge$Image", "byteAt", "(I)I"⟩, 2) := ⟨⟨by decide +kernel, by decide +kernel⟩, List.mem_of_getElem? (i := 42) (by decide +kernel), List.mem_of_getElem? (i := 227) (by decide +kernel), List.mem_of_getElem? (i := 228) (by decide +kernel)⟩
theorem lw_p2 : lw_okq (⟨"ImageForge$Loader", "addressOf", "(I)I"⟩, 5) := ⟨⟨by decide +kernel, by decide +kernel⟩, List.mem_of_getElem? (i := 79) (by decide +kernel), List.mem_of_getElem? (i := 235) (by decide +kernel), List.mem_of_getElem? (i := 236) (by decide +kernel)⟩
theorem lw_p3 : lw_okq (⟨"ImageForge$Image", "wordAt", "(I)I"⟩, 2) := ⟨⟨by decide +kernel, by decide +kernel⟩, List.mem_of_getElem? (i := 42) (by decide +kernel), List.mem_of_getElem? (i := 239) (by decide +kernel), List.mem_of_getElem? (i := 240) (by decide +kernel)⟩
theorem lw_p4 : lw_okq (⟨"java/lang/Throwable", "fillInStackTrace", "(I)Ljava/lang/Throwable;"⟩, 6) := ⟨⟨by decide +kernel, by decide +kernel⟩, List.mem_of_getElem? (i := 293) (by decide +kernel), List.mem_of_getElem? (i := 291) (by decide +kernel), List.mem_of_getElem? (i := 292) (by decide +kernel)⟩
theorem lw_p5 : lw_okq (⟨"ImageForge$Part", "append", "(JI)V"⟩, 2) := ⟨⟨by decide +kernel, by decide +kernel⟩, List.mem_of_getElem? (i := 109) (by decide +kernel), List.mem_of_getElem? (i := 338) (by decide +kernel), List.mem_of_getElem? (i := 339) (by decide +kernel)⟩
theorem lw_p6 : lw_okq (⟨"ImageForge$Name", "defineAt", "(III)V"⟩, 7) := ⟨⟨by decide +kernel, by decide +kernel⟩, List.mem_of_getElem? (i := 164) (by decide +kernel), List.mem_of_getElem? (i := 352) (by decide +kernel), List.mem_of_getElem? (i := 353) (by decide +kernel)⟩
theorem lw_p7 : lw_okq (⟨"ImageForge$Part", "holdsWord", "(I)Z"⟩, 2) := ⟨⟨by decide +kernel, by decide +kernel⟩, List.mem_of_getElem? (i := 109) (by decide +kernel), List.mem_of_getElem? (i := 364) (by decide +kernel), List.mem_of_getElem? (i := 365) (by decide +kernel)⟩
theorem lw_p8 : lw_okq (⟨"ImageForge$ObjectFile", "overlaps", "(II)Z"⟩, 3) := ⟨⟨by decide +kernel, by decide +kernel⟩, List.mem_of_getElem? (i := 102) (by decide +kernel), List.mem_of_getElem? (i := 368) (by decide +kernel), List.mem_of_getElem? (i := 369) (by decide +kernel)⟩
theorem lw_p9 : lw_okq (⟨"java/util/ArrayList", "add", "(Ljava/lang/Object;[Ljava/lang/Object;I)V"⟩, 3) := ⟨⟨by decide +kernel, by decide +kernel⟩, List.mem_of_getElem? (i := 125) (by decide +kernel), List.mem_of_getElem? (i := 431) (by decide +kernel), List.mem_of_getElem? (i := 432) (by decide +kernel)⟩
theorem lw_p10 : lw_okq (⟨"java/util/ArrayList", "grow", "()[Ljava/lang/Object;"⟩, 3) := ⟨⟨by decide +kernel, by decide +kernel⟩, List.mem_of_getElem? (i := 125) (by decide +kernel), List.mem_of_getElem? (i := 435) (by decide +kernel), List.mem_of_getElem? (i := 436) (by decide +kernel)⟩
theorem lw_p11 : lw_okq (⟨"java/util/ArrayList", "grow", "(I)[Ljava/lang/Object;"⟩, 3) := ⟨⟨by decide +kernel, by decide +kernel⟩, List.mem_of_getElem? (i := 125) (by decide +kernel), List.mem_of_getElem? (i := 439) (by decide +kernel), List.mem_of_getElem? (i := 440) (by decide +kernel)⟩
theorem lw_p12 : lw_okq (⟨"ImageForge", "someNameClashes", "()Z"⟩, 6) := ⟨⟨by decide +kernel, by decide +kernel⟩, List.mem_of_getElem? (i := 28) (by decide +kernel), List.mem_of_getElem? (i := 514) (by decide +kernel), List.mem_of_getElem? (i := 515) (by decide +kernel)⟩
theorem lw_p13 : lw_okq (⟨"ImageForge$Name", "isDefined", "()Z"⟩, 7) := ⟨⟨by decide +kernel, by decide +kernel⟩, List.mem_of_getElem? (i := 164) (by decide +kernel), List.mem_of_getElem? (i := 518) (by decide +kernel), List.mem_of_getElem? (i := 519) (by decide +kernel)⟩
theorem lw_p14 : lw_okq (⟨"ImageForge$Name", "isImported", "()Z"⟩, 7) := ⟨⟨by decide +kernel, by decide +kernel⟩, List.mem_of_getElem? (i := 164) (by decide +kernel), List.mem_of_getElem? (i := 522) (by decide +kernel), List.mem_of_getElem? (i := 523) (by decide +kernel)⟩
theorem lw_p15 : lw_okq (⟨"ImageForge", "someExportLacks", "()Z"⟩, 6) := ⟨⟨by decide +kernel, by decide +kernel⟩, List.mem_of_getElem? (i := 28) (by decide +kernel), List.mem_of_getElem? (i := 527) (by decide +kernel), List.mem_of_getElem? (i := 528) (by decide +kernel)⟩
def lw_privs_1 : List (MethodName × Nat) := [(⟨"ImageForge$Loader", "byteAt", "(I)I"⟩, 5), (⟨"ImageForge$Image", "byteAt", "(I)I"⟩, 2), (⟨"ImageForge$Loader", "addressOf", "(I)I"⟩, 5), (⟨"ImageForge$Image", "wordAt", "(I)I"⟩, 2), (⟨"java/lang/Throwable", "fillInStackTrace", "(I)Ljava/lang/Throwable;"⟩, 6), (⟨"ImageForge$Part", "append", "(JI)V"⟩, 2), (⟨"ImageForge$Name", "defineAt", "(III)V"⟩, 7), (⟨"ImageForge$Part", "holdsWord", "(I)Z"⟩, 2), (⟨"ImageForge$ObjectFile", "overlaps", "(II)Z"⟩, 3), (⟨"java/util/ArrayList", "add", "(Ljava/lang/Object;[Ljava/lang/Object;I)V"⟩, 3), (⟨"java/util/ArrayList", "grow", "()[Ljava/lang/Object;"⟩, 3), (⟨"java/util/ArrayList", "grow", "(I)[Ljava/lang/Object;"⟩, 3), (⟨"ImageForge", "someNameClashes", "()Z"⟩, 6), (⟨"ImageForge$Name", "isDefined", "()Z"⟩, 7), (⟨"ImageForge$Name", "isImported", "()Z"⟩, 7), (⟨"ImageForge", "someExportLacks", "()Z"⟩, 6)]
theorem lw_r1 : ∀ q ∈ lw_privs_1, lw_okq q := List.forall_mem_cons.mpr ⟨lw_p0, List.forall_mem_cons.mpr ⟨lw_p1, List.forall_mem_cons.mpr ⟨lw_p2, List.forall_mem_cons.mpr ⟨lw_p3, List.forall_mem_cons.mpr ⟨lw_p4, List.forall_mem_cons.mpr ⟨lw_p5, List.forall_mem_cons.mpr ⟨lw_p6, List.forall_mem_cons.mpr ⟨lw_p7, List.forall_mem_cons.mpr ⟨lw_p8, List.forall_mem_cons.mpr ⟨lw_p9, List.forall_mem_cons.mpr ⟨lw_p10, List.forall_mem_cons.mpr ⟨lw_p11, List.forall_mem_cons.mpr ⟨lw_p12, List.forall_mem_cons.mpr ⟨lw_p13, List.forall_mem_cons.mpr ⟨lw_p14, List.forall_mem_cons.mpr ⟨lw_p15, fun _ h => absurd h List.not_mem_nil⟩⟩⟩⟩⟩⟩⟩⟩⟩⟩⟩⟩⟩⟩⟩⟩
theorem lw_p16 : lw_okq (⟨"ImageForge", "someReferenceLacks", "()Z"⟩, 6) := ⟨⟨by decide +kernel, by decide +kernel⟩, List.mem_of_getElem? (i := 28) (by decide +kernel), List.mem_of_getElem? (i := 531) (by decide +kernel), List.mem_of_getElem? (i := 532) (by decide +kernel)⟩
theorem lw_p17 : lw_okq (⟨"ImageForge$Linker", "build", "([LImageForge$ObjectFile;[LImageForge$Name;LImageForge$Image;)V"⟩, 3) := ⟨⟨by decide +kernel, by decide +kernel⟩, List.mem_of_getElem? (i := 61) (by decide +kernel), List.mem_of_getElem? (i := 556) (by decide +kernel), List.mem_of_getElem? (i := 557) (by decide +kernel)⟩
theorem lw_p18 : lw_okq (⟨"ImageForge$Image", "clear", "()V"⟩, 2) := ⟨⟨by decide +kernel, by decide +kernel⟩, List.mem_of_getElem? (i := 42) (by decide +kernel), List.mem_of_getElem? (i := 560) (by decide +kernel), List.mem_of_getElem? (i := 561) (by decide +kernel)⟩
theorem lw_p19 : lw_okq (⟨"ImageForge$Linker", "writeParts", "([LImageForge$ObjectFile;ILImageForge$Image;I)I"⟩, 3) := ⟨⟨by decide +kernel, by decide +kernel⟩, List.mem_of_getElem? (i := 61) (by decide +kernel), List.mem_of_getElem? (i := 567) (by decide +kernel), List.mem_of_getElem? (i := 568) (by decide +kernel)⟩
theorem lw_p20 : lw_okq (⟨"ImageForge$Linker", "endSection", "(LImageForge$Image;III)I"⟩, 3) := ⟨⟨by decide +kernel, by decide +kernel⟩, List.mem_of_getElem? (i := 61) (by decide +kernel), List.mem_of_getElem? (i := 575) (by decide +kernel), List.mem_of_getElem? (i := 576) (by decide +kernel)⟩
theorem lw_p21 : lw_okq (⟨"ImageForge$Image", "setSection", "(III)V"⟩, 2) := ⟨⟨by decide +kernel, by decide +kernel⟩, List.mem_of_getElem? (i := 42) (by decide +kernel), List.mem_of_getElem? (i := 579) (by decide +kernel), List.mem_of_getElem? (i := 580) (by decide +kernel)⟩
theorem lw_p22 : lw_okq (⟨"ImageForge$Image", "setWord", "(II)V"⟩, 2) := ⟨⟨by decide +kernel, by decide +kernel⟩, List.mem_of_getElem? (i := 42) (by decide +kernel), List.mem_of_getElem? (i := 583) (by decide +kernel), List.mem_of_getElem? (i := 584) (by decide +kernel)⟩
theorem lw_p23 : lw_okq (⟨"ImageForge$Linker", "placeDefinitions", "([LImageForge$Name;)V"⟩, 3) := ⟨⟨by decide +kernel, by decide +kernel⟩, List.mem_of_getElem? (i := 61) (by decide +kernel), List.mem_of_getElem? (i := 587) (by decide +kernel), List.mem_of_getElem? (i := 588) (by decide +kernel)⟩
theorem lw_p24 : lw_okq (⟨"ImageForge$Linker", "writeImports", "([LImageForge$Name;LImageForge$Image;I)I"⟩, 3) := ⟨⟨by decide +kernel, by decide +kernel⟩, List.mem_of_getElem? (i := 61) (by decide +kernel), List.mem_of_getElem? (i := 591) (by decide +kernel), List.mem_of_getElem? (i := 592) (by decide +kernel)⟩
theorem lw_p25 : lw_okq (⟨"ImageForge$Linker", "countLibraries", "([LImageForge$Name;)I"⟩, 3) := ⟨⟨by decide +kernel, by decide +kernel⟩, List.mem_of_getElem? (i := 61) (by decide +kernel), List.mem_of_getElem? (i := 595) (by decide +kernel), List.mem_of_getElem? (i := 596) (by decide +kernel)⟩
theorem lw_p26 : lw_okq (⟨"ImageForge$Linker", "writeSlots", "([LImageForge$Name;ILImageForge$Image;I)I"⟩, 3) := ⟨⟨by decide +kernel, by decide +kernel⟩, List.mem_of_getElem? (i := 61) (by decide +kernel), List.mem_of_getElem? (i := 606) (by decide +kernel), List.mem_of_getElem? (i := 607) (by decide +kernel)⟩
theorem lw_p27 : lw_okq (⟨"ImageForge$Linker", "writeExports", "([LImageForge$Name;LImageForge$Image;I)I"⟩, 3) := ⟨⟨by decide +kernel, by decide +kernel⟩, List.mem_of_getElem? (i := 61) (by decide +kernel), List.mem_of_getElem? (i := 612) (by decide +kernel), List.mem_of_getElem? (i := 613) (by decide +kernel)⟩
theorem lw_p28 : lw_okq (⟨"ImageForge$Linker", "writeReferences", "([LImageForge$ObjectFile;LImageForge$Image;)V"⟩, 3) := ⟨⟨by decide +kernel, by decide +kernel⟩, List.mem_of_getElem? (i := 61) (by decide +kernel), List.mem_of_getElem? (i := 616) (by decide +kernel), List.mem_of_getElem? (i := 617) (by decide +kernel)⟩
theorem lw_p29 : lw_okq (⟨"ImageForge$Linker", "amountFor", "(LImageForge$Reference;I)I"⟩, 3) := ⟨⟨by decide +kernel, by decide +kernel⟩, List.mem_of_getElem? (i := 61) (by decide +kernel), List.mem_of_getElem? (i := 625) (by decide +kernel), List.mem_of_getElem? (i := 626) (by decide +kernel)⟩
theorem lw_p30 : lw_okq (⟨"ImageForge$Image", "addToWord", "(II)V"⟩, 2) := ⟨⟨by decide +kernel, by decide +kernel⟩, List.mem_of_getElem? (i := 42) (by decide +kernel), List.mem_of_getElem? (i := 634) (by decide +kernel), List.mem_of_getElem? (i := 635) (by decide +kernel)⟩
theorem lw_p31 : lw_okq (⟨"ImageForge$Linker", "writeRelocations", "(LImageForge$Image;I)I"⟩, 3) := ⟨⟨by decide +kernel, by decide +kernel⟩, List.mem_of_getElem? (i := 61) (by decide +kernel), List.mem_of_getElem? (i := 639) (by decide +kernel), List.mem_of_getElem? (i := 640) (by decide +kernel)⟩
def lw_privs_2 : List (MethodName × Nat) := [(⟨"ImageForge", "someReferenceLacks", "()Z"⟩, 6), (⟨"ImageForge$Linker", "build", "([LImageForge$ObjectFile;[LImageForge$Name;LImageForge$Image;)V"⟩, 3), (⟨"ImageForge$Image", "clear", "()V"⟩, 2), (⟨"ImageForge$Linker", "writeParts", "([LImageForge$ObjectFile;ILImageForge$Image;I)I"⟩, 3), (⟨"ImageForge$Linker", "endSection", "(LImageForge$Image;III)I"⟩, 3), (⟨"ImageForge$Image", "setSection", "(III)V"⟩, 2), (⟨"ImageForge$Image", "setWord", "(II)V"⟩, 2), (⟨"ImageForge$Linker", "placeDefinitions", "([LImageForge$Name;)V"⟩, 3), (⟨"ImageForge$Linker", "writeImports", "([LImageForge$Name;LImageForge$Image;I)I"⟩, 3), (⟨"ImageForge$Linker", "countLibraries", "([LImageForge$Name;)I"⟩, 3), (⟨"ImageForge$Linker", "writeSlots", "([LImageForge$Name;ILImageForge$Image;I)I"⟩, 3), (⟨"ImageForge$Linker", "writeExports", "([LImageForge$Name;LImageForge$Image;I)I"⟩, 3), (⟨"ImageForge$Linker", "writeReferences", "([LImageForge$ObjectFile;LImageForge$Image;)V"⟩, 3), (⟨"ImageForge$Linker", "amountFor", "(LImageForge$Reference;I)I"⟩, 3), (⟨"ImageForge$Image", "addToWord", "(II)V"⟩, 2), (⟨"ImageForge$Linker", "writeRelocations", "(LImageForge$Image;I)I"⟩, 3)]
theorem lw_r2 : ∀ q ∈ lw_privs_2, lw_okq q := List.forall_mem_cons.mpr ⟨lw_p16, List.forall_mem_cons.mpr ⟨lw_p17, List.forall_mem_cons.mpr ⟨lw_p18, List.forall_mem_cons.mpr ⟨lw_p19, List.forall_mem_cons.mpr ⟨lw_p20, List.forall_mem_cons.mpr ⟨lw_p21, List.forall_mem_cons.mpr ⟨lw_p22, List.forall_mem_cons.mpr ⟨lw_p23, List.forall_mem_cons.mpr ⟨lw_p24, List.forall_mem_cons.mpr ⟨lw_p25, List.forall_mem_cons.mpr ⟨lw_p26, List.forall_mem_cons.mpr ⟨lw_p27, List.forall_mem_cons.mpr ⟨lw_p28, List.forall_mem_cons.mpr ⟨lw_p29, List.forall_mem_cons.mpr ⟨lw_p30, List.forall_mem_cons.mpr ⟨lw_p31, fun _ h => absurd h List.not_mem_nil⟩⟩⟩⟩⟩⟩⟩⟩⟩⟩⟩⟩⟩⟩⟩⟩
theorem lw_p32 : lw_okq (⟨"ImageForge$Linker", "writeBlock", "(LImageForge$Image;II)I"⟩, 3) := ⟨⟨by decide +kernel, by decide +kernel⟩, List.mem_of_getElem? (i := 61) (by decide +kernel), List.mem_of_getElem? (i := 643) (by decide +kernel), List.mem_of_getElem? (i := 644) (by decide +kernel)⟩
theorem lw_p33 : lw_okq (⟨"ImageForge$Image", "setHalf", "(II)V"⟩, 2) := ⟨⟨by decide +kernel, by decide +kernel⟩, List.mem_of_getElem? (i := 42) (by decide +kernel), List.mem_of_getElem? (i := 647) (by decide +kernel), List.mem_of_getElem? (i := 648) (by decide +kernel)⟩
theorem lw_p34 : lw_okq (⟨"ImageForge$Linker", "writeHeader", "([LImageForge$Name;LImageForge$Image;)V"⟩, 3) := ⟨⟨by decide +kernel, by decide +kernel⟩, List.mem_of_getElem? (i := 61) (by decide +kernel), List.mem_of_getElem? (i := 651) (by decide +kernel), List.mem_of_getElem? (i := 652) (by decide +kernel)⟩
theorem lw_p35 : lw_okq (⟨"ImageForge$Image", "checksum", "()I"⟩, 2) := ⟨⟨by decide +kernel, by decide +kernel⟩, List.mem_of_getElem? (i := 42) (by decide +kernel), List.mem_of_getElem? (i := 656) (by decide +kernel), List.mem_of_getElem? (i := 657) (by decide +kernel)⟩
theorem lw_p36 : lw_okq (⟨"ImageForge$Image", "halfAt", "(I)I"⟩, 2) := ⟨⟨by decide +kernel, by decide +kernel⟩, List.mem_of_getElem? (i := 42) (by decide +kernel), List.mem_of_getElem? (i := 660) (by decide +kernel), List.mem_of_getElem? (i := 661) (by decide +kernel)⟩
theorem lw_p37 : lw_okq (⟨"ImageForge$Image", "setByte", "(II)V"⟩, 2) := ⟨⟨by decide +kernel, by decide +kernel⟩, List.mem_of_getElem? (i := 42) (by decide +kernel), List.mem_of_getElem? (i := 681) (by decide +kernel), List.mem_of_getElem? (i := 682) (by decide +kernel)⟩
theorem lw_p38 : lw_okq (⟨"ImageForge$Image", "isNone", "()Z"⟩, 2) := ⟨⟨by decide +kernel, by decide +kernel⟩, List.mem_of_getElem? (i := 42) (by decide +kernel), List.mem_of_getElem? (i := 692) (by decide +kernel), List.mem_of_getElem? (i := 693) (by decide +kernel)⟩
theorem lw_p39 : lw_okq (⟨"ImageForge$Loader", "bring", "(LImageForge$Image;[[II)I"⟩, 5) := ⟨⟨by decide +kernel, by decide +kernel⟩, List.mem_of_getElem? (i := 79) (by decide +kernel), List.mem_of_getElem? (i := 716) (by decide +kernel), List.mem_of_getElem? (i := 717) (by decide +kernel)⟩
theorem lw_p40 : lw_okq (⟨"ImageForge$Image", "copyFrom", "(LImageForge$Image;)V"⟩, 2) := ⟨⟨by decide +kernel, by decide +kernel⟩, List.mem_of_getElem? (i := 42) (by decide +kernel), List.mem_of_getElem? (i := 720) (by decide +kernel), List.mem_of_getElem? (i := 721) (by decide +kernel)⟩
theorem lw_p41 : lw_okq (⟨"ImageForge$Loader", "prepare", "(LImageForge$Image;[[II)I"⟩, 5) := ⟨⟨by decide +kernel, by decide +kernel⟩, List.mem_of_getElem? (i := 79) (by decide +kernel), List.mem_of_getElem? (i := 725) (by decide +kernel), List.mem_of_getElem? (i := 726) (by decide +kernel)⟩
theorem lw_p42 : lw_okq (⟨"ImageForge$Loader", "hasHeader", "(LImageForge$Image;)Z"⟩, 5) := ⟨⟨by decide +kernel, by decide +kernel⟩, List.mem_of_getElem? (i := 79) (by decide +kernel), List.mem_of_getElem? (i := 729) (by decide +kernel), List.mem_of_getElem? (i := 730) (by decide +kernel)⟩
theorem lw_p43 : lw_okq (⟨"ImageForge$Loader", "holdsSections", "(LImageForge$Image;)Z"⟩, 5) := ⟨⟨by decide +kernel, by decide +kernel⟩, List.mem_of_getElem? (i := 79) (by decide +kernel), List.mem_of_getElem? (i := 734) (by decide +kernel), List.mem_of_getElem? (i := 735) (by decide +kernel)⟩
theorem lw_p44 : lw_okq (⟨"ImageForge$Image", "holdsSection", "(I)Z"⟩, 2) := ⟨⟨by decide +kernel, by decide +kernel⟩, List.mem_of_getElem? (i := 42) (by decide +kernel), List.mem_of_getElem? (i := 738) (by decide +kernel), List.mem_of_getElem? (i := 739) (by decide +kernel)⟩
theorem lw_p45 : lw_okq (⟨"ImageForge$Image", "sectionBegin", "(I)I"⟩, 2) := ⟨⟨by decide +kernel, by decide +kernel⟩, List.mem_of_getElem? (i := 42) (by decide +kernel), List.mem_of_getElem? (i := 742) (by decide +kernel), List.mem_of_getElem? (i := 743) (by decide +kernel)⟩
theorem lw_p46 : lw_okq (⟨"ImageForge$Image", "sectionSize", "(I)I"⟩, 2) := ⟨⟨by decide +kernel, by decide +kernel⟩, List.mem_of_getElem? (i := 42) (by decide +kernel), List.mem_of_getElem? (i := 746) (by decide +kernel), List.mem_of_getElem? (i := 747) (by decide +kernel)⟩
theorem lw_p47 : lw_okq (⟨"ImageForge$Loader", "relocate", "(LImageForge$Image;I)Z"⟩, 5) := ⟨⟨by decide +kernel, by decide +kernel⟩, List.mem_of_getElem? (i := 79) (by decide +kernel), List.mem_of_getElem? (i := 750) (by decide +kernel), List.mem_of_getElem? (i := 751) (by decide +kernel)⟩
def lw_privs_3 : List (MethodName × Nat) := [(⟨"ImageForge$Linker", "writeBlock", "(LImageForge$Image;II)I"⟩, 3), (⟨"ImageForge$Image", "setHalf", "(II)V"⟩, 2), (⟨"ImageForge$Linker", "writeHeader", "([LImageForge$Name;LImageForge$Image;)V"⟩, 3), (⟨"ImageForge$Image", "checksum", "()I"⟩, 2), (⟨"ImageForge$Image", "halfAt", "(I)I"⟩, 2), (⟨"ImageForge$Image", "setByte", "(II)V"⟩, 2), (⟨"ImageForge$Image", "isNone", "()Z"⟩, 2), (⟨"ImageForge$Loader", "bring", "(LImageForge$Image;[[II)I"⟩, 5), (⟨"ImageForge$Image", "copyFrom", "(LImageForge$Image;)V"⟩, 2), (⟨"ImageForge$Loader", "prepare", "(LImageForge$Image;[[II)I"⟩, 5), (⟨"ImageForge$Loader", "hasHeader", "(LImageForge$Image;)Z"⟩, 5), (⟨"ImageForge$Loader", "holdsSections", "(LImageForge$Image;)Z"⟩, 5), (⟨"ImageForge$Image", "holdsSection", "(I)Z"⟩, 2), (⟨"ImageForge$Image", "sectionBegin", "(I)I"⟩, 2), (⟨"ImageForge$Image", "sectionSize", "(I)I"⟩, 2), (⟨"ImageForge$Loader", "relocate", "(LImageForge$Image;I)Z"⟩, 5)]
theorem lw_r3 : ∀ q ∈ lw_privs_3, lw_okq q := List.forall_mem_cons.mpr ⟨lw_p32, List.forall_mem_cons.mpr ⟨lw_p33, List.forall_mem_cons.mpr ⟨lw_p34, List.forall_mem_cons.mpr ⟨lw_p35, List.forall_mem_cons.mpr ⟨lw_p36, List.forall_mem_cons.mpr ⟨lw_p37, List.forall_mem_cons.mpr ⟨lw_p38, List.forall_mem_cons.mpr ⟨lw_p39, List.forall_mem_cons.mpr ⟨lw_p40, List.forall_mem_cons.mpr ⟨lw_p41, List.forall_mem_cons.mpr ⟨lw_p42, List.forall_mem_cons.mpr ⟨lw_p43, List.forall_mem_cons.mpr ⟨lw_p44, List.forall_mem_cons.mpr ⟨lw_p45, List.forall_mem_cons.mpr ⟨lw_p46, List.forall_mem_cons.mpr ⟨lw_p47, fun _ h => absurd h List.not_mem_nil⟩⟩⟩⟩⟩⟩⟩⟩⟩⟩⟩⟩⟩⟩⟩⟩
theorem lw_p48 : lw_okq (⟨"ImageForge$Loader", "relocateBlock", "(LImageForge$Image;III)Z"⟩, 5) := ⟨⟨by decide +kernel, by decide +kernel⟩, List.mem_of_getElem? (i := 79) (by decide +kernel), List.mem_of_getElem? (i := 756) (by decide +kernel), List.mem_of_getElem? (i := 757) (by decide +kernel)⟩
theorem lw_p49 : lw_okq (⟨"ImageForge$Image", "holdsWord", "(J)Z"⟩, 2) := ⟨⟨by decide +kernel, by decide +kernel⟩, List.mem_of_getElem? (i := 42) (by decide +kernel), List.mem_of_getElem? (i := 761) (by decide +kernel), List.mem_of_getElem? (i := 762) (by decide +kernel)⟩
theorem lw_p50 : lw_okq (⟨"ImageForge$Loader", "bind", "(LImageForge$Image;[[I)I"⟩, 5) := ⟨⟨by decide +kernel, by decide +kernel⟩, List.mem_of_getElem? (i := 79) (by decide +kernel), List.mem_of_getElem? (i := 766) (by decide +kernel), List.mem_of_getElem? (i := 767) (by decide +kernel)⟩
theorem lw_p51 : lw_okq (⟨"ImageForge$Loader", "bindSlots", "(LImageForge$Image;I[I)I"⟩, 5) := ⟨⟨by decide +kernel, by decide +kernel⟩, List.mem_of_getElem? (i := 79) (by decide +kernel), List.mem_of_getElem? (i := 770) (by decide +kernel), List.mem_of_getElem? (i := 771) (by decide +kernel)⟩
theorem lw_p52 : lw_okq (⟨"ImageForgeModel", "fails", "(ZI)Z"⟩, 32) := ⟨⟨by decide +kernel, by decide +kernel⟩, List.mem_of_getElem? (i := 777) (by decide +kernel), List.mem_of_getElem? (i := 891) (by decide +kernel), List.mem_of_getElem? (i := 892) (by decide +kernel)⟩
theorem lw_p53 : lw_okq (⟨"ImageForgeModel", "overlaps", "(III)Z"⟩, 32) := ⟨⟨by decide +kernel, by decide +kernel⟩, List.mem_of_getElem? (i := 777) (by decide +kernel), List.mem_of_getElem? (i := 904) (by decide +kernel), List.mem_of_getElem? (i := 905) (by decide +kernel)⟩
theorem lw_p54 : lw_okq (⟨"ImageForgeModel", "defined", "(I)I"⟩, 32) := ⟨⟨by decide +kernel, by decide +kernel⟩, List.mem_of_getElem? (i := 777) (by decide +kernel), List.mem_of_getElem? (i := 924) (by decide +kernel), List.mem_of_getElem? (i := 925) (by decide +kernel)⟩
theorem lw_p55 : lw_okq (⟨"ImageForgeModel", "isMeant", "(I)Z"⟩, 32) := ⟨⟨by decide +kernel, by decide +kernel⟩, List.mem_of_getElem? (i := 777) (by decide +kernel), List.mem_of_getElem? (i := 928) (by decide +kernel), List.mem_of_getElem? (i := 929) (by decide +kernel)⟩
theorem lw_p56 : lw_okq (⟨"ImageForgeModel", "layParts", "(I)V"⟩, 32) := ⟨⟨by decide +kernel, by decide +kernel⟩, List.mem_of_getElem? (i := 777) (by decide +kernel), List.mem_of_getElem? (i := 932) (by decide +kernel), List.mem_of_getElem? (i := 933) (by decide +kernel)⟩
theorem lw_p57 : lw_okq (⟨"ImageForgeModel", "begin", "(I)V"⟩, 32) := ⟨⟨by decide +kernel, by decide +kernel⟩, List.mem_of_getElem? (i := 777) (by decide +kernel), List.mem_of_getElem? (i := 936) (by decide +kernel), List.mem_of_getElem? (i := 937) (by decide +kernel)⟩
theorem lw_p58 : lw_okq (⟨"ImageForgeModel", "findPlaces", "()V"⟩, 32) := ⟨⟨by decide +kernel, by decide +kernel⟩, List.mem_of_getElem? (i := 777) (by decide +kernel), List.mem_of_getElem? (i := 943) (by decide +kernel), List.mem_of_getElem? (i := 944) (by decide +kernel)⟩
theorem lw_p59 : lw_okq (⟨"ImageForgeModel", "layImports", "()V"⟩, 32) := ⟨⟨by decide +kernel, by decide +kernel⟩, List.mem_of_getElem? (i := 777) (by decide +kernel), List.mem_of_getElem? (i := 947) (by decide +kernel), List.mem_of_getElem? (i := 948) (by decide +kernel)⟩
theorem lw_p60 : lw_okq (⟨"ImageForgeModel", "namesOf", "(I)I"⟩, 32) := ⟨⟨by decide +kernel, by decide +kernel⟩, List.mem_of_getElem? (i := 777) (by decide +kernel), List.mem_of_getElem? (i := 951) (by decide +kernel), List.mem_of_getElem? (i := 952) (by decide +kernel)⟩
theorem lw_p61 : lw_okq (⟨"ImageForgeModel", "add", "(I)V"⟩, 32) := ⟨⟨by decide +kernel, by decide +kernel⟩, List.mem_of_getElem? (i := 777) (by decide +kernel), List.mem_of_getElem? (i := 955) (by decide +kernel), List.mem_of_getElem? (i := 956) (by decide +kernel)⟩
theorem lw_p62 : lw_okq (⟨"ImageForgeModel", "word", "(II)V"⟩, 32) := ⟨⟨by decide +kernel, by decide +kernel⟩, List.mem_of_getElem? (i := 777) (by decide +kernel), List.mem_of_getElem? (i := 959) (by decide +kernel), List.mem_of_getElem? (i := 960) (by decide +kernel)⟩
theorem lw_p63 : lw_okq (⟨"ImageForgeModel", "layExports", "()V"⟩, 32) := ⟨⟨by decide +kernel, by decide +kernel⟩, List.mem_of_getElem? (i := 777) (by decide +kernel), List.mem_of_getElem? (i := 964) (by decide +kernel), List.mem_of_getElem? (i := 965) (by decide +kernel)⟩
def lw_privs_4 : List (MethodName × Nat) := [(⟨"ImageForge$Loader", "relocateBlock", "(LImageForge$Image;III)Z"⟩, 5), (⟨"ImageForge$Image", "holdsWord", "(J)Z"⟩, 2), (⟨"ImageForge$Loader", "bind", "(LImageForge$Image;[[I)I"⟩, 5), (⟨"ImageForge$Loader", "bindSlots", "(LImageForge$Image;I[I)I"⟩, 5), (⟨"ImageForgeModel", "fails", "(ZI)Z"⟩, 32), (⟨"ImageForgeModel", "overlaps", "(III)Z"⟩, 32), (⟨"ImageForgeModel", "defined", "(I)I"⟩, 32), (⟨"ImageForgeModel", "isMeant", "(I)Z"⟩, 32), (⟨"ImageForgeModel", "layParts", "(I)V"⟩, 32), (⟨"ImageForgeModel", "begin", "(I)V"⟩, 32), (⟨"ImageForgeModel", "findPlaces", "()V"⟩, 32), (⟨"ImageForgeModel", "layImports", "()V"⟩, 32), (⟨"ImageForgeModel", "namesOf", "(I)I"⟩, 32), (⟨"ImageForgeModel", "add", "(I)V"⟩, 32), (⟨"ImageForgeModel", "word", "(II)V"⟩, 32), (⟨"ImageForgeModel", "layExports", "()V"⟩, 32)]
theorem lw_r4 : ∀ q ∈ lw_privs_4, lw_okq q := List.forall_mem_cons.mpr ⟨lw_p48, List.forall_mem_cons.mpr ⟨lw_p49, List.forall_mem_cons.mpr ⟨lw_p50, List.forall_mem_cons.mpr ⟨lw_p51, List.forall_mem_cons.mpr ⟨lw_p52, List.forall_mem_cons.mpr ⟨lw_p53, List.forall_mem_cons.mpr ⟨lw_p54, List.forall_mem_cons.mpr ⟨lw_p55, List.forall_mem_cons.mpr ⟨lw_p56, List.forall_mem_cons.mpr ⟨lw_p57, List.forall_mem_cons.mpr ⟨lw_p58, List.forall_mem_cons.mpr ⟨lw_p59, List.forall_mem_cons.mpr ⟨lw_p60, List.forall_mem_cons.mpr ⟨lw_p61, List.forall_mem_cons.mpr ⟨lw_p62, List.forall_mem_cons.mpr ⟨lw_p63, fun _ h => absurd h List.not_mem_nil⟩⟩⟩⟩⟩⟩⟩⟩⟩⟩⟩⟩⟩⟩⟩⟩
theorem lw_p64 : lw_okq (⟨"ImageForgeModel", "layRelocations", "()V"⟩, 32) := ⟨⟨by decide +kernel, by decide +kernel⟩, List.mem_of_getElem? (i := 777) (by decide +kernel), List.mem_of_getElem? (i := 968) (by decide +kernel), List.mem_of_getElem? (i := 969) (by decide +kernel)⟩
theorem lw_p65 : lw_okq (⟨"ImageForgeModel", "isAbsolute", "(I)Z"⟩, 32) := ⟨⟨by decide +kernel, by decide +kernel⟩, List.mem_of_getElem? (i := 777) (by decide +kernel), List.mem_of_getElem? (i := 972) (by decide +kernel), List.mem_of_getElem? (i := 973) (by decide +kernel)⟩
theorem lw_p66 : lw_okq (⟨"ImageForgeModel", "addPair", "(I)V"⟩, 32) := ⟨⟨by decide +kernel, by decide +kernel⟩, List.mem_of_getElem? (i := 777) (by decide +kernel), List.mem_of_getElem? (i := 976) (by decide +kernel), List.mem_of_getElem? (i := 977) (by decide +kernel)⟩
theorem lw_p67 : lw_okq (⟨"ImageForgeModel", "resolve", "()V"⟩, 32) := ⟨⟨by decide +kernel, by decide +kernel⟩, List.mem_of_getElem? (i := 777) (by decide +kernel), List.mem_of_getElem? (i := 980) (by decide +kernel), List.mem_of_getElem? (i := 981) (by decide +kernel)⟩
theorem lw_p68 : lw_okq (⟨"ImageForgeModel", "header", "()V"⟩, 32) := ⟨⟨by decide +kernel, by decide +kernel⟩, List.mem_of_getElem? (i := 777) (by decide +kernel), List.mem_of_getElem? (i := 987) (by decide +kernel), List.mem_of_getElem? (i := 988) (by decide +kernel)⟩
theorem lw_p69 : lw_okq (⟨"ImageForgeModel", "sumOf", "([II)I"⟩, 32) := ⟨⟨by decide +kernel, by decide +kernel⟩, List.mem_of_getElem? (i := 777) (by decide +kernel), List.mem_of_getElem? (i := 991) (by decide +kernel), List.mem_of_getElem? (i := 992) (by decide +kernel)⟩
theorem lw_p70 : lw_okq (⟨"ImageForgeModel", "checkHeader", "()V"⟩, 32) := ⟨⟨by decide +kernel, by decide +kernel⟩, List.mem_of_getElem? (i := 777) (by decide +kernel), List.mem_of_getElem? (i := 1013) (by decide +kernel), List.mem_of_getElem? (i := 1014) (by decide +kernel)⟩
theorem lw_p71 : lw_okq (⟨"ImageForgeModel", "refuse", "(I)V"⟩, 32) := ⟨⟨by decide +kernel, by decide +kernel⟩, List.mem_of_getElem? (i := 777) (by decide +kernel), List.mem_of_getElem? (i := 1017) (by decide +kernel), List.mem_of_getElem? (i := 1018) (by decide +kernel)⟩
theorem lw_p72 : lw_okq (⟨"ImageForgeModel", "relocate", "(I)V"⟩, 32) := ⟨⟨by decide +kernel, by decide +kernel⟩, List.mem_of_getElem? (i := 777) (by decide +kernel), List.mem_of_getElem? (i := 1024) (by decide +kernel), List.mem_of_getElem? (i := 1025) (by decide +kernel)⟩
theorem lw_p73 : lw_okq (⟨"ImageForgeModel", "entry", "(III)V"⟩, 32) := ⟨⟨by decide +kernel, by decide +kernel⟩, List.mem_of_getElem? (i := 777) (by decide +kernel), List.mem_of_getElem? (i := 1028) (by decide +kernel), List.mem_of_getElem? (i := 1029) (by decide +kernel)⟩
theorem lw_p74 : lw_okq (⟨"ImageForgeModel", "change", "(II)V"⟩, 32) := ⟨⟨by decide +kernel, by decide +kernel⟩, List.mem_of_getElem? (i := 777) (by decide +kernel), List.mem_of_getElem? (i := 1033) (by decide +kernel), List.mem_of_getElem? (i := 1034) (by decide +kernel)⟩
theorem lw_p75 : lw_okq (⟨"ImageForgeModel", "bind", "()V"⟩, 32) := ⟨⟨by decide +kernel, by decide +kernel⟩, List.mem_of_getElem? (i := 777) (by decide +kernel), List.mem_of_getElem? (i := 1037) (by decide +kernel), List.mem_of_getElem? (i := 1038) (by decide +kernel)⟩
theorem lw_p76 : lw_okq (⟨"ImageForgeModel", "bindSlots", "(II)V"⟩, 32) := ⟨⟨by decide +kernel, by decide +kernel⟩, List.mem_of_getElem? (i := 777) (by decide +kernel), List.mem_of_getElem? (i := 1041) (by decide +kernel), List.mem_of_getElem? (i := 1042) (by decide +kernel)⟩
def lw_privs_5 : List (MethodName × Nat) := [(⟨"ImageForgeModel", "layRelocations", "()V"⟩, 32), (⟨"ImageForgeModel", "isAbsolute", "(I)Z"⟩, 32), (⟨"ImageForgeModel", "addPair", "(I)V"⟩, 32), (⟨"ImageForgeModel", "resolve", "()V"⟩, 32), (⟨"ImageForgeModel", "header", "()V"⟩, 32), (⟨"ImageForgeModel", "sumOf", "([II)I"⟩, 32), (⟨"ImageForgeModel", "checkHeader", "()V"⟩, 32), (⟨"ImageForgeModel", "refuse", "(I)V"⟩, 32), (⟨"ImageForgeModel", "relocate", "(I)V"⟩, 32), (⟨"ImageForgeModel", "entry", "(III)V"⟩, 32), (⟨"ImageForgeModel", "change", "(II)V"⟩, 32), (⟨"ImageForgeModel", "bind", "()V"⟩, 32), (⟨"ImageForgeModel", "bindSlots", "(II)V"⟩, 32)]
theorem lw_r5 : ∀ q ∈ lw_privs_5, lw_okq q := List.forall_mem_cons.mpr ⟨lw_p64, List.forall_mem_cons.mpr ⟨lw_p65, List.forall_mem_cons.mpr ⟨lw_p66, List.forall_mem_cons.mpr ⟨lw_p67, List.forall_mem_cons.mpr ⟨lw_p68, List.forall_mem_cons.mpr ⟨lw_p69, List.forall_mem_cons.mpr ⟨lw_p70, List.forall_mem_cons.mpr ⟨lw_p71, List.forall_mem_cons.mpr ⟨lw_p72, List.forall_mem_cons.mpr ⟨lw_p73, List.forall_mem_cons.mpr ⟨lw_p74, List.forall_mem_cons.mpr ⟨lw_p75, List.forall_mem_cons.mpr ⟨lw_p76, fun _ h => absurd h List.not_mem_nil⟩⟩⟩⟩⟩⟩⟩⟩⟩⟩⟩⟩⟩
def lw_privs : List (MethodName × Nat) := lw_privs_1 ++ (lw_privs_2 ++ (lw_privs_3 ++ (lw_privs_4 ++ (lw_privs_5))))
def lw_tbl : List Cond := k2_sels lw_privs ++ tables_1
theorem lw_privs_ok : ∀ q ∈ lw_privs, lw_okq q := by
  show ∀ q ∈ lw_privs_1 ++ (lw_privs_2 ++ (lw_privs_3 ++ (lw_privs_4 ++ (lw_privs_5)))), lw_okq q
  exact List.forall_mem_append.mpr ⟨lw_r1, List.forall_mem_append.mpr ⟨lw_r2, List.forall_mem_append.mpr ⟨lw_r3, List.forall_mem_append.mpr ⟨lw_r4, lw_r5⟩⟩⟩⟩
end
section
/-! Names: classes, fields, methods, by program out of the Statement's tables and the listings. -/
def T_Fg : u_T := fun k => match k with
  | 0 => ("ImageForge", "objects", "[LImageForge$ObjectFile;", true)
  | 1 => ("ImageForge", "names", "[LImageForge$Name;", true)
  | 2 => ("ImageForge", "offers", "[[I", true)
  | 3 => ("ImageForge", "linked", "LImageForge$Image;", true)
  | 4 => ("ImageForge", "linker", "LImageForge$Linker;", true)
  | _ => ("ImageForge", "loader", "LImageForge$Loader;", true)
def t_Fg : Nat → FieldType := fun k => match k with
  | 0 => .array (.object "ImageForge$ObjectFile")
  | 1 => .array (.object "ImageForge$Name")
  | 2 => .array (.array .int)
  | 3 => .object "ImageForge$Image"
  | 4 => .object "ImageForge$Linker"
  | _ => .object "ImageForge$Loader"
theorem nm_Fg : ∀ a, a < 6 → ∀ b, b < 6 → a ≠ b → (T_Fg a).2.1 ≠ (T_Fg b).2.1 := by decide +kernel
theorem t_Fg_ok : ∀ k, k < 6 → parseFieldDescriptor (T_Fg k).2.2.1 = some (t_Fg k) := by decide +kernel
def T_Im : u_T := fun k => match k with
  | 0 => ("ImageForge$Image", "bytes", "[B", true)
  | _ => ("ImageForge$Image", "size", "I", false)
def t_Im : Nat → FieldType := fun k => match k with
  | 0 => .array .byte
  | _ => .int
theorem nm_Im : ∀ a, a < 2 → ∀ b, b < 2 → a ≠ b → (T_Im a).2.1 ≠ (T_Im b).2.1 := by decide +kernel
theorem t_Im_ok : ∀ k, k < 2 → parseFieldDescriptor (T_Im k).2.2.1 = some (t_Im k) := by decide +kernel
def T_Lk : u_T := fun k => match k with
  | 0 => ("ImageForge$Linker", "placeOfName", "[I", true)
  | 1 => ("ImageForge$Linker", "placeOfPart", "[[I", true)
  | _ => ("ImageForge$Linker", "absolute", "[Z", true)
def t_Lk : Nat → FieldType := fun k => match k with
  | 0 => .array .int
  | 1 => .array (.array .int)
  | _ => .array .boolean
theorem nm_Lk : ∀ a, a < 3 → ∀ b, b < 3 → a ≠ b → (T_Lk a).2.1 ≠ (T_Lk b).2.1 := by decide +kernel
theorem t_Lk_ok : ∀ k, k < 3 → parseFieldDescriptor (T_Lk k).2.2.1 = some (t_Lk k) := by decide +kernel
def T_Ld : u_T := fun k => match k with
  | 0 => ("ImageForge$Loader", "loaded", "LImageForge$Image;", false)
  | 1 => ("ImageForge$Loader", "draft", "LImageForge$Image;", false)
  | 2 => ("ImageForge$Loader", "loadedAt", "I", false)
  | 3 => ("ImageForge$Loader", "exportsBegin", "I", false)
  | _ => ("ImageForge$Loader", "exportsSize", "I", false)
def t_Ld : Nat → FieldType := fun k => match k with
  | 0 => .object "ImageForge$Image"
  | 1 => .object "ImageForge$Image"
  | 2 => .int
  | 3 => .int
  | _ => .int
theorem nm_Ld : ∀ a, a < 5 → ∀ b, b < 5 → a ≠ b → (T_Ld a).2.1 ≠ (T_Ld b).2.1 := by decide +kernel
theorem t_Ld_ok : ∀ k, k < 5 → parseFieldDescriptor (T_Ld k).2.2.1 = some (t_Ld k) := by decide +kernel
def T_Ob : u_T := fun k => match k with
  | 0 => ("ImageForge$ObjectFile", "parts", "[LImageForge$Part;", true)
  | 1 => ("ImageForge$ObjectFile", "references", "Ljava/util/ArrayList;", true)
  | _ => ("ImageForge$ObjectFile", "definitions", "I", false)
def t_Ob : Nat → FieldType := fun k => match k with
  | 0 => .array (.object "ImageForge$Part")
  | 1 => .object "java/util/ArrayList"
  | _ => .int
theorem nm_Ob : ∀ a, a < 3 → ∀ b, b < 3 → a ≠ b → (T_Ob a).2.1 ≠ (T_Ob b).2.1 := by decide +kernel
theorem t_Ob_ok : ∀ k, k < 3 → parseFieldDescriptor (T_Ob k).2.2.1 = some (t_Ob k) := by decide +kernel
def T_Pt : u_T := fun k => match k with
  | 0 => ("ImageForge$Part", "bytes", "[B", true)
  | _ => ("ImageForge$Part", "size", "I", false)
def t_Pt : Nat → FieldType := fun k => match k with
  | 0 => .array .byte
  | _ => .int
theorem nm_Pt : ∀ a, a < 2 → ∀ b, b < 2 → a ≠ b → (T_Pt a).2.1 ≠ (T_Pt b).2.1 := by decide +kernel
theorem t_Pt_ok : ∀ k, k < 2 → parseFieldDescriptor (T_Pt k).2.2.1 = some (t_Pt k) := by decide +kernel
def T_Al : u_T := fun k => match k with
  | 0 => ("java/util/AbstractList", "modCount", "I", false)
  | 1 => ("java/util/ArrayList", "elementData", "[Ljava/lang/Object;", false)
  | _ => ("java/util/ArrayList", "size", "I", false)
def t_Al : Nat → FieldType := fun k => match k with
  | 0 => .int
  | 1 => .array (.object "java/lang/Object")
  | _ => .int
theorem nm_Al : ∀ a, a < 3 → ∀ b, b < 3 → a ≠ b → (T_Al a).2.1 ≠ (T_Al b).2.1 := by decide +kernel
theorem t_Al_ok : ∀ k, k < 3 → parseFieldDescriptor (T_Al k).2.2.1 = some (t_Al k) := by decide +kernel
def T_Nm : u_T := fun k => match k with
  | 0 => ("ImageForge$Name", "definitions", "I", false)
  | 1 => ("ImageForge$Name", "object", "I", false)
  | 2 => ("ImageForge$Name", "part", "I", false)
  | 3 => ("ImageForge$Name", "place", "I", false)
  | 4 => ("ImageForge$Name", "library", "I", false)
  | 5 => ("ImageForge$Name", "ordinal", "I", false)
  | _ => ("ImageForge$Name", "exported", "Z", false)
def t_Nm : Nat → FieldType := fun k => match k with
  | 0 => .int
  | 1 => .int
  | 2 => .int
  | 3 => .int
  | 4 => .int
  | 5 => .int
  | _ => .boolean
theorem nm_Nm : ∀ a, a < 7 → ∀ b, b < 7 → a ≠ b → (T_Nm a).2.1 ≠ (T_Nm b).2.1 := by decide +kernel
theorem t_Nm_ok : ∀ k, k < 7 → parseFieldDescriptor (T_Nm k).2.2.1 = some (t_Nm k) := by decide +kernel
def T_Rf : u_T := fun k => match k with
  | 0 => ("ImageForge$Reference", "part", "I", true)
  | 1 => ("ImageForge$Reference", "place", "I", true)
  | 2 => ("ImageForge$Reference", "kind", "I", true)
  | _ => ("ImageForge$Reference", "name", "I", true)
def t_Rf : Nat → FieldType := fun k => match k with
  | 0 => .int
  | 1 => .int
  | 2 => .int
  | _ => .int
theorem nm_Rf : ∀ a, a < 4 → ∀ b, b < 4 → a ≠ b → (T_Rf a).2.1 ≠ (T_Rf b).2.1 := by decide +kernel
theorem t_Rf_ok : ∀ k, k < 4 → parseFieldDescriptor (T_Rf k).2.2.1 = some (t_Rf k) := by decide +kernel
def T_Md : u_T := fun k => match k with
  | 0 => ("ImageForgeModel", "thrown", "I", false)
  | 1 => ("ImageForgeModel", "size", "[I", true)
  | 2 => ("ImageForgeModel", "bytes", "[I", true)
  | 3 => ("ImageForgeModel", "definitions", "[I", true)
  | 4 => ("ImageForgeModel", "definedName", "[I", true)
  | 5 => ("ImageForgeModel", "definedPart", "[I", true)
  | 6 => ("ImageForgeModel", "definedPlace", "[I", true)
  | 7 => ("ImageForgeModel", "references", "[I", true)
  | 8 => ("ImageForgeModel", "refersPart", "[I", true)
  | 9 => ("ImageForgeModel", "refersPlace", "[I", true)
  | 10 => ("ImageForgeModel", "refersKind", "[I", true)
  | 11 => ("ImageForgeModel", "refersName", "[I", true)
  | 12 => ("ImageForgeModel", "library", "[I", true)
  | 13 => ("ImageForgeModel", "ordinal", "[I", true)
  | 14 => ("ImageForgeModel", "exported", "[Z", true)
  | 15 => ("ImageForgeModel", "offers", "[I", true)
  | 16 => ("ImageForgeModel", "length", "I", false)
  | 17 => ("ImageForgeModel", "image", "[I", true)
  | 18 => ("ImageForgeModel", "grown", "I", false)
  | 19 => ("ImageForgeModel", "next", "[I", true)
  | 20 => ("ImageForgeModel", "begins", "[I", true)
  | 21 => ("ImageForgeModel", "ends", "[I", true)
  | 22 => ("ImageForgeModel", "partAt", "[I", true)
  | 23 => ("ImageForgeModel", "place", "[I", true)
  | 24 => ("ImageForgeModel", "loaded", "Z", false)
  | 25 => ("ImageForgeModel", "at", "I", false)
  | 26 => ("ImageForgeModel", "loadedLength", "I", false)
  | 27 => ("ImageForgeModel", "there", "[I", true)
  | 28 => ("ImageForgeModel", "exportsAt", "I", false)
  | 29 => ("ImageForgeModel", "exportsSize", "I", false)
  | 30 => ("ImageForgeModel", "draft", "[I", true)
  | _ => ("ImageForgeModel", "wrong", "I", false)
def t_Md : Nat → FieldType := fun k => match k with
  | 0 => .int
  | 1 => .array .int
  | 2 => .array .int
  | 3 => .array .int
  | 4 => .array .int
  | 5 => .array .int
  | 6 => .array .int
  | 7 => .array .int
  | 8 => .array .int
  | 9 => .array .int
  | 10 => .array .int
  | 11 => .array .int
  | 12 => .array .int
  | 13 => .array .int
  | 14 => .array .boolean
  | 15 => .array .int
  | 16 => .int
  | 17 => .array .int
  | 18 => .int
  | 19 => .array .int
  | 20 => .array .int
  | 21 => .array .int
  | 22 => .array .int
  | 23 => .array .int
  | 24 => .boolean
  | 25 => .int
  | 26 => .int
  | 27 => .array .int
  | 28 => .int
  | 29 => .int
  | 30 => .array .int
  | _ => .int
theorem nm_Md : ∀ a, a < 32 → ∀ b, b < 32 → a ≠ b → (T_Md a).2.1 ≠ (T_Md b).2.1 := by decide +kernel
theorem t_Md_ok : ∀ k, k < 32 → parseFieldDescriptor (T_Md k).2.2.1 = some (t_Md k) := by decide +kernel
abbrev vwCl : List vw_C := [("ImageForge", T_Fg, 6), ("ImageForge$Image", T_Im, 2), ("ImageForge$Linker", T_Lk, 3), ("ImageForge$Loader", T_Ld, 5), ("ImageForge$ObjectFile", T_Ob, 3), ("ImageForge$Part", T_Pt, 2), ("java/util/ArrayList", T_Al, 3), ("ImageForge$Name", T_Nm, 7), ("ImageForge$Reference", T_Rf, 4), ("ImageForgeModel", T_Md, 32)]
/-- the good words of the tables: every method of ours is proved over this one list -/
def bw : List Cond := lw_tbl.filter goodWord
theorem bw_t {w : Cond} (h : w ∈ tables_1) (g : goodWord w = true) : w ∈ bw := List.mem_filter.mpr ⟨List.mem_append_right _ h, g⟩
theorem bw_s {w : Cond} (h : w ∈ k2_sels lw_privs) (g : goodWord w = true) : w ∈ bw := List.mem_filter.mpr ⟨List.mem_append_left _ h, g⟩
theorem gd_of {w : Cond} (h : w ∈ bw) : GoodIn bw (w :: bw) := fun x hx => (List.mem_cons.mp hx).elim (fun e => by rw [e]; exact ⟨h, good_of_word (List.mem_filter.mp h).2⟩) (fun q => ⟨q, good_of_word (List.mem_filter.mp q).2⟩)
theorem hts_bw {w : Cond} {args : Array Value} {s : State} (h : ∀ x ∈ w :: bw, x.before args s = true) : ∀ x ∈ bw, x.before args s = true := fun x hx => h x (List.mem_cons_of_mem _ hx)
set_option maxRecDepth 100000 in
theorem in_Fg : ∀ w ∈ u_ws "ImageForge" T_Fg 6, w ∈ bw := by
  intro w hw
  have h : (u_ws "ImageForge" T_Fg 6).all (fun w => decide (w ∈ tables_1) && goodWord w) = true := by decide +kernel
  have h2 := List.all_eq_true.mp h w hw
  rw [Bool.and_eq_true] at h2
  exact bw_t (of_decide_eq_true h2.1) h2.2
set_option maxRecDepth 100000 in
theorem in_Im : ∀ w ∈ u_ws "ImageForge$Image" T_Im 2, w ∈ bw := by
  intro w hw
  have h : (u_ws "ImageForge$Image" T_Im 2).all (fun w => decide (w ∈ tables_1) && goodWord w) = true := by decide +kernel
  have h2 := List.all_eq_true.mp h w hw
  rw [Bool.and_eq_true] at h2
  exact bw_t (of_decide_eq_true h2.1) h2.2
set_option maxRecDepth 100000 in
theorem in_Lk : ∀ w ∈ u_ws "ImageForge$Linker" T_Lk 3, w ∈ bw := by
  intro w hw
  have h : (u_ws "ImageForge$Linker" T_Lk 3).all (fun w => decide (w ∈ tables_1) && goodWord w) = true := by decide +kernel
  have h2 := List.all_eq_true.mp h w hw
  rw [Bool.and_eq_true] at h2
  exact bw_t (of_decide_eq_true h2.1) h2.2
set_option maxRecDepth 100000 in
theorem in_Ld : ∀ w ∈ u_ws "ImageForge$Loader" T_Ld 5, w ∈ bw := by
  intro w hw
  have h : (u_ws "ImageForge$Loader" T_Ld 5).all (fun w => decide (w ∈ tables_1) && goodWord w) = true := by decide +kernel
  have h2 := List.all_eq_true.mp h w hw
  rw [Bool.and_eq_true] at h2
  exact bw_t (of_decide_eq_true h2.1) h2.2
set_option maxRecDepth 100000 in
theorem in_Ob : ∀ w ∈ u_ws "ImageForge$ObjectFile" T_Ob 3, w ∈ bw := by
  intro w hw
  have h : (u_ws "ImageForge$ObjectFile" T_Ob 3).all (fun w => decide (w ∈ tables_1) && goodWord w) = true := by decide +kernel
  have h2 := List.all_eq_true.mp h w hw
  rw [Bool.and_eq_true] at h2
  exact bw_t (of_decide_eq_true h2.1) h2.2
set_option maxRecDepth 100000 in
theorem in_Pt : ∀ w ∈ u_ws "ImageForge$Part" T_Pt 2, w ∈ bw := by
  intro w hw
  have h : (u_ws "ImageForge$Part" T_Pt 2).all (fun w => decide (w ∈ tables_1) && goodWord w) = true := by decide +kernel
  have h2 := List.all_eq_true.mp h w hw
  rw [Bool.and_eq_true] at h2
  exact bw_t (of_decide_eq_true h2.1) h2.2
set_option maxRecDepth 100000 in
theorem in_Al : ∀ w ∈ u_ws "java/util/ArrayList" T_Al 3, w ∈ bw := by
  intro w hw
  have h : (u_ws "java/util/ArrayList" T_Al 3).all (fun w => decide (w ∈ tables_1) && goodWord w) = true := by decide +kernel
  have h2 := List.all_eq_true.mp h w hw
  rw [Bool.and_eq_true] at h2
  exact bw_t (of_decide_eq_true h2.1) h2.2
set_option maxRecDepth 100000 in
theorem in_Nm : ∀ w ∈ u_ws "ImageForge$Name" T_Nm 7, w ∈ bw := by
  intro w hw
  have h : (u_ws "ImageForge$Name" T_Nm 7).all (fun w => decide (w ∈ tables_1) && goodWord w) = true := by decide +kernel
  have h2 := List.all_eq_true.mp h w hw
  rw [Bool.and_eq_true] at h2
  exact bw_t (of_decide_eq_true h2.1) h2.2
set_option maxRecDepth 100000 in
theorem in_Rf : ∀ w ∈ u_ws "ImageForge$Reference" T_Rf 4, w ∈ bw := by
  intro w hw
  have h : (u_ws "ImageForge$Reference" T_Rf 4).all (fun w => decide (w ∈ tables_1) && goodWord w) = true := by decide +kernel
  have h2 := List.all_eq_true.mp h w hw
  rw [Bool.and_eq_true] at h2
  exact bw_t (of_decide_eq_true h2.1) h2.2
set_option maxRecDepth 100000 in
theorem in_Md : ∀ w ∈ u_ws "ImageForgeModel" T_Md 32, w ∈ bw := by
  intro w hw
  have h : (u_ws "ImageForgeModel" T_Md 32).all (fun w => decide (w ∈ tables_1) && goodWord w) = true := by decide +kernel
  have h2 := List.all_eq_true.mp h w hw
  rw [Bool.and_eq_true] at h2
  exact bw_t (of_decide_eq_true h2.1) h2.2
theorem tw_2 : (Jvm.Cond.initialized "ImageForge$Image") ∈ bw := bw_t (List.mem_of_getElem? (i := 2) (by decide +kernel)) (by decide +kernel)
theorem tw_47 : (Jvm.Cond.fieldLink "ImageForge$Image" (9 : Nat) "ImageForge$Image" "bytes" "[B") ∈ bw := bw_t (List.mem_of_getElem? (i := 47) (by decide +kernel)) (by decide +kernel)
theorem tw_49 : (Jvm.Cond.fieldLink "ImageForge$Image" (15 : Nat) "ImageForge$Image" "size" "I") ∈ bw := bw_t (List.mem_of_getElem? (i := 49) (by decide +kernel)) (by decide +kernel)
theorem tw_229 : (Jvm.Cond.code ({ cls := "ImageForge$Image", name := "byteAt", desc := "(I)I" } : Jvm.MethodName) prog_2_method_5_code (2 : Nat) (Option.some Jvm.ClassFile.FieldType.int)) ∈ bw := bw_t (List.mem_of_getElem? (i := 229) (by decide +kernel)) (by decide +kernel)
theorem tw_240 : (Jvm.Cond.instanceMethod ({ cls := "ImageForge$Image", name := "wordAt", desc := "(I)I" } : Jvm.MethodName)) ∈ bw := bw_t (List.mem_of_getElem? (i := 240) (by decide +kernel)) (by decide +kernel)
theorem tw_241 : (Jvm.Cond.code ({ cls := "ImageForge$Image", name := "wordAt", desc := "(I)I" } : Jvm.MethodName) prog_2_method_9_code (2 : Nat) (Option.some Jvm.ClassFile.FieldType.int)) ∈ bw := bw_t (List.mem_of_getElem? (i := 241) (by decide +kernel)) (by decide +kernel)
theorem tw_581 : (Jvm.Cond.code ({ cls := "ImageForge$Image", name := "setSection", desc := "(III)V" } : Jvm.MethodName) prog_2_method_15_code (4 : Nat) (Option.none : Option Jvm.ClassFile.FieldType)) ∈ bw := bw_t (List.mem_of_getElem? (i := 581) (by decide +kernel)) (by decide +kernel)
theorem tw_582 : (Jvm.Cond.methodLink "ImageForge$Image" (35 : Nat) ({ cls := "ImageForge$Image", name := "setWord", desc := "(II)V" } : Jvm.MethodName)) ∈ bw := bw_t (List.mem_of_getElem? (i := 582) (by decide +kernel)) (by decide +kernel)
theorem tw_584 : (Jvm.Cond.instanceMethod ({ cls := "ImageForge$Image", name := "setWord", desc := "(II)V" } : Jvm.MethodName)) ∈ bw := bw_t (List.mem_of_getElem? (i := 584) (by decide +kernel)) (by decide +kernel)
theorem tw_585 : (Jvm.Cond.code ({ cls := "ImageForge$Image", name := "setWord", desc := "(II)V" } : Jvm.MethodName) prog_2_method_10_code (4 : Nat) (Option.none : Option Jvm.ClassFile.FieldType)) ∈ bw := bw_t (List.mem_of_getElem? (i := 585) (by decide +kernel)) (by decide +kernel)
theorem tw_636 : (Jvm.Cond.code ({ cls := "ImageForge$Image", name := "addToWord", desc := "(II)V" } : Jvm.MethodName) prog_2_method_11_code (3 : Nat) (Option.none : Option Jvm.ClassFile.FieldType)) ∈ bw := bw_t (List.mem_of_getElem? (i := 636) (by decide +kernel)) (by decide +kernel)
theorem tw_637 : (Jvm.Cond.methodLink "ImageForge$Image" (31 : Nat) ({ cls := "ImageForge$Image", name := "wordAt", desc := "(I)I" } : Jvm.MethodName)) ∈ bw := bw_t (List.mem_of_getElem? (i := 637) (by decide +kernel)) (by decide +kernel)
theorem tw_649 : (Jvm.Cond.code ({ cls := "ImageForge$Image", name := "setHalf", desc := "(II)V" } : Jvm.MethodName) prog_2_method_8_code (3 : Nat) (Option.none : Option Jvm.ClassFile.FieldType)) ∈ bw := bw_t (List.mem_of_getElem? (i := 649) (by decide +kernel)) (by decide +kernel)
theorem tw_658 : (Jvm.Cond.code ({ cls := "ImageForge$Image", name := "checksum", desc := "()I" } : Jvm.MethodName) prog_2_method_17_code (3 : Nat) (Option.some Jvm.ClassFile.FieldType.int)) ∈ bw := bw_t (List.mem_of_getElem? (i := 658) (by decide +kernel)) (by decide +kernel)
theorem tw_659 : (Jvm.Cond.methodLink "ImageForge$Image" (45 : Nat) ({ cls := "ImageForge$Image", name := "halfAt", desc := "(I)I" } : Jvm.MethodName)) ∈ bw := bw_t (List.mem_of_getElem? (i := 659) (by decide +kernel)) (by decide +kernel)
theorem tw_661 : (Jvm.Cond.instanceMethod ({ cls := "ImageForge$Image", name := "halfAt", desc := "(I)I" } : Jvm.MethodName)) ∈ bw := bw_t (List.mem_of_getElem? (i := 661) (by decide +kernel)) (by decide +kernel)
theorem tw_662 : (Jvm.Cond.code ({ cls := "ImageForge$Image", name := "halfAt", desc := "(I)I" } : Jvm.MethodName) prog_2_method_7_code (2 : Nat) (Option.some Jvm.ClassFile.FieldType.int)) ∈ bw := bw_t (List.mem_of_getElem? (i := 662) (by decide +kernel)) (by decide +kernel)
theorem tw_663 : (Jvm.Cond.constant "ImageForge$Image" (48 : Nat) (65535 : Int32)) ∈ bw := bw_t (List.mem_of_getElem? (i := 663) (by decide +kernel)) (by decide +kernel)
theorem tw_683 : (Jvm.Cond.code ({ cls := "ImageForge$Image", name := "setByte", desc := "(II)V" } : Jvm.MethodName) prog_2_method_6_code (3 : Nat) (Option.none : Option Jvm.ClassFile.FieldType)) ∈ bw := bw_t (List.mem_of_getElem? (i := 683) (by decide +kernel)) (by decide +kernel)
theorem tw_694 : (Jvm.Cond.code ({ cls := "ImageForge$Image", name := "isNone", desc := "()Z" } : Jvm.MethodName) prog_2_method_2_code (1 : Nat) (Option.some Jvm.ClassFile.FieldType.boolean)) ∈ bw := bw_t (List.mem_of_getElem? (i := 694) (by decide +kernel)) (by decide +kernel)
theorem tw_740 : (Jvm.Cond.code ({ cls := "ImageForge$Image", name := "holdsSection", desc := "(I)Z" } : Jvm.MethodName) prog_2_method_16_code (4 : Nat) (Option.some Jvm.ClassFile.FieldType.boolean)) ∈ bw := bw_t (List.mem_of_getElem? (i := 740) (by decide +kernel)) (by decide +kernel)
theorem tw_741 : (Jvm.Cond.methodLink "ImageForge$Image" (39 : Nat) ({ cls := "ImageForge$Image", name := "sectionBegin", desc := "(I)I" } : Jvm.MethodName)) ∈ bw := bw_t (List.mem_of_getElem? (i := 741) (by decide +kernel)) (by decide +kernel)
theorem tw_743 : (Jvm.Cond.instanceMethod ({ cls := "ImageForge$Image", name := "sectionBegin", desc := "(I)I" } : Jvm.MethodName)) ∈ bw := bw_t (List.mem_of_getElem? (i := 743) (by decide +kernel)) (by decide +kernel)
theorem tw_744 : (Jvm.Cond.code ({ cls := "ImageForge$Image", name := "sectionBegin", desc := "(I)I" } : Jvm.MethodName) prog_2_method_13_code (2 : Nat) (Option.some Jvm.ClassFile.FieldType.int)) ∈ bw := bw_t (List.mem_of_getElem? (i := 744) (by decide +kernel)) (by decide +kernel)
theorem tw_745 : (Jvm.Cond.methodLink "ImageForge$Image" (42 : Nat) ({ cls := "ImageForge$Image", name := "sectionSize", desc := "(I)I" } : Jvm.MethodName)) ∈ bw := bw_t (List.mem_of_getElem? (i := 745) (by decide +kernel)) (by decide +kernel)
theorem tw_747 : (Jvm.Cond.instanceMethod ({ cls := "ImageForge$Image", name := "sectionSize", desc := "(I)I" } : Jvm.MethodName)) ∈ bw := bw_t (List.mem_of_getElem? (i := 747) (by decide +kernel)) (by decide +kernel)
theorem tw_748 : (Jvm.Cond.code ({ cls := "ImageForge$Image", name := "sectionSize", desc := "(I)I" } : Jvm.MethodName) prog_2_method_14_code (2 : Nat) (Option.some Jvm.ClassFile.FieldType.int)) ∈ bw := bw_t (List.mem_of_getElem? (i := 748) (by decide +kernel)) (by decide +kernel)
theorem tw_763 : (Jvm.Cond.code ({ cls := "ImageForge$Image", name := "holdsWord", desc := "(J)Z" } : Jvm.MethodName) prog_2_method_12_code (3 : Nat) (Option.some Jvm.ClassFile.FieldType.boolean)) ∈ bw := bw_t (List.mem_of_getElem? (i := 763) (by decide +kernel)) (by decide +kernel)
theorem tp_3 : (Jvm.Cond.selects "ImageForge$Image" ({ cls := "ImageForge$Image", name := "wordAt", desc := "(I)I" } : Jvm.MethodName) ({ cls := "ImageForge$Image", name := "wordAt", desc := "(I)I" } : Jvm.MethodName)) ∈ bw := bw_s (List.mem_of_getElem? (i := 3) (by decide +kernel)) (by decide +kernel)
theorem tp_22 : (Jvm.Cond.selects "ImageForge$Image" ({ cls := "ImageForge$Image", name := "setWord", desc := "(II)V" } : Jvm.MethodName) ({ cls := "ImageForge$Image", name := "setWord", desc := "(II)V" } : Jvm.MethodName)) ∈ bw := bw_s (List.mem_of_getElem? (i := 22) (by decide +kernel)) (by decide +kernel)
theorem tp_36 : (Jvm.Cond.selects "ImageForge$Image" ({ cls := "ImageForge$Image", name := "halfAt", desc := "(I)I" } : Jvm.MethodName) ({ cls := "ImageForge$Image", name := "halfAt", desc := "(I)I" } : Jvm.MethodName)) ∈ bw := bw_s (List.mem_of_getElem? (i := 36) (by decide +kernel)) (by decide +kernel)
theorem tp_45 : (Jvm.Cond.selects "ImageForge$Image" ({ cls := "ImageForge$Image", name := "sectionBegin", desc := "(I)I" } : Jvm.MethodName) ({ cls := "ImageForge$Image", name := "sectionBegin", desc := "(I)I" } : Jvm.MethodName)) ∈ bw := bw_s (List.mem_of_getElem? (i := 45) (by decide +kernel)) (by decide +kernel)
theorem tp_46 : (Jvm.Cond.selects "ImageForge$Image" ({ cls := "ImageForge$Image", name := "sectionSize", desc := "(I)I" } : Jvm.MethodName) ({ cls := "ImageForge$Image", name := "sectionSize", desc := "(I)I" } : Jvm.MethodName)) ∈ bw := bw_s (List.mem_of_getElem? (i := 46) (by decide +kernel)) (by decide +kernel)
end
section
/-! The flat picture: a slot is 64 * tag + place; the memory holds ints, references (as slots) and longs by slot and place. A world is the list of the slots that are there, with what each holds, and a rest. -/
abbrev Mr : Type := (Nat → Int32 → Int32) × (Nat → Int32 → Option Nat) × (Nat → Int32 → Int64)
def stI (u : Mr) (k : Nat) (i x : Int32) : Mr := (fun a b => if a = k ∧ b = i then x else u.1 a b, u.2.1, u.2.2)
def stR (u : Mr) (k : Nat) (i : Int32) (x : Option Nat) : Mr := (u.1, fun a b => if a = k ∧ b = i then x else u.2.1 a b, u.2.2)
def stL (u : Mr) (k : Nat) (i : Int32) (x : Int64) : Mr := (u.1, u.2.1, fun a b => if a = k ∧ b = i then x else u.2.2 a b)
def inb (i : Int32) (n : Nat) : Bool := decide (¬ (i < 0 ∨ n ≤ i.toNatClampNeg))
def isz (i : Int32) : Bool := decide (i = 0 ∨ i = 1)
def ck {α : Type} (b : Bool) (x : Option α) : Option α := match b with
  | true => x
  | false => none
def bd2 {α β : Type} (x : Option (Mr × α)) (f : Mr → α → Option β) : Option β := match x with
  | some (a, b) => f a b
  | none => none
def bd1 {α β : Type} (x : Option α) (f : α → Option β) : Option β := match x with
  | some a => f a
  | none => none
def okk (al : Nat → Bool) (T k : Nat) : Bool := al k && decide (k / 64 = T)
def rdR (al : Nat → Bool) (u : Mr) (k : Nat) (i : Int32) (T : Nat) : Option Nat := match u.2.1 k i with
  | some a => if okk al T a = true then some a else none
  | none => none
theorem inb_in {i : Int32} {n : Nat} (h : inb i n = true) : vp_in i n := by
  have h1 : ¬ (i < 0 ∨ n ≤ i.toNatClampNeg) := of_decide_eq_true h
  exact h1
theorem ck_some {α : Type} {b : Bool} {x : Option α} {y : α} (h : ck b x = some y) : b = true ∧ x = some y := by
  cases b with
  | true => exact ⟨rfl, h⟩
  | false => cases h
theorem bd2_some {α β : Type} {x : Option (Mr × α)} {f : Mr → α → Option β} {y : β} (h : bd2 x f = some y) : ∃ a b, x = some (a, b) ∧ f a b = some y := by
  cases x with
  | none => cases h
  | some q => exact ⟨q.1, q.2, rfl, h⟩
theorem bd1_some {α β : Type} {x : Option α} {f : α → Option β} {y : β} (h : bd1 x f = some y) : ∃ a, x = some a ∧ f a = some y := by
  cases x with
  | none => cases h
  | some q => exact ⟨q, rfl, h⟩
theorem it_t {α : Type} {c : Prop} {i : Decidable c} {a b : Option α} {y : α} (h : @ite _ c i a b = some y) (hc : c) : a = some y := by
  rw [if_pos hc] at h
  exact h
theorem it_f {α : Type} {c : Prop} {i : Decidable c} {a b : Option α} {y : α} (h : @ite _ c i a b = some y) (hc : ¬ c) : b = some y := by
  rw [if_neg hc] at h
  exact h
theorem okk_al {al : Nat → Bool} {T k : Nat} (h : okk al T k = true) : al k = true := by
  unfold okk at h
  exact (Bool.and_eq_true _ _ ▸ h : al k = true ∧ decide (k / 64 = T) = true).1
theorem okk_t {al : Nat → Bool} {T k : Nat} (h : okk al T k = true) : k / 64 = T := by
  unfold okk at h
  exact of_decide_eq_true (Bool.and_eq_true _ _ ▸ h : al k = true ∧ decide (k / 64 = T) = true).2
theorem rdR_some {al : Nat → Bool} {u : Mr} {k : Nat} {i : Int32} {T a : Nat} (h : rdR al u k i T = some a) : u.2.1 k i = some a ∧ okk al T a = true := by
  unfold rdR at h
  cases h1 : u.2.1 k i with
  | none => rw [h1] at h; cases h
  | some q =>
    rw [h1] at h
    by_cases h2 : okk al T q = true
    · have h3 : (if okk al T q = true then some q else none) = some a := h
      rw [if_pos h2] at h3
      cases h3
      exact ⟨rfl, h2⟩
    · have h3 : (if okk al T q = true then some q else none) = some a := h
      rw [if_neg h2] at h3
      cases h3
theorem isz_nar {v : Int32} (h : isz v = true) : narrow .boolean (.int v) = .int v := by
  have h1 : v = 0 ∨ v = 1 := of_decide_eq_true h
  rcases h1 with rfl | rfl <;> rfl
theorem isz_fit {v : Int32} (h : isz v = true) : fits .boolean (.int v) = true := by
  have h1 : v = 0 ∨ v = 1 := of_decide_eq_true h
  rcases h1 with rfl | rfl <;> rfl
theorem in_nI {i : Int32} {n : Nat} (h : vp_in i n) : nI i.toNatClampNeg = i := by
  have h0 : ¬ i < 0 := fun q => h (Or.inl q)
  obtain ⟨j, hj, rfl⟩ := nI_of h0
  rw [nI_clamp hj]
def tyl (cA : Nat → ClassId) : List (ClassId × FieldType) := [(cA 0, .int), (cA 1, .byte), (cA 2, .boolean), (cA 3, .long), (cA 4, .object "ImageForge$ObjectFile"), (cA 5, .object "ImageForge$Name"), (cA 6, .object "ImageForge$Part"), (cA 7, .object "java/lang/Object"), (cA 8, .array .int)]
/-- what a slot of a tag holds -/
def Eg (ad : Nat → Nat) (cA : Nat → ClassId) (T : Nat) (row : Int32 → Int32) (rr : Int32 → Option Nat) (lr : Int32 → Int64) : va_E := match T with
  | 1 => .inr (0, [va_rf ((rr 0).map ad), va_rf ((rr 1).map ad), va_rf ((rr 2).map ad), va_rf ((rr 3).map ad), va_rf ((rr 4).map ad), va_rf ((rr 5).map ad)])
  | 2 => .inl (cA 4, 4, .inr (.inr (.inr (.inr (fun j => (rr (nI j)).map ad)))))
  | 3 => .inl (cA 5, 16, .inr (.inr (.inr (.inr (fun j => (rr (nI j)).map ad)))))
  | 4 => .inl (cA 8, 4, .inr (.inr (.inr (.inr (fun j => (rr (nI j)).map ad)))))
  | 5 => .inl (cA 0, 100, .inl (fun j => row (nI j)))
  | 6 => .inr (1, [va_rf ((rr 0).map ad), .int (row 1)])
  | 7 => .inl (cA 1, 896, .inl (fun j => row (nI j)))
  | 8 => .inr (2, [va_rf ((rr 0).map ad), va_rf ((rr 1).map ad), va_rf ((rr 2).map ad)])
  | 9 => .inl (cA 0, 16, .inl (fun j => row (nI j)))
  | 10 => .inl (cA 8, 2, .inr (.inr (.inr (.inr (fun j => (rr (nI j)).map ad)))))
  | 11 => .inl (cA 0, 4, .inl (fun j => row (nI j)))
  | 12 => .inl (cA 2, 896, .inl (fun j => row (nI j)))
  | 13 => .inr (3, [va_rf ((rr 0).map ad), va_rf ((rr 1).map ad), .int (row 2), .int (row 3), .int (row 4)])
  | 14 => .inr (4, [va_rf ((rr 0).map ad), va_rf ((rr 1).map ad), .int (row 2)])
  | 15 => .inl (cA 6, 2, .inr (.inr (.inr (.inr (fun j => (rr (nI j)).map ad)))))
  | 16 => .inr (5, [va_rf ((rr 0).map ad), .int (row 1)])
  | 17 => .inl (cA 1, 40, .inl (fun j => row (nI j)))
  | 18 => .inr (6, [.int (row 0), va_rf ((rr 1).map ad), .int (row 2)])
  | 19 => .inl (cA 7, 10, .inr (.inr (.inr (.inr (fun j => (rr (nI j)).map ad)))))
  | 20 => .inr (7, [.int (row 0), .int (row 1), .int (row 2), .int (row 3), .int (row 4), .int (row 5), .int (row 6)])
  | 21 => .inr (8, [.int (row 0), .int (row 1), .int (row 2), .int (row 3)])
  | 22 => .inl (cA 3, 1, .inr (.inl (fun j => lr (nI j))))
  | 32 => .inr (9, [.int (row 0), va_rf ((rr 1).map ad), va_rf ((rr 2).map ad), va_rf ((rr 3).map ad), va_rf ((rr 4).map ad), va_rf ((rr 5).map ad), va_rf ((rr 6).map ad), va_rf ((rr 7).map ad), va_rf ((rr 8).map ad), va_rf ((rr 9).map ad), va_rf ((rr 10).map ad), va_rf ((rr 11).map ad), va_rf ((rr 12).map ad), va_rf ((rr 13).map ad), va_rf ((rr 14).map ad), va_rf ((rr 15).map ad), .int (row 16), va_rf ((rr 17).map ad), .int (row 18), va_rf ((rr 19).map ad), va_rf ((rr 20).map ad), va_rf ((rr 21).map ad), va_rf ((rr 22).map ad), va_rf ((rr 23).map ad), .int (row 24), .int (row 25), .int (row 26), va_rf ((rr 27).map ad), .int (row 28), .int (row 29), va_rf ((rr 30).map ad), .int (row 31)])
  | 33 => .inl (cA 0, 8, .inl (fun j => row (nI j)))
  | 34 => .inl (cA 0, 320, .inl (fun j => row (nI j)))
  | 35 => .inl (cA 0, 4, .inl (fun j => row (nI j)))
  | 36 => .inl (cA 0, 24, .inl (fun j => row (nI j)))
  | 37 => .inl (cA 0, 32, .inl (fun j => row (nI j)))
  | 38 => .inl (cA 0, 16, .inl (fun j => row (nI j)))
  | 39 => .inl (cA 2, 16, .inl (fun j => row (nI j)))
  | 40 => .inl (cA 0, 400, .inl (fun j => row (nI j)))
  | 41 => .inl (cA 0, 2048, .inl (fun j => row (nI j)))
  | 42 => .inl (cA 0, 5, .inl (fun j => row (nI j)))
  | _ => .inl (0, 0, .inl (fun _ => 0))
def nx_f : List (String × Nat × String × String × String × String) := [
  ]
def nx_m : List (String × Nat × MethodName × String) := [
  ]
/-- what the tables hold of private members across the nest -/
def Nx (U : State) : Prop := (∀ q ∈ nx_f, va_Nw (.fieldLinkNest q.1 q.2.1 q.2.2.1 q.2.2.2.1 q.2.2.2.2.1 q.2.2.2.2.2) U) ∧ ∀ q ∈ nx_m, va_Nw (.methodLinkNest q.1 q.2.1 q.2.2.1 q.2.2.2) U
theorem Nx.same {u U : State} (h : u.vm = U.vm) (q : Nx u) : Nx U := ⟨fun w hw => va_Nw.same rfl h (q.1 w hw), fun w hw => va_Nw.same rfl h (q.2 w hw)⟩
theorem Nx.warm {s U : State} (hW : s.WarmedH U.vm) (q : Nx s) : Nx U := ⟨fun w hw => va_Nw.warmF hW (q.1 w hw), fun w hw => va_Nw.warmM hW (q.2 w hw)⟩
end
section
/-! The world as a list; how the kit's rows read and write it. -/
def ww (ad : Nat → Nat) (cA : Nat → ClassId) (L : List Nat) (rs : va_W) (u : Mr) : va_W := L.map (fun k => (ad k, Eg ad cA (k / 64) (u.1 k) (u.2.1 k) (u.2.2 k))) ++ rs
theorem ww_at {ad : Nat → Nat} {cA : Nat → ClassId} {L : List Nat} {rs : va_W} {u : Mr} {k q0 : Nat} (hq : L[q0]? = some k) : (ww ad cA L rs u)[q0]? = some (ad k, Eg ad cA (k / 64) (u.1 k) (u.2.1 k) (u.2.2 k)) := by
  have hlt : q0 < L.length := (List.getElem?_eq_some_iff.mp hq).1
  unfold ww
  rw [List.getElem?_append_left (by rw [List.length_map]; exact hlt), List.getElem?_map, hq]
  rfl
theorem ww_in {L : List Nat} {k : Nat} (h : k ∈ L) : ∃ q0 : Nat, L[q0]? = some k := List.getElem?_of_mem h
theorem ww_D {A : Nat → Prop} {ad : Nat → Nat} {cA : Nat → ClassId} {L : List Nat} {rs : va_W} {u u' : Mr} (h : va_D A (ww ad cA L rs u)) : va_D A (ww ad cA L rs u') := by
  have key : ∀ (i : Nat) (p : Nat × va_E), (ww ad cA L rs u')[i]? = some p → ∃ p' : Nat × va_E, (ww ad cA L rs u)[i]? = some p' ∧ p'.1 = p.1 := by
    intro i p hi
    by_cases hlt : i < L.length
    · obtain ⟨k, hk⟩ : ∃ k, L[i]? = some k := ⟨L[i], List.getElem?_eq_getElem hlt⟩
      rw [ww_at hk] at hi
      cases hi
      exact ⟨_, ww_at hk, rfl⟩
    · unfold ww at hi ⊢
      rw [List.getElem?_append_right (by rw [List.length_map]; omega), List.length_map] at hi
      refine ⟨p, ?_, rfl⟩
      rw [List.getElem?_append_right (by rw [List.length_map]; omega), List.length_map]
      exact hi
  refine ⟨fun i j a b hi hj e => ?_, fun i a hi => ?_⟩
  · obtain ⟨a', ha', ea⟩ := key i a hi
    obtain ⟨b', hb', eb⟩ := key j b hj
    exact h.1 i j a' b' ha' hb' (by rw [ea, eb]; exact e)
  · obtain ⟨a', ha', ea⟩ := key i a hi
    rw [← ea]
    exact h.2 i a' ha'
theorem ww_P {D : va_G} {cl : List vw_C} {ad : Nat → Nat} {cA : Nat → ClassId} {L : List Nat} {rs : va_W} {u u' : Mr} {k q0 : Nat} {e : va_E} {H : Heap} (hN : L.Nodup) (hq : L[q0]? = some k)
    (hP : va_P D cl ((ww ad cA L rs u).set q0 (ad k, e)) H) (he : va_at D cl (ad k, e) H → va_at D cl (ad k, Eg ad cA (k / 64) (u'.1 k) (u'.2.1 k) (u'.2.2 k)) H)
    (ho : ∀ j : Nat, j ≠ k → u'.1 j = u.1 j ∧ u'.2.1 j = u.2.1 j ∧ u'.2.2 j = u.2.2 j) : va_P D cl (ww ad cA L rs u') H := by
  have hlt : q0 < L.length := (List.getElem?_eq_some_iff.mp hq).1
  have hww : ∀ v : Mr, (ww ad cA L rs v).length = L.length + rs.length := fun v => by unfold ww; rw [List.length_append, List.length_map]
  intro i q hi
  by_cases hi0 : i = q0
  · subst hi0
    rw [ww_at hq] at hi
    cases hi
    refine he (hP i _ ?_)
    rw [List.getElem?_set_self (by rw [hww]; omega)]
  · by_cases hil : i < L.length
    · obtain ⟨j, hj⟩ : ∃ j, L[i]? = some j := ⟨L[i], List.getElem?_eq_getElem hil⟩
      have hjk : j ≠ k := by
        intro e
        subst e
        exact hi0 ((List.getElem?_inj hil hN).mp (hj.trans hq.symm))
      rw [ww_at hj] at hi
      cases hi
      obtain ⟨e1, e2, e3⟩ := ho j hjk
      rw [e1, e2, e3]
      refine hP i _ ?_
      rw [List.getElem?_set_ne (fun z => hi0 z.symm), ww_at hj]
    · refine hP i _ ?_
      rw [List.getElem?_set_ne (fun z => hi0 z.symm)]
      unfold ww at hi ⊢
      rw [List.getElem?_append_right (by rw [List.length_map]; omega), List.length_map] at hi ⊢
      exact hi
theorem arrV_cg {c : ClassId} {n : Nat} {f g : Nat → Value} (h : ∀ j, j < n → f j = g j) : arrV c n f = arrV c n g := by
  unfold arrV
  congr 1
  apply Array.ext
  · simp
  · intro j h1 h2
    simp only [Array.getElem_ofFn]
    exact h j (by simpa using h1)
theorem stI_o {u : Mr} {k : Nat} {i x : Int32} (j : Nat) (h : j ≠ k) : (stI u k i x).1 j = u.1 j ∧ (stI u k i x).2.1 j = u.2.1 j ∧ (stI u k i x).2.2 j = u.2.2 j := by
  refine ⟨?_, rfl, rfl⟩
  funext b
  unfold stI
  simp [h]
theorem stR_o {u : Mr} {k : Nat} {i : Int32} {x : Option Nat} (j : Nat) (h : j ≠ k) : (stR u k i x).1 j = u.1 j ∧ (stR u k i x).2.1 j = u.2.1 j ∧ (stR u k i x).2.2 j = u.2.2 j := by
  refine ⟨rfl, ?_, rfl⟩
  funext b
  unfold stR
  simp [h]
theorem stL_o {u : Mr} {k : Nat} {i : Int32} {x : Int64} (j : Nat) (h : j ≠ k) : (stL u k i x).1 j = u.1 j ∧ (stL u k i x).2.1 j = u.2.1 j ∧ (stL u k i x).2.2 j = u.2.2 j := by
  refine ⟨rfl, rfl, ?_⟩
  funext b
  unfold stL
  simp [h]
theorem nI_inj {a b : Nat} (ha : a < 2 ^ 31) (hb : b < 2 ^ 31) (h : nI a = nI b) : a = b := (nI_eq ha hb).mp h
theorem stI_row {u : Mr} {k n : Nat} {i x : Int32} (hin : vp_in i n) (hn : n < 2 ^ 31) (j : Nat) (hj : j < n) : upd (fun j => u.1 k (nI j)) i.toNatClampNeg x j = (stI u k i x).1 k (nI j) := by
  have hlt : i.toNatClampNeg < n := Nat.not_le.mp fun q => hin (Or.inr q)
  have e1 := in_nI hin
  unfold upd stI
  by_cases h : j = i.toNatClampNeg
  · subst h
    simp [e1]
  · have h2 : ¬ nI j = i := fun q => h (nI_inj (by omega) (by omega) (q.trans e1.symm))
    simp [h, h2]
theorem stR_row {ad : Nat → Nat} {u : Mr} {k n v : Nat} {i : Int32} (hin : vp_in i n) (hn : n < 2 ^ 31) (j : Nat) (hj : j < n) : va_up (fun j => (u.2.1 k (nI j)).map ad) i.toNatClampNeg (some (ad v)) j = ((stR u k i (some v)).2.1 k (nI j)).map ad := by
  have hlt : i.toNatClampNeg < n := Nat.not_le.mp fun q => hin (Or.inr q)
  have e1 := in_nI hin
  unfold va_up stR
  by_cases h : j = i.toNatClampNeg
  · subst h
    simp [e1]
  · have h2 : ¬ nI j = i := fun q => h (nI_inj (by omega) (by omega) (q.trans e1.symm))
    simp [h, h2]
def upR (f : Int32 → Int32) (i x : Int32) : Int32 → Int32 := fun b => if b = i then x else f b
def upQ (f : Int32 → Option Nat) (i : Int32) (x : Option Nat) : Int32 → Option Nat := fun b => if b = i then x else f b
theorem stI_up {u : Mr} {k : Nat} {i x : Int32} : (stI u k i x).1 k = upR (u.1 k) i x := by
  funext b
  unfold stI upR
  simp
theorem stR_up {u : Mr} {k : Nat} {i : Int32} {x : Option Nat} : (stR u k i x).2.1 k = upQ (u.2.1 k) i x := by
  funext b
  unfold stR upQ
  simp
theorem eq_1_0 {ad : Nat → Nat} {cA : Nat → ClassId} {row : Int32 → Int32} {rr : Int32 → Option Nat} {lr : Int32 → Int64} {x : Nat} : Eg ad cA 1 row (upQ rr 0 (some x)) lr = .inr (0, ([va_rf ((rr 0).map ad), va_rf ((rr 1).map ad), va_rf ((rr 2).map ad), va_rf ((rr 3).map ad), va_rf ((rr 4).map ad), va_rf ((rr 5).map ad)] : List Value).set 0 (.ref (ad x))) := rfl
theorem eq_1_1 {ad : Nat → Nat} {cA : Nat → ClassId} {row : Int32 → Int32} {rr : Int32 → Option Nat} {lr : Int32 → Int64} {x : Nat} : Eg ad cA 1 row (upQ rr 1 (some x)) lr = .inr (0, ([va_rf ((rr 0).map ad), va_rf ((rr 1).map ad), va_rf ((rr 2).map ad), va_rf ((rr 3).map ad), va_rf ((rr 4).map ad), va_rf ((rr 5).map ad)] : List Value).set 1 (.ref (ad x))) := rfl
theorem eq_1_2 {ad : Nat → Nat} {cA : Nat → ClassId} {row : Int32 → Int32} {rr : Int32 → Option Nat} {lr : Int32 → Int64} {x : Nat} : Eg ad cA 1 row (upQ rr 2 (some x)) lr = .inr (0, ([va_rf ((rr 0).map ad), va_rf ((rr 1).map ad), va_rf ((rr 2).map ad), va_rf ((rr 3).map ad), va_rf ((rr 4).map ad), va_rf ((rr 5).map ad)] : List Value).set 2 (.ref (ad x))) := rfl
theorem eq_1_3 {ad : Nat → Nat} {cA : Nat → ClassId} {row : Int32 → Int32} {rr : Int32 → Option Nat} {lr : Int32 → Int64} {x : Nat} : Eg ad cA 1 row (upQ rr 3 (some x)) lr = .inr (0, ([va_rf ((rr 0).map ad), va_rf ((rr 1).map ad), va_rf ((rr 2).map ad), va_rf ((rr 3).map ad), va_rf ((rr 4).map ad), va_rf ((rr 5).map ad)] : List Value).set 3 (.ref (ad x))) := rfl
theorem eq_1_4 {ad : Nat → Nat} {cA : Nat → ClassId} {row : Int32 → Int32} {rr : Int32 → Option Nat} {lr : Int32 → Int64} {x : Nat} : Eg ad cA 1 row (upQ rr 4 (some x)) lr = .inr (0, ([va_rf ((rr 0).map ad), va_rf ((rr 1).map ad), va_rf ((rr 2).map ad), va_rf ((rr 3).map ad), va_rf ((rr 4).map ad), va_rf ((rr 5).map ad)] : List Value).set 4 (.ref (ad x))) := rfl
theorem eq_1_5 {ad : Nat → Nat} {cA : Nat → ClassId} {row : Int32 → Int32} {rr : Int32 → Option Nat} {lr : Int32 → Int64} {x : Nat} : Eg ad cA 1 row (upQ rr 5 (some x)) lr = .inr (0, ([va_rf ((rr 0).map ad), va_rf ((rr 1).map ad), va_rf ((rr 2).map ad), va_rf ((rr 3).map ad), va_rf ((rr 4).map ad), va_rf ((rr 5).map ad)] : List Value).set 5 (.ref (ad x))) := rfl
theorem eq_6_0 {ad : Nat → Nat} {cA : Nat → ClassId} {row : Int32 → Int32} {rr : Int32 → Option Nat} {lr : Int32 → Int64} {x : Nat} : Eg ad cA 6 row (upQ rr 0 (some x)) lr = .inr (1, ([va_rf ((rr 0).map ad), .int (row 1)] : List Value).set 0 (.ref (ad x))) := rfl
theorem eg_6_1 {ad : Nat → Nat} {cA : Nat → ClassId} {row : Int32 → Int32} {rr : Int32 → Option Nat} {lr : Int32 → Int64} {x : Int32} : Eg ad cA 6 (upR row 1 x) rr lr = .inr (1, ([va_rf ((rr 0).map ad), .int (row 1)] : List Value).set 1 (.int x)) := rfl
theorem eq_8_0 {ad : Nat → Nat} {cA : Nat → ClassId} {row : Int32 → Int32} {rr : Int32 → Option Nat} {lr : Int32 → Int64} {x : Nat} : Eg ad cA 8 row (upQ rr 0 (some x)) lr = .inr (2, ([va_rf ((rr 0).map ad), va_rf ((rr 1).map ad), va_rf ((rr 2).map ad)] : List Value).set 0 (.ref (ad x))) := rfl
theorem eq_8_1 {ad : Nat → Nat} {cA : Nat → ClassId} {row : Int32 → Int32} {rr : Int32 → Option Nat} {lr : Int32 → Int64} {x : Nat} : Eg ad cA 8 row (upQ rr 1 (some x)) lr = .inr (2, ([va_rf ((rr 0).map ad), va_rf ((rr 1).map ad), va_rf ((rr 2).map ad)] : List Value).set 1 (.ref (ad x))) := rfl
theorem eq_8_2 {ad : Nat → Nat} {cA : Nat → ClassId} {row : Int32 → Int32} {rr : Int32 → Option Nat} {lr : Int32 → Int64} {x : Nat} : Eg ad cA 8 row (upQ rr 2 (some x)) lr = .inr (2, ([va_rf ((rr 0).map ad), va_rf ((rr 1).map ad), va_rf ((rr 2).map ad)] : List Value).set 2 (.ref (ad x))) := rfl
theorem eq_13_0 {ad : Nat → Nat} {cA : Nat → ClassId} {row : Int32 → Int32} {rr : Int32 → Option Nat} {lr : Int32 → Int64} {x : Nat} : Eg ad cA 13 row (upQ rr 0 (some x)) lr = .inr (3, ([va_rf ((rr 0).map ad), va_rf ((rr 1).map ad), .int (row 2), .int (row 3), .int (row 4)] : List Value).set 0 (.ref (ad x))) := rfl
theorem eq_13_1 {ad : Nat → Nat} {cA : Nat → ClassId} {row : Int32 → Int32} {rr : Int32 → Option Nat} {lr : Int32 → Int64} {x : Nat} : Eg ad cA 13 row (upQ rr 1 (some x)) lr = .inr (3, ([va_rf ((rr 0).map ad), va_rf ((rr 1).map ad), .int (row 2), .int (row 3), .int (row 4)] : List Value).set 1 (.ref (ad x))) := rfl
theorem eg_13_2 {ad : Nat → Nat} {cA : Nat → ClassId} {row : Int32 → Int32} {rr : Int32 → Option Nat} {lr : Int32 → Int64} {x : Int32} : Eg ad cA 13 (upR row 2 x) rr lr = .inr (3, ([va_rf ((rr 0).map ad), va_rf ((rr 1).map ad), .int (row 2), .int (row 3), .int (row 4)] : List Value).set 2 (.int x)) := rfl
theorem eg_13_3 {ad : Nat → Nat} {cA : Nat → ClassId} {row : Int32 → Int32} {rr : Int32 → Option Nat} {lr : Int32 → Int64} {x : Int32} : Eg ad cA 13 (upR row 3 x) rr lr = .inr (3, ([va_rf ((rr 0).map ad), va_rf ((rr 1).map ad), .int (row 2), .int (row 3), .int (row 4)] : List Value).set 3 (.int x)) := rfl
theorem eg_13_4 {ad : Nat → Nat} {cA : Nat → ClassId} {row : Int32 → Int32} {rr : Int32 → Option Nat} {lr : Int32 → Int64} {x : Int32} : Eg ad cA 13 (upR row 4 x) rr lr = .inr (3, ([va_rf ((rr 0).map ad), va_rf ((rr 1).map ad), .int (row 2), .int (row 3), .int (row 4)] : List Value).set 4 (.int x)) := rfl
theorem eq_14_0 {ad : Nat → Nat} {cA : Nat → ClassId} {row : Int32 → Int32} {rr : Int32 → Option Nat} {lr : Int32 → Int64} {x : Nat} : Eg ad cA 14 row (upQ rr 0 (some x)) lr = .inr (4, ([va_rf ((rr 0).map ad), va_rf ((rr 1).map ad), .int (row 2)] : List Value).set 0 (.ref (ad x))) := rfl
theorem eq_14_1 {ad : Nat → Nat} {cA : Nat → ClassId} {row : Int32 → Int32} {rr : Int32 → Option Nat} {lr : Int32 → Int64} {x : Nat} : Eg ad cA 14 row (upQ rr 1 (some x)) lr = .inr (4, ([va_rf ((rr 0).map ad), va_rf ((rr 1).map ad), .int (row 2)] : List Value).set 1 (.ref (ad x))) := rfl
theorem eg_14_2 {ad : Nat → Nat} {cA : Nat → ClassId} {row : Int32 → Int32} {rr : Int32 → Option Nat} {lr : Int32 → Int64} {x : Int32} : Eg ad cA 14 (upR row 2 x) rr lr = .inr (4, ([va_rf ((rr 0).map ad), va_rf ((rr 1).map ad), .int (row 2)] : List Value).set 2 (.int x)) := rfl
theorem eq_16_0 {ad : Nat → Nat} {cA : Nat → ClassId} {row : Int32 → Int32} {rr : Int32 → Option Nat} {lr : Int32 → Int64} {x : Nat} : Eg ad cA 16 row (upQ rr 0 (some x)) lr = .inr (5, ([va_rf ((rr 0).map ad), .int (row 1)] : List Value).set 0 (.ref (ad x))) := rfl
theorem eg_16_1 {ad : Nat → Nat} {cA : Nat → ClassId} {row : Int32 → Int32} {rr : Int32 → Option Nat} {lr : Int32 → Int64} {x : Int32} : Eg ad cA 16 (upR row 1 x) rr lr = .inr (5, ([va_rf ((rr 0).map ad), .int (row 1)] : List Value).set 1 (.int x)) := rfl
theorem eg_18_0 {ad : Nat → Nat} {cA : Nat → ClassId} {row : Int32 → Int32} {rr : Int32 → Option Nat} {lr : Int32 → Int64} {x : Int32} : Eg ad cA 18 (upR row 0 x) rr lr = .inr (6, ([.int (row 0), va_rf ((rr 1).map ad), .int (row 2)] : List Value).set 0 (.int x)) := rfl
theorem eq_18_1 {ad : Nat → Nat} {cA : Nat → ClassId} {row : Int32 → Int32} {rr : Int32 → Option Nat} {lr : Int32 → Int64} {x : Nat} : Eg ad cA 18 row (upQ rr 1 (some x)) lr = .inr (6, ([.int (row 0), va_rf ((rr 1).map ad), .int (row 2)] : List Value).set 1 (.ref (ad x))) := rfl
theorem eg_18_2 {ad : Nat → Nat} {cA : Nat → ClassId} {row : Int32 → Int32} {rr : Int32 → Option Nat} {lr : Int32 → Int64} {x : Int32} : Eg ad cA 18 (upR row 2 x) rr lr = .inr (6, ([.int (row 0), va_rf ((rr 1).map ad), .int (row 2)] : List Value).set 2 (.int x)) := rfl
theorem eg_20_0 {ad : Nat → Nat} {cA : Nat → ClassId} {row : Int32 → Int32} {rr : Int32 → Option Nat} {lr : Int32 → Int64} {x : Int32} : Eg ad cA 20 (upR row 0 x) rr lr = .inr (7, ([.int (row 0), .int (row 1), .int (row 2), .int (row 3), .int (row 4), .int (row 5), .int (row 6)] : List Value).set 0 (.int x)) := rfl
theorem eg_20_1 {ad : Nat → Nat} {cA : Nat → ClassId} {row : Int32 → Int32} {rr : Int32 → Option Nat} {lr : Int32 → Int64} {x : Int32} : Eg ad cA 20 (upR row 1 x) rr lr = .inr (7, ([.int (row 0), .int (row 1), .int (row 2), .int (row 3), .int (row 4), .int (row 5), .int (row 6)] : List Value).set 1 (.int x)) := rfl
theorem eg_20_2 {ad : Nat → Nat} {cA : Nat → ClassId} {row : Int32 → Int32} {rr : Int32 → Option Nat} {lr : Int32 → Int64} {x : Int32} : Eg ad cA 20 (upR row 2 x) rr lr = .inr (7, ([.int (row 0), .int (row 1), .int (row 2), .int (row 3), .int (row 4), .int (row 5), .int (row 6)] : List Value).set 2 (.int x)) := rfl
theorem eg_20_3 {ad : Nat → Nat} {cA : Nat → ClassId} {row : Int32 → Int32} {rr : Int32 → Option Nat} {lr : Int32 → Int64} {x : Int32} : Eg ad cA 20 (upR row 3 x) rr lr = .inr (7, ([.int (row 0), .int (row 1), .int (row 2), .int (row 3), .int (row 4), .int (row 5), .int (row 6)] : List Value).set 3 (.int x)) := rfl
theorem eg_20_4 {ad : Nat → Nat} {cA : Nat → ClassId} {row : Int32 → Int32} {rr : Int32 → Option Nat} {lr : Int32 → Int64} {x : Int32} : Eg ad cA 20 (upR row 4 x) rr lr = .inr (7, ([.int (row 0), .int (row 1), .int (row 2), .int (row 3), .int (row 4), .int (row 5), .int (row 6)] : List Value).set 4 (.int x)) := rfl
theorem eg_20_5 {ad : Nat → Nat} {cA : Nat → ClassId} {row : Int32 → Int32} {rr : Int32 → Option Nat} {lr : Int32 → Int64} {x : Int32} : Eg ad cA 20 (upR row 5 x) rr lr = .inr (7, ([.int (row 0), .int (row 1), .int (row 2), .int (row 3), .int (row 4), .int (row 5), .int (row 6)] : List Value).set 5 (.int x)) := rfl
theorem eg_20_6 {ad : Nat → Nat} {cA : Nat → ClassId} {row : Int32 → Int32} {rr : Int32 → Option Nat} {lr : Int32 → Int64} {x : Int32} : Eg ad cA 20 (upR row 6 x) rr lr = .inr (7, ([.int (row 0), .int (row 1), .int (row 2), .int (row 3), .int (row 4), .int (row 5), .int (row 6)] : List Value).set 6 (.int x)) := rfl
theorem eg_21_0 {ad : Nat → Nat} {cA : Nat → ClassId} {row : Int32 → Int32} {rr : Int32 → Option Nat} {lr : Int32 → Int64} {x : Int32} : Eg ad cA 21 (upR row 0 x) rr lr = .inr (8, ([.int (row 0), .int (row 1), .int (row 2), .int (row 3)] : List Value).set 0 (.int x)) := rfl
theorem eg_21_1 {ad : Nat → Nat} {cA : Nat → ClassId} {row : Int32 → Int32} {rr : Int32 → Option Nat} {lr : Int32 → Int64} {x : Int32} : Eg ad cA 21 (upR row 1 x) rr lr = .inr (8, ([.int (row 0), .int (row 1), .int (row 2), .int (row 3)] : List Value).set 1 (.int x)) := rfl
theorem eg_21_2 {ad : Nat → Nat} {cA : Nat → ClassId} {row : Int32 → Int32} {rr : Int32 → Option Nat} {lr : Int32 → Int64} {x : Int32} : Eg ad cA 21 (upR row 2 x) rr lr = .inr (8, ([.int (row 0), .int (row 1), .int (row 2), .int (row 3)] : List Value).set 2 (.int x)) := rfl
theorem eg_21_3 {ad : Nat → Nat} {cA : Nat → ClassId} {row : Int32 → Int32} {rr : Int32 → Option Nat} {lr : Int32 → Int64} {x : Int32} : Eg ad cA 21 (upR row 3 x) rr lr = .inr (8, ([.int (row 0), .int (row 1), .int (row 2), .int (row 3)] : List Value).set 3 (.int x)) := rfl
theorem eg_32_0 {ad : Nat → Nat} {cA : Nat → ClassId} {row : Int32 → Int32} {rr : Int32 → Option Nat} {lr : Int32 → Int64} {x : Int32} : Eg ad cA 32 (upR row 0 x) rr lr = .inr (9, ([.int (row 0), va_rf ((rr 1).map ad), va_rf ((rr 2).map ad), va_rf ((rr 3).map ad), va_rf ((rr 4).map ad), va_rf ((rr 5).map ad), va_rf ((rr 6).map ad), va_rf ((rr 7).map ad), va_rf ((rr 8).map ad), va_rf ((rr 9).map ad), va_rf ((rr 10).map ad), va_rf ((rr 11).map ad), va_rf ((rr 12).map ad), va_rf ((rr 13).map ad), va_rf ((rr 14).map ad), va_rf ((rr 15).map ad), .int (row 16), va_rf ((rr 17).map ad), .int (row 18), va_rf ((rr 19).map ad), va_rf ((rr 20).map ad), va_rf ((rr 21).map ad), va_rf ((rr 22).map ad), va_rf ((rr 23).map ad), .int (row 24), .int (row 25), .int (row 26), va_rf ((rr 27).map ad), .int (row 28), .int (row 29), va_rf ((rr 30).map ad), .int (row 31)] : List Value).set 0 (.int x)) := rfl
theorem eq_32_1 {ad : Nat → Nat} {cA : Nat → ClassId} {row : Int32 → Int32} {rr : Int32 → Option Nat} {lr : Int32 → Int64} {x : Nat} : Eg ad cA 32 row (upQ rr 1 (some x)) lr = .inr (9, ([.int (row 0), va_rf ((rr 1).map ad), va_rf ((rr 2).map ad), va_rf ((rr 3).map ad), va_rf ((rr 4).map ad), va_rf ((rr 5).map ad), va_rf ((rr 6).map ad), va_rf ((rr 7).map ad), va_rf ((rr 8).map ad), va_rf ((rr 9).map ad), va_rf ((rr 10).map ad), va_rf ((rr 11).map ad), va_rf ((rr 12).map ad), va_rf ((rr 13).map ad), va_rf ((rr 14).map ad), va_rf ((rr 15).map ad), .int (row 16), va_rf ((rr 17).map ad), .int (row 18), va_rf ((rr 19).map ad), va_rf ((rr 20).map ad), va_rf ((rr 21).map ad), va_rf ((rr 22).map ad), va_rf ((rr 23).map ad), .int (row 24), .int (row 25), .int (row 26), va_rf ((rr 27).map ad), .int (row 28), .int (row 29), va_rf ((rr 30).map ad), .int (row 31)] : List Value).set 1 (.ref (ad x))) := rfl
theorem eq_32_2 {ad : Nat → Nat} {cA : Nat → ClassId} {row : Int32 → Int32} {rr : Int32 → Option Nat} {lr : Int32 → Int64} {x : Nat} : Eg ad cA 32 row (upQ rr 2 (some x)) lr = .inr (9, ([.int (row 0), va_rf ((rr 1).map ad), va_rf ((rr 2).map ad), va_rf ((rr 3).map ad), va_rf ((rr 4).map ad), va_rf ((rr 5).map ad), va_rf ((rr 6).map ad), va_rf ((rr 7).map ad), va_rf ((rr 8).map ad), va_rf ((rr 9).map ad), va_rf ((rr 10).map ad), va_rf ((rr 11).map ad), va_rf ((rr 12).map ad), va_rf ((rr 13).map ad), va_rf ((rr 14).map ad), va_rf ((rr 15).map ad), .int (row 16), va_rf ((rr 17).map ad), .int (row 18), va_rf ((rr 19).map ad), va_rf ((rr 20).map ad), va_rf ((rr 21).map ad), va_rf ((rr 22).map ad), va_rf ((rr 23).map ad), .int (row 24), .int (row 25), .int (row 26), va_rf ((rr 27).map ad), .int (row 28), .int (row 29), va_rf ((rr 30).map ad), .int (row 31)] : List Value).set 2 (.ref (ad x))) := rfl
theorem eq_32_3 {ad : Nat → Nat} {cA : Nat → ClassId} {row : Int32 → Int32} {rr : Int32 → Option Nat} {lr : Int32 → Int64} {x : Nat} : Eg ad cA 32 row (upQ rr 3 (some x)) lr = .inr (9, ([.int (row 0), va_rf ((rr 1).map ad), va_rf ((rr 2).map ad), va_rf ((rr 3).map ad), va_rf ((rr 4).map ad), va_rf ((rr 5).map ad), va_rf ((rr 6).map ad), va_rf ((rr 7).map ad), va_rf ((rr 8).map ad), va_rf ((rr 9).map ad), va_rf ((rr 10).map ad), va_rf ((rr 11).map ad), va_rf ((rr 12).map ad), va_rf ((rr 13).map ad), va_rf ((rr 14).map ad), va_rf ((rr 15).map ad), .int (row 16), va_rf ((rr 17).map ad), .int (row 18), va_rf ((rr 19).map ad), va_rf ((rr 20).map ad), va_rf ((rr 21).map ad), va_rf ((rr 22).map ad), va_rf ((rr 23).map ad), .int (row 24), .int (row 25), .int (row 26), va_rf ((rr 27).map ad), .int (row 28), .int (row 29), va_rf ((rr 30).map ad), .int (row 31)] : List Value).set 3 (.ref (ad x))) := rfl
theorem eq_32_4 {ad : Nat → Nat} {cA : Nat → ClassId} {row : Int32 → Int32} {rr : Int32 → Option Nat} {lr : Int32 → Int64} {x : Nat} : Eg ad cA 32 row (upQ rr 4 (some x)) lr = .inr (9, ([.int (row 0), va_rf ((rr 1).map ad), va_rf ((rr 2).map ad), va_rf ((rr 3).map ad), va_rf ((rr 4).map ad), va_rf ((rr 5).map ad), va_rf ((rr 6).map ad), va_rf ((rr 7).map ad), va_rf ((rr 8).map ad), va_rf ((rr 9).map ad), va_rf ((rr 10).map ad), va_rf ((rr 11).map ad), va_rf ((rr 12).map ad), va_rf ((rr 13).map ad), va_rf ((rr 14).map ad), va_rf ((rr 15).map ad), .int (row 16), va_rf ((rr 17).map ad), .int (row 18), va_rf ((rr 19).map ad), va_rf ((rr 20).map ad), va_rf ((rr 21).map ad), va_rf ((rr 22).map ad), va_rf ((rr 23).map ad), .int (row 24), .int (row 25), .int (row 26), va_rf ((rr 27).map ad), .int (row 28), .int (row 29), va_rf ((rr 30).map ad), .int (row 31)] : List Value).set 4 (.ref (ad x))) := rfl
theorem eq_32_5 {ad : Nat → Nat} {cA : Nat → ClassId} {row : Int32 → Int32} {rr : Int32 → Option Nat} {lr : Int32 → Int64} {x : Nat} : Eg ad cA 32 row (upQ rr 5 (some x)) lr = .inr (9, ([.int (row 0), va_rf ((rr 1).map ad), va_rf ((rr 2).map ad), va_rf ((rr 3).map ad), va_rf ((rr 4).map ad), va_rf ((rr 5).map ad), va_rf ((rr 6).map ad), va_rf ((rr 7).map ad), va_rf ((rr 8).map ad), va_rf ((rr 9).map ad), va_rf ((rr 10).map ad), va_rf ((rr 11).map ad), va_rf ((rr 12).map ad), va_rf ((rr 13).map ad), va_rf ((rr 14).map ad), va_rf ((rr 15).map ad), .int (row 16), va_rf ((rr 17).map ad), .int (row 18), va_rf ((rr 19).map ad), va_rf ((rr 20).map ad), va_rf ((rr 21).map ad), va_rf ((rr 22).map ad), va_rf ((rr 23).map ad), .int (row 24), .int (row 25), .int (row 26), va_rf ((rr 27).map ad), .int (row 28), .int (row 29), va_rf ((rr 30).map ad), .int (row 31)] : List Value).set 5 (.ref (ad x))) := rfl
theorem eq_32_6 {ad : Nat → Nat} {cA : Nat → ClassId} {row : Int32 → Int32} {rr : Int32 → Option Nat} {lr : Int32 → Int64} {x : Nat} : Eg ad cA 32 row (upQ rr 6 (some x)) lr = .inr (9, ([.int (row 0), va_rf ((rr 1).map ad), va_rf ((rr 2).map ad), va_rf ((rr 3).map ad), va_rf ((rr 4).map ad), va_rf ((rr 5).map ad), va_rf ((rr 6).map ad), va_rf ((rr 7).map ad), va_rf ((rr 8).map ad), va_rf ((rr 9).map ad), va_rf ((rr 10).map ad), va_rf ((rr 11).map ad), va_rf ((rr 12).map ad), va_rf ((rr 13).map ad), va_rf ((rr 14).map ad), va_rf ((rr 15).map ad), .int (row 16), va_rf ((rr 17).map ad), .int (row 18), va_rf ((rr 19).map ad), va_rf ((rr 20).map ad), va_rf ((rr 21).map ad), va_rf ((rr 22).map ad), va_rf ((rr 23).map ad), .int (row 24), .int (row 25), .int (row 26), va_rf ((rr 27).map ad), .int (row 28), .int (row 29), va_rf ((rr 30).map ad), .int (row 31)] : List Value).set 6 (.ref (ad x))) := rfl
theorem eq_32_7 {ad : Nat → Nat} {cA : Nat → ClassId} {row : Int32 → Int32} {rr : Int32 → Option Nat} {lr : Int32 → Int64} {x : Nat} : Eg ad cA 32 row (upQ rr 7 (some x)) lr = .inr (9, ([.int (row 0), va_rf ((rr 1).map ad), va_rf ((rr 2).map ad), va_rf ((rr 3).map ad), va_rf ((rr 4).map ad), va_rf ((rr 5).map ad), va_rf ((rr 6).map ad), va_rf ((rr 7).map ad), va_rf ((rr 8).map ad), va_rf ((rr 9).map ad), va_rf ((rr 10).map ad), va_rf ((rr 11).map ad), va_rf ((rr 12).map ad), va_rf ((rr 13).map ad), va_rf ((rr 14).map ad), va_rf ((rr 15).map ad), .int (row 16), va_rf ((rr 17).map ad), .int (row 18), va_rf ((rr 19).map ad), va_rf ((rr 20).map ad), va_rf ((rr 21).map ad), va_rf ((rr 22).map ad), va_rf ((rr 23).map ad), .int (row 24), .int (row 25), .int (row 26), va_rf ((rr 27).map ad), .int (row 28), .int (row 29), va_rf ((rr 30).map ad), .int (row 31)] : List Value).set 7 (.ref (ad x))) := rfl
theorem eq_32_8 {ad : Nat → Nat} {cA : Nat → ClassId} {row : Int32 → Int32} {rr : Int32 → Option Nat} {lr : Int32 → Int64} {x : Nat} : Eg ad cA 32 row (upQ rr 8 (some x)) lr = .inr (9, ([.int (row 0), va_rf ((rr 1).map ad), va_rf ((rr 2).map ad), va_rf ((rr 3).map ad), va_rf ((rr 4).map ad), va_rf ((rr 5).map ad), va_rf ((rr 6).map ad), va_rf ((rr 7).map ad), va_rf ((rr 8).map ad), va_rf ((rr 9).map ad), va_rf ((rr 10).map ad), va_rf ((rr 11).map ad), va_rf ((rr 12).map ad), va_rf ((rr 13).map ad), va_rf ((rr 14).map ad), va_rf ((rr 15).map ad), .int (row 16), va_rf ((rr 17).map ad), .int (row 18), va_rf ((rr 19).map ad), va_rf ((rr 20).map ad), va_rf ((rr 21).map ad), va_rf ((rr 22).map ad), va_rf ((rr 23).map ad), .int (row 24), .int (row 25), .int (row 26), va_rf ((rr 27).map ad), .int (row 28), .int (row 29), va_rf ((rr 30).map ad), .int (row 31)] : List Value).set 8 (.ref (ad x))) := rfl
theorem eq_32_9 {ad : Nat → Nat} {cA : Nat → ClassId} {row : Int32 → Int32} {rr : Int32 → Option Nat} {lr : Int32 → Int64} {x : Nat} : Eg ad cA 32 row (upQ rr 9 (some x)) lr = .inr (9, ([.int (row 0), va_rf ((rr 1).map ad), va_rf ((rr 2).map ad), va_rf ((rr 3).map ad), va_rf ((rr 4).map ad), va_rf ((rr 5).map ad), va_rf ((rr 6).map ad), va_rf ((rr 7).map ad), va_rf ((rr 8).map ad), va_rf ((rr 9).map ad), va_rf ((rr 10).map ad), va_rf ((rr 11).map ad), va_rf ((rr 12).map ad), va_rf ((rr 13).map ad), va_rf ((rr 14).map ad), va_rf ((rr 15).map ad), .int (row 16), va_rf ((rr 17).map ad), .int (row 18), va_rf ((rr 19).map ad), va_rf ((rr 20).map ad), va_rf ((rr 21).map ad), va_rf ((rr 22).map ad), va_rf ((rr 23).map ad), .int (row 24), .int (row 25), .int (row 26), va_rf ((rr 27).map ad), .int (row 28), .int (row 29), va_rf ((rr 30).map ad), .int (row 31)] : List Value).set 9 (.ref (ad x))) := rfl
theorem eq_32_10 {ad : Nat → Nat} {cA : Nat → ClassId} {row : Int32 → Int32} {rr : Int32 → Option Nat} {lr : Int32 → Int64} {x : Nat} : Eg ad cA 32 row (upQ rr 10 (some x)) lr = .inr (9, ([.int (row 0), va_rf ((rr 1).map ad), va_rf ((rr 2).map ad), va_rf ((rr 3).map ad), va_rf ((rr 4).map ad), va_rf ((rr 5).map ad), va_rf ((rr 6).map ad), va_rf ((rr 7).map ad), va_rf ((rr 8).map ad), va_rf ((rr 9).map ad), va_rf ((rr 10).map ad), va_rf ((rr 11).map ad), va_rf ((rr 12).map ad), va_rf ((rr 13).map ad), va_rf ((rr 14).map ad), va_rf ((rr 15).map ad), .int (row 16), va_rf ((rr 17).map ad), .int (row 18), va_rf ((rr 19).map ad), va_rf ((rr 20).map ad), va_rf ((rr 21).map ad), va_rf ((rr 22).map ad), va_rf ((rr 23).map ad), .int (row 24), .int (row 25), .int (row 26), va_rf ((rr 27).map ad), .int (row 28), .int (row 29), va_rf ((rr 30).map ad), .int (row 31)] : List Value).set 10 (.ref (ad x))) := rfl
theorem eq_32_11 {ad : Nat → Nat} {cA : Nat → ClassId} {row : Int32 → Int32} {rr : Int32 → Option Nat} {lr : Int32 → Int64} {x : Nat} : Eg ad cA 32 row (upQ rr 11 (some x)) lr = .inr (9, ([.int (row 0), va_rf ((rr 1).map ad), va_rf ((rr 2).map ad), va_rf ((rr 3).map ad), va_rf ((rr 4).map ad), va_rf ((rr 5).map ad), va_rf ((rr 6).map ad), va_rf ((rr 7).map ad), va_rf ((rr 8).map ad), va_rf ((rr 9).map ad), va_rf ((rr 10).map ad), va_rf ((rr 11).map ad), va_rf ((rr 12).map ad), va_rf ((rr 13).map ad), va_rf ((rr 14).map ad), va_rf ((rr 15).map ad), .int (row 16), va_rf ((rr 17).map ad), .int (row 18), va_rf ((rr 19).map ad), va_rf ((rr 20).map ad), va_rf ((rr 21).map ad), va_rf ((rr 22).map ad), va_rf ((rr 23).map ad), .int (row 24), .int (row 25), .int (row 26), va_rf ((rr 27).map ad), .int (row 28), .int (row 29), va_rf ((rr 30).map ad), .int (row 31)] : List Value).set 11 (.ref (ad x))) := rfl
theorem eq_32_12 {ad : Nat → Nat} {cA : Nat → ClassId} {row : Int32 → Int32} {rr : Int32 → Option Nat} {lr : Int32 → Int64} {x : Nat} : Eg ad cA 32 row (upQ rr 12 (some x)) lr = .inr (9, ([.int (row 0), va_rf ((rr 1).map ad), va_rf ((rr 2).map ad), va_rf ((rr 3).map ad), va_rf ((rr 4).map ad), va_rf ((rr 5).map ad), va_rf ((rr 6).map ad), va_rf ((rr 7).map ad), va_rf ((rr 8).map ad), va_rf ((rr 9).map ad), va_rf ((rr 10).map ad), va_rf ((rr 11).map ad), va_rf ((rr 12).map ad), va_rf ((rr 13).map ad), va_rf ((rr 14).map ad), va_rf ((rr 15).map ad), .int (row 16), va_rf ((rr 17).map ad), .int (row 18), va_rf ((rr 19).map ad), va_rf ((rr 20).map ad), va_rf ((rr 21).map ad), va_rf ((rr 22).map ad), va_rf ((rr 23).map ad), .int (row 24), .int (row 25), .int (row 26), va_rf ((rr 27).map ad), .int (row 28), .int (row 29), va_rf ((rr 30).map ad), .int (row 31)] : List Value).set 12 (.ref (ad x))) := rfl
theorem eq_32_13 {ad : Nat → Nat} {cA : Nat → ClassId} {row : Int32 → Int32} {rr : Int32 → Option Nat} {lr : Int32 → Int64} {x : Nat} : Eg ad cA 32 row (upQ rr 13 (some x)) lr = .inr (9, ([.int (row 0), va_rf ((rr 1).map ad), va_rf ((rr 2).map ad), va_rf ((rr 3).map ad), va_rf ((rr 4).map ad), va_rf ((rr 5).map ad), va_rf ((rr 6).map ad), va_rf ((rr 7).map ad), va_rf ((rr 8).map ad), va_rf ((rr 9).map ad), va_rf ((rr 10).map ad), va_rf ((rr 11).map ad), va_rf ((rr 12).map ad), va_rf ((rr 13).map ad), va_rf ((rr 14).map ad), va_rf ((rr 15).map ad), .int (row 16), va_rf ((rr 17).map ad), .int (row 18), va_rf ((rr 19).map ad), va_rf ((rr 20).map ad), va_rf ((rr 21).map ad), va_rf ((rr 22).map ad), va_rf ((rr 23).map ad), .int (row 24), .int (row 25), .int (row 26), va_rf ((rr 27).map ad), .int (row 28), .int (row 29), va_rf ((rr 30).map ad), .int (row 31)] : List Value).set 13 (.ref (ad x))) := rfl
theorem eq_32_14 {ad : Nat → Nat} {cA : Nat → ClassId} {row : Int32 → Int32} {rr : Int32 → Option Nat} {lr : Int32 → Int64} {x : Nat} : Eg ad cA 32 row (upQ rr 14 (some x)) lr = .inr (9, ([.int (row 0), va_rf ((rr 1).map ad), va_rf ((rr 2).map ad), va_rf ((rr 3).map ad), va_rf ((rr 4).map ad), va_rf ((rr 5).map ad), va_rf ((rr 6).map ad), va_rf ((rr 7).map ad), va_rf ((rr 8).map ad), va_rf ((rr 9).map ad), va_rf ((rr 10).map ad), va_rf ((rr 11).map ad), va_rf ((rr 12).map ad), va_rf ((rr 13).map ad), va_rf ((rr 14).map ad), va_rf ((rr 15).map ad), .int (row 16), va_rf ((rr 17).map ad), .int (row 18), va_rf ((rr 19).map ad), va_rf ((rr 20).map ad), va_rf ((rr 21).map ad), va_rf ((rr 22).map ad), va_rf ((rr 23).map ad), .int (row 24), .int (row 25), .int (row 26), va_rf ((rr 27).map ad), .int (row 28), .int (row 29), va_rf ((rr 30).map ad), .int (row 31)] : List Value).set 14 (.ref (ad x))) := rfl
theorem eq_32_15 {ad : Nat → Nat} {cA : Nat → ClassId} {row : Int32 → Int32} {rr : Int32 → Option Nat} {lr : Int32 → Int64} {x : Nat} : Eg ad cA 32 row (upQ rr 15 (some x)) lr = .inr (9, ([.int (row 0), va_rf ((rr 1).map ad), va_rf ((rr 2).map ad), va_rf ((rr 3).map ad), va_rf ((rr 4).map ad), va_rf ((rr 5).map ad), va_rf ((rr 6).map ad), va_rf ((rr 7).map ad), va_rf ((rr 8).map ad), va_rf ((rr 9).map ad), va_rf ((rr 10).map ad), va_rf ((rr 11).map ad), va_rf ((rr 12).map ad), va_rf ((rr 13).map ad), va_rf ((rr 14).map ad), va_rf ((rr 15).map ad), .int (row 16), va_rf ((rr 17).map ad), .int (row 18), va_rf ((rr 19).map ad), va_rf ((rr 20).map ad), va_rf ((rr 21).map ad), va_rf ((rr 22).map ad), va_rf ((rr 23).map ad), .int (row 24), .int (row 25), .int (row 26), va_rf ((rr 27).map ad), .int (row 28), .int (row 29), va_rf ((rr 30).map ad), .int (row 31)] : List Value).set 15 (.ref (ad x))) := rfl
theorem eg_32_16 {ad : Nat → Nat} {cA : Nat → ClassId} {row : Int32 → Int32} {rr : Int32 → Option Nat} {lr : Int32 → Int64} {x : Int32} : Eg ad cA 32 (upR row 16 x) rr lr = .inr (9, ([.int (row 0), va_rf ((rr 1).map ad), va_rf ((rr 2).map ad), va_rf ((rr 3).map ad), va_rf ((rr 4).map ad), va_rf ((rr 5).map ad), va_rf ((rr 6).map ad), va_rf ((rr 7).map ad), va_rf ((rr 8).map ad), va_rf ((rr 9).map ad), va_rf ((rr 10).map ad), va_rf ((rr 11).map ad), va_rf ((rr 12).map ad), va_rf ((rr 13).map ad), va_rf ((rr 14).map ad), va_rf ((rr 15).map ad), .int (row 16), va_rf ((rr 17).map ad), .int (row 18), va_rf ((rr 19).map ad), va_rf ((rr 20).map ad), va_rf ((rr 21).map ad), va_rf ((rr 22).map ad), va_rf ((rr 23).map ad), .int (row 24), .int (row 25), .int (row 26), va_rf ((rr 27).map ad), .int (row 28), .int (row 29), va_rf ((rr 30).map ad), .int (row 31)] : List Value).set 16 (.int x)) := rfl
theorem eq_32_17 {ad : Nat → Nat} {cA : Nat → ClassId} {row : Int32 → Int32} {rr : Int32 → Option Nat} {lr : Int32 → Int64} {x : Nat} : Eg ad cA 32 row (upQ rr 17 (some x)) lr = .inr (9, ([.int (row 0), va_rf ((rr 1).map ad), va_rf ((rr 2).map ad), va_rf ((rr 3).map ad), va_rf ((rr 4).map ad), va_rf ((rr 5).map ad), va_rf ((rr 6).map ad), va_rf ((rr 7).map ad), va_rf ((rr 8).map ad), va_rf ((rr 9).map ad), va_rf ((rr 10).map ad), va_rf ((rr 11).map ad), va_rf ((rr 12).map ad), va_rf ((rr 13).map ad), va_rf ((rr 14).map ad), va_rf ((rr 15).map ad), .int (row 16), va_rf ((rr 17).map ad), .int (row 18), va_rf ((rr 19).map ad), va_rf ((rr 20).map ad), va_rf ((rr 21).map ad), va_rf ((rr 22).map ad), va_rf ((rr 23).map ad), .int (row 24), .int (row 25), .int (row 26), va_rf ((rr 27).map ad), .int (row 28), .int (row 29), va_rf ((rr 30).map ad), .int (row 31)] : List Value).set 17 (.ref (ad x))) := rfl
theorem eg_32_18 {ad : Nat → Nat} {cA : Nat → ClassId} {row : Int32 → Int32} {rr : Int32 → Option Nat} {lr : Int32 → Int64} {x : Int32} : Eg ad cA 32 (upR row 18 x) rr lr = .inr (9, ([.int (row 0), va_rf ((rr 1).map ad), va_rf ((rr 2).map ad), va_rf ((rr 3).map ad), va_rf ((rr 4).map ad), va_rf ((rr 5).map ad), va_rf ((rr 6).map ad), va_rf ((rr 7).map ad), va_rf ((rr 8).map ad), va_rf ((rr 9).map ad), va_rf ((rr 10).map ad), va_rf ((rr 11).map ad), va_rf ((rr 12).map ad), va_rf ((rr 13).map ad), va_rf ((rr 14).map ad), va_rf ((rr 15).map ad), .int (row 16), va_rf ((rr 17).map ad), .int (row 18), va_rf ((rr 19).map ad), va_rf ((rr 20).map ad), va_rf ((rr 21).map ad), va_rf ((rr 22).map ad), va_rf ((rr 23).map ad), .int (row 24), .int (row 25), .int (row 26), va_rf ((rr 27).map ad), .int (row 28), .int (row 29), va_rf ((rr 30).map ad), .int (row 31)] : List Value).set 18 (.int x)) := rfl
theorem eq_32_19 {ad : Nat → Nat} {cA : Nat → ClassId} {row : Int32 → Int32} {rr : Int32 → Option Nat} {lr : Int32 → Int64} {x : Nat} : Eg ad cA 32 row (upQ rr 19 (some x)) lr = .inr (9, ([.int (row 0), va_rf ((rr 1).map ad), va_rf ((rr 2).map ad), va_rf ((rr 3).map ad), va_rf ((rr 4).map ad), va_rf ((rr 5).map ad), va_rf ((rr 6).map ad), va_rf ((rr 7).map ad), va_rf ((rr 8).map ad), va_rf ((rr 9).map ad), va_rf ((rr 10).map ad), va_rf ((rr 11).map ad), va_rf ((rr 12).map ad), va_rf ((rr 13).map ad), va_rf ((rr 14).map ad), va_rf ((rr 15).map ad), .int (row 16), va_rf ((rr 17).map ad), .int (row 18), va_rf ((rr 19).map ad), va_rf ((rr 20).map ad), va_rf ((rr 21).map ad), va_rf ((rr 22).map ad), va_rf ((rr 23).map ad), .int (row 24), .int (row 25), .int (row 26), va_rf ((rr 27).map ad), .int (row 28), .int (row 29), va_rf ((rr 30).map ad), .int (row 31)] : List Value).set 19 (.ref (ad x))) := rfl
theorem eq_32_20 {ad : Nat → Nat} {cA : Nat → ClassId} {row : Int32 → Int32} {rr : Int32 → Option Nat} {lr : Int32 → Int64} {x : Nat} : Eg ad cA 32 row (upQ rr 20 (some x)) lr = .inr (9, ([.int (row 0), va_rf ((rr 1).map ad), va_rf ((rr 2).map ad), va_rf ((rr 3).map ad), va_rf ((rr 4).map ad), va_rf ((rr 5).map ad), va_rf ((rr 6).map ad), va_rf ((rr 7).map ad), va_rf ((rr 8).map ad), va_rf ((rr 9).map ad), va_rf ((rr 10).map ad), va_rf ((rr 11).map ad), va_rf ((rr 12).map ad), va_rf ((rr 13).map ad), va_rf ((rr 14).map ad), va_rf ((rr 15).map ad), .int (row 16), va_rf ((rr 17).map ad), .int (row 18), va_rf ((rr 19).map ad), va_rf ((rr 20).map ad), va_rf ((rr 21).map ad), va_rf ((rr 22).map ad), va_rf ((rr 23).map ad), .int (row 24), .int (row 25), .int (row 26), va_rf ((rr 27).map ad), .int (row 28), .int (row 29), va_rf ((rr 30).map ad), .int (row 31)] : List Value).set 20 (.ref (ad x))) := rfl
theorem eq_32_21 {ad : Nat → Nat} {cA : Nat → ClassId} {row : Int32 → Int32} {rr : Int32 → Option Nat} {lr : Int32 → Int64} {x : Nat} : Eg ad cA 32 row (upQ rr 21 (some x)) lr = .inr (9, ([.int (row 0), va_rf ((rr 1).map ad), va_rf ((rr 2).map ad), va_rf ((rr 3).map ad), va_rf ((rr 4).map ad), va_rf ((rr 5).map ad), va_rf ((rr 6).map ad), va_rf ((rr 7).map ad), va_rf ((rr 8).map ad), va_rf ((rr 9).map ad), va_rf ((rr 10).map ad), va_rf ((rr 11).map ad), va_rf ((rr 12).map ad), va_rf ((rr 13).map ad), va_rf ((rr 14).map ad), va_rf ((rr 15).map ad), .int (row 16), va_rf ((rr 17).map ad), .int (row 18), va_rf ((rr 19).map ad), va_rf ((rr 20).map ad), va_rf ((rr 21).map ad), va_rf ((rr 22).map ad), va_rf ((rr 23).map ad), .int (row 24), .int (row 25), .int (row 26), va_rf ((rr 27).map ad), .int (row 28), .int (row 29), va_rf ((rr 30).map ad), .int (row 31)] : List Value).set 21 (.ref (ad x))) := rfl
theorem eq_32_22 {ad : Nat → Nat} {cA : Nat → ClassId} {row : Int32 → Int32} {rr : Int32 → Option Nat} {lr : Int32 → Int64} {x : Nat} : Eg ad cA 32 row (upQ rr 22 (some x)) lr = .inr (9, ([.int (row 0), va_rf ((rr 1).map ad), va_rf ((rr 2).map ad), va_rf ((rr 3).map ad), va_rf ((rr 4).map ad), va_rf ((rr 5).map ad), va_rf ((rr 6).map ad), va_rf ((rr 7).map ad), va_rf ((rr 8).map ad), va_rf ((rr 9).map ad), va_rf ((rr 10).map ad), va_rf ((rr 11).map ad), va_rf ((rr 12).map ad), va_rf ((rr 13).map ad), va_rf ((rr 14).map ad), va_rf ((rr 15).map ad), .int (row 16), va_rf ((rr 17).map ad), .int (row 18), va_rf ((rr 19).map ad), va_rf ((rr 20).map ad), va_rf ((rr 21).map ad), va_rf ((rr 22).map ad), va_rf ((rr 23).map ad), .int (row 24), .int (row 25), .int (row 26), va_rf ((rr 27).map ad), .int (row 28), .int (row 29), va_rf ((rr 30).map ad), .int (row 31)] : List Value).set 22 (.ref (ad x))) := rfl
theorem eq_32_23 {ad : Nat → Nat} {cA : Nat → ClassId} {row : Int32 → Int32} {rr : Int32 → Option Nat} {lr : Int32 → Int64} {x : Nat} : Eg ad cA 32 row (upQ rr 23 (some x)) lr = .inr (9, ([.int (row 0), va_rf ((rr 1).map ad), va_rf ((rr 2).map ad), va_rf ((rr 3).map ad), va_rf ((rr 4).map ad), va_rf ((rr 5).map ad), va_rf ((rr 6).map ad), va_rf ((rr 7).map ad), va_rf ((rr 8).map ad), va_rf ((rr 9).map ad), va_rf ((rr 10).map ad), va_rf ((rr 11).map ad), va_rf ((rr 12).map ad), va_rf ((rr 13).map ad), va_rf ((rr 14).map ad), va_rf ((rr 15).map ad), .int (row 16), va_rf ((rr 17).map ad), .int (row 18), va_rf ((rr 19).map ad), va_rf ((rr 20).map ad), va_rf ((rr 21).map ad), va_rf ((rr 22).map ad), va_rf ((rr 23).map ad), .int (row 24), .int (row 25), .int (row 26), va_rf ((rr 27).map ad), .int (row 28), .int (row 29), va_rf ((rr 30).map ad), .int (row 31)] : List Value).set 23 (.ref (ad x))) := rfl
theorem eg_32_24 {ad : Nat → Nat} {cA : Nat → ClassId} {row : Int32 → Int32} {rr : Int32 → Option Nat} {lr : Int32 → Int64} {x : Int32} : Eg ad cA 32 (upR row 24 x) rr lr = .inr (9, ([.int (row 0), va_rf ((rr 1).map ad), va_rf ((rr 2).map ad), va_rf ((rr 3).map ad), va_rf ((rr 4).map ad), va_rf ((rr 5).map ad), va_rf ((rr 6).map ad), va_rf ((rr 7).map ad), va_rf ((rr 8).map ad), va_rf ((rr 9).map ad), va_rf ((rr 10).map ad), va_rf ((rr 11).map ad), va_rf ((rr 12).map ad), va_rf ((rr 13).map ad), va_rf ((rr 14).map ad), va_rf ((rr 15).map ad), .int (row 16), va_rf ((rr 17).map ad), .int (row 18), va_rf ((rr 19).map ad), va_rf ((rr 20).map ad), va_rf ((rr 21).map ad), va_rf ((rr 22).map ad), va_rf ((rr 23).map ad), .int (row 24), .int (row 25), .int (row 26), va_rf ((rr 27).map ad), .int (row 28), .int (row 29), va_rf ((rr 30).map ad), .int (row 31)] : List Value).set 24 (.int x)) := rfl
theorem eg_32_25 {ad : Nat → Nat} {cA : Nat → ClassId} {row : Int32 → Int32} {rr : Int32 → Option Nat} {lr : Int32 → Int64} {x : Int32} : Eg ad cA 32 (upR row 25 x) rr lr = .inr (9, ([.int (row 0), va_rf ((rr 1).map ad), va_rf ((rr 2).map ad), va_rf ((rr 3).map ad), va_rf ((rr 4).map ad), va_rf ((rr 5).map ad), va_rf ((rr 6).map ad), va_rf ((rr 7).map ad), va_rf ((rr 8).map ad), va_rf ((rr 9).map ad), va_rf ((rr 10).map ad), va_rf ((rr 11).map ad), va_rf ((rr 12).map ad), va_rf ((rr 13).map ad), va_rf ((rr 14).map ad), va_rf ((rr 15).map ad), .int (row 16), va_rf ((rr 17).map ad), .int (row 18), va_rf ((rr 19).map ad), va_rf ((rr 20).map ad), va_rf ((rr 21).map ad), va_rf ((rr 22).map ad), va_rf ((rr 23).map ad), .int (row 24), .int (row 25), .int (row 26), va_rf ((rr 27).map ad), .int (row 28), .int (row 29), va_rf ((rr 30).map ad), .int (row 31)] : List Value).set 25 (.int x)) := rfl
theorem eg_32_26 {ad : Nat → Nat} {cA : Nat → ClassId} {row : Int32 → Int32} {rr : Int32 → Option Nat} {lr : Int32 → Int64} {x : Int32} : Eg ad cA 32 (upR row 26 x) rr lr = .inr (9, ([.int (row 0), va_rf ((rr 1).map ad), va_rf ((rr 2).map ad), va_rf ((rr 3).map ad), va_rf ((rr 4).map ad), va_rf ((rr 5).map ad), va_rf ((rr 6).map ad), va_rf ((rr 7).map ad), va_rf ((rr 8).map ad), va_rf ((rr 9).map ad), va_rf ((rr 10).map ad), va_rf ((rr 11).map ad), va_rf ((rr 12).map ad), va_rf ((rr 13).map ad), va_rf ((rr 14).map ad), va_rf ((rr 15).map ad), .int (row 16), va_rf ((rr 17).map ad), .int (row 18), va_rf ((rr 19).map ad), va_rf ((rr 20).map ad), va_rf ((rr 21).map ad), va_rf ((rr 22).map ad), va_rf ((rr 23).map ad), .int (row 24), .int (row 25), .int (row 26), va_rf ((rr 27).map ad), .int (row 28), .int (row 29), va_rf ((rr 30).map ad), .int (row 31)] : List Value).set 26 (.int x)) := rfl
theorem eq_32_27 {ad : Nat → Nat} {cA : Nat → ClassId} {row : Int32 → Int32} {rr : Int32 → Option Nat} {lr : Int32 → Int64} {x : Nat} : Eg ad cA 32 row (upQ rr 27 (some x)) lr = .inr (9, ([.int (row 0), va_rf ((rr 1).map ad), va_rf ((rr 2).map ad), va_rf ((rr 3).map ad), va_rf ((rr 4).map ad), va_rf ((rr 5).map ad), va_rf ((rr 6).map ad), va_rf ((rr 7).map ad), va_rf ((rr 8).map ad), va_rf ((rr 9).map ad), va_rf ((rr 10).map ad), va_rf ((rr 11).map ad), va_rf ((rr 12).map ad), va_rf ((rr 13).map ad), va_rf ((rr 14).map ad), va_rf ((rr 15).map ad), .int (row 16), va_rf ((rr 17).map ad), .int (row 18), va_rf ((rr 19).map ad), va_rf ((rr 20).map ad), va_rf ((rr 21).map ad), va_rf ((rr 22).map ad), va_rf ((rr 23).map ad), .int (row 24), .int (row 25), .int (row 26), va_rf ((rr 27).map ad), .int (row 28), .int (row 29), va_rf ((rr 30).map ad), .int (row 31)] : List Value).set 27 (.ref (ad x))) := rfl
theorem eg_32_28 {ad : Nat → Nat} {cA : Nat → ClassId} {row : Int32 → Int32} {rr : Int32 → Option Nat} {lr : Int32 → Int64} {x : Int32} : Eg ad cA 32 (upR row 28 x) rr lr = .inr (9, ([.int (row 0), va_rf ((rr 1).map ad), va_rf ((rr 2).map ad), va_rf ((rr 3).map ad), va_rf ((rr 4).map ad), va_rf ((rr 5).map ad), va_rf ((rr 6).map ad), va_rf ((rr 7).map ad), va_rf ((rr 8).map ad), va_rf ((rr 9).map ad), va_rf ((rr 10).map ad), va_rf ((rr 11).map ad), va_rf ((rr 12).map ad), va_rf ((rr 13).map ad), va_rf ((rr 14).map ad), va_rf ((rr 15).map ad), .int (row 16), va_rf ((rr 17).map ad), .int (row 18), va_rf ((rr 19).map ad), va_rf ((rr 20).map ad), va_rf ((rr 21).map ad), va_rf ((rr 22).map ad), va_rf ((rr 23).map ad), .int (row 24), .int (row 25), .int (row 26), va_rf ((rr 27).map ad), .int (row 28), .int (row 29), va_rf ((rr 30).map ad), .int (row 31)] : List Value).set 28 (.int x)) := rfl
theorem eg_32_29 {ad : Nat → Nat} {cA : Nat → ClassId} {row : Int32 → Int32} {rr : Int32 → Option Nat} {lr : Int32 → Int64} {x : Int32} : Eg ad cA 32 (upR row 29 x) rr lr = .inr (9, ([.int (row 0), va_rf ((rr 1).map ad), va_rf ((rr 2).map ad), va_rf ((rr 3).map ad), va_rf ((rr 4).map ad), va_rf ((rr 5).map ad), va_rf ((rr 6).map ad), va_rf ((rr 7).map ad), va_rf ((rr 8).map ad), va_rf ((rr 9).map ad), va_rf ((rr 10).map ad), va_rf ((rr 11).map ad), va_rf ((rr 12).map ad), va_rf ((rr 13).map ad), va_rf ((rr 14).map ad), va_rf ((rr 15).map ad), .int (row 16), va_rf ((rr 17).map ad), .int (row 18), va_rf ((rr 19).map ad), va_rf ((rr 20).map ad), va_rf ((rr 21).map ad), va_rf ((rr 22).map ad), va_rf ((rr 23).map ad), .int (row 24), .int (row 25), .int (row 26), va_rf ((rr 27).map ad), .int (row 28), .int (row 29), va_rf ((rr 30).map ad), .int (row 31)] : List Value).set 29 (.int x)) := rfl
theorem eq_32_30 {ad : Nat → Nat} {cA : Nat → ClassId} {row : Int32 → Int32} {rr : Int32 → Option Nat} {lr : Int32 → Int64} {x : Nat} : Eg ad cA 32 row (upQ rr 30 (some x)) lr = .inr (9, ([.int (row 0), va_rf ((rr 1).map ad), va_rf ((rr 2).map ad), va_rf ((rr 3).map ad), va_rf ((rr 4).map ad), va_rf ((rr 5).map ad), va_rf ((rr 6).map ad), va_rf ((rr 7).map ad), va_rf ((rr 8).map ad), va_rf ((rr 9).map ad), va_rf ((rr 10).map ad), va_rf ((rr 11).map ad), va_rf ((rr 12).map ad), va_rf ((rr 13).map ad), va_rf ((rr 14).map ad), va_rf ((rr 15).map ad), .int (row 16), va_rf ((rr 17).map ad), .int (row 18), va_rf ((rr 19).map ad), va_rf ((rr 20).map ad), va_rf ((rr 21).map ad), va_rf ((rr 22).map ad), va_rf ((rr 23).map ad), .int (row 24), .int (row 25), .int (row 26), va_rf ((rr 27).map ad), .int (row 28), .int (row 29), va_rf ((rr 30).map ad), .int (row 31)] : List Value).set 30 (.ref (ad x))) := rfl
theorem eg_32_31 {ad : Nat → Nat} {cA : Nat → ClassId} {row : Int32 → Int32} {rr : Int32 → Option Nat} {lr : Int32 → Int64} {x : Int32} : Eg ad cA 32 (upR row 31 x) rr lr = .inr (9, ([.int (row 0), va_rf ((rr 1).map ad), va_rf ((rr 2).map ad), va_rf ((rr 3).map ad), va_rf ((rr 4).map ad), va_rf ((rr 5).map ad), va_rf ((rr 6).map ad), va_rf ((rr 7).map ad), va_rf ((rr 8).map ad), va_rf ((rr 9).map ad), va_rf ((rr 10).map ad), va_rf ((rr 11).map ad), va_rf ((rr 12).map ad), va_rf ((rr 13).map ad), va_rf ((rr 14).map ad), va_rf ((rr 15).map ad), .int (row 16), va_rf ((rr 17).map ad), .int (row 18), va_rf ((rr 19).map ad), va_rf ((rr 20).map ad), va_rf ((rr 21).map ad), va_rf ((rr 22).map ad), va_rf ((rr 23).map ad), .int (row 24), .int (row 25), .int (row 26), va_rf ((rr 27).map ad), .int (row 28), .int (row 29), va_rf ((rr 30).map ad), .int (row 31)] : List Value).set 31 (.int x)) := rfl
/-! What a contract, a stretch of a walk and its context say. -/
abbrev PrU (D : va_G) (cA : Nat → ClassId) (ad : Nat → Nat) (L : List Nat) (rs : va_W) (u : Mr) (sz : Nat) (U : State) : Prop := U.heap.size = sz ∧ va_P D vwCl (ww ad cA L rs u) U.heap ∧ va_K D vwCl (tyl cA) U ∧ va_D (fun _ => True) (ww ad cA L rs u) ∧ Nx U
abbrev QI (below : List Frame) (args : Array Value) (s : State) (D : va_G) (cA : Nat → ClassId) (ad : Nat → Nat) (L : List Nat) (rs : va_W) (A : Nat → Prop) (out : Mr × Int32) : State → Prop := MQ below (va_Qi (fun (r : Int32) (v : Mr) => r = out.2 ∧ v = out.1) (fun v t => va_P D vwCl (ww ad cA L rs v) t.heap) A) args s 0 0 A
abbrev QV (below : List Frame) (args : Array Value) (s : State) (D : va_G) (cA : Nat → ClassId) (ad : Nat → Nat) (L : List Nat) (rs : va_W) (A : Nat → Prop) (out : Mr × Int32) : State → Prop := MQ below (va_Qv (fun (v : Mr) => v = out.1) (fun v t => va_P D vwCl (ww ad cA L rs v) t.heap) A) args s 0 0 A
def Wb (p : Program) (l : Launch) (e : Env) (R : Room) (s : State) (m : MethodId) (args : Array Value) (below : List Frame) (meth : Method) (c : Code) (D : va_G) (cA : Nat → ClassId) (ad : Nat → Nat) (L : List Nat) (rs : va_W) (A : Nat → Prop) (Q : State → Prop) (nL pc : Nat) (lv : List (Nat × Value)) (st : List Value) (u : Mr) : Prop :=
  ∀ (H : Heap) (locs : List Loc) (ls : Array Slot), lv_has ls nL lv → va_P D vwCl (ww ad cA L rs u) H → va_S A s.heap H locs → W p l e R s m args below meth c H locs 0 0 Q (F0 m pc ls st)
abbrev Cx (p : Program) (l : Launch) (e : Env) (s : State) (m : MethodId) (args : Array Value) (below : List Frame) (meth : Method) (c : Code) (cc : ByteArray) (nL : Nat) (Ts : List Cond) (own : String) (ret : Option FieldType) (D : va_G) (cA : Nat → ClassId) (ad : Nat → Nat) (L : List Nat) (rs : va_W) (al : Nat → Bool) (A : Nat → Prop) : Prop :=
  p.tables.exec = Jvm.exec ∧ c.code = cc ∧ c.maxLocals = nL ∧ s.vm.findClass own = some m.cls ∧ (∀ w ∈ Ts, w.before args s = true) ∧ meth.sig.returnType = ret ∧ meth.locks = false ∧ va_K D vwCl (tyl cA) s ∧ (∀ q, s.heap.size ≤ q → A q) ∧ (∀ v : Mr, va_D A (ww ad cA L rs v)) ∧ L.Nodup ∧ (∀ k, al k = true → k ∈ L) ∧ Nx s
def CtI (l : Launch) (y : MethodName) (ws : List Cond) (rm : Room) (as : List Value) (D : va_G) (cA : Nat → ClassId) (ad : Nat → Nat) (L : List Nat) (rs : va_W) (u : Mr) (out : Mr × Int32) : Prop :=
  ∀ sz : Nat, Met l y ws rm (va_Pc as (PrU D cA ad L rs u sz)) (va_Qi (fun (r : Int32) (v : Mr) => r = out.2 ∧ v = out.1) (fun v t => va_P D vwCl (ww ad cA L rs v) t.heap) (va_A (ww ad cA L rs u) sz)) 0 0 (va_A (ww ad cA L rs u) sz)
def CtV (l : Launch) (y : MethodName) (ws : List Cond) (rm : Room) (as : List Value) (D : va_G) (cA : Nat → ClassId) (ad : Nat → Nat) (L : List Nat) (rs : va_W) (u : Mr) (out : Mr × Int32) : Prop :=
  ∀ sz : Nat, Met l y ws rm (va_Pc as (PrU D cA ad L rs u sz)) (va_Qv (fun (v : Mr) => v = out.1) (fun v t => va_P D vwCl (ww ad cA L rs v) t.heap) (va_A (ww ad cA L rs u) sz)) 0 0 (va_A (ww ad cA L rs u) sz)
section
variable {p : Program} {l : Launch} {e : Env} {R : Room} {s : State} {m : MethodId} {args : Array Value} {below : List Frame} {meth : Method} {c : Code} {H : Heap} {locs : List Loc} {cells slots pc : Nat} {Q : State → Prop} {cc : ByteArray} {ls : Array Slot} {rest : List Value} {D : va_G} {cA : Nat → ClassId} {ad : Nat → Nat} {L : List Nat} {rs : va_W} {u : Mr} {A : Nat → Prop} {k T : Nat}
theorem x_get (hx : p.tables.exec = Jvm.exec) (hb : c.code = cc) {own ref C : String} {Tf : u_T} {N ci index : Nat} {Ts : List Cond} (hts : ∀ w ∈ Ts, w.before args s = true) (hin : ∀ w ∈ u_ws C Tf N, w ∈ Ts) (hown : s.vm.findClass own = some m.cls) (hK : va_K D vwCl (tyl cA) s) (hP : va_P D vwCl (ww ad cA L rs u) H) (hk : k ∈ L) (hT : k / 64 = T) {fs : List Value} (hE : Eg ad cA T (u.1 k) (u.2.1 k) (u.2.2 k) = .inr (ci, fs)) (hc : vwCl[ci]? = some (C, Tf, N)) (j : Nat) (hj : j < N)
    (hlink : (Cond.fieldLink own index ref (Tf j).2.1 (Tf j).2.2.1).before args s = true) (hsame : ∀ x, s.fieldFound? (Tf j).1 (Tf j).2.1 (Tf j).2.2.1 = some x → s.fieldFound? ref (Tf j).2.1 (Tf j).2.2.1 = some x) {v : Value} (hv : fs[j]? = some v) (hdg : decode cc pc = .ok (.getfield index, 3))
    (kk : W p l e R s m args below meth c H locs cells slots Q (F0 m (pc + 3) ls (v :: rest))) : W p l e R s m args below meth c H locs cells slots Q (F0 m pc ls (.ref (ad k) :: rest)) := by
  obtain ⟨q0, hq⟩ := ww_in hk
  exact va_get hx hb hts hin hown hK hP q0 (by rw [ww_at hq, hT, hE]) hc j hj hlink hsame hv hdg kk
theorem x_getN (hx : p.tables.exec = Jvm.exec) (hb : c.code = cc) {own ref C host : String} {Tf : u_T} {N ci index : Nat} {Ts : List Cond} (hts : ∀ w ∈ Ts, w.before args s = true) (hin : ∀ w ∈ u_ws C Tf N, w ∈ Ts) (hown : s.vm.findClass own = some m.cls) (hK : va_K D vwCl (tyl cA) s) (hP : va_P D vwCl (ww ad cA L rs u) H) (hk : k ∈ L) (hT : k / 64 = T) {fs : List Value} (hE : Eg ad cA T (u.1 k) (u.2.1 k) (u.2.2 k) = .inr (ci, fs)) (hc : vwCl[ci]? = some (C, Tf, N)) (j : Nat) (hj : j < N)
    (hlink : (Cond.fieldLinkNest own index ref (Tf j).2.1 (Tf j).2.2.1 host).before args s = true) (hsame : ∀ x, s.fieldFound? (Tf j).1 (Tf j).2.1 (Tf j).2.2.1 = some x → s.fieldFound? ref (Tf j).2.1 (Tf j).2.2.1 = some x) {v : Value} (hv : fs[j]? = some v) (hdg : decode cc pc = .ok (.getfield index, 3))
    (kk : W p l e R s m args below meth c H locs cells slots Q (F0 m (pc + 3) ls (v :: rest))) : W p l e R s m args below meth c H locs cells slots Q (F0 m pc ls (.ref (ad k) :: rest)) := by
  obtain ⟨q0, hq⟩ := ww_in hk
  exact va_getN hx hb hts hin hown hK hP q0 (by rw [ww_at hq, hT, hE]) hc j hj hlink hsame hv hdg kk
theorem x_rf {i : Int32} {a : Nat} (h : u.2.1 k i = some a) : va_rf ((u.2.1 k i).map ad) = .ref (ad a) := by rw [h]; rfl
theorem x_put (hx : p.tables.exec = Jvm.exec) (hb : c.code = cc) {own ref C : String} {Tf : u_T} {N ci index : Nat} {Ts : List Cond} (hts : ∀ w ∈ Ts, w.before args s = true) (hin : ∀ w ∈ u_ws C Tf N, w ∈ Ts) (ty0 : Nat → FieldType) (hty : ∀ k, k < N → parseFieldDescriptor (Tf k).2.2.1 = some (ty0 k)) (hnm : ∀ a, a < N → ∀ b, b < N → a ≠ b → (Tf a).2.1 ≠ (Tf b).2.1) (hown : s.vm.findClass own = some m.cls) (hK : va_K D vwCl (tyl cA) s) (hD : ∀ v : Mr, va_D A (ww ad cA L rs v)) (hN : L.Nodup) (hP : va_P D vwCl (ww ad cA L rs u) H) (hS : va_S A s.heap H locs) (hk : k ∈ L) (hT : k / 64 = T) {fs : List Value} (hE : Eg ad cA T (u.1 k) (u.2.1 k) (u.2.2 k) = .inr (ci, fs)) (hc : vwCl[ci]? = some (C, Tf, N)) (j : Nat) (hj : j < N)
    (hlink : (Cond.fieldLink own index ref (Tf j).2.1 (Tf j).2.2.1).before args s = true) (hsame : ∀ x, s.fieldFound? (Tf j).1 (Tf j).2.1 (Tf j).2.2.1 = some x → s.fieldFound? ref (Tf j).2.1 (Tf j).2.2.1 = some x) (hfin : (Tf j).2.2.2 = false) {ty : FieldType} {v : Value} (hd : parseFieldDescriptor (Tf j).2.2.1 = some ty) (hn : narrow ty v = v) (hfit : fits ty v = true) (hl : j < fs.length) (u' : Mr) (ho : ∀ j : Nat, j ≠ k → u'.1 j = u.1 j ∧ u'.2.1 j = u.2.1 j ∧ u'.2.2 j = u.2.2 j) (hE' : Eg ad cA T (u'.1 k) (u'.2.1 k) (u'.2.2 k) = .inr (ci, fs.set j v)) (hdg : decode cc pc = .ok (.putfield index, 3))
    (kk : ∀ (H1 : Heap) (locs1 : List Loc), va_P D vwCl (ww ad cA L rs u') H1 → va_S A s.heap H1 locs1 → W p l e R s m args below meth c H1 locs1 cells slots Q (F0 m (pc + 3) ls rest)) : W p l e R s m args below meth c H locs cells slots Q (F0 m pc ls (v :: .ref (ad k) :: rest)) := by
  obtain ⟨q0, hq⟩ := ww_in hk
  exact va_put hx hb hts hin ty0 hty hnm hown hK hP (hD u) hS q0 (by rw [ww_at hq, hT, hE]) hc j hj hlink hsame hfin hd hn hfit hl hdg
    (fun H1 locs1 hP1 _ hS1 => kk H1 locs1 (ww_P hN hq hP1 (fun h => by rw [hT, hE']; exact h) ho) hS1)
theorem x_putN (hx : p.tables.exec = Jvm.exec) (hb : c.code = cc) {own ref C host : String} {Tf : u_T} {N ci index : Nat} {Ts : List Cond} (hts : ∀ w ∈ Ts, w.before args s = true) (hin : ∀ w ∈ u_ws C Tf N, w ∈ Ts) (ty0 : Nat → FieldType) (hty : ∀ k, k < N → parseFieldDescriptor (Tf k).2.2.1 = some (ty0 k)) (hnm : ∀ a, a < N → ∀ b, b < N → a ≠ b → (Tf a).2.1 ≠ (Tf b).2.1) (hown : s.vm.findClass own = some m.cls) (hK : va_K D vwCl (tyl cA) s) (hD : ∀ v : Mr, va_D A (ww ad cA L rs v)) (hN : L.Nodup) (hP : va_P D vwCl (ww ad cA L rs u) H) (hS : va_S A s.heap H locs) (hk : k ∈ L) (hT : k / 64 = T) {fs : List Value} (hE : Eg ad cA T (u.1 k) (u.2.1 k) (u.2.2 k) = .inr (ci, fs)) (hc : vwCl[ci]? = some (C, Tf, N)) (j : Nat) (hj : j < N)
    (hlink : (Cond.fieldLinkNest own index ref (Tf j).2.1 (Tf j).2.2.1 host).before args s = true) (hsame : ∀ x, s.fieldFound? (Tf j).1 (Tf j).2.1 (Tf j).2.2.1 = some x → s.fieldFound? ref (Tf j).2.1 (Tf j).2.2.1 = some x) (hfin : (Tf j).2.2.2 = false) {ty : FieldType} {v : Value} (hd : parseFieldDescriptor (Tf j).2.2.1 = some ty) (hn : narrow ty v = v) (hfit : fits ty v = true) (hl : j < fs.length) (u' : Mr) (ho : ∀ j : Nat, j ≠ k → u'.1 j = u.1 j ∧ u'.2.1 j = u.2.1 j ∧ u'.2.2 j = u.2.2 j) (hE' : Eg ad cA T (u'.1 k) (u'.2.1 k) (u'.2.2 k) = .inr (ci, fs.set j v)) (hdg : decode cc pc = .ok (.putfield index, 3))
    (kk : ∀ (H1 : Heap) (locs1 : List Loc), va_P D vwCl (ww ad cA L rs u') H1 → va_S A s.heap H1 locs1 → W p l e R s m args below meth c H1 locs1 cells slots Q (F0 m (pc + 3) ls rest)) : W p l e R s m args below meth c H locs cells slots Q (F0 m pc ls (v :: .ref (ad k) :: rest)) := by
  obtain ⟨q0, hq⟩ := ww_in hk
  exact va_putN hx hb hts hin ty0 hty hnm hown hK hP (hD u) hS q0 (by rw [ww_at hq, hT, hE]) hc j hj hlink hsame hfin hd hn hfit hl hdg
    (fun H1 locs1 hP1 _ hS1 => kk H1 locs1 (ww_P hN hq hP1 (fun h => by rw [hT, hE']; exact h) ho) hS1)
theorem x_iald (hx : p.tables.exec = Jvm.exec) (hb : c.code = cc) (hK : va_K D vwCl (tyl cA) s) (hP : va_P D vwCl (ww ad cA L rs u) H) (hk : k ∈ L) (hT : k / 64 = T) (t : Nat) {n : Nat} (hE : ∀ row rr lr, Eg ad cA T row rr lr = .inl (cA t, n, .inl (fun j => row (nI j)))) (ht : (tyl cA)[t]? = some (cA t, .int)) {i : Int32} (hin : vp_in i n) (hdg : decode cc pc = .ok (.iaload, 1))
    (kk : W p l e R s m args below meth c H locs cells slots Q (F0 m (pc + 1) ls (.int (u.1 k i) :: rest))) : W p l e R s m args below meth c H locs cells slots Q (F0 m pc ls (.int i :: .ref (ad k) :: rest)) := by
  obtain ⟨q0, hq⟩ := ww_in hk
  refine va_iald (f := fun j => u.1 k (nI j)) (n := n) hx hb hK hP q0 t (by rw [ww_at hq, hT, hE]) ht hin hdg ?_
  show W p l e R s m args below meth c H locs cells slots Q (F0 m (pc + 1) ls (.int (u.1 k (nI i.toNatClampNeg)) :: rest))
  rw [in_nI hin]
  exact kk
theorem x_bald (hx : p.tables.exec = Jvm.exec) (hb : c.code = cc) (hK : va_K D vwCl (tyl cA) s) (hP : va_P D vwCl (ww ad cA L rs u) H) (hk : k ∈ L) (hT : k / 64 = T) (t : Nat) {n : Nat} (hE : ∀ row rr lr, Eg ad cA T row rr lr = .inl (cA t, n, .inl (fun j => row (nI j)))) (ht : (tyl cA)[t]? = some (cA t, .byte)) {i : Int32} (hin : vp_in i n) (hdg : decode cc pc = .ok (.baload, 1))
    (kk : W p l e R s m args below meth c H locs cells slots Q (F0 m (pc + 1) ls (.int (u.1 k i) :: rest))) : W p l e R s m args below meth c H locs cells slots Q (F0 m pc ls (.int i :: .ref (ad k) :: rest)) := by
  obtain ⟨q0, hq⟩ := ww_in hk
  refine va_bald (f := fun j => u.1 k (nI j)) (n := n) hx hb hK hP q0 t (by rw [ww_at hq, hT, hE]) ht hin hdg ?_
  show W p l e R s m args below meth c H locs cells slots Q (F0 m (pc + 1) ls (.int (u.1 k (nI i.toNatClampNeg)) :: rest))
  rw [in_nI hin]
  exact kk
theorem x_zald (hx : p.tables.exec = Jvm.exec) (hb : c.code = cc) (hK : va_K D vwCl (tyl cA) s) (hP : va_P D vwCl (ww ad cA L rs u) H) (hk : k ∈ L) (hT : k / 64 = T) (t : Nat) {n : Nat} (hE : ∀ row rr lr, Eg ad cA T row rr lr = .inl (cA t, n, .inl (fun j => row (nI j)))) (ht : (tyl cA)[t]? = some (cA t, .boolean)) {i : Int32} (hin : vp_in i n) (hdg : decode cc pc = .ok (.baload, 1))
    (kk : W p l e R s m args below meth c H locs cells slots Q (F0 m (pc + 1) ls (.int (u.1 k i) :: rest))) : W p l e R s m args below meth c H locs cells slots Q (F0 m pc ls (.int i :: .ref (ad k) :: rest)) := by
  obtain ⟨q0, hq⟩ := ww_in hk
  refine va_zald (f := fun j => u.1 k (nI j)) (n := n) hx hb hK hP q0 t (by rw [ww_at hq, hT, hE]) ht hin hdg ?_
  show W p l e R s m args below meth c H locs cells slots Q (F0 m (pc + 1) ls (.int (u.1 k (nI i.toNatClampNeg)) :: rest))
  rw [in_nI hin]
  exact kk
theorem x_iast (hx : p.tables.exec = Jvm.exec) (hb : c.code = cc) (hK : va_K D vwCl (tyl cA) s) (hD : ∀ v : Mr, va_D A (ww ad cA L rs v)) (hN : L.Nodup) (hP : va_P D vwCl (ww ad cA L rs u) H) (hS : va_S A s.heap H locs) (hk : k ∈ L) (hT : k / 64 = T) (t : Nat) {n : Nat} (hE : ∀ row rr lr, Eg ad cA T row rr lr = .inl (cA t, n, .inl (fun j => row (nI j)))) (ht : (tyl cA)[t]? = some (cA t, .int)) (hn : n < 2 ^ 31) {i x : Int32} (hin : vp_in i n) (hdg : decode cc pc = .ok (.iastore, 1))
    (kk : ∀ (H1 : Heap) (locs1 : List Loc), va_P D vwCl (ww ad cA L rs (stI u k i (x))) H1 → va_S A s.heap H1 locs1 → W p l e R s m args below meth c H1 locs1 cells slots Q (F0 m (pc + 1) ls rest)) : W p l e R s m args below meth c H locs cells slots Q (F0 m pc ls (.int x :: .int i :: .ref (ad k) :: rest)) := by
  obtain ⟨q0, hq⟩ := ww_in hk
  refine va_iast (f := fun j => u.1 k (nI j)) (n := n) hx hb hK hP (hD u) hS q0 t (by rw [ww_at hq, hT, hE]) ht hin hdg (fun H1 locs1 hP1 _ hS1 => ?_)
  skip
  refine kk H1 locs1 (ww_P hN hq hP1 (fun h => ?_) stI_o) hS1
  rw [hT, hE]
  have h2 : H1[ad k]? = some (arrV (cA t) n (fun j => .int (upd (fun j => u.1 k (nI j)) i.toNatClampNeg (x) j))) := h
  show H1[ad k]? = some (arrV (cA t) n (fun j => .int ((stI u k i (x)).1 k (nI j))))
  rw [h2, arrV_cg (fun j hj => by rw [stI_row hin hn j hj])]
theorem x_bast (hx : p.tables.exec = Jvm.exec) (hb : c.code = cc) (hK : va_K D vwCl (tyl cA) s) (hD : ∀ v : Mr, va_D A (ww ad cA L rs v)) (hN : L.Nodup) (hP : va_P D vwCl (ww ad cA L rs u) H) (hS : va_S A s.heap H locs) (hk : k ∈ L) (hT : k / 64 = T) (t : Nat) {n : Nat} (hE : ∀ row rr lr, Eg ad cA T row rr lr = .inl (cA t, n, .inl (fun j => row (nI j)))) (ht : (tyl cA)[t]? = some (cA t, .byte)) (hn : n < 2 ^ 31) {i x : Int32} (hin : vp_in i n) (hdg : decode cc pc = .ok (.bastore, 1))
    (kk : ∀ (H1 : Heap) (locs1 : List Loc), va_P D vwCl (ww ad cA L rs (stI u k i (x.toInt8.toInt32))) H1 → va_S A s.heap H1 locs1 → W p l e R s m args below meth c H1 locs1 cells slots Q (F0 m (pc + 1) ls rest)) : W p l e R s m args below meth c H locs cells slots Q (F0 m pc ls (.int x :: .int i :: .ref (ad k) :: rest)) := by
  obtain ⟨q0, hq⟩ := ww_in hk
  refine va_bast (f := fun j => u.1 k (nI j)) (n := n) hx hb hK hP (hD u) hS q0 t (by rw [ww_at hq, hT, hE]) ht hin hdg (fun H1 locs1 hP1 _ hS1 => ?_)
  rw [vp_nar_byte] at hP1
  refine kk H1 locs1 (ww_P hN hq hP1 (fun h => ?_) stI_o) hS1
  rw [hT, hE]
  have h2 : H1[ad k]? = some (arrV (cA t) n (fun j => .int (upd (fun j => u.1 k (nI j)) i.toNatClampNeg (x.toInt8.toInt32) j))) := h
  show H1[ad k]? = some (arrV (cA t) n (fun j => .int ((stI u k i (x.toInt8.toInt32)).1 k (nI j))))
  rw [h2, arrV_cg (fun j hj => by rw [stI_row hin hn j hj])]
theorem x_zast (hx : p.tables.exec = Jvm.exec) (hb : c.code = cc) (hK : va_K D vwCl (tyl cA) s) (hD : ∀ v : Mr, va_D A (ww ad cA L rs v)) (hN : L.Nodup) (hP : va_P D vwCl (ww ad cA L rs u) H) (hS : va_S A s.heap H locs) (hk : k ∈ L) (hT : k / 64 = T) (t : Nat) {n : Nat} (hE : ∀ row rr lr, Eg ad cA T row rr lr = .inl (cA t, n, .inl (fun j => row (nI j)))) (ht : (tyl cA)[t]? = some (cA t, .boolean)) (hn : n < 2 ^ 31) {i x : Int32} (hin : vp_in i n) (hz : vp_nar .boolean x = x) (hdg : decode cc pc = .ok (.bastore, 1))
    (kk : ∀ (H1 : Heap) (locs1 : List Loc), va_P D vwCl (ww ad cA L rs (stI u k i (x))) H1 → va_S A s.heap H1 locs1 → W p l e R s m args below meth c H1 locs1 cells slots Q (F0 m (pc + 1) ls rest)) : W p l e R s m args below meth c H locs cells slots Q (F0 m pc ls (.int x :: .int i :: .ref (ad k) :: rest)) := by
  obtain ⟨q0, hq⟩ := ww_in hk
  refine va_zast (f := fun j => u.1 k (nI j)) (n := n) hx hb hK hP (hD u) hS q0 t (by rw [ww_at hq, hT, hE]) ht hin hdg (fun H1 locs1 hP1 _ hS1 => ?_)
  rw [hz] at hP1
  refine kk H1 locs1 (ww_P hN hq hP1 (fun h => ?_) stI_o) hS1
  rw [hT, hE]
  have h2 : H1[ad k]? = some (arrV (cA t) n (fun j => .int (upd (fun j => u.1 k (nI j)) i.toNatClampNeg (x) j))) := h
  show H1[ad k]? = some (arrV (cA t) n (fun j => .int ((stI u k i (x)).1 k (nI j))))
  rw [h2, arrV_cg (fun j hj => by rw [stI_row hin hn j hj])]
theorem x_bastB (hx : p.tables.exec = Jvm.exec) (hb : c.code = cc) (hK : va_K D vwCl (tyl cA) s) (hD : ∀ v : Mr, va_D A (ww ad cA L rs v)) (hN : L.Nodup) (hP : va_P D vwCl (ww ad cA L rs u) H) (hS : va_S A s.heap H locs) (hk : k ∈ L) (hT : k / 64 = T) (t : Nat) {n : Nat} (hE : ∀ row rr lr, Eg ad cA T row rr lr = .inl (cA t, n, .inl (fun j => row (nI j)))) (ht : (tyl cA)[t]? = some (cA t, .byte)) (hn : n < 2 ^ 31) {i z : Int32} (hin : vp_in i n) (hdg : decode cc pc = .ok (.bastore, 1))
    (kk : ∀ (H1 : Heap) (locs1 : List Loc), va_P D vwCl (ww ad cA L rs (stI u k i z.toInt8.toInt32)) H1 → va_S A s.heap H1 locs1 → W p l e R s m args below meth c H1 locs1 cells slots Q (F0 m (pc + 1) ls rest)) : W p l e R s m args below meth c H locs cells slots Q (F0 m pc ls (.int z.toInt8.toInt32 :: .int i :: .ref (ad k) :: rest)) := by
  refine x_bast hx hb hK hD hN hP hS hk hT t hE ht hn hin hdg (fun H1 locs1 hP1 hS1 => ?_)
  have e1 : z.toInt8.toInt32.toInt8.toInt32 = z.toInt8.toInt32 := by
    have := pk_vb z
    rw [vp_nar_byte] at this
    exact this
  rw [e1] at hP1
  exact kk H1 locs1 hP1 hS1
theorem isz_vp {v : Int32} (h : isz v = true) : vp_nar .boolean v = v := by
  have h1 : v = 0 ∨ v = 1 := of_decide_eq_true h
  rcases h1 with rfl | rfl <;> rfl
theorem x_aald (hx : p.tables.exec = Jvm.exec) (hb : c.code = cc) (hK : va_K D vwCl (tyl cA) s) (hP : va_P D vwCl (ww ad cA L rs u) H) (hk : k ∈ L) (hT : k / 64 = T) (t : Nat) {n : Nat} {ty : FieldType} (hE : ∀ row rr lr, Eg ad cA T row rr lr = .inl (cA t, n, .inr (.inr (.inr (.inr (fun j => (rr (nI j)).map ad)))))) (ht : (tyl cA)[t]? = some (cA t, ty)) (hty : ty.isReference = true) {i : Int32} {a : Nat} (hin : vp_in i n) (hr : u.2.1 k i = some a) (hdg : decode cc pc = .ok (.aaload, 1))
    (kk : W p l e R s m args below meth c H locs cells slots Q (F0 m (pc + 1) ls (.ref (ad a) :: rest))) : W p l e R s m args below meth c H locs cells slots Q (F0 m pc ls (.int i :: .ref (ad k) :: rest)) := by
  obtain ⟨q0, hq⟩ := ww_in hk
  have hlt : i.toNatClampNeg < n := Nat.not_le.mp fun q => hin (Or.inr q)
  have hcell : H[ad k]? = some (arrV (cA t) n (fun j => va_rf ((u.2.1 k (nI j)).map ad))) := by
    have h1 := hP q0 _ (ww_at hq)
    rw [hT, hE] at h1
    exact h1
  have e1 : va_rf ((u.2.1 k (nI i.toNatClampNeg)).map ad) = .ref (ad a) := by rw [in_nI hin, hr]; rfl
  exact W.aald (v := .ref (ad a)) (ty := ty) hx hb hcell ((hK.2 t _ ht).1 n _) hty (fun q => by cases q) (by rw [arrV_size]; exact hin) (by rw [arrV_read _ _ hlt, e1]) rfl rfl hdg kk
theorem x_alen (hx : p.tables.exec = Jvm.exec) (hb : c.code = cc) (hK : va_K D vwCl (tyl cA) s) (hP : va_P D vwCl (ww ad cA L rs u) H) (hk : k ∈ L) (hT : k / 64 = T) (t : Nat) {n : Nat} {ty : FieldType} {x : vp_A} (hE : Eg ad cA T (u.1 k) (u.2.1 k) (u.2.2 k) = .inl (cA t, x)) (hn : x.1 = n) (ht : (tyl cA)[t]? = some (cA t, ty)) {v : Int32} (hv : Int32.ofNat n = v) (hdg : decode cc pc = .ok (.arraylength, 1))
    (kk : W p l e R s m args below meth c H locs cells slots Q (F0 m (pc + 1) ls (.int v :: rest))) : W p l e R s m args below meth c H locs cells slots Q (F0 m pc ls (.ref (ad k) :: rest)) := by
  obtain ⟨q0, hq⟩ := ww_in hk
  exact va_alen hx hb hK hP q0 t (by rw [ww_at hq, hT, hE]) ht (by rw [hn]; exact hv) hdg kk
theorem x_hp {t : State} (hP : va_P D vwCl (ww ad cA L rs u) H) (ht : t.heap = H) : va_P D vwCl (ww ad cA L rs u) t.heap := by rw [ht]; exact hP
theorem x_iret {v : Int32} {out : Mr × Int32} (hx : p.tables.exec = Jvm.exec) (hb : c.code = cc) (hr : meth.sig.returnType = some .int) (hlocks : meth.locks = false) (h : some (u, v) = some out) (hP : va_P D vwCl (ww ad cA L rs u) H) (hS : va_S A s.heap H locs) (hdg : decode cc pc = .ok (.ireturn, 1)) : W p l e R s m args below meth c H locs 0 0 (QI below args s D cA ad L rs A out) (F0 m pc ls [.int v]) := by
  have e9 := Option.some.inj h
  exact W.iret hx hb hr (fun t ht hW => ⟨⟨v, u, rfl, ⟨congrArg Prod.snd e9, congrArg Prod.fst e9⟩, x_hp hP ht⟩, hS.F ht⟩) hS.2.2 hdg hlocks
theorem x_zret {v : Int32} {out : Mr × Int32} (hx : p.tables.exec = Jvm.exec) (hb : c.code = cc) (hr : meth.sig.returnType = some .boolean) (hlocks : meth.locks = false) (hn : narrow .boolean (.int v) = .int v) (h : some (u, v) = some out) (hP : va_P D vwCl (ww ad cA L rs u) H) (hS : va_S A s.heap H locs) (hdg : decode cc pc = .ok (.ireturn, 1)) : W p l e R s m args below meth c H locs 0 0 (QI below args s D cA ad L rs A out) (F0 m pc ls [.int v]) := by
  have e9 := Option.some.inj h
  exact W.zret hx hb hr hn (fun t ht hW => ⟨⟨v, u, rfl, ⟨congrArg Prod.snd e9, congrArg Prod.fst e9⟩, x_hp hP ht⟩, hS.F ht⟩) hS.2.2 hdg hlocks
theorem x_vret {v : Int32} {out : Mr × Int32} (hx : p.tables.exec = Jvm.exec) (hb : c.code = cc) (hr : meth.sig.returnType = none) (hlocks : meth.locks = false) (h : some (u, v) = some out) (hP : va_P D vwCl (ww ad cA L rs u) H) (hS : va_S A s.heap H locs) (hdg : decode cc pc = .ok (.return_, 1)) : W p l e R s m args below meth c H locs 0 0 (QV below args s D cA ad L rs A out) (F0 m pc ls []) := by
  have e9 := Option.some.inj h
  exact W.vret hx hb hr (fun t ht hW => ⟨⟨u, rfl, congrArg Prod.fst e9, x_hp hP ht⟩, hS.F ht⟩) hS.2.2 hdg hlocks
theorem x_aw (hA : ∀ q, s.heap.size ≤ q → A q) (hD : ∀ v : Mr, va_D A (ww ad cA L rs v)) (hS : va_S A s.heap H locs) : ∀ q, va_A (ww ad cA L rs u) H.size q → A q := fun q hq => by
  rcases hq with ⟨i, e, hi⟩ | hq
  · exact (hD u).2 i _ hi
  · exact hA q (Nat.le_trans hS.1 hq)
theorem x_ci {out : Mr × Int32} {a : Array Value} {st0 : List Value} (hA : ∀ q, s.heap.size ≤ q → A q) (hD : ∀ v : Mr, va_D A (ww ad cA L rs v)) (hS : va_S A s.heap H locs)
    (hrun : va_Run p l e R s m args below meth c H locs 0 0 0 0 (F0 m pc ls st0) rest (va_Qi (fun (r : Int32) (v : Mr) => r = out.2 ∧ v = out.1) (fun v t => va_P D vwCl (ww ad cA L rs v) t.heap) (va_A (ww ad cA L rs u) H.size) a) (va_A (ww ad cA L rs u) H.size))
    (kk : ∀ (H1 : Heap) (locs1 : List Loc), va_P D vwCl (ww ad cA L rs out.1) H1 → va_S A s.heap H1 locs1 → W p l e R s m args below meth c H1 locs1 0 0 Q (F0 m (pc + 3) ls (.int out.2 :: rest))) : W p l e R s m args below meth c H locs 0 0 Q (F0 m pc ls st0) := by
  refine va_calli hrun hS (fun q _ h => x_aw hA hD hS q h) (x_aw hA hD hS) (fun r v t H1 locs1 ht hvm hpost hB hz hk hS1 => ?_)
  obtain ⟨rfl, rfl⟩ := hpost
  rw [ht] at hB
  exact kk H1 locs1 hB hS1
theorem x_cv {out : Mr × Int32} {a : Array Value} {st0 : List Value} (hA : ∀ q, s.heap.size ≤ q → A q) (hD : ∀ v : Mr, va_D A (ww ad cA L rs v)) (hS : va_S A s.heap H locs)
    (hrun : va_Run p l e R s m args below meth c H locs 0 0 0 0 (F0 m pc ls st0) rest (va_Qv (fun (v : Mr) => v = out.1) (fun v t => va_P D vwCl (ww ad cA L rs v) t.heap) (va_A (ww ad cA L rs u) H.size) a) (va_A (ww ad cA L rs u) H.size))
    (kk : ∀ (H1 : Heap) (locs1 : List Loc), va_P D vwCl (ww ad cA L rs out.1) H1 → va_S A s.heap H1 locs1 → W p l e R s m args below meth c H1 locs1 0 0 Q (F0 m (pc + 3) ls rest)) : W p l e R s m args below meth c H locs 0 0 Q (F0 m pc ls st0) := by
  refine va_callv hrun hS (fun q _ h => x_aw hA hD hS q h) (x_aw hA hD hS) (fun v t H1 locs1 ht hvm hpost hB hz hk hS1 => ?_)
  obtain rfl := hpost
  rw [ht] at hB
  exact kk H1 locs1 hB hS1
theorem x_bl {as : List Value} {sz : Nat} : FrameBlind (va_Pc as (PrU D cA ad L rs u sz)) := fun a U g mk q => by
  obtain ⟨q0, q1, qP, qK, qD, qN⟩ := q
  exact ⟨q0, q1, qP, va_K.moved (u := U) (U := U.calling g mk a) (Vm.Alike.refl U.vm) qK, qD, Nx.same rfl qN⟩
theorem x_pre {as : List Value} (hK : va_K D vwCl (tyl cA) s) (hD : ∀ v : Mr, va_D A (ww ad cA L rs v)) (hNx : Nx s) (hP : va_P D vwCl (ww ad cA L rs u) H) : ∀ U : State, U.heap = H → s.WarmedH U.vm → va_Pc as (PrU D cA ad L rs u H.size) as.toArray U := fun U hU hW =>
  ⟨rfl, by rw [hU], by rw [hU]; exact hP, va_K.moved hW.alike hK, (hD u).weaken (fun _ _ _ _ => trivial), Nx.warm hW hNx⟩
theorem x_preS {as : List Value} (hK : va_K D vwCl (tyl cA) s) (hD : ∀ v : Mr, va_D A (ww ad cA L rs v)) (hNx : Nx s) (hP : va_P D vwCl (ww ad cA L rs u) H) : PreS s H (va_Pc as (PrU D cA ad L rs u H.size)) as := ⟨x_bl, x_pre hK hD hNx hP⟩
theorem x_preV {as : List Value} (hK : va_K D vwCl (tyl cA) s) (hD : ∀ v : Mr, va_D A (ww ad cA L rs v)) (hNx : Nx s) (hP : va_P D vwCl (ww ad cA L rs u) H) (hk : k ∈ L) (hT : k / 64 = T) {ci : Nat} {fs : List Value} {r : vw_C} (hE : Eg ad cA T (u.1 k) (u.2.1 k) (u.2.2 k) = .inr (ci, fs)) (hc : vwCl[ci]? = some r) : PreV s H r.1 (ad k) (va_Pc (.ref (ad k) :: as) (PrU D cA ad L rs u H.size)) as := by
  obtain ⟨q0, hq⟩ := ww_in hk
  exact ⟨x_bl, va_recv (fs := fs) hK hP hc (q0 := q0) (by rw [ww_at hq, hT, hE]), x_pre hK hD hNx hP⟩
end
end
section
abbrev yIm_isNone : MethodName := ⟨"ImageForge$Image", "isNone", "()Z"⟩
abbrev cIm_isNone : ByteArray := prog_2_method_2_code
abbrev wsIm_isNone : List Cond := .code yIm_isNone cIm_isNone 1 (some .boolean) :: bw
theorem gdIm_isNone : GoodIn bw wsIm_isNone := gd_of tw_694
theorem hdIm_isNone : yIm_isNone.cls ≠ "java/lang/invoke/MethodHandle" ∧ yIm_isNone.cls ≠ "java/lang/invoke/VarHandle" ∧ (parseMethodDescriptor yIm_isNone.desc).map (fun d => d.parameters.length) = some 0 := by decide +kernel
theorem dIm_isNone_0 : decode cIm_isNone 0 = .ok (.aload_n 0, 1) := by decide +kernel
theorem dIm_isNone_1 : decode cIm_isNone 1 = .ok (.getfield 15, 3) := by decide +kernel
theorem dIm_isNone_4 : decode cIm_isNone 4 = .ok (.ifCond .ne 7, 3) := by decide +kernel
theorem dIm_isNone_7 : decode cIm_isNone 7 = .ok (.iconst 1, 1) := by decide +kernel
theorem dIm_isNone_8 : decode cIm_isNone 8 = .ok (.goto 4, 3) := by decide +kernel
theorem dIm_isNone_11 : decode cIm_isNone 11 = .ok (.iconst 0, 1) := by decide +kernel
theorem dIm_isNone_12 : decode cIm_isNone 12 = .ok (.ireturn, 1) := by decide +kernel
abbrev yIm_byteAt : MethodName := ⟨"ImageForge$Image", "byteAt", "(I)I"⟩
abbrev cIm_byteAt : ByteArray := prog_2_method_5_code
abbrev wsIm_byteAt : List Cond := .code yIm_byteAt cIm_byteAt 2 (some .int) :: bw
theorem gdIm_byteAt : GoodIn bw wsIm_byteAt := gd_of tw_229
theorem hdIm_byteAt : yIm_byteAt.cls ≠ "java/lang/invoke/MethodHandle" ∧ yIm_byteAt.cls ≠ "java/lang/invoke/VarHandle" ∧ (parseMethodDescriptor yIm_byteAt.desc).map (fun d => d.parameters.length) = some 1 := by decide +kernel
theorem dIm_byteAt_0 : decode cIm_byteAt 0 = .ok (.aload_n 0, 1) := by decide +kernel
theorem dIm_byteAt_1 : decode cIm_byteAt 1 = .ok (.getfield 9, 3) := by decide +kernel
theorem dIm_byteAt_4 : decode cIm_byteAt 4 = .ok (.iload_n 1, 1) := by decide +kernel
theorem dIm_byteAt_5 : decode cIm_byteAt 5 = .ok (.baload, 1) := by decide +kernel
theorem dIm_byteAt_6 : decode cIm_byteAt 6 = .ok (.sipush 255, 3) := by decide +kernel
theorem dIm_byteAt_9 : decode cIm_byteAt 9 = .ok (.iand, 1) := by decide +kernel
theorem dIm_byteAt_10 : decode cIm_byteAt 10 = .ok (.ireturn, 1) := by decide +kernel
abbrev yIm_setByte : MethodName := ⟨"ImageForge$Image", "setByte", "(II)V"⟩
abbrev cIm_setByte : ByteArray := prog_2_method_6_code
abbrev wsIm_setByte : List Cond := .code yIm_setByte cIm_setByte 3 none :: bw
theorem gdIm_setByte : GoodIn bw wsIm_setByte := gd_of tw_683
theorem hdIm_setByte : yIm_setByte.cls ≠ "java/lang/invoke/MethodHandle" ∧ yIm_setByte.cls ≠ "java/lang/invoke/VarHandle" ∧ (parseMethodDescriptor yIm_setByte.desc).map (fun d => d.parameters.length) = some 2 := by decide +kernel
theorem dIm_setByte_0 : decode cIm_setByte 0 = .ok (.aload_n 0, 1) := by decide +kernel
theorem dIm_setByte_1 : decode cIm_setByte 1 = .ok (.getfield 9, 3) := by decide +kernel
theorem dIm_setByte_4 : decode cIm_setByte 4 = .ok (.iload_n 1, 1) := by decide +kernel
theorem dIm_setByte_5 : decode cIm_setByte 5 = .ok (.iload_n 2, 1) := by decide +kernel
theorem dIm_setByte_6 : decode cIm_setByte 6 = .ok (.i2b, 1) := by decide +kernel
theorem dIm_setByte_7 : decode cIm_setByte 7 = .ok (.bastore, 1) := by decide +kernel
theorem dIm_setByte_8 : decode cIm_setByte 8 = .ok (.return_, 1) := by decide +kernel
abbrev yIm_halfAt : MethodName := ⟨"ImageForge$Image", "halfAt", "(I)I"⟩
abbrev cIm_halfAt : ByteArray := prog_2_method_7_code
abbrev wsIm_halfAt : List Cond := .code yIm_halfAt cIm_halfAt 2 (some .int) :: bw
theorem gdIm_halfAt : GoodIn bw wsIm_halfAt := gd_of tw_662
theorem hdIm_halfAt : yIm_halfAt.cls ≠ "java/lang/invoke/MethodHandle" ∧ yIm_halfAt.cls ≠ "java/lang/invoke/VarHandle" ∧ (parseMethodDescriptor yIm_halfAt.desc).map (fun d => d.parameters.length) = some 1 := by decide +kernel
theorem dIm_halfAt_0 : decode cIm_halfAt 0 = .ok (.aload_n 0, 1) := by decide +kernel
theorem dIm_halfAt_1 : decode cIm_halfAt 1 = .ok (.getfield 9, 3) := by decide +kernel
theorem dIm_halfAt_4 : decode cIm_halfAt 4 = .ok (.iload_n 1, 1) := by decide +kernel
theorem dIm_halfAt_5 : decode cIm_halfAt 5 = .ok (.baload, 1) := by decide +kernel
theorem dIm_halfAt_6 : decode cIm_halfAt 6 = .ok (.sipush 255, 3) := by decide +kernel
theorem dIm_halfAt_9 : decode cIm_halfAt 9 = .ok (.iand, 1) := by decide +kernel
theorem dIm_halfAt_10 : decode cIm_halfAt 10 = .ok (.aload_n 0, 1) := by decide +kernel
theorem dIm_halfAt_11 : decode cIm_halfAt 11 = .ok (.getfield 9, 3) := by decide +kernel
theorem dIm_halfAt_14 : decode cIm_halfAt 14 = .ok (.iload_n 1, 1) := by decide +kernel
theorem dIm_halfAt_15 : decode cIm_halfAt 15 = .ok (.iconst 1, 1) := by decide +kernel
theorem dIm_halfAt_16 : decode cIm_halfAt 16 = .ok (.iadd, 1) := by decide +kernel
theorem dIm_halfAt_17 : decode cIm_halfAt 17 = .ok (.baload, 1) := by decide +kernel
theorem dIm_halfAt_18 : decode cIm_halfAt 18 = .ok (.sipush 255, 3) := by decide +kernel
theorem dIm_halfAt_21 : decode cIm_halfAt 21 = .ok (.iand, 1) := by decide +kernel
theorem dIm_halfAt_22 : decode cIm_halfAt 22 = .ok (.bipush 8, 2) := by decide +kernel
theorem dIm_halfAt_24 : decode cIm_halfAt 24 = .ok (.ishl, 1) := by decide +kernel
theorem dIm_halfAt_25 : decode cIm_halfAt 25 = .ok (.ior, 1) := by decide +kernel
theorem dIm_halfAt_26 : decode cIm_halfAt 26 = .ok (.ireturn, 1) := by decide +kernel
abbrev yIm_setHalf : MethodName := ⟨"ImageForge$Image", "setHalf", "(II)V"⟩
abbrev cIm_setHalf : ByteArray := prog_2_method_8_code
abbrev wsIm_setHalf : List Cond := .code yIm_setHalf cIm_setHalf 3 none :: bw
theorem gdIm_setHalf : GoodIn bw wsIm_setHalf := gd_of tw_649
theorem hdIm_setHalf : yIm_setHalf.cls ≠ "java/lang/invoke/MethodHandle" ∧ yIm_setHalf.cls ≠ "java/lang/invoke/VarHandle" ∧ (parseMethodDescriptor yIm_setHalf.desc).map (fun d => d.parameters.length) = some 2 := by decide +kernel
theorem dIm_setHalf_0 : decode cIm_setHalf 0 = .ok (.aload_n 0, 1) := by decide +kernel
theorem dIm_setHalf_1 : decode cIm_setHalf 1 = .ok (.getfield 9, 3) := by decide +kernel
theorem dIm_setHalf_4 : decode cIm_setHalf 4 = .ok (.iload_n 1, 1) := by decide +kernel
theorem dIm_setHalf_5 : decode cIm_setHalf 5 = .ok (.iload_n 2, 1) := by decide +kernel
theorem dIm_setHalf_6 : decode cIm_setHalf 6 = .ok (.i2b, 1) := by decide +kernel
theorem dIm_setHalf_7 : decode cIm_setHalf 7 = .ok (.bastore, 1) := by decide +kernel
theorem dIm_setHalf_8 : decode cIm_setHalf 8 = .ok (.aload_n 0, 1) := by decide +kernel
theorem dIm_setHalf_9 : decode cIm_setHalf 9 = .ok (.getfield 9, 3) := by decide +kernel
theorem dIm_setHalf_12 : decode cIm_setHalf 12 = .ok (.iload_n 1, 1) := by decide +kernel
theorem dIm_setHalf_13 : decode cIm_setHalf 13 = .ok (.iconst 1, 1) := by decide +kernel
theorem dIm_setHalf_14 : decode cIm_setHalf 14 = .ok (.iadd, 1) := by decide +kernel
theorem dIm_setHalf_15 : decode cIm_setHalf 15 = .ok (.iload_n 2, 1) := by decide +kernel
theorem dIm_setHalf_16 : decode cIm_setHalf 16 = .ok (.bipush 8, 2) := by decide +kernel
theorem dIm_setHalf_18 : decode cIm_setHalf 18 = .ok (.ishr, 1) := by decide +kernel
theorem dIm_setHalf_19 : decode cIm_setHalf 19 = .ok (.i2b, 1) := by decide +kernel
theorem dIm_setHalf_20 : decode cIm_setHalf 20 = .ok (.bastore, 1) := by decide +kernel
theorem dIm_setHalf_21 : decode cIm_setHalf 21 = .ok (.return_, 1) := by decide +kernel
abbrev yIm_wordAt : MethodName := ⟨"ImageForge$Image", "wordAt", "(I)I"⟩
abbrev cIm_wordAt : ByteArray := prog_2_method_9_code
abbrev wsIm_wordAt : List Cond := .code yIm_wordAt cIm_wordAt 2 (some .int) :: bw
theorem gdIm_wordAt : GoodIn bw wsIm_wordAt := gd_of tw_241
theorem hdIm_wordAt : yIm_wordAt.cls ≠ "java/lang/invoke/MethodHandle" ∧ yIm_wordAt.cls ≠ "java/lang/invoke/VarHandle" ∧ (parseMethodDescriptor yIm_wordAt.desc).map (fun d => d.parameters.length) = some 1 := by decide +kernel
theorem dIm_wordAt_0 : decode cIm_wordAt 0 = .ok (.aload_n 0, 1) := by decide +kernel
theorem dIm_wordAt_1 : decode cIm_wordAt 1 = .ok (.getfield 9, 3) := by decide +kernel
theorem dIm_wordAt_4 : decode cIm_wordAt 4 = .ok (.iload_n 1, 1) := by decide +kernel
theorem dIm_wordAt_5 : decode cIm_wordAt 5 = .ok (.baload, 1) := by decide +kernel
theorem dIm_wordAt_6 : decode cIm_wordAt 6 = .ok (.sipush 255, 3) := by decide +kernel
theorem dIm_wordAt_9 : decode cIm_wordAt 9 = .ok (.iand, 1) := by decide +kernel
theorem dIm_wordAt_10 : decode cIm_wordAt 10 = .ok (.aload_n 0, 1) := by decide +kernel
theorem dIm_wordAt_11 : decode cIm_wordAt 11 = .ok (.getfield 9, 3) := by decide +kernel
theorem dIm_wordAt_14 : decode cIm_wordAt 14 = .ok (.iload_n 1, 1) := by decide +kernel
theorem dIm_wordAt_15 : decode cIm_wordAt 15 = .ok (.iconst 1, 1) := by decide +kernel
theorem dIm_wordAt_16 : decode cIm_wordAt 16 = .ok (.iadd, 1) := by decide +kernel
theorem dIm_wordAt_17 : decode cIm_wordAt 17 = .ok (.baload, 1) := by decide +kernel
theorem dIm_wordAt_18 : decode cIm_wordAt 18 = .ok (.sipush 255, 3) := by decide +kernel
theorem dIm_wordAt_21 : decode cIm_wordAt 21 = .ok (.iand, 1) := by decide +kernel
theorem dIm_wordAt_22 : decode cIm_wordAt 22 = .ok (.bipush 8, 2) := by decide +kernel
theorem dIm_wordAt_24 : decode cIm_wordAt 24 = .ok (.ishl, 1) := by decide +kernel
theorem dIm_wordAt_25 : decode cIm_wordAt 25 = .ok (.ior, 1) := by decide +kernel
theorem dIm_wordAt_26 : decode cIm_wordAt 26 = .ok (.aload_n 0, 1) := by decide +kernel
theorem dIm_wordAt_27 : decode cIm_wordAt 27 = .ok (.getfield 9, 3) := by decide +kernel
theorem dIm_wordAt_30 : decode cIm_wordAt 30 = .ok (.iload_n 1, 1) := by decide +kernel
theorem dIm_wordAt_31 : decode cIm_wordAt 31 = .ok (.iconst 2, 1) := by decide +kernel
theorem dIm_wordAt_32 : decode cIm_wordAt 32 = .ok (.iadd, 1) := by decide +kernel
theorem dIm_wordAt_33 : decode cIm_wordAt 33 = .ok (.baload, 1) := by decide +kernel
theorem dIm_wordAt_34 : decode cIm_wordAt 34 = .ok (.sipush 255, 3) := by decide +kernel
theorem dIm_wordAt_37 : decode cIm_wordAt 37 = .ok (.iand, 1) := by decide +kernel
theorem dIm_wordAt_38 : decode cIm_wordAt 38 = .ok (.bipush 16, 2) := by decide +kernel
theorem dIm_wordAt_40 : decode cIm_wordAt 40 = .ok (.ishl, 1) := by decide +kernel
theorem dIm_wordAt_41 : decode cIm_wordAt 41 = .ok (.ior, 1) := by decide +kernel
theorem dIm_wordAt_42 : decode cIm_wordAt 42 = .ok (.aload_n 0, 1) := by decide +kernel
theorem dIm_wordAt_43 : decode cIm_wordAt 43 = .ok (.getfield 9, 3) := by decide +kernel
theorem dIm_wordAt_46 : decode cIm_wordAt 46 = .ok (.iload_n 1, 1) := by decide +kernel
theorem dIm_wordAt_47 : decode cIm_wordAt 47 = .ok (.iconst 3, 1) := by decide +kernel
theorem dIm_wordAt_48 : decode cIm_wordAt 48 = .ok (.iadd, 1) := by decide +kernel
theorem dIm_wordAt_49 : decode cIm_wordAt 49 = .ok (.baload, 1) := by decide +kernel
theorem dIm_wordAt_50 : decode cIm_wordAt 50 = .ok (.sipush 255, 3) := by decide +kernel
theorem dIm_wordAt_53 : decode cIm_wordAt 53 = .ok (.iand, 1) := by decide +kernel
theorem dIm_wordAt_54 : decode cIm_wordAt 54 = .ok (.bipush 24, 2) := by decide +kernel
theorem dIm_wordAt_56 : decode cIm_wordAt 56 = .ok (.ishl, 1) := by decide +kernel
theorem dIm_wordAt_57 : decode cIm_wordAt 57 = .ok (.ior, 1) := by decide +kernel
theorem dIm_wordAt_58 : decode cIm_wordAt 58 = .ok (.ireturn, 1) := by decide +kernel
abbrev yIm_setWord : MethodName := ⟨"ImageForge$Image", "setWord", "(II)V"⟩
abbrev cIm_setWord : ByteArray := prog_2_method_10_code
abbrev wsIm_setWord : List Cond := .code yIm_setWord cIm_setWord 4 none :: bw
theorem gdIm_setWord : GoodIn bw wsIm_setWord := gd_of tw_585
theorem hdIm_setWord : yIm_setWord.cls ≠ "java/lang/invoke/MethodHandle" ∧ yIm_setWord.cls ≠ "java/lang/invoke/VarHandle" ∧ (parseMethodDescriptor yIm_setWord.desc).map (fun d => d.parameters.length) = some 2 := by decide +kernel
theorem dIm_setWord_0 : decode cIm_setWord 0 = .ok (.iconst 0, 1) := by decide +kernel
theorem dIm_setWord_1 : decode cIm_setWord 1 = .ok (.istore_n 3, 1) := by decide +kernel
theorem dIm_setWord_2 : decode cIm_setWord 2 = .ok (.iload_n 3, 1) := by decide +kernel
theorem dIm_setWord_3 : decode cIm_setWord 3 = .ok (.iconst 4, 1) := by decide +kernel
theorem dIm_setWord_4 : decode cIm_setWord 4 = .ok (.if_icmp .ge 24, 3) := by decide +kernel
theorem dIm_setWord_7 : decode cIm_setWord 7 = .ok (.aload_n 0, 1) := by decide +kernel
theorem dIm_setWord_8 : decode cIm_setWord 8 = .ok (.getfield 9, 3) := by decide +kernel
theorem dIm_setWord_11 : decode cIm_setWord 11 = .ok (.iload_n 1, 1) := by decide +kernel
theorem dIm_setWord_12 : decode cIm_setWord 12 = .ok (.iload_n 3, 1) := by decide +kernel
theorem dIm_setWord_13 : decode cIm_setWord 13 = .ok (.iadd, 1) := by decide +kernel
theorem dIm_setWord_14 : decode cIm_setWord 14 = .ok (.iload_n 2, 1) := by decide +kernel
theorem dIm_setWord_15 : decode cIm_setWord 15 = .ok (.bipush 8, 2) := by decide +kernel
theorem dIm_setWord_17 : decode cIm_setWord 17 = .ok (.iload_n 3, 1) := by decide +kernel
theorem dIm_setWord_18 : decode cIm_setWord 18 = .ok (.imul, 1) := by decide +kernel
theorem dIm_setWord_19 : decode cIm_setWord 19 = .ok (.ishr, 1) := by decide +kernel
theorem dIm_setWord_20 : decode cIm_setWord 20 = .ok (.i2b, 1) := by decide +kernel
theorem dIm_setWord_21 : decode cIm_setWord 21 = .ok (.bastore, 1) := by decide +kernel
theorem dIm_setWord_22 : decode cIm_setWord 22 = .ok (.iinc 3 1, 3) := by decide +kernel
theorem dIm_setWord_25 : decode cIm_setWord 25 = .ok (.goto (-23), 3) := by decide +kernel
theorem dIm_setWord_28 : decode cIm_setWord 28 = .ok (.return_, 1) := by decide +kernel
abbrev yIm_addToWord : MethodName := ⟨"ImageForge$Image", "addToWord", "(II)V"⟩
abbrev cIm_addToWord : ByteArray := prog_2_method_11_code
abbrev wsIm_addToWord : List Cond := .code yIm_addToWord cIm_addToWord 3 none :: bw
theorem gdIm_addToWord : GoodIn bw wsIm_addToWord := gd_of tw_636
theorem hdIm_addToWord : yIm_addToWord.cls ≠ "java/lang/invoke/MethodHandle" ∧ yIm_addToWord.cls ≠ "java/lang/invoke/VarHandle" ∧ (parseMethodDescriptor yIm_addToWord.desc).map (fun d => d.parameters.length) = some 2 := by decide +kernel
theorem dIm_addToWord_0 : decode cIm_addToWord 0 = .ok (.aload_n 0, 1) := by decide +kernel
theorem dIm_addToWord_1 : decode cIm_addToWord 1 = .ok (.iload_n 1, 1) := by decide +kernel
theorem dIm_addToWord_2 : decode cIm_addToWord 2 = .ok (.aload_n 0, 1) := by decide +kernel
theorem dIm_addToWord_3 : decode cIm_addToWord 3 = .ok (.iload_n 1, 1) := by decide +kernel
theorem dIm_addToWord_4 : decode cIm_addToWord 4 = .ok (.invokevirtual 31, 3) := by decide +kernel
theorem dIm_addToWord_7 : decode cIm_addToWord 7 = .ok (.iload_n 2, 1) := by decide +kernel
theorem dIm_addToWord_8 : decode cIm_addToWord 8 = .ok (.iadd, 1) := by decide +kernel
theorem dIm_addToWord_9 : decode cIm_addToWord 9 = .ok (.invokevirtual 35, 3) := by decide +kernel
theorem dIm_addToWord_12 : decode cIm_addToWord 12 = .ok (.return_, 1) := by decide +kernel
abbrev yIm_holdsWord : MethodName := ⟨"ImageForge$Image", "holdsWord", "(J)Z"⟩
abbrev cIm_holdsWord : ByteArray := prog_2_method_12_code
abbrev wsIm_holdsWord : List Cond := .code yIm_holdsWord cIm_holdsWord 3 (some .boolean) :: bw
theorem gdIm_holdsWord : GoodIn bw wsIm_holdsWord := gd_of tw_763
theorem hdIm_holdsWord : yIm_holdsWord.cls ≠ "java/lang/invoke/MethodHandle" ∧ yIm_holdsWord.cls ≠ "java/lang/invoke/VarHandle" ∧ (parseMethodDescriptor yIm_holdsWord.desc).map (fun d => d.parameters.length) = some 1 := by decide +kernel
theorem dIm_holdsWord_0 : decode cIm_holdsWord 0 = .ok (.lload_n 1, 1) := by decide +kernel
theorem dIm_holdsWord_1 : decode cIm_holdsWord 1 = .ok (.lconst 0, 1) := by decide +kernel
theorem dIm_holdsWord_2 : decode cIm_holdsWord 2 = .ok (.lcmp, 1) := by decide +kernel
theorem dIm_holdsWord_3 : decode cIm_holdsWord 3 = .ok (.ifCond .lt 19, 3) := by decide +kernel
theorem dIm_holdsWord_6 : decode cIm_holdsWord 6 = .ok (.lload_n 1, 1) := by decide +kernel
theorem dIm_holdsWord_7 : decode cIm_holdsWord 7 = .ok (.aload_n 0, 1) := by decide +kernel
theorem dIm_holdsWord_8 : decode cIm_holdsWord 8 = .ok (.getfield 15, 3) := by decide +kernel
theorem dIm_holdsWord_11 : decode cIm_holdsWord 11 = .ok (.iconst 4, 1) := by decide +kernel
theorem dIm_holdsWord_12 : decode cIm_holdsWord 12 = .ok (.isub, 1) := by decide +kernel
theorem dIm_holdsWord_13 : decode cIm_holdsWord 13 = .ok (.i2l, 1) := by decide +kernel
theorem dIm_holdsWord_14 : decode cIm_holdsWord 14 = .ok (.lcmp, 1) := by decide +kernel
theorem dIm_holdsWord_15 : decode cIm_holdsWord 15 = .ok (.ifCond .gt 7, 3) := by decide +kernel
theorem dIm_holdsWord_18 : decode cIm_holdsWord 18 = .ok (.iconst 1, 1) := by decide +kernel
theorem dIm_holdsWord_19 : decode cIm_holdsWord 19 = .ok (.goto 4, 3) := by decide +kernel
theorem dIm_holdsWord_22 : decode cIm_holdsWord 22 = .ok (.iconst 0, 1) := by decide +kernel
theorem dIm_holdsWord_23 : decode cIm_holdsWord 23 = .ok (.ireturn, 1) := by decide +kernel
abbrev yIm_sectionBegin : MethodName := ⟨"ImageForge$Image", "sectionBegin", "(I)I"⟩
abbrev cIm_sectionBegin : ByteArray := prog_2_method_13_code
abbrev wsIm_sectionBegin : List Cond := .code yIm_sectionBegin cIm_sectionBegin 2 (some .int) :: bw
theorem gdIm_sectionBegin : GoodIn bw wsIm_sectionBegin := gd_of tw_744
theorem hdIm_sectionBegin : yIm_sectionBegin.cls ≠ "java/lang/invoke/MethodHandle" ∧ yIm_sectionBegin.cls ≠ "java/lang/invoke/VarHandle" ∧ (parseMethodDescriptor yIm_sectionBegin.desc).map (fun d => d.parameters.length) = some 1 := by decide +kernel
theorem dIm_sectionBegin_0 : decode cIm_sectionBegin 0 = .ok (.aload_n 0, 1) := by decide +kernel
theorem dIm_sectionBegin_1 : decode cIm_sectionBegin 1 = .ok (.bipush 24, 2) := by decide +kernel
theorem dIm_sectionBegin_3 : decode cIm_sectionBegin 3 = .ok (.iload_n 1, 1) := by decide +kernel
theorem dIm_sectionBegin_4 : decode cIm_sectionBegin 4 = .ok (.bipush 8, 2) := by decide +kernel
theorem dIm_sectionBegin_6 : decode cIm_sectionBegin 6 = .ok (.imul, 1) := by decide +kernel
theorem dIm_sectionBegin_7 : decode cIm_sectionBegin 7 = .ok (.iadd, 1) := by decide +kernel
theorem dIm_sectionBegin_8 : decode cIm_sectionBegin 8 = .ok (.invokevirtual 31, 3) := by decide +kernel
theorem dIm_sectionBegin_11 : decode cIm_sectionBegin 11 = .ok (.ireturn, 1) := by decide +kernel
abbrev yIm_sectionSize : MethodName := ⟨"ImageForge$Image", "sectionSize", "(I)I"⟩
abbrev cIm_sectionSize : ByteArray := prog_2_method_14_code
abbrev wsIm_sectionSize : List Cond := .code yIm_sectionSize cIm_sectionSize 2 (some .int) :: bw
theorem gdIm_sectionSize : GoodIn bw wsIm_sectionSize := gd_of tw_748
theorem hdIm_sectionSize : yIm_sectionSize.cls ≠ "java/lang/invoke/MethodHandle" ∧ yIm_sectionSize.cls ≠ "java/lang/invoke/VarHandle" ∧ (parseMethodDescriptor yIm_sectionSize.desc).map (fun d => d.parameters.length) = some 1 := by decide +kernel
theorem dIm_sectionSize_0 : decode cIm_sectionSize 0 = .ok (.aload_n 0, 1) := by decide +kernel
theorem dIm_sectionSize_1 : decode cIm_sectionSize 1 = .ok (.bipush 24, 2) := by decide +kernel
theorem dIm_sectionSize_3 : decode cIm_sectionSize 3 = .ok (.iload_n 1, 1) := by decide +kernel
theorem dIm_sectionSize_4 : decode cIm_sectionSize 4 = .ok (.bipush 8, 2) := by decide +kernel
theorem dIm_sectionSize_6 : decode cIm_sectionSize 6 = .ok (.imul, 1) := by decide +kernel
theorem dIm_sectionSize_7 : decode cIm_sectionSize 7 = .ok (.iadd, 1) := by decide +kernel
theorem dIm_sectionSize_8 : decode cIm_sectionSize 8 = .ok (.iconst 4, 1) := by decide +kernel
theorem dIm_sectionSize_9 : decode cIm_sectionSize 9 = .ok (.iadd, 1) := by decide +kernel
theorem dIm_sectionSize_10 : decode cIm_sectionSize 10 = .ok (.invokevirtual 31, 3) := by decide +kernel
theorem dIm_sectionSize_13 : decode cIm_sectionSize 13 = .ok (.ireturn, 1) := by decide +kernel
abbrev yIm_setSection : MethodName := ⟨"ImageForge$Image", "setSection", "(III)V"⟩
abbrev cIm_setSection : ByteArray := prog_2_method_15_code
abbrev wsIm_setSection : List Cond := .code yIm_setSection cIm_setSection 4 none :: bw
theorem gdIm_setSection : GoodIn bw wsIm_setSection := gd_of tw_581
theorem hdIm_setSection : yIm_setSection.cls ≠ "java/lang/invoke/MethodHandle" ∧ yIm_setSection.cls ≠ "java/lang/invoke/VarHandle" ∧ (parseMethodDescriptor yIm_setSection.desc).map (fun d => d.parameters.length) = some 3 := by decide +kernel
theorem dIm_setSection_0 : decode cIm_setSection 0 = .ok (.aload_n 0, 1) := by decide +kernel
theorem dIm_setSection_1 : decode cIm_setSection 1 = .ok (.bipush 24, 2) := by decide +kernel
theorem dIm_setSection_3 : decode cIm_setSection 3 = .ok (.iload_n 1, 1) := by decide +kernel
theorem dIm_setSection_4 : decode cIm_setSection 4 = .ok (.bipush 8, 2) := by decide +kernel
theorem dIm_setSection_6 : decode cIm_setSection 6 = .ok (.imul, 1) := by decide +kernel
theorem dIm_setSection_7 : decode cIm_setSection 7 = .ok (.iadd, 1) := by decide +kernel
theorem dIm_setSection_8 : decode cIm_setSection 8 = .ok (.iload_n 2, 1) := by decide +kernel
theorem dIm_setSection_9 : decode cIm_setSection 9 = .ok (.invokevirtual 35, 3) := by decide +kernel
theorem dIm_setSection_12 : decode cIm_setSection 12 = .ok (.aload_n 0, 1) := by decide +kernel
theorem dIm_setSection_13 : decode cIm_setSection 13 = .ok (.bipush 24, 2) := by decide +kernel
theorem dIm_setSection_15 : decode cIm_setSection 15 = .ok (.iload_n 1, 1) := by decide +kernel
theorem dIm_setSection_16 : decode cIm_setSection 16 = .ok (.bipush 8, 2) := by decide +kernel
theorem dIm_setSection_18 : decode cIm_setSection 18 = .ok (.imul, 1) := by decide +kernel
theorem dIm_setSection_19 : decode cIm_setSection 19 = .ok (.iadd, 1) := by decide +kernel
theorem dIm_setSection_20 : decode cIm_setSection 20 = .ok (.iconst 4, 1) := by decide +kernel
theorem dIm_setSection_21 : decode cIm_setSection 21 = .ok (.iadd, 1) := by decide +kernel
theorem dIm_setSection_22 : decode cIm_setSection 22 = .ok (.iload_n 3, 1) := by decide +kernel
theorem dIm_setSection_23 : decode cIm_setSection 23 = .ok (.invokevirtual 35, 3) := by decide +kernel
theorem dIm_setSection_26 : decode cIm_setSection 26 = .ok (.return_, 1) := by decide +kernel
abbrev yIm_holdsSection : MethodName := ⟨"ImageForge$Image", "holdsSection", "(I)Z"⟩
abbrev cIm_holdsSection : ByteArray := prog_2_method_16_code
abbrev wsIm_holdsSection : List Cond := .code yIm_holdsSection cIm_holdsSection 4 (some .boolean) :: bw
theorem gdIm_holdsSection : GoodIn bw wsIm_holdsSection := gd_of tw_740
theorem hdIm_holdsSection : yIm_holdsSection.cls ≠ "java/lang/invoke/MethodHandle" ∧ yIm_holdsSection.cls ≠ "java/lang/invoke/VarHandle" ∧ (parseMethodDescriptor yIm_holdsSection.desc).map (fun d => d.parameters.length) = some 1 := by decide +kernel
theorem dIm_holdsSection_0 : decode cIm_holdsSection 0 = .ok (.aload_n 0, 1) := by decide +kernel
theorem dIm_holdsSection_1 : decode cIm_holdsSection 1 = .ok (.iload_n 1, 1) := by decide +kernel
theorem dIm_holdsSection_2 : decode cIm_holdsSection 2 = .ok (.invokevirtual 39, 3) := by decide +kernel
theorem dIm_holdsSection_5 : decode cIm_holdsSection 5 = .ok (.istore_n 2, 1) := by decide +kernel
theorem dIm_holdsSection_6 : decode cIm_holdsSection 6 = .ok (.aload_n 0, 1) := by decide +kernel
theorem dIm_holdsSection_7 : decode cIm_holdsSection 7 = .ok (.iload_n 1, 1) := by decide +kernel
theorem dIm_holdsSection_8 : decode cIm_holdsSection 8 = .ok (.invokevirtual 42, 3) := by decide +kernel
theorem dIm_holdsSection_11 : decode cIm_holdsSection 11 = .ok (.istore_n 3, 1) := by decide +kernel
theorem dIm_holdsSection_12 : decode cIm_holdsSection 12 = .ok (.iload_n 2, 1) := by decide +kernel
theorem dIm_holdsSection_13 : decode cIm_holdsSection 13 = .ok (.ifCond .lt 25, 3) := by decide +kernel
theorem dIm_holdsSection_16 : decode cIm_holdsSection 16 = .ok (.iload_n 3, 1) := by decide +kernel
theorem dIm_holdsSection_17 : decode cIm_holdsSection 17 = .ok (.ifCond .lt 21, 3) := by decide +kernel
theorem dIm_holdsSection_20 : decode cIm_holdsSection 20 = .ok (.iload_n 2, 1) := by decide +kernel
theorem dIm_holdsSection_21 : decode cIm_holdsSection 21 = .ok (.i2l, 1) := by decide +kernel
theorem dIm_holdsSection_22 : decode cIm_holdsSection 22 = .ok (.iload_n 3, 1) := by decide +kernel
theorem dIm_holdsSection_23 : decode cIm_holdsSection 23 = .ok (.i2l, 1) := by decide +kernel
theorem dIm_holdsSection_24 : decode cIm_holdsSection 24 = .ok (.ladd, 1) := by decide +kernel
theorem dIm_holdsSection_25 : decode cIm_holdsSection 25 = .ok (.aload_n 0, 1) := by decide +kernel
theorem dIm_holdsSection_26 : decode cIm_holdsSection 26 = .ok (.getfield 15, 3) := by decide +kernel
theorem dIm_holdsSection_29 : decode cIm_holdsSection 29 = .ok (.i2l, 1) := by decide +kernel
theorem dIm_holdsSection_30 : decode cIm_holdsSection 30 = .ok (.lcmp, 1) := by decide +kernel
theorem dIm_holdsSection_31 : decode cIm_holdsSection 31 = .ok (.ifCond .gt 7, 3) := by decide +kernel
theorem dIm_holdsSection_34 : decode cIm_holdsSection 34 = .ok (.iconst 1, 1) := by decide +kernel
theorem dIm_holdsSection_35 : decode cIm_holdsSection 35 = .ok (.goto 4, 3) := by decide +kernel
theorem dIm_holdsSection_38 : decode cIm_holdsSection 38 = .ok (.iconst 0, 1) := by decide +kernel
theorem dIm_holdsSection_39 : decode cIm_holdsSection 39 = .ok (.ireturn, 1) := by decide +kernel
abbrev yIm_checksum : MethodName := ⟨"ImageForge$Image", "checksum", "()I"⟩
abbrev cIm_checksum : ByteArray := prog_2_method_17_code
abbrev wsIm_checksum : List Cond := .code yIm_checksum cIm_checksum 3 (some .int) :: bw
theorem gdIm_checksum : GoodIn bw wsIm_checksum := gd_of tw_658
theorem hdIm_checksum : yIm_checksum.cls ≠ "java/lang/invoke/MethodHandle" ∧ yIm_checksum.cls ≠ "java/lang/invoke/VarHandle" ∧ (parseMethodDescriptor yIm_checksum.desc).map (fun d => d.parameters.length) = some 0 := by decide +kernel
theorem dIm_checksum_0 : decode cIm_checksum 0 = .ok (.iconst 0, 1) := by decide +kernel
theorem dIm_checksum_1 : decode cIm_checksum 1 = .ok (.istore_n 1, 1) := by decide +kernel
theorem dIm_checksum_2 : decode cIm_checksum 2 = .ok (.iconst 0, 1) := by decide +kernel
theorem dIm_checksum_3 : decode cIm_checksum 3 = .ok (.istore_n 2, 1) := by decide +kernel
theorem dIm_checksum_4 : decode cIm_checksum 4 = .ok (.iload_n 2, 1) := by decide +kernel
theorem dIm_checksum_5 : decode cIm_checksum 5 = .ok (.aload_n 0, 1) := by decide +kernel
theorem dIm_checksum_6 : decode cIm_checksum 6 = .ok (.getfield 15, 3) := by decide +kernel
theorem dIm_checksum_9 : decode cIm_checksum 9 = .ok (.if_icmp .ge 39, 3) := by decide +kernel
theorem dIm_checksum_12 : decode cIm_checksum 12 = .ok (.iload_n 2, 1) := by decide +kernel
theorem dIm_checksum_13 : decode cIm_checksum 13 = .ok (.bipush 20, 2) := by decide +kernel
theorem dIm_checksum_15 : decode cIm_checksum 15 = .ok (.if_icmp .lt 9, 3) := by decide +kernel
theorem dIm_checksum_18 : decode cIm_checksum 18 = .ok (.iload_n 2, 1) := by decide +kernel
theorem dIm_checksum_19 : decode cIm_checksum 19 = .ok (.bipush 24, 2) := by decide +kernel
theorem dIm_checksum_21 : decode cIm_checksum 21 = .ok (.if_icmp .lt 21, 3) := by decide +kernel
theorem dIm_checksum_24 : decode cIm_checksum 24 = .ok (.iload_n 1, 1) := by decide +kernel
theorem dIm_checksum_25 : decode cIm_checksum 25 = .ok (.aload_n 0, 1) := by decide +kernel
theorem dIm_checksum_26 : decode cIm_checksum 26 = .ok (.iload_n 2, 1) := by decide +kernel
theorem dIm_checksum_27 : decode cIm_checksum 27 = .ok (.invokevirtual 45, 3) := by decide +kernel
theorem dIm_checksum_30 : decode cIm_checksum 30 = .ok (.iadd, 1) := by decide +kernel
theorem dIm_checksum_31 : decode cIm_checksum 31 = .ok (.istore_n 1, 1) := by decide +kernel
theorem dIm_checksum_32 : decode cIm_checksum 32 = .ok (.iload_n 1, 1) := by decide +kernel
theorem dIm_checksum_33 : decode cIm_checksum 33 = .ok (.ldc 48, 2) := by decide +kernel
theorem dIm_checksum_35 : decode cIm_checksum 35 = .ok (.iand, 1) := by decide +kernel
theorem dIm_checksum_36 : decode cIm_checksum 36 = .ok (.iload_n 1, 1) := by decide +kernel
theorem dIm_checksum_37 : decode cIm_checksum 37 = .ok (.bipush 16, 2) := by decide +kernel
theorem dIm_checksum_39 : decode cIm_checksum 39 = .ok (.ishr, 1) := by decide +kernel
theorem dIm_checksum_40 : decode cIm_checksum 40 = .ok (.iadd, 1) := by decide +kernel
theorem dIm_checksum_41 : decode cIm_checksum 41 = .ok (.istore_n 1, 1) := by decide +kernel
theorem dIm_checksum_42 : decode cIm_checksum 42 = .ok (.iinc 2 2, 3) := by decide +kernel
theorem dIm_checksum_45 : decode cIm_checksum 45 = .ok (.goto (-41), 3) := by decide +kernel
theorem dIm_checksum_48 : decode cIm_checksum 48 = .ok (.iload_n 1, 1) := by decide +kernel
theorem dIm_checksum_49 : decode cIm_checksum 49 = .ok (.aload_n 0, 1) := by decide +kernel
theorem dIm_checksum_50 : decode cIm_checksum 50 = .ok (.getfield 15, 3) := by decide +kernel
theorem dIm_checksum_53 : decode cIm_checksum 53 = .ok (.iadd, 1) := by decide +kernel
theorem dIm_checksum_54 : decode cIm_checksum 54 = .ok (.ireturn, 1) := by decide +kernel
end
section
section
variable {p : Program} {l : Launch} {e : Env} {s : State} {m : MethodId} {args : Array Value} {below : List Frame} {meth : Method} {c : Code} {D : va_G} {cA : Nat → ClassId} {ad : Nat → Nat} {L : List Nat} {rs : va_W} {al : Nat → Bool} {A : Nat → Prop}
abbrev rm_Im_isNone : Room := { frames := 0, cells := 0, slots := 0, locals := 0 }
def bk_Im_isNone_0 (F : Nat) (al : Nat → Bool) (u : Mr) (x0 : Nat) : Option (Mr × Int32) := if (u.1 x0 1) = 0 then (some (u, (1 : Int32))) else (some (u, (0 : Int32)))
set_option maxHeartbeats 4000000 in
set_option maxRecDepth 100000 in
theorem wk_Im_isNone_0 (cx : Cx p l e s m args below meth c cIm_isNone 1 bw "ImageForge$Image" (some .boolean) D cA ad L rs al A) (F : Nat) (out : Mr × Int32) : ∀ (u : Mr) (x0 : Nat), bk_Im_isNone_0 F al u x0 = some out → okk al 6 x0 = true → Wb p l e rm_Im_isNone s m args below meth c D cA ad L rs A (QI below args s D cA ad L rs A out) 1 0 [(0, .ref (ad x0))] [] u := by
  obtain ⟨hx, hb, hml, hown, hts, hr, hlocks, hK, hA, hD, hN, hal, hNx⟩ := cx
  intro u x0 h q0 H locs ls hl hP hS
  unfold bk_Im_isNone_0 at h
  refine lv_aload_n hx hb dIm_isNone_0 rfl (lv_at hl 0 rfl) ?_
  refine x_get hx hb hts in_Im hown hK hP (hal _ (okk_al q0)) (okk_t q0) rfl rfl 1 (by decide) (hts _ tw_49) (fun _ h9 => h9) rfl dIm_isNone_1 ?_
  refine lv_if_ne (tgt := 11) hx hb dIm_isNone_4 rfl (fun hc => ?_) (fun hc => ?_)
  · replace h := it_f h hc
    refine lv_iconst (v := 0) hx hb dIm_isNone_11 (by decide) ?_
    exact x_zret hx hb hr hlocks rfl h hP hS dIm_isNone_12
  · replace h := it_t h hc
    refine lv_iconst (v := 1) hx hb dIm_isNone_7 (by decide) ?_
    refine lv_goto (tgt := 12) hx hb dIm_isNone_8 rfl ?_
    exact x_zret hx hb hr hlocks rfl h hP hS dIm_isNone_12
def fn_Im_isNone (F : Nat) (al : Nat → Bool) (u : Mr) (x0 : Nat) : Option (Mr × Int32) := bk_Im_isNone_0 F al u x0
set_option maxHeartbeats 4000000 in
set_option maxRecDepth 100000 in
theorem ct_Im_isNone {l : Launch} {D : va_G} {cA : Nat → ClassId} {ad : Nat → Nat} {L : List Nat} {rs : va_W} {al : Nat → Bool} (hal : ∀ k, al k = true → k ∈ L) (hN : L.Nodup) (F : Nat) (u : Mr) (x0 : Nat) (out : Mr × Int32) (h : fn_Im_isNone F al u x0 = some out) (q0 : okk al 6 x0 = true) : CtI l yIm_isNone wsIm_isNone rm_Im_isNone [.ref (ad x0)] D cA ad L rs u out := by
  intro sz
  refine Met.ofW (cc := cIm_isNone) (maxL := 1) (ret := (some .boolean)) (by decide) rfl ?_
  intro p e s m args below meth c s₁ B hml hv
  obtain ⟨rfl, hsz, hP, hK, hD0, hNx⟩ := hv
  subst hsz
  have hD := hD0.self (sz := s.heap.size)
  generalize hAe : va_A (ww ad cA L rs u) s.heap.size = A at hD ⊢
  have hA : ∀ q, s.heap.size ≤ q → A q := fun q h => by rw [← hAe]; exact Or.inr h
  have hl := lv_entry ([.ref (ad x0)]) (n := 1) (Nat.le_of_ble_eq_true rfl)
  rw [lg_entry_eq]
  generalize (lg_sl ([.ref (ad x0)]) ++ List.replicate (1 - (lg_sl ([.ref (ad x0)])).length) Slot.unset).toArray = ls at hl ⊢
  exact wk_Im_isNone_0 ⟨B.exec, B.bytes, hml, findClass_of_methodNamed B.named, hts_bw (atoms_spec (ws := wsIm_isNone) B.pre), B.returns, B.notSynchronized, hK, hA, fun v => ww_D hD, hN, hal, hNx⟩ F out u x0 h q0 _ _ _ (lv_sub hl [0] rfl) hP va_S.rf
abbrev rm_Im_byteAt : Room := { frames := 0, cells := 0, slots := 0, locals := 0 }
def bk_Im_byteAt_0 (F : Nat) (al : Nat → Bool) (u : Mr) (x0 : Nat) (x1 : Int32) : Option (Mr × Int32) := bd1 (rdR al u x0 0 7) fun y1 => (ck (inb x1 896) (some (u, (u.1 y1 x1) &&& (255 : Int32))))
set_option maxHeartbeats 4000000 in
set_option maxRecDepth 100000 in
theorem wk_Im_byteAt_0 (cx : Cx p l e s m args below meth c cIm_byteAt 2 bw "ImageForge$Image" (some .int) D cA ad L rs al A) (F : Nat) (out : Mr × Int32) : ∀ (u : Mr) (x0 : Nat) (x1 : Int32), bk_Im_byteAt_0 F al u x0 x1 = some out → okk al 6 x0 = true → Wb p l e rm_Im_byteAt s m args below meth c D cA ad L rs A (QI below args s D cA ad L rs A out) 2 0 [(0, .ref (ad x0)), (1, .int x1)] [] u := by
  obtain ⟨hx, hb, hml, hown, hts, hr, hlocks, hK, hA, hD, hN, hal, hNx⟩ := cx
  intro u x0 x1 h q0 H locs ls hl hP hS
  unfold bk_Im_byteAt_0 at h
  refine lv_aload_n hx hb dIm_byteAt_0 rfl (lv_at hl 0 rfl) ?_
  obtain ⟨y1, hy2, h⟩ := bd1_some h
  obtain ⟨hy2a, hy2⟩ := rdR_some hy2
  refine x_get hx hb hts in_Im hown hK hP (hal _ (okk_al q0)) (okk_t q0) rfl rfl 0 (by decide) (hts _ tw_47) (fun _ h9 => h9) (congrArg some (x_rf hy2a)) dIm_byteAt_1 ?_
  refine lv_iload_n hx hb dIm_byteAt_4 rfl (lv_at hl 1 rfl) ?_
  obtain ⟨hi3, h⟩ := ck_some h
  refine x_bald hx hb hK hP (hal _ (okk_al hy2)) (okk_t hy2) 1 (fun _ _ _ => rfl) rfl (inb_in hi3) dIm_byteAt_5 ?_
  refine lv_sipush (v := 255) hx hb dIm_byteAt_6 (by decide) ?_
  refine lv_iand hx hb dIm_byteAt_9 ?_
  exact x_iret hx hb hr hlocks h hP hS dIm_byteAt_10
def fn_Im_byteAt (F : Nat) (al : Nat → Bool) (u : Mr) (x0 : Nat) (x1 : Int32) : Option (Mr × Int32) := bk_Im_byteAt_0 F al u x0 x1
set_option maxHeartbeats 4000000 in
set_option maxRecDepth 100000 in
theorem ct_Im_byteAt {l : Launch} {D : va_G} {cA : Nat → ClassId} {ad : Nat → Nat} {L : List Nat} {rs : va_W} {al : Nat → Bool} (hal : ∀ k, al k = true → k ∈ L) (hN : L.Nodup) (F : Nat) (u : Mr) (x0 : Nat) (x1 : Int32) (out : Mr × Int32) (h : fn_Im_byteAt F al u x0 x1 = some out) (q0 : okk al 6 x0 = true) : CtI l yIm_byteAt wsIm_byteAt rm_Im_byteAt [.ref (ad x0), .int x1] D cA ad L rs u out := by
  intro sz
  refine Met.ofW (cc := cIm_byteAt) (maxL := 2) (ret := (some .int)) (by decide) rfl ?_
  intro p e s m args below meth c s₁ B hml hv
  obtain ⟨rfl, hsz, hP, hK, hD0, hNx⟩ := hv
  subst hsz
  have hD := hD0.self (sz := s.heap.size)
  generalize hAe : va_A (ww ad cA L rs u) s.heap.size = A at hD ⊢
  have hA : ∀ q, s.heap.size ≤ q → A q := fun q h => by rw [← hAe]; exact Or.inr h
  have hl := lv_entry ([.ref (ad x0), .int x1]) (n := 2) (Nat.le_of_ble_eq_true rfl)
  rw [lg_entry_eq]
  generalize (lg_sl ([.ref (ad x0), .int x1]) ++ List.replicate (2 - (lg_sl ([.ref (ad x0), .int x1])).length) Slot.unset).toArray = ls at hl ⊢
  exact wk_Im_byteAt_0 ⟨B.exec, B.bytes, hml, findClass_of_methodNamed B.named, hts_bw (atoms_spec (ws := wsIm_byteAt) B.pre), B.returns, B.notSynchronized, hK, hA, fun v => ww_D hD, hN, hal, hNx⟩ F out u x0 x1 h q0 _ _ _ (lv_sub hl [0, 1] rfl) hP va_S.rf
abbrev rm_Im_setByte : Room := { frames := 0, cells := 0, slots := 0, locals := 0 }
def bk_Im_setByte_0 (F : Nat) (al : Nat → Bool) (u : Mr) (x0 : Nat) (x1 : Int32) (x2 : Int32) : Option (Mr × Int32) := bd1 (rdR al u x0 0 7) fun y1 => (ck (inb x1 896) (some (stI u y1 x1 x2.toInt8.toInt32, 0)))
set_option maxHeartbeats 4000000 in
set_option maxRecDepth 100000 in
theorem wk_Im_setByte_0 (cx : Cx p l e s m args below meth c cIm_setByte 3 bw "ImageForge$Image" none D cA ad L rs al A) (F : Nat) (out : Mr × Int32) : ∀ (u : Mr) (x0 : Nat) (x1 : Int32) (x2 : Int32), bk_Im_setByte_0 F al u x0 x1 x2 = some out → okk al 6 x0 = true → Wb p l e rm_Im_setByte s m args below meth c D cA ad L rs A (QV below args s D cA ad L rs A out) 3 0 [(0, .ref (ad x0)), (1, .int x1), (2, .int x2)] [] u := by
  obtain ⟨hx, hb, hml, hown, hts, hr, hlocks, hK, hA, hD, hN, hal, hNx⟩ := cx
  intro u x0 x1 x2 h q0 H locs ls hl hP hS
  unfold bk_Im_setByte_0 at h
  refine lv_aload_n hx hb dIm_setByte_0 rfl (lv_at hl 0 rfl) ?_
  obtain ⟨y1, hy2, h⟩ := bd1_some h
  obtain ⟨hy2a, hy2⟩ := rdR_some hy2
  refine x_get hx hb hts in_Im hown hK hP (hal _ (okk_al q0)) (okk_t q0) rfl rfl 0 (by decide) (hts _ tw_47) (fun _ h9 => h9) (congrArg some (x_rf hy2a)) dIm_setByte_1 ?_
  refine lv_iload_n hx hb dIm_setByte_4 rfl (lv_at hl 1 rfl) ?_
  refine lv_iload_n hx hb dIm_setByte_5 rfl (lv_at hl 2 rfl) ?_
  refine lv_i2b (v := x2.toInt8.toInt32) hx hb dIm_setByte_6 rfl ?_
  obtain ⟨hi3, h⟩ := ck_some h
  refine x_bastB hx hb hK hD hN hP hS (hal _ (okk_al hy2)) (okk_t hy2) 1 (fun _ _ _ => rfl) rfl (by decide) (inb_in hi3) dIm_setByte_7 (fun H locs hP hS => ?_)
  exact x_vret hx hb hr hlocks h hP hS dIm_setByte_8
def fn_Im_setByte (F : Nat) (al : Nat → Bool) (u : Mr) (x0 : Nat) (x1 : Int32) (x2 : Int32) : Option (Mr × Int32) := bk_Im_setByte_0 F al u x0 x1 x2
set_option maxHeartbeats 4000000 in
set_option maxRecDepth 100000 in
theorem ct_Im_setByte {l : Launch} {D : va_G} {cA : Nat → ClassId} {ad : Nat → Nat} {L : List Nat} {rs : va_W} {al : Nat → Bool} (hal : ∀ k, al k = true → k ∈ L) (hN : L.Nodup) (F : Nat) (u : Mr) (x0 : Nat) (x1 : Int32) (x2 : Int32) (out : Mr × Int32) (h : fn_Im_setByte F al u x0 x1 x2 = some out) (q0 : okk al 6 x0 = true) : CtV l yIm_setByte wsIm_setByte rm_Im_setByte [.ref (ad x0), .int x1, .int x2] D cA ad L rs u out := by
  intro sz
  refine Met.ofW (cc := cIm_setByte) (maxL := 3) (ret := none) (by decide) rfl ?_
  intro p e s m args below meth c s₁ B hml hv
  obtain ⟨rfl, hsz, hP, hK, hD0, hNx⟩ := hv
  subst hsz
  have hD := hD0.self (sz := s.heap.size)
  generalize hAe : va_A (ww ad cA L rs u) s.heap.size = A at hD ⊢
  have hA : ∀ q, s.heap.size ≤ q → A q := fun q h => by rw [← hAe]; exact Or.inr h
  have hl := lv_entry ([.ref (ad x0), .int x1, .int x2]) (n := 3) (Nat.le_of_ble_eq_true rfl)
  rw [lg_entry_eq]
  generalize (lg_sl ([.ref (ad x0), .int x1, .int x2]) ++ List.replicate (3 - (lg_sl ([.ref (ad x0), .int x1, .int x2])).length) Slot.unset).toArray = ls at hl ⊢
  exact wk_Im_setByte_0 ⟨B.exec, B.bytes, hml, findClass_of_methodNamed B.named, hts_bw (atoms_spec (ws := wsIm_setByte) B.pre), B.returns, B.notSynchronized, hK, hA, fun v => ww_D hD, hN, hal, hNx⟩ F out u x0 x1 x2 h q0 _ _ _ (lv_sub hl [0, 1, 2] rfl) hP va_S.rf
abbrev rm_Im_halfAt : Room := { frames := 0, cells := 0, slots := 0, locals := 0 }
def bk_Im_halfAt_0 (F : Nat) (al : Nat → Bool) (u : Mr) (x0 : Nat) (x1 : Int32) : Option (Mr × Int32) := bd1 (rdR al u x0 0 7) fun y1 => (ck (inb x1 896) (bd1 (rdR al u x0 0 7) fun y4 => (ck (inb (x1 + (1 : Int32)) 896) (some (u, ((u.1 y1 x1) &&& (255 : Int32)) ||| (((u.1 y4 (x1 + (1 : Int32))) &&& (255 : Int32)) <<< ((8 : Int32) &&& 31)))))))
set_option maxHeartbeats 4000000 in
set_option maxRecDepth 100000 in
theorem wk_Im_halfAt_0 (cx : Cx p l e s m args below meth c cIm_halfAt 2 bw "ImageForge$Image" (some .int) D cA ad L rs al A) (F : Nat) (out : Mr × Int32) : ∀ (u : Mr) (x0 : Nat) (x1 : Int32), bk_Im_halfAt_0 F al u x0 x1 = some out → okk al 6 x0 = true → Wb p l e rm_Im_halfAt s m args below meth c D cA ad L rs A (QI below args s D cA ad L rs A out) 2 0 [(0, .ref (ad x0)), (1, .int x1)] [] u := by
  obtain ⟨hx, hb, hml, hown, hts, hr, hlocks, hK, hA, hD, hN, hal, hNx⟩ := cx
  intro u x0 x1 h q0 H locs ls hl hP hS
  unfold bk_Im_halfAt_0 at h
  refine lv_aload_n hx hb dIm_halfAt_0 rfl (lv_at hl 0 rfl) ?_
  obtain ⟨y1, hy2, h⟩ := bd1_some h
  obtain ⟨hy2a, hy2⟩ := rdR_some hy2
  refine x_get hx hb hts in_Im hown hK hP (hal _ (okk_al q0)) (okk_t q0) rfl rfl 0 (by decide) (hts _ tw_47) (fun _ h9 => h9) (congrArg some (x_rf hy2a)) dIm_halfAt_1 ?_
  refine lv_iload_n hx hb dIm_halfAt_4 rfl (lv_at hl 1 rfl) ?_
  obtain ⟨hi3, h⟩ := ck_some h
  refine x_bald hx hb hK hP (hal _ (okk_al hy2)) (okk_t hy2) 1 (fun _ _ _ => rfl) rfl (inb_in hi3) dIm_halfAt_5 ?_
  refine lv_sipush (v := 255) hx hb dIm_halfAt_6 (by decide) ?_
  refine lv_iand hx hb dIm_halfAt_9 ?_
  refine lv_aload_n hx hb dIm_halfAt_10 rfl (lv_at hl 0 rfl) ?_
  obtain ⟨y4, hy5, h⟩ := bd1_some h
  obtain ⟨hy5a, hy5⟩ := rdR_some hy5
  refine x_get hx hb hts in_Im hown hK hP (hal _ (okk_al q0)) (okk_t q0) rfl rfl 0 (by decide) (hts _ tw_47) (fun _ h9 => h9) (congrArg some (x_rf hy5a)) dIm_halfAt_11 ?_
  refine lv_iload_n hx hb dIm_halfAt_14 rfl (lv_at hl 1 rfl) ?_
  refine lv_iconst (v := 1) hx hb dIm_halfAt_15 (by decide) ?_
  refine lv_iadd hx hb dIm_halfAt_16 ?_
  obtain ⟨hi6, h⟩ := ck_some h
  refine x_bald hx hb hK hP (hal _ (okk_al hy5)) (okk_t hy5) 1 (fun _ _ _ => rfl) rfl (inb_in hi6) dIm_halfAt_17 ?_
  refine lv_sipush (v := 255) hx hb dIm_halfAt_18 (by decide) ?_
  refine lv_iand hx hb dIm_halfAt_21 ?_
  refine lv_bipush (v := 8) hx hb dIm_halfAt_22 (by decide) ?_
  refine lv_ishl hx hb dIm_halfAt_24 ?_
  refine lv_ior hx hb dIm_halfAt_25 ?_
  exact x_iret hx hb hr hlocks h hP hS dIm_halfAt_26
def fn_Im_halfAt (F : Nat) (al : Nat → Bool) (u : Mr) (x0 : Nat) (x1 : Int32) : Option (Mr × Int32) := bk_Im_halfAt_0 F al u x0 x1
set_option maxHeartbeats 4000000 in
set_option maxRecDepth 100000 in
theorem ct_Im_halfAt {l : Launch} {D : va_G} {cA : Nat → ClassId} {ad : Nat → Nat} {L : List Nat} {rs : va_W} {al : Nat → Bool} (hal : ∀ k, al k = true → k ∈ L) (hN : L.Nodup) (F : Nat) (u : Mr) (x0 : Nat) (x1 : Int32) (out : Mr × Int32) (h : fn_Im_halfAt F al u x0 x1 = some out) (q0 : okk al 6 x0 = true) : CtI l yIm_halfAt wsIm_halfAt rm_Im_halfAt [.ref (ad x0), .int x1] D cA ad L rs u out := by
  intro sz
  refine Met.ofW (cc := cIm_halfAt) (maxL := 2) (ret := (some .int)) (by decide) rfl ?_
  intro p e s m args below meth c s₁ B hml hv
  obtain ⟨rfl, hsz, hP, hK, hD0, hNx⟩ := hv
  subst hsz
  have hD := hD0.self (sz := s.heap.size)
  generalize hAe : va_A (ww ad cA L rs u) s.heap.size = A at hD ⊢
  have hA : ∀ q, s.heap.size ≤ q → A q := fun q h => by rw [← hAe]; exact Or.inr h
  have hl := lv_entry ([.ref (ad x0), .int x1]) (n := 2) (Nat.le_of_ble_eq_true rfl)
  rw [lg_entry_eq]
  generalize (lg_sl ([.ref (ad x0), .int x1]) ++ List.replicate (2 - (lg_sl ([.ref (ad x0), .int x1])).length) Slot.unset).toArray = ls at hl ⊢
  exact wk_Im_halfAt_0 ⟨B.exec, B.bytes, hml, findClass_of_methodNamed B.named, hts_bw (atoms_spec (ws := wsIm_halfAt) B.pre), B.returns, B.notSynchronized, hK, hA, fun v => ww_D hD, hN, hal, hNx⟩ F out u x0 x1 h q0 _ _ _ (lv_sub hl [0, 1] rfl) hP va_S.rf
abbrev rm_Im_setHalf : Room := { frames := 0, cells := 0, slots := 0, locals := 0 }
def bk_Im_setHalf_0 (F : Nat) (al : Nat → Bool) (u : Mr) (x0 : Nat) (x1 : Int32) (x2 : Int32) : Option (Mr × Int32) := bd1 (rdR al u x0 0 7) fun y1 => (ck (inb x1 896) (bd1 (rdR al (stI u y1 x1 x2.toInt8.toInt32) x0 0 7) fun y4 => (ck (inb (x1 + (1 : Int32)) 896) (some (stI (stI u y1 x1 x2.toInt8.toInt32) y4 (x1 + (1 : Int32)) ((x2 >>> ((8 : Int32) &&& 31)).toInt8.toInt32), 0)))))
set_option maxHeartbeats 4000000 in
set_option maxRecDepth 100000 in
theorem wk_Im_setHalf_0 (cx : Cx p l e s m args below meth c cIm_setHalf 3 bw "ImageForge$Image" none D cA ad L rs al A) (F : Nat) (out : Mr × Int32) : ∀ (u : Mr) (x0 : Nat) (x1 : Int32) (x2 : Int32), bk_Im_setHalf_0 F al u x0 x1 x2 = some out → okk al 6 x0 = true → Wb p l e rm_Im_setHalf s m args below meth c D cA ad L rs A (QV below args s D cA ad L rs A out) 3 0 [(0, .ref (ad x0)), (1, .int x1), (2, .int x2)] [] u := by
  obtain ⟨hx, hb, hml, hown, hts, hr, hlocks, hK, hA, hD, hN, hal, hNx⟩ := cx
  intro u x0 x1 x2 h q0 H locs ls hl hP hS
  unfold bk_Im_setHalf_0 at h
  refine lv_aload_n hx hb dIm_setHalf_0 rfl (lv_at hl 0 rfl) ?_
  obtain ⟨y1, hy2, h⟩ := bd1_some h
  obtain ⟨hy2a, hy2⟩ := rdR_some hy2
  refine x_get hx hb hts in_Im hown hK hP (hal _ (okk_al q0)) (okk_t q0) rfl rfl 0 (by decide) (hts _ tw_47) (fun _ h9 => h9) (congrArg some (x_rf hy2a)) dIm_setHalf_1 ?_
  refine lv_iload_n hx hb dIm_setHalf_4 rfl (lv_at hl 1 rfl) ?_
  refine lv_iload_n hx hb dIm_setHalf_5 rfl (lv_at hl 2 rfl) ?_
  refine lv_i2b (v := x2.toInt8.toInt32) hx hb dIm_setHalf_6 rfl ?_
  obtain ⟨hi3, h⟩ := ck_some h
  refine x_bastB hx hb hK hD hN hP hS (hal _ (okk_al hy2)) (okk_t hy2) 1 (fun _ _ _ => rfl) rfl (by decide) (inb_in hi3) dIm_setHalf_7 (fun H locs hP hS => ?_)
  refine lv_aload_n hx hb dIm_setHalf_8 rfl (lv_at hl 0 rfl) ?_
  obtain ⟨y4, hy5, h⟩ := bd1_some h
  obtain ⟨hy5a, hy5⟩ := rdR_some hy5
  refine x_get hx hb hts in_Im hown hK hP (hal _ (okk_al q0)) (okk_t q0) rfl rfl 0 (by decide) (hts _ tw_47) (fun _ h9 => h9) (congrArg some (x_rf hy5a)) dIm_setHalf_9 ?_
  refine lv_iload_n hx hb dIm_setHalf_12 rfl (lv_at hl 1 rfl) ?_
  refine lv_iconst (v := 1) hx hb dIm_setHalf_13 (by decide) ?_
  refine lv_iadd hx hb dIm_setHalf_14 ?_
  refine lv_iload_n hx hb dIm_setHalf_15 rfl (lv_at hl 2 rfl) ?_
  refine lv_bipush (v := 8) hx hb dIm_setHalf_16 (by decide) ?_
  refine lv_ishr hx hb dIm_setHalf_18 ?_
  refine lv_i2b (v := (x2 >>> ((8 : Int32) &&& 31)).toInt8.toInt32) hx hb dIm_setHalf_19 rfl ?_
  obtain ⟨hi6, h⟩ := ck_some h
  refine x_bastB hx hb hK hD hN hP hS (hal _ (okk_al hy5)) (okk_t hy5) 1 (fun _ _ _ => rfl) rfl (by decide) (inb_in hi6) dIm_setHalf_20 (fun H locs hP hS => ?_)
  exact x_vret hx hb hr hlocks h hP hS dIm_setHalf_21
def fn_Im_setHalf (F : Nat) (al : Nat → Bool) (u : Mr) (x0 : Nat) (x1 : Int32) (x2 : Int32) : Option (Mr × Int32) := bk_Im_setHalf_0 F al u x0 x1 x2
set_option maxHeartbeats 4000000 in
set_option maxRecDepth 100000 in
theorem ct_Im_setHalf {l : Launch} {D : va_G} {cA : Nat → ClassId} {ad : Nat → Nat} {L : List Nat} {rs : va_W} {al : Nat → Bool} (hal : ∀ k, al k = true → k ∈ L) (hN : L.Nodup) (F : Nat) (u : Mr) (x0 : Nat) (x1 : Int32) (x2 : Int32) (out : Mr × Int32) (h : fn_Im_setHalf F al u x0 x1 x2 = some out) (q0 : okk al 6 x0 = true) : CtV l yIm_setHalf wsIm_setHalf rm_Im_setHalf [.ref (ad x0), .int x1, .int x2] D cA ad L rs u out := by
  intro sz
  refine Met.ofW (cc := cIm_setHalf) (maxL := 3) (ret := none) (by decide) rfl ?_
  intro p e s m args below meth c s₁ B hml hv
  obtain ⟨rfl, hsz, hP, hK, hD0, hNx⟩ := hv
  subst hsz
  have hD := hD0.self (sz := s.heap.size)
  generalize hAe : va_A (ww ad cA L rs u) s.heap.size = A at hD ⊢
  have hA : ∀ q, s.heap.size ≤ q → A q := fun q h => by rw [← hAe]; exact Or.inr h
  have hl := lv_entry ([.ref (ad x0), .int x1, .int x2]) (n := 3) (Nat.le_of_ble_eq_true rfl)
  rw [lg_entry_eq]
  generalize (lg_sl ([.ref (ad x0), .int x1, .int x2]) ++ List.replicate (3 - (lg_sl ([.ref (ad x0), .int x1, .int x2])).length) Slot.unset).toArray = ls at hl ⊢
  exact wk_Im_setHalf_0 ⟨B.exec, B.bytes, hml, findClass_of_methodNamed B.named, hts_bw (atoms_spec (ws := wsIm_setHalf) B.pre), B.returns, B.notSynchronized, hK, hA, fun v => ww_D hD, hN, hal, hNx⟩ F out u x0 x1 x2 h q0 _ _ _ (lv_sub hl [0, 1, 2] rfl) hP va_S.rf
abbrev rm_Im_wordAt : Room := { frames := 0, cells := 0, slots := 0, locals := 0 }
def bk_Im_wordAt_0 (F : Nat) (al : Nat → Bool) (u : Mr) (x0 : Nat) (x1 : Int32) : Option (Mr × Int32) := bd1 (rdR al u x0 0 7) fun y1 => (ck (inb x1 896) (bd1 (rdR al u x0 0 7) fun y4 => (ck (inb (x1 + (1 : Int32)) 896) (bd1 (rdR al u x0 0 7) fun y7 => (ck (inb (x1 + (2 : Int32)) 896) (bd1 (rdR al u x0 0 7) fun y10 => (ck (inb (x1 + (3 : Int32)) 896) (some (u, ((((u.1 y1 x1) &&& (255 : Int32)) ||| (((u.1 y4 (x1 + (1 : Int32))) &&& (255 : Int32)) <<< ((8 : Int32) &&& 31))) ||| (((u.1 y7 (x1 + (2 : Int32))) &&& (255 : Int32)) <<< ((16 : Int32) &&& 31))) ||| (((u.1 y10 (x1 + (3 : Int32))) &&& (255 : Int32)) <<< ((24 : Int32) &&& 31)))))))))))
set_option maxHeartbeats 4000000 in
set_option maxRecDepth 100000 in
theorem wk_Im_wordAt_0 (cx : Cx p l e s m args below meth c cIm_wordAt 2 bw "ImageForge$Image" (some .int) D cA ad L rs al A) (F : Nat) (out : Mr × Int32) : ∀ (u : Mr) (x0 : Nat) (x1 : Int32), bk_Im_wordAt_0 F al u x0 x1 = some out → okk al 6 x0 = true → Wb p l e rm_Im_wordAt s m args below meth c D cA ad L rs A (QI below args s D cA ad L rs A out) 2 0 [(0, .ref (ad x0)), (1, .int x1)] [] u := by
  obtain ⟨hx, hb, hml, hown, hts, hr, hlocks, hK, hA, hD, hN, hal, hNx⟩ := cx
  intro u x0 x1 h q0 H locs ls hl hP hS
  unfold bk_Im_wordAt_0 at h
  refine lv_aload_n hx hb dIm_wordAt_0 rfl (lv_at hl 0 rfl) ?_
  obtain ⟨y1, hy2, h⟩ := bd1_some h
  obtain ⟨hy2a, hy2⟩ := rdR_some hy2
  refine x_get hx hb hts in_Im hown hK hP (hal _ (okk_al q0)) (okk_t q0) rfl rfl 0 (by decide) (hts _ tw_47) (fun _ h9 => h9) (congrArg some (x_rf hy2a)) dIm_wordAt_1 ?_
  refine lv_iload_n hx hb dIm_wordAt_4 rfl (lv_at hl 1 rfl) ?_
  obtain ⟨hi3, h⟩ := ck_some h
  refine x_bald hx hb hK hP (hal _ (okk_al hy2)) (okk_t hy2) 1 (fun _ _ _ => rfl) rfl (inb_in hi3) dIm_wordAt_5 ?_
  refine lv_sipush (v := 255) hx hb dIm_wordAt_6 (by decide) ?_
  refine lv_iand hx hb dIm_wordAt_9 ?_
  refine lv_aload_n hx hb dIm_wordAt_10 rfl (lv_at hl 0 rfl) ?_
  obtain ⟨y4, hy5, h⟩ := bd1_some h
  obtain ⟨hy5a, hy5⟩ := rdR_some hy5
  refine x_get hx hb hts in_Im hown hK hP (hal _ (okk_al q0)) (okk_t q0) rfl rfl 0 (by decide) (hts _ tw_47) (fun _ h9 => h9) (congrArg some (x_rf hy5a)) dIm_wordAt_11 ?_
  refine lv_iload_n hx hb dIm_wordAt_14 rfl (lv_at hl 1 rfl) ?_
  refine lv_iconst (v := 1) hx hb dIm_wordAt_15 (by decide) ?_
  refine lv_iadd hx hb dIm_wordAt_16 ?_
  obtain ⟨hi6, h⟩ := ck_some h
  refine x_bald hx hb hK hP (hal _ (okk_al hy5)) (okk_t hy5) 1 (fun _ _ _ => rfl) rfl (inb_in hi6) dIm_wordAt_17 ?_
  refine lv_sipush (v := 255) hx hb dIm_wordAt_18 (by decide) ?_
  refine lv_iand hx hb dIm_wordAt_21 ?_
  refine lv_bipush (v := 8) hx hb dIm_wordAt_22 (by decide) ?_
  refine lv_ishl hx hb dIm_wordAt_24 ?_
  refine lv_ior hx hb dIm_wordAt_25 ?_
  refine lv_aload_n hx hb dIm_wordAt_26 rfl (lv_at hl 0 rfl) ?_
  obtain ⟨y7, hy8, h⟩ := bd1_some h
  obtain ⟨hy8a, hy8⟩ := rdR_some hy8
  refine x_get hx hb hts in_Im hown hK hP (hal _ (okk_al q0)) (okk_t q0) rfl rfl 0 (by decide) (hts _ tw_47) (fun _ h9 => h9) (congrArg some (x_rf hy8a)) dIm_wordAt_27 ?_
  refine lv_iload_n hx hb dIm_wordAt_30 rfl (lv_at hl 1 rfl) ?_
  refine lv_iconst (v := 2) hx hb dIm_wordAt_31 (by decide) ?_
  refine lv_iadd hx hb dIm_wordAt_32 ?_
  obtain ⟨hi9, h⟩ := ck_some h
  refine x_bald hx hb hK hP (hal _ (okk_al hy8)) (okk_t hy8) 1 (fun _ _ _ => rfl) rfl (inb_in hi9) dIm_wordAt_33 ?_
  refine lv_sipush (v := 255) hx hb dIm_wordAt_34 (by decide) ?_
  refine lv_iand hx hb dIm_wordAt_37 ?_
  refine lv_bipush (v := 16) hx hb dIm_wordAt_38 (by decide) ?_
  refine lv_ishl hx hb dIm_wordAt_40 ?_
  refine lv_ior hx hb dIm_wordAt_41 ?_
  refine lv_aload_n hx hb dIm_wordAt_42 rfl (lv_at hl 0 rfl) ?_
  obtain ⟨y10, hy11, h⟩ := bd1_some h
  obtain ⟨hy11a, hy11⟩ := rdR_some hy11
  refine x_get hx hb hts in_Im hown hK hP (hal _ (okk_al q0)) (okk_t q0) rfl rfl 0 (by decide) (hts _ tw_47) (fun _ h9 => h9) (congrArg some (x_rf hy11a)) dIm_wordAt_43 ?_
  refine lv_iload_n hx hb dIm_wordAt_46 rfl (lv_at hl 1 rfl) ?_
  refine lv_iconst (v := 3) hx hb dIm_wordAt_47 (by decide) ?_
  refine lv_iadd hx hb dIm_wordAt_48 ?_
  obtain ⟨hi12, h⟩ := ck_some h
  refine x_bald hx hb hK hP (hal _ (okk_al hy11)) (okk_t hy11) 1 (fun _ _ _ => rfl) rfl (inb_in hi12) dIm_wordAt_49 ?_
  refine lv_sipush (v := 255) hx hb dIm_wordAt_50 (by decide) ?_
  refine lv_iand hx hb dIm_wordAt_53 ?_
  refine lv_bipush (v := 24) hx hb dIm_wordAt_54 (by decide) ?_
  refine lv_ishl hx hb dIm_wordAt_56 ?_
  refine lv_ior hx hb dIm_wordAt_57 ?_
  exact x_iret hx hb hr hlocks h hP hS dIm_wordAt_58
def fn_Im_wordAt (F : Nat) (al : Nat → Bool) (u : Mr) (x0 : Nat) (x1 : Int32) : Option (Mr × Int32) := bk_Im_wordAt_0 F al u x0 x1
set_option maxHeartbeats 4000000 in
set_option maxRecDepth 100000 in
theorem ct_Im_wordAt {l : Launch} {D : va_G} {cA : Nat → ClassId} {ad : Nat → Nat} {L : List Nat} {rs : va_W} {al : Nat → Bool} (hal : ∀ k, al k = true → k ∈ L) (hN : L.Nodup) (F : Nat) (u : Mr) (x0 : Nat) (x1 : Int32) (out : Mr × Int32) (h : fn_Im_wordAt F al u x0 x1 = some out) (q0 : okk al 6 x0 = true) : CtI l yIm_wordAt wsIm_wordAt rm_Im_wordAt [.ref (ad x0), .int x1] D cA ad L rs u out := by
  intro sz
  refine Met.ofW (cc := cIm_wordAt) (maxL := 2) (ret := (some .int)) (by decide) rfl ?_
  intro p e s m args below meth c s₁ B hml hv
  obtain ⟨rfl, hsz, hP, hK, hD0, hNx⟩ := hv
  subst hsz
  have hD := hD0.self (sz := s.heap.size)
  generalize hAe : va_A (ww ad cA L rs u) s.heap.size = A at hD ⊢
  have hA : ∀ q, s.heap.size ≤ q → A q := fun q h => by rw [← hAe]; exact Or.inr h
  have hl := lv_entry ([.ref (ad x0), .int x1]) (n := 2) (Nat.le_of_ble_eq_true rfl)
  rw [lg_entry_eq]
  generalize (lg_sl ([.ref (ad x0), .int x1]) ++ List.replicate (2 - (lg_sl ([.ref (ad x0), .int x1])).length) Slot.unset).toArray = ls at hl ⊢
  exact wk_Im_wordAt_0 ⟨B.exec, B.bytes, hml, findClass_of_methodNamed B.named, hts_bw (atoms_spec (ws := wsIm_wordAt) B.pre), B.returns, B.notSynchronized, hK, hA, fun v => ww_D hD, hN, hal, hNx⟩ F out u x0 x1 h q0 _ _ _ (lv_sub hl [0, 1] rfl) hP va_S.rf
abbrev rm_Im_setWord : Room := { frames := 0, cells := 0, slots := 0, locals := 0 }
def bk_Im_setWord_2 (F : Nat) (al : Nat → Bool) : Nat → Mr → Nat → Int32 → Int32 → Int32 → Option (Mr × Int32)
  | 0, _, _, _, _, _ => none
  | n + 1, u, x0, x1, x2, x3 => if (4 : Int32) ≤ x3 then (some (u, 0)) else (bd1 (rdR al u x0 0 7) fun y1 => (ck (inb (x1 + x3) 896) (bk_Im_setWord_2 F al n (stI u y1 (x1 + x3) ((x2 >>> (((8 : Int32) * x3) &&& 31)).toInt8.toInt32)) x0 x1 x2 (x3 + (1 : Int32)))))
set_option maxHeartbeats 4000000 in
set_option maxRecDepth 100000 in
theorem wk_Im_setWord_2 (cx : Cx p l e s m args below meth c cIm_setWord 4 bw "ImageForge$Image" none D cA ad L rs al A) (F : Nat) (out : Mr × Int32) : ∀ n : Nat, ∀ (u : Mr) (x0 : Nat) (x1 : Int32) (x2 : Int32) (x3 : Int32), bk_Im_setWord_2 F al n u x0 x1 x2 x3 = some out → okk al 6 x0 = true → Wb p l e rm_Im_setWord s m args below meth c D cA ad L rs A (QV below args s D cA ad L rs A out) 4 2 [(0, .ref (ad x0)), (1, .int x1), (2, .int x2), (3, .int x3)] [] u := by
  obtain ⟨hx, hb, hml, hown, hts, hr, hlocks, hK, hA, hD, hN, hal, hNx⟩ := cx
  intro n
  induction n with
  | zero =>
    intro u x0 x1 x2 x3 h
    cases h
  | succ n ih =>
    intro u x0 x1 x2 x3 h q0 H locs ls hl hP hS
    rw [bk_Im_setWord_2] at h
    refine lv_iload_n hx hb dIm_setWord_2 rfl (lv_at hl 3 rfl) ?_
    refine lv_iconst (v := 4) hx hb dIm_setWord_3 (by decide) ?_
    refine lv_icmp_ge (tgt := 28) hx hb dIm_setWord_4 rfl (fun hc => ?_) (fun hc => ?_)
    · replace h := it_t h hc
      exact x_vret hx hb hr hlocks h hP hS dIm_setWord_28
    · replace h := it_f h hc
      refine lv_aload_n hx hb dIm_setWord_7 rfl (lv_at hl 0 rfl) ?_
      obtain ⟨y1, hy2, h⟩ := bd1_some h
      obtain ⟨hy2a, hy2⟩ := rdR_some hy2
      refine x_get hx hb hts in_Im hown hK hP (hal _ (okk_al q0)) (okk_t q0) rfl rfl 0 (by decide) (hts _ tw_47) (fun _ h9 => h9) (congrArg some (x_rf hy2a)) dIm_setWord_8 ?_
      refine lv_iload_n hx hb dIm_setWord_11 rfl (lv_at hl 1 rfl) ?_
      refine lv_iload_n hx hb dIm_setWord_12 rfl (lv_at hl 3 rfl) ?_
      refine lv_iadd hx hb dIm_setWord_13 ?_
      refine lv_iload_n hx hb dIm_setWord_14 rfl (lv_at hl 2 rfl) ?_
      refine lv_bipush (v := 8) hx hb dIm_setWord_15 (by decide) ?_
      refine lv_iload_n hx hb dIm_setWord_17 rfl (lv_at hl 3 rfl) ?_
      refine lv_imul hx hb dIm_setWord_18 ?_
      refine lv_ishr hx hb dIm_setWord_19 ?_
      refine lv_i2b (v := (x2 >>> (((8 : Int32) * x3) &&& 31)).toInt8.toInt32) hx hb dIm_setWord_20 rfl ?_
      obtain ⟨hi3, h⟩ := ck_some h
      refine x_bastB hx hb hK hD hN hP hS (hal _ (okk_al hy2)) (okk_t hy2) 1 (fun _ _ _ => rfl) rfl (by decide) (inb_in hi3) dIm_setWord_21 (fun H locs hP hS => ?_)
      refine lv_iinc (k := 3) (v := x3 + (1 : Int32)) (lv' := [(3, .int (x3 + (1 : Int32))), (0, .ref (ad x0)), (1, .int x1), (2, .int x2)]) hx hb dIm_setWord_22 hl rfl (congrArg (fun z => _ + z) (show Int32.ofInt 1 = 1 by decide)) (by decide) rfl (fun ls hl => ?_)
      refine lv_goto (tgt := 2) hx hb dIm_setWord_25 rfl ?_
      exact ih (stI u y1 (x1 + x3) ((x2 >>> (((8 : Int32) * x3) &&& 31)).toInt8.toInt32)) x0 x1 x2 (x3 + (1 : Int32)) h q0 _ _ _ (lv_sub hl [1, 2, 3, 0] rfl) hP hS
def bk_Im_setWord_0 (F : Nat) (al : Nat → Bool) (u : Mr) (x0 : Nat) (x1 : Int32) (x2 : Int32) : Option (Mr × Int32) := bk_Im_setWord_2 F al F u x0 x1 x2 (0 : Int32)
set_option maxHeartbeats 4000000 in
set_option maxRecDepth 100000 in
theorem wk_Im_setWord_0 (cx : Cx p l e s m args below meth c cIm_setWord 4 bw "ImageForge$Image" none D cA ad L rs al A) (F : Nat) (out : Mr × Int32) : ∀ (u : Mr) (x0 : Nat) (x1 : Int32) (x2 : Int32), bk_Im_setWord_0 F al u x0 x1 x2 = some out → okk al 6 x0 = true → Wb p l e rm_Im_setWord s m args below meth c D cA ad L rs A (QV below args s D cA ad L rs A out) 4 0 [(0, .ref (ad x0)), (1, .int x1), (2, .int x2)] [] u := by
  obtain ⟨hx, hb, hml, hown, hts, hr, hlocks, hK, hA, hD, hN, hal, hNx⟩ := cx
  intro u x0 x1 x2 h q0 H locs ls hl hP hS
  unfold bk_Im_setWord_0 at h
  refine lv_iconst (v := 0) hx hb dIm_setWord_0 (by decide) ?_
  refine lv_istore_n (lv' := [(3, .int (0 : Int32)), (0, .ref (ad x0)), (1, .int x1), (2, .int x2)]) hx hb dIm_setWord_1 rfl hl (by decide) rfl (fun ls hl => ?_)
  exact wk_Im_setWord_2 ⟨hx, hb, hml, hown, hts, hr, hlocks, hK, hA, hD, hN, hal, hNx⟩ F out F u x0 x1 x2 (0 : Int32) h q0 _ _ _ (lv_sub hl [1, 2, 3, 0] rfl) hP hS
def fn_Im_setWord (F : Nat) (al : Nat → Bool) (u : Mr) (x0 : Nat) (x1 : Int32) (x2 : Int32) : Option (Mr × Int32) := bk_Im_setWord_0 F al u x0 x1 x2
set_option maxHeartbeats 4000000 in
set_option maxRecDepth 100000 in
theorem ct_Im_setWord {l : Launch} {D : va_G} {cA : Nat → ClassId} {ad : Nat → Nat} {L : List Nat} {rs : va_W} {al : Nat → Bool} (hal : ∀ k, al k = true → k ∈ L) (hN : L.Nodup) (F : Nat) (u : Mr) (x0 : Nat) (x1 : Int32) (x2 : Int32) (out : Mr × Int32) (h : fn_Im_setWord F al u x0 x1 x2 = some out) (q0 : okk al 6 x0 = true) : CtV l yIm_setWord wsIm_setWord rm_Im_setWord [.ref (ad x0), .int x1, .int x2] D cA ad L rs u out := by
  intro sz
  refine Met.ofW (cc := cIm_setWord) (maxL := 4) (ret := none) (by decide) rfl ?_
  intro p e s m args below meth c s₁ B hml hv
  obtain ⟨rfl, hsz, hP, hK, hD0, hNx⟩ := hv
  subst hsz
  have hD := hD0.self (sz := s.heap.size)
  generalize hAe : va_A (ww ad cA L rs u) s.heap.size = A at hD ⊢
  have hA : ∀ q, s.heap.size ≤ q → A q := fun q h => by rw [← hAe]; exact Or.inr h
  have hl := lv_entry ([.ref (ad x0), .int x1, .int x2]) (n := 4) (Nat.le_of_ble_eq_true rfl)
  rw [lg_entry_eq]
  generalize (lg_sl ([.ref (ad x0), .int x1, .int x2]) ++ List.replicate (4 - (lg_sl ([.ref (ad x0), .int x1, .int x2])).length) Slot.unset).toArray = ls at hl ⊢
  exact wk_Im_setWord_0 ⟨B.exec, B.bytes, hml, findClass_of_methodNamed B.named, hts_bw (atoms_spec (ws := wsIm_setWord) B.pre), B.returns, B.notSynchronized, hK, hA, fun v => ww_D hD, hN, hal, hNx⟩ F out u x0 x1 x2 h q0 _ _ _ (lv_sub hl [0, 1, 2] rfl) hP va_S.rf
abbrev rm_Im_addToWord : Room := { frames := 1, cells := 0, slots := 0, locals := 23 }
def bk_Im_addToWord_0 (F : Nat) (al : Nat → Bool) (u : Mr) (x0 : Nat) (x1 : Int32) (x2 : Int32) : Option (Mr × Int32) := bd2 (fn_Im_wordAt F al u x0 x1) fun u1 v1 => (bd2 (fn_Im_setWord F al u1 x0 x1 (v1 + x2)) fun u2 v2 => (some (u2, 0)))
set_option maxHeartbeats 4000000 in
set_option maxRecDepth 100000 in
theorem wk_Im_addToWord_0 (cx : Cx p l e s m args below meth c cIm_addToWord 3 bw "ImageForge$Image" none D cA ad L rs al A) (F : Nat) (out : Mr × Int32) : ∀ (u : Mr) (x0 : Nat) (x1 : Int32) (x2 : Int32), bk_Im_addToWord_0 F al u x0 x1 x2 = some out → okk al 6 x0 = true → Wb p l e rm_Im_addToWord s m args below meth c D cA ad L rs A (QV below args s D cA ad L rs A out) 3 0 [(0, .ref (ad x0)), (1, .int x1), (2, .int x2)] [] u := by
  obtain ⟨hx, hb, hml, hown, hts, hr, hlocks, hK, hA, hD, hN, hal, hNx⟩ := cx
  intro u x0 x1 x2 h q0 H locs ls hl hP hS
  unfold bk_Im_addToWord_0 at h
  refine lv_aload_n hx hb dIm_addToWord_0 rfl (lv_at hl 0 rfl) ?_
  refine lv_iload_n hx hb dIm_addToWord_1 rfl (lv_at hl 1 rfl) ?_
  refine lv_aload_n hx hb dIm_addToWord_2 rfl (lv_at hl 0 rfl) ?_
  refine lv_iload_n hx hb dIm_addToWord_3 rfl (lv_at hl 1 rfl) ?_
  obtain ⟨u1, v1, hc1, h⟩ := bd2_some h
  refine x_ci (u := u) (out := (u1, v1)) hA hD hS (va_runV (As := [.int x1]) (rest := [.int x1, .ref (ad x0)]) ⟨hx, hb, hml, hown, hts⟩ (ct_Im_wordAt hal hN F u x0 x1 (u1, v1) hc1 q0 _) ⟨callB_of 1 hts gdIm_wordAt rfl rfl rfl (hts _ tw_2) (hts _ tw_637) hdIm_wordAt ⟨Nat.le_of_ble_eq_true rfl, Nat.le_of_ble_eq_true rfl⟩, (hts _ tw_240), (hts _ tp_3)⟩ (x_preV hK hD hNx hP (hal _ (okk_al q0)) (okk_t q0) rfl rfl) rfl rfl hl.1 rfl (lv_room (Nat.le_of_ble_eq_true rfl)) dIm_addToWord_4 ⟨Nat.zero_le _, Nat.zero_le _⟩) (fun H locs hP hS => ?_)
  refine lv_iload_n hx hb dIm_addToWord_7 rfl (lv_at hl 2 rfl) ?_
  refine lv_iadd hx hb dIm_addToWord_8 ?_
  obtain ⟨u2, v2, hc2, h⟩ := bd2_some h
  refine x_cv (u := u1) (out := (u2, v2)) hA hD hS (va_runV (As := [.int x1, .int (v1 + x2)]) (rest := []) ⟨hx, hb, hml, hown, hts⟩ (ct_Im_setWord hal hN F u1 x0 x1 (v1 + x2) (u2, v2) hc2 q0 _) ⟨callB_of 2 hts gdIm_setWord rfl rfl rfl (hts _ tw_2) (hts _ tw_582) hdIm_setWord ⟨Nat.le_of_ble_eq_true rfl, Nat.le_of_ble_eq_true rfl⟩, (hts _ tw_584), (hts _ tp_22)⟩ (x_preV hK hD hNx hP (hal _ (okk_al q0)) (okk_t q0) rfl rfl) rfl rfl hl.1 rfl (lv_room (Nat.le_of_ble_eq_true rfl)) dIm_addToWord_9 ⟨Nat.zero_le _, Nat.zero_le _⟩) (fun H locs hP hS => ?_)
  exact x_vret hx hb hr hlocks h hP hS dIm_addToWord_12
def fn_Im_addToWord (F : Nat) (al : Nat → Bool) (u : Mr) (x0 : Nat) (x1 : Int32) (x2 : Int32) : Option (Mr × Int32) := bk_Im_addToWord_0 F al u x0 x1 x2
set_option maxHeartbeats 4000000 in
set_option maxRecDepth 100000 in
theorem ct_Im_addToWord {l : Launch} {D : va_G} {cA : Nat → ClassId} {ad : Nat → Nat} {L : List Nat} {rs : va_W} {al : Nat → Bool} (hal : ∀ k, al k = true → k ∈ L) (hN : L.Nodup) (F : Nat) (u : Mr) (x0 : Nat) (x1 : Int32) (x2 : Int32) (out : Mr × Int32) (h : fn_Im_addToWord F al u x0 x1 x2 = some out) (q0 : okk al 6 x0 = true) : CtV l yIm_addToWord wsIm_addToWord rm_Im_addToWord [.ref (ad x0), .int x1, .int x2] D cA ad L rs u out := by
  intro sz
  refine Met.ofW (cc := cIm_addToWord) (maxL := 3) (ret := none) (by decide) rfl ?_
  intro p e s m args below meth c s₁ B hml hv
  obtain ⟨rfl, hsz, hP, hK, hD0, hNx⟩ := hv
  subst hsz
  have hD := hD0.self (sz := s.heap.size)
  generalize hAe : va_A (ww ad cA L rs u) s.heap.size = A at hD ⊢
  have hA : ∀ q, s.heap.size ≤ q → A q := fun q h => by rw [← hAe]; exact Or.inr h
  have hl := lv_entry ([.ref (ad x0), .int x1, .int x2]) (n := 3) (Nat.le_of_ble_eq_true rfl)
  rw [lg_entry_eq]
  generalize (lg_sl ([.ref (ad x0), .int x1, .int x2]) ++ List.replicate (3 - (lg_sl ([.ref (ad x0), .int x1, .int x2])).length) Slot.unset).toArray = ls at hl ⊢
  exact wk_Im_addToWord_0 ⟨B.exec, B.bytes, hml, findClass_of_methodNamed B.named, hts_bw (atoms_spec (ws := wsIm_addToWord) B.pre), B.returns, B.notSynchronized, hK, hA, fun v => ww_D hD, hN, hal, hNx⟩ F out u x0 x1 x2 h q0 _ _ _ (lv_sub hl [0, 1, 2] rfl) hP va_S.rf
abbrev rm_Im_holdsWord : Room := { frames := 0, cells := 0, slots := 0, locals := 0 }
def bk_Im_holdsWord_0 (F : Nat) (al : Nat → Bool) (u : Mr) (x0 : Nat) (x1 : Int64) : Option (Mr × Int32) := if (lg_cmp x1 (0 : Int64)) < 0 then (some (u, (0 : Int32))) else (if 0 < (lg_cmp x1 (((u.1 x0 1) - (4 : Int32)).toInt64)) then (some (u, (0 : Int32))) else (some (u, (1 : Int32))))
set_option maxHeartbeats 4000000 in
set_option maxRecDepth 100000 in
theorem wk_Im_holdsWord_0 (cx : Cx p l e s m args below meth c cIm_holdsWord 3 bw "ImageForge$Image" (some .boolean) D cA ad L rs al A) (F : Nat) (out : Mr × Int32) : ∀ (u : Mr) (x0 : Nat) (x1 : Int64), bk_Im_holdsWord_0 F al u x0 x1 = some out → okk al 6 x0 = true → Wb p l e rm_Im_holdsWord s m args below meth c D cA ad L rs A (QI below args s D cA ad L rs A out) 3 0 [(0, .ref (ad x0)), (1, .long x1)] [] u := by
  obtain ⟨hx, hb, hml, hown, hts, hr, hlocks, hK, hA, hD, hN, hal, hNx⟩ := cx
  intro u x0 x1 h q0 H locs ls hl hP hS
  unfold bk_Im_holdsWord_0 at h
  refine lv_lload_n hx hb dIm_holdsWord_0 rfl (lv_at hl 1 rfl) ?_
  refine lv_lconst (v := 0) hx hb dIm_holdsWord_1 rfl ?_
  refine W.lcmp hx hb dIm_holdsWord_2 ?_
  refine lv_if_lt (tgt := 22) hx hb dIm_holdsWord_3 rfl (fun hc => ?_) (fun hc => ?_)
  · replace h := it_t h hc
    refine lv_iconst (v := 0) hx hb dIm_holdsWord_22 (by decide) ?_
    exact x_zret hx hb hr hlocks rfl h hP hS dIm_holdsWord_23
  · replace h := it_f h hc
    refine lv_lload_n hx hb dIm_holdsWord_6 rfl (lv_at hl 1 rfl) ?_
    refine lv_aload_n hx hb dIm_holdsWord_7 rfl (lv_at hl 0 rfl) ?_
    refine x_get hx hb hts in_Im hown hK hP (hal _ (okk_al q0)) (okk_t q0) rfl rfl 1 (by decide) (hts _ tw_49) (fun _ h9 => h9) rfl dIm_holdsWord_8 ?_
    refine lv_iconst (v := 4) hx hb dIm_holdsWord_11 (by decide) ?_
    refine lv_isub hx hb dIm_holdsWord_12 ?_
    refine lv_i2l (v := ((u.1 x0 1) - (4 : Int32)).toInt64) hx hb dIm_holdsWord_13 rfl ?_
    refine W.lcmp hx hb dIm_holdsWord_14 ?_
    refine lv_if_gt (tgt := 22) hx hb dIm_holdsWord_15 rfl (fun hc => ?_) (fun hc => ?_)
    · replace h := it_t h hc
      refine lv_iconst (v := 0) hx hb dIm_holdsWord_22 (by decide) ?_
      exact x_zret hx hb hr hlocks rfl h hP hS dIm_holdsWord_23
    · replace h := it_f h hc
      refine lv_iconst (v := 1) hx hb dIm_holdsWord_18 (by decide) ?_
      refine lv_goto (tgt := 23) hx hb dIm_holdsWord_19 rfl ?_
      exact x_zret hx hb hr hlocks rfl h hP hS dIm_holdsWord_23
def fn_Im_holdsWord (F : Nat) (al : Nat → Bool) (u : Mr) (x0 : Nat) (x1 : Int64) : Option (Mr × Int32) := bk_Im_holdsWord_0 F al u x0 x1
set_option maxHeartbeats 4000000 in
set_option maxRecDepth 100000 in
theorem ct_Im_holdsWord {l : Launch} {D : va_G} {cA : Nat → ClassId} {ad : Nat → Nat} {L : List Nat} {rs : va_W} {al : Nat → Bool} (hal : ∀ k, al k = true → k ∈ L) (hN : L.Nodup) (F : Nat) (u : Mr) (x0 : Nat) (x1 : Int64) (out : Mr × Int32) (h : fn_Im_holdsWord F al u x0 x1 = some out) (q0 : okk al 6 x0 = true) : CtI l yIm_holdsWord wsIm_holdsWord rm_Im_holdsWord [.ref (ad x0), .long x1] D cA ad L rs u out := by
  intro sz
  refine Met.ofW (cc := cIm_holdsWord) (maxL := 3) (ret := (some .boolean)) (by decide) rfl ?_
  intro p e s m args below meth c s₁ B hml hv
  obtain ⟨rfl, hsz, hP, hK, hD0, hNx⟩ := hv
  subst hsz
  have hD := hD0.self (sz := s.heap.size)
  generalize hAe : va_A (ww ad cA L rs u) s.heap.size = A at hD ⊢
  have hA : ∀ q, s.heap.size ≤ q → A q := fun q h => by rw [← hAe]; exact Or.inr h
  have hl := lv_entry ([.ref (ad x0), .long x1]) (n := 3) (Nat.le_of_ble_eq_true rfl)
  rw [lg_entry_eq]
  generalize (lg_sl ([.ref (ad x0), .long x1]) ++ List.replicate (3 - (lg_sl ([.ref (ad x0), .long x1])).length) Slot.unset).toArray = ls at hl ⊢
  exact wk_Im_holdsWord_0 ⟨B.exec, B.bytes, hml, findClass_of_methodNamed B.named, hts_bw (atoms_spec (ws := wsIm_holdsWord) B.pre), B.returns, B.notSynchronized, hK, hA, fun v => ww_D hD, hN, hal, hNx⟩ F out u x0 x1 h q0 _ _ _ (lv_sub hl [0, 1] rfl) hP va_S.rf
abbrev rm_Im_sectionBegin : Room := { frames := 1, cells := 0, slots := 0, locals := 21 }
def bk_Im_sectionBegin_0 (F : Nat) (al : Nat → Bool) (u : Mr) (x0 : Nat) (x1 : Int32) : Option (Mr × Int32) := bd2 (fn_Im_wordAt F al u x0 ((24 : Int32) + (x1 * (8 : Int32)))) fun u1 v1 => (some (u1, v1))
set_option maxHeartbeats 4000000 in
set_option maxRecDepth 100000 in
theorem wk_Im_sectionBegin_0 (cx : Cx p l e s m args below meth c cIm_sectionBegin 2 bw "ImageForge$Image" (some .int) D cA ad L rs al A) (F : Nat) (out : Mr × Int32) : ∀ (u : Mr) (x0 : Nat) (x1 : Int32), bk_Im_sectionBegin_0 F al u x0 x1 = some out → okk al 6 x0 = true → Wb p l e rm_Im_sectionBegin s m args below meth c D cA ad L rs A (QI below args s D cA ad L rs A out) 2 0 [(0, .ref (ad x0)), (1, .int x1)] [] u := by
  obtain ⟨hx, hb, hml, hown, hts, hr, hlocks, hK, hA, hD, hN, hal, hNx⟩ := cx
  intro u x0 x1 h q0 H locs ls hl hP hS
  unfold bk_Im_sectionBegin_0 at h
  refine lv_aload_n hx hb dIm_sectionBegin_0 rfl (lv_at hl 0 rfl) ?_
  refine lv_bipush (v := 24) hx hb dIm_sectionBegin_1 (by decide) ?_
  refine lv_iload_n hx hb dIm_sectionBegin_3 rfl (lv_at hl 1 rfl) ?_
  refine lv_bipush (v := 8) hx hb dIm_sectionBegin_4 (by decide) ?_
  refine lv_imul hx hb dIm_sectionBegin_6 ?_
  refine lv_iadd hx hb dIm_sectionBegin_7 ?_
  obtain ⟨u1, v1, hc1, h⟩ := bd2_some h
  refine x_ci (u := u) (out := (u1, v1)) hA hD hS (va_runV (As := [.int ((24 : Int32) + (x1 * (8 : Int32)))]) (rest := []) ⟨hx, hb, hml, hown, hts⟩ (ct_Im_wordAt hal hN F u x0 ((24 : Int32) + (x1 * (8 : Int32))) (u1, v1) hc1 q0 _) ⟨callB_of 1 hts gdIm_wordAt rfl rfl rfl (hts _ tw_2) (hts _ tw_637) hdIm_wordAt ⟨Nat.le_of_ble_eq_true rfl, Nat.le_of_ble_eq_true rfl⟩, (hts _ tw_240), (hts _ tp_3)⟩ (x_preV hK hD hNx hP (hal _ (okk_al q0)) (okk_t q0) rfl rfl) rfl rfl hl.1 rfl (lv_room (Nat.le_of_ble_eq_true rfl)) dIm_sectionBegin_8 ⟨Nat.zero_le _, Nat.zero_le _⟩) (fun H locs hP hS => ?_)
  exact x_iret hx hb hr hlocks h hP hS dIm_sectionBegin_11
def fn_Im_sectionBegin (F : Nat) (al : Nat → Bool) (u : Mr) (x0 : Nat) (x1 : Int32) : Option (Mr × Int32) := bk_Im_sectionBegin_0 F al u x0 x1
set_option maxHeartbeats 4000000 in
set_option maxRecDepth 100000 in
theorem ct_Im_sectionBegin {l : Launch} {D : va_G} {cA : Nat → ClassId} {ad : Nat → Nat} {L : List Nat} {rs : va_W} {al : Nat → Bool} (hal : ∀ k, al k = true → k ∈ L) (hN : L.Nodup) (F : Nat) (u : Mr) (x0 : Nat) (x1 : Int32) (out : Mr × Int32) (h : fn_Im_sectionBegin F al u x0 x1 = some out) (q0 : okk al 6 x0 = true) : CtI l yIm_sectionBegin wsIm_sectionBegin rm_Im_sectionBegin [.ref (ad x0), .int x1] D cA ad L rs u out := by
  intro sz
  refine Met.ofW (cc := cIm_sectionBegin) (maxL := 2) (ret := (some .int)) (by decide) rfl ?_
  intro p e s m args below meth c s₁ B hml hv
  obtain ⟨rfl, hsz, hP, hK, hD0, hNx⟩ := hv
  subst hsz
  have hD := hD0.self (sz := s.heap.size)
  generalize hAe : va_A (ww ad cA L rs u) s.heap.size = A at hD ⊢
  have hA : ∀ q, s.heap.size ≤ q → A q := fun q h => by rw [← hAe]; exact Or.inr h
  have hl := lv_entry ([.ref (ad x0), .int x1]) (n := 2) (Nat.le_of_ble_eq_true rfl)
  rw [lg_entry_eq]
  generalize (lg_sl ([.ref (ad x0), .int x1]) ++ List.replicate (2 - (lg_sl ([.ref (ad x0), .int x1])).length) Slot.unset).toArray = ls at hl ⊢
  exact wk_Im_sectionBegin_0 ⟨B.exec, B.bytes, hml, findClass_of_methodNamed B.named, hts_bw (atoms_spec (ws := wsIm_sectionBegin) B.pre), B.returns, B.notSynchronized, hK, hA, fun v => ww_D hD, hN, hal, hNx⟩ F out u x0 x1 h q0 _ _ _ (lv_sub hl [0, 1] rfl) hP va_S.rf
abbrev rm_Im_sectionSize : Room := { frames := 1, cells := 0, slots := 0, locals := 21 }
def bk_Im_sectionSize_0 (F : Nat) (al : Nat → Bool) (u : Mr) (x0 : Nat) (x1 : Int32) : Option (Mr × Int32) := bd2 (fn_Im_wordAt F al u x0 (((24 : Int32) + (x1 * (8 : Int32))) + (4 : Int32))) fun u1 v1 => (some (u1, v1))
set_option maxHeartbeats 4000000 in
set_option maxRecDepth 100000 in
theorem wk_Im_sectionSize_0 (cx : Cx p l e s m args below meth c cIm_sectionSize 2 bw "ImageForge$Image" (some .int) D cA ad L rs al A) (F : Nat) (out : Mr × Int32) : ∀ (u : Mr) (x0 : Nat) (x1 : Int32), bk_Im_sectionSize_0 F al u x0 x1 = some out → okk al 6 x0 = true → Wb p l e rm_Im_sectionSize s m args below meth c D cA ad L rs A (QI below args s D cA ad L rs A out) 2 0 [(0, .ref (ad x0)), (1, .int x1)] [] u := by
  obtain ⟨hx, hb, hml, hown, hts, hr, hlocks, hK, hA, hD, hN, hal, hNx⟩ := cx
  intro u x0 x1 h q0 H locs ls hl hP hS
  unfold bk_Im_sectionSize_0 at h
  refine lv_aload_n hx hb dIm_sectionSize_0 rfl (lv_at hl 0 rfl) ?_
  refine lv_bipush (v := 24) hx hb dIm_sectionSize_1 (by decide) ?_
  refine lv_iload_n hx hb dIm_sectionSize_3 rfl (lv_at hl 1 rfl) ?_
  refine lv_bipush (v := 8) hx hb dIm_sectionSize_4 (by decide) ?_
  refine lv_imul hx hb dIm_sectionSize_6 ?_
  refine lv_iadd hx hb dIm_sectionSize_7 ?_
  refine lv_iconst (v := 4) hx hb dIm_sectionSize_8 (by decide) ?_
  refine lv_iadd hx hb dIm_sectionSize_9 ?_
  obtain ⟨u1, v1, hc1, h⟩ := bd2_some h
  refine x_ci (u := u) (out := (u1, v1)) hA hD hS (va_runV (As := [.int (((24 : Int32) + (x1 * (8 : Int32))) + (4 : Int32))]) (rest := []) ⟨hx, hb, hml, hown, hts⟩ (ct_Im_wordAt hal hN F u x0 (((24 : Int32) + (x1 * (8 : Int32))) + (4 : Int32)) (u1, v1) hc1 q0 _) ⟨callB_of 1 hts gdIm_wordAt rfl rfl rfl (hts _ tw_2) (hts _ tw_637) hdIm_wordAt ⟨Nat.le_of_ble_eq_true rfl, Nat.le_of_ble_eq_true rfl⟩, (hts _ tw_240), (hts _ tp_3)⟩ (x_preV hK hD hNx hP (hal _ (okk_al q0)) (okk_t q0) rfl rfl) rfl rfl hl.1 rfl (lv_room (Nat.le_of_ble_eq_true rfl)) dIm_sectionSize_10 ⟨Nat.zero_le _, Nat.zero_le _⟩) (fun H locs hP hS => ?_)
  exact x_iret hx hb hr hlocks h hP hS dIm_sectionSize_13
def fn_Im_sectionSize (F : Nat) (al : Nat → Bool) (u : Mr) (x0 : Nat) (x1 : Int32) : Option (Mr × Int32) := bk_Im_sectionSize_0 F al u x0 x1
set_option maxHeartbeats 4000000 in
set_option maxRecDepth 100000 in
theorem ct_Im_sectionSize {l : Launch} {D : va_G} {cA : Nat → ClassId} {ad : Nat → Nat} {L : List Nat} {rs : va_W} {al : Nat → Bool} (hal : ∀ k, al k = true → k ∈ L) (hN : L.Nodup) (F : Nat) (u : Mr) (x0 : Nat) (x1 : Int32) (out : Mr × Int32) (h : fn_Im_sectionSize F al u x0 x1 = some out) (q0 : okk al 6 x0 = true) : CtI l yIm_sectionSize wsIm_sectionSize rm_Im_sectionSize [.ref (ad x0), .int x1] D cA ad L rs u out := by
  intro sz
  refine Met.ofW (cc := cIm_sectionSize) (maxL := 2) (ret := (some .int)) (by decide) rfl ?_
  intro p e s m args below meth c s₁ B hml hv
  obtain ⟨rfl, hsz, hP, hK, hD0, hNx⟩ := hv
  subst hsz
  have hD := hD0.self (sz := s.heap.size)
  generalize hAe : va_A (ww ad cA L rs u) s.heap.size = A at hD ⊢
  have hA : ∀ q, s.heap.size ≤ q → A q := fun q h => by rw [← hAe]; exact Or.inr h
  have hl := lv_entry ([.ref (ad x0), .int x1]) (n := 2) (Nat.le_of_ble_eq_true rfl)
  rw [lg_entry_eq]
  generalize (lg_sl ([.ref (ad x0), .int x1]) ++ List.replicate (2 - (lg_sl ([.ref (ad x0), .int x1])).length) Slot.unset).toArray = ls at hl ⊢
  exact wk_Im_sectionSize_0 ⟨B.exec, B.bytes, hml, findClass_of_methodNamed B.named, hts_bw (atoms_spec (ws := wsIm_sectionSize) B.pre), B.returns, B.notSynchronized, hK, hA, fun v => ww_D hD, hN, hal, hNx⟩ F out u x0 x1 h q0 _ _ _ (lv_sub hl [0, 1] rfl) hP va_S.rf
abbrev rm_Im_setSection : Room := { frames := 1, cells := 0, slots := 0, locals := 23 }
def bk_Im_setSection_0 (F : Nat) (al : Nat → Bool) (u : Mr) (x0 : Nat) (x1 : Int32) (x2 : Int32) (x3 : Int32) : Option (Mr × Int32) := bd2 (fn_Im_setWord F al u x0 ((24 : Int32) + (x1 * (8 : Int32))) x2) fun u1 v1 => (bd2 (fn_Im_setWord F al u1 x0 (((24 : Int32) + (x1 * (8 : Int32))) + (4 : Int32)) x3) fun u2 v2 => (some (u2, 0)))
set_option maxHeartbeats 4000000 in
set_option maxRecDepth 100000 in
theorem wk_Im_setSection_0 (cx : Cx p l e s m args below meth c cIm_setSection 4 bw "ImageForge$Image" none D cA ad L rs al A) (F : Nat) (out : Mr × Int32) : ∀ (u : Mr) (x0 : Nat) (x1 : Int32) (x2 : Int32) (x3 : Int32), bk_Im_setSection_0 F al u x0 x1 x2 x3 = some out → okk al 6 x0 = true → Wb p l e rm_Im_setSection s m args below meth c D cA ad L rs A (QV below args s D cA ad L rs A out) 4 0 [(0, .ref (ad x0)), (1, .int x1), (2, .int x2), (3, .int x3)] [] u := by
  obtain ⟨hx, hb, hml, hown, hts, hr, hlocks, hK, hA, hD, hN, hal, hNx⟩ := cx
  intro u x0 x1 x2 x3 h q0 H locs ls hl hP hS
  unfold bk_Im_setSection_0 at h
  refine lv_aload_n hx hb dIm_setSection_0 rfl (lv_at hl 0 rfl) ?_
  refine lv_bipush (v := 24) hx hb dIm_setSection_1 (by decide) ?_
  refine lv_iload_n hx hb dIm_setSection_3 rfl (lv_at hl 1 rfl) ?_
  refine lv_bipush (v := 8) hx hb dIm_setSection_4 (by decide) ?_
  refine lv_imul hx hb dIm_setSection_6 ?_
  refine lv_iadd hx hb dIm_setSection_7 ?_
  refine lv_iload_n hx hb dIm_setSection_8 rfl (lv_at hl 2 rfl) ?_
  obtain ⟨u1, v1, hc1, h⟩ := bd2_some h
  refine x_cv (u := u) (out := (u1, v1)) hA hD hS (va_runV (As := [.int ((24 : Int32) + (x1 * (8 : Int32))), .int x2]) (rest := []) ⟨hx, hb, hml, hown, hts⟩ (ct_Im_setWord hal hN F u x0 ((24 : Int32) + (x1 * (8 : Int32))) x2 (u1, v1) hc1 q0 _) ⟨callB_of 2 hts gdIm_setWord rfl rfl rfl (hts _ tw_2) (hts _ tw_582) hdIm_setWord ⟨Nat.le_of_ble_eq_true rfl, Nat.le_of_ble_eq_true rfl⟩, (hts _ tw_584), (hts _ tp_22)⟩ (x_preV hK hD hNx hP (hal _ (okk_al q0)) (okk_t q0) rfl rfl) rfl rfl hl.1 rfl (lv_room (Nat.le_of_ble_eq_true rfl)) dIm_setSection_9 ⟨Nat.zero_le _, Nat.zero_le _⟩) (fun H locs hP hS => ?_)
  refine lv_aload_n hx hb dIm_setSection_12 rfl (lv_at hl 0 rfl) ?_
  refine lv_bipush (v := 24) hx hb dIm_setSection_13 (by decide) ?_
  refine lv_iload_n hx hb dIm_setSection_15 rfl (lv_at hl 1 rfl) ?_
  refine lv_bipush (v := 8) hx hb dIm_setSection_16 (by decide) ?_
  refine lv_imul hx hb dIm_setSection_18 ?_
  refine lv_iadd hx hb dIm_setSection_19 ?_
  refine lv_iconst (v := 4) hx hb dIm_setSection_20 (by decide) ?_
  refine lv_iadd hx hb dIm_setSection_21 ?_
  refine lv_iload_n hx hb dIm_setSection_22 rfl (lv_at hl 3 rfl) ?_
  obtain ⟨u2, v2, hc2, h⟩ := bd2_some h
  refine x_cv (u := u1) (out := (u2, v2)) hA hD hS (va_runV (As := [.int (((24 : Int32) + (x1 * (8 : Int32))) + (4 : Int32)), .int x3]) (rest := []) ⟨hx, hb, hml, hown, hts⟩ (ct_Im_setWord hal hN F u1 x0 (((24 : Int32) + (x1 * (8 : Int32))) + (4 : Int32)) x3 (u2, v2) hc2 q0 _) ⟨callB_of 2 hts gdIm_setWord rfl rfl rfl (hts _ tw_2) (hts _ tw_582) hdIm_setWord ⟨Nat.le_of_ble_eq_true rfl, Nat.le_of_ble_eq_true rfl⟩, (hts _ tw_584), (hts _ tp_22)⟩ (x_preV hK hD hNx hP (hal _ (okk_al q0)) (okk_t q0) rfl rfl) rfl rfl hl.1 rfl (lv_room (Nat.le_of_ble_eq_true rfl)) dIm_setSection_23 ⟨Nat.zero_le _, Nat.zero_le _⟩) (fun H locs hP hS => ?_)
  exact x_vret hx hb hr hlocks h hP hS dIm_setSection_26
def fn_Im_setSection (F : Nat) (al : Nat → Bool) (u : Mr) (x0 : Nat) (x1 : Int32) (x2 : Int32) (x3 : Int32) : Option (Mr × Int32) := bk_Im_setSection_0 F al u x0 x1 x2 x3
set_option maxHeartbeats 4000000 in
set_option maxRecDepth 100000 in
theorem ct_Im_setSection {l : Launch} {D : va_G} {cA : Nat → ClassId} {ad : Nat → Nat} {L : List Nat} {rs : va_W} {al : Nat → Bool} (hal : ∀ k, al k = true → k ∈ L) (hN : L.Nodup) (F : Nat) (u : Mr) (x0 : Nat) (x1 : Int32) (x2 : Int32) (x3 : Int32) (out : Mr × Int32) (h : fn_Im_setSection F al u x0 x1 x2 x3 = some out) (q0 : okk al 6 x0 = true) : CtV l yIm_setSection wsIm_setSection rm_Im_setSection [.ref (ad x0), .int x1, .int x2, .int x3] D cA ad L rs u out := by
  intro sz
  refine Met.ofW (cc := cIm_setSection) (maxL := 4) (ret := none) (by decide) rfl ?_
  intro p e s m args below meth c s₁ B hml hv
  obtain ⟨rfl, hsz, hP, hK, hD0, hNx⟩ := hv
  subst hsz
  have hD := hD0.self (sz := s.heap.size)
  generalize hAe : va_A (ww ad cA L rs u) s.heap.size = A at hD ⊢
  have hA : ∀ q, s.heap.size ≤ q → A q := fun q h => by rw [← hAe]; exact Or.inr h
  have hl := lv_entry ([.ref (ad x0), .int x1, .int x2, .int x3]) (n := 4) (Nat.le_of_ble_eq_true rfl)
  rw [lg_entry_eq]
  generalize (lg_sl ([.ref (ad x0), .int x1, .int x2, .int x3]) ++ List.replicate (4 - (lg_sl ([.ref (ad x0), .int x1, .int x2, .int x3])).length) Slot.unset).toArray = ls at hl ⊢
  exact wk_Im_setSection_0 ⟨B.exec, B.bytes, hml, findClass_of_methodNamed B.named, hts_bw (atoms_spec (ws := wsIm_setSection) B.pre), B.returns, B.notSynchronized, hK, hA, fun v => ww_D hD, hN, hal, hNx⟩ F out u x0 x1 x2 x3 h q0 _ _ _ (lv_sub hl [0, 1, 2, 3] rfl) hP va_S.rf
abbrev rm_Im_holdsSection : Room := { frames := 2, cells := 0, slots := 0, locals := 42 }
def bk_Im_holdsSection_0 (F : Nat) (al : Nat → Bool) (u : Mr) (x0 : Nat) (x1 : Int32) : Option (Mr × Int32) := bd2 (fn_Im_sectionBegin F al u x0 x1) fun u1 v1 => (bd2 (fn_Im_sectionSize F al u1 x0 x1) fun u2 v2 => (if v1 < 0 then (some (u2, (0 : Int32))) else (if v2 < 0 then (some (u2, (0 : Int32))) else (if 0 < (lg_cmp (v1.toInt64 + v2.toInt64) ((u2.1 x0 1).toInt64)) then (some (u2, (0 : Int32))) else (some (u2, (1 : Int32)))))))
set_option maxHeartbeats 4000000 in
set_option maxRecDepth 100000 in
theorem wk_Im_holdsSection_0 (cx : Cx p l e s m args below meth c cIm_holdsSection 4 bw "ImageForge$Image" (some .boolean) D cA ad L rs al A) (F : Nat) (out : Mr × Int32) : ∀ (u : Mr) (x0 : Nat) (x1 : Int32), bk_Im_holdsSection_0 F al u x0 x1 = some out → okk al 6 x0 = true → Wb p l e rm_Im_holdsSection s m args below meth c D cA ad L rs A (QI below args s D cA ad L rs A out) 4 0 [(0, .ref (ad x0)), (1, .int x1)] [] u := by
  obtain ⟨hx, hb, hml, hown, hts, hr, hlocks, hK, hA, hD, hN, hal, hNx⟩ := cx
  intro u x0 x1 h q0 H locs ls hl hP hS
  unfold bk_Im_holdsSection_0 at h
  refine lv_aload_n hx hb dIm_holdsSection_0 rfl (lv_at hl 0 rfl) ?_
  refine lv_iload_n hx hb dIm_holdsSection_1 rfl (lv_at hl 1 rfl) ?_
  obtain ⟨u1, v1, hc1, h⟩ := bd2_some h
  refine x_ci (u := u) (out := (u1, v1)) hA hD hS (va_runV (As := [.int x1]) (rest := []) ⟨hx, hb, hml, hown, hts⟩ (ct_Im_sectionBegin hal hN F u x0 x1 (u1, v1) hc1 q0 _) ⟨callB_of 1 hts gdIm_sectionBegin rfl rfl rfl (hts _ tw_2) (hts _ tw_741) hdIm_sectionBegin ⟨Nat.le_of_ble_eq_true rfl, Nat.le_of_ble_eq_true rfl⟩, (hts _ tw_743), (hts _ tp_45)⟩ (x_preV hK hD hNx hP (hal _ (okk_al q0)) (okk_t q0) rfl rfl) rfl rfl hl.1 rfl (lv_room (Nat.le_of_ble_eq_true rfl)) dIm_holdsSection_2 ⟨Nat.zero_le _, Nat.zero_le _⟩) (fun H locs hP hS => ?_)
  refine lv_istore_n (lv' := [(2, .int v1), (0, .ref (ad x0)), (1, .int x1)]) hx hb dIm_holdsSection_5 rfl hl (by decide) rfl (fun ls hl => ?_)
  refine lv_aload_n hx hb dIm_holdsSection_6 rfl (lv_at hl 1 rfl) ?_
  refine lv_iload_n hx hb dIm_holdsSection_7 rfl (lv_at hl 2 rfl) ?_
  obtain ⟨u2, v2, hc2, h⟩ := bd2_some h
  refine x_ci (u := u1) (out := (u2, v2)) hA hD hS (va_runV (As := [.int x1]) (rest := []) ⟨hx, hb, hml, hown, hts⟩ (ct_Im_sectionSize hal hN F u1 x0 x1 (u2, v2) hc2 q0 _) ⟨callB_of 1 hts gdIm_sectionSize rfl rfl rfl (hts _ tw_2) (hts _ tw_745) hdIm_sectionSize ⟨Nat.le_of_ble_eq_true rfl, Nat.le_of_ble_eq_true rfl⟩, (hts _ tw_747), (hts _ tp_46)⟩ (x_preV hK hD hNx hP (hal _ (okk_al q0)) (okk_t q0) rfl rfl) rfl rfl hl.1 rfl (lv_room (Nat.le_of_ble_eq_true rfl)) dIm_holdsSection_8 ⟨Nat.zero_le _, Nat.zero_le _⟩) (fun H locs hP hS => ?_)
  refine lv_istore_n (lv' := [(3, .int v2), (2, .int v1), (0, .ref (ad x0)), (1, .int x1)]) hx hb dIm_holdsSection_11 rfl hl (by decide) rfl (fun ls hl => ?_)
  refine lv_iload_n hx hb dIm_holdsSection_12 rfl (lv_at hl 1 rfl) ?_
  refine lv_if_lt (tgt := 38) hx hb dIm_holdsSection_13 rfl (fun hc => ?_) (fun hc => ?_)
  · replace h := it_t h hc
    refine lv_iconst (v := 0) hx hb dIm_holdsSection_38 (by decide) ?_
    exact x_zret hx hb hr hlocks rfl h hP hS dIm_holdsSection_39
  · replace h := it_f h hc
    refine lv_iload_n hx hb dIm_holdsSection_16 rfl (lv_at hl 0 rfl) ?_
    refine lv_if_lt (tgt := 38) hx hb dIm_holdsSection_17 rfl (fun hc => ?_) (fun hc => ?_)
    · replace h := it_t h hc
      refine lv_iconst (v := 0) hx hb dIm_holdsSection_38 (by decide) ?_
      exact x_zret hx hb hr hlocks rfl h hP hS dIm_holdsSection_39
    · replace h := it_f h hc
      refine lv_iload_n hx hb dIm_holdsSection_20 rfl (lv_at hl 1 rfl) ?_
      refine lv_i2l (v := v1.toInt64) hx hb dIm_holdsSection_21 rfl ?_
      refine lv_iload_n hx hb dIm_holdsSection_22 rfl (lv_at hl 0 rfl) ?_
      refine lv_i2l (v := v2.toInt64) hx hb dIm_holdsSection_23 rfl ?_
      refine lv_ladd hx hb dIm_holdsSection_24 ?_
      refine lv_aload_n hx hb dIm_holdsSection_25 rfl (lv_at hl 2 rfl) ?_
      refine x_get hx hb hts in_Im hown hK hP (hal _ (okk_al q0)) (okk_t q0) rfl rfl 1 (by decide) (hts _ tw_49) (fun _ h9 => h9) rfl dIm_holdsSection_26 ?_
      refine lv_i2l (v := (u2.1 x0 1).toInt64) hx hb dIm_holdsSection_29 rfl ?_
      refine W.lcmp hx hb dIm_holdsSection_30 ?_
      refine lv_if_gt (tgt := 38) hx hb dIm_holdsSection_31 rfl (fun hc => ?_) (fun hc => ?_)
      · replace h := it_t h hc
        refine lv_iconst (v := 0) hx hb dIm_holdsSection_38 (by decide) ?_
        exact x_zret hx hb hr hlocks rfl h hP hS dIm_holdsSection_39
      · replace h := it_f h hc
        refine lv_iconst (v := 1) hx hb dIm_holdsSection_34 (by decide) ?_
        refine lv_goto (tgt := 39) hx hb dIm_holdsSection_35 rfl ?_
        exact x_zret hx hb hr hlocks rfl h hP hS dIm_holdsSection_39
def fn_Im_holdsSection (F : Nat) (al : Nat → Bool) (u : Mr) (x0 : Nat) (x1 : Int32) : Option (Mr × Int32) := bk_Im_holdsSection_0 F al u x0 x1
set_option maxHeartbeats 4000000 in
set_option maxRecDepth 100000 in
theorem ct_Im_holdsSection {l : Launch} {D : va_G} {cA : Nat → ClassId} {ad : Nat → Nat} {L : List Nat} {rs : va_W} {al : Nat → Bool} (hal : ∀ k, al k = true → k ∈ L) (hN : L.Nodup) (F : Nat) (u : Mr) (x0 : Nat) (x1 : Int32) (out : Mr × Int32) (h : fn_Im_holdsSection F al u x0 x1 = some out) (q0 : okk al 6 x0 = true) : CtI l yIm_holdsSection wsIm_holdsSection rm_Im_holdsSection [.ref (ad x0), .int x1] D cA ad L rs u out := by
  intro sz
  refine Met.ofW (cc := cIm_holdsSection) (maxL := 4) (ret := (some .boolean)) (by decide) rfl ?_
  intro p e s m args below meth c s₁ B hml hv
  obtain ⟨rfl, hsz, hP, hK, hD0, hNx⟩ := hv
  subst hsz
  have hD := hD0.self (sz := s.heap.size)
  generalize hAe : va_A (ww ad cA L rs u) s.heap.size = A at hD ⊢
  have hA : ∀ q, s.heap.size ≤ q → A q := fun q h => by rw [← hAe]; exact Or.inr h
  have hl := lv_entry ([.ref (ad x0), .int x1]) (n := 4) (Nat.le_of_ble_eq_true rfl)
  rw [lg_entry_eq]
  generalize (lg_sl ([.ref (ad x0), .int x1]) ++ List.replicate (4 - (lg_sl ([.ref (ad x0), .int x1])).length) Slot.unset).toArray = ls at hl ⊢
  exact wk_Im_holdsSection_0 ⟨B.exec, B.bytes, hml, findClass_of_methodNamed B.named, hts_bw (atoms_spec (ws := wsIm_holdsSection) B.pre), B.returns, B.notSynchronized, hK, hA, fun v => ww_D hD, hN, hal, hNx⟩ F out u x0 x1 h q0 _ _ _ (lv_sub hl [0, 1] rfl) hP va_S.rf
abbrev rm_Im_checksum : Room := { frames := 1, cells := 0, slots := 0, locals := 21 }
def bk_Im_checksum_42 (F : Nat) (al : Nat → Bool) (k4 : Mr → Nat → Int32 → Int32 → Option (Mr × Int32)) (u : Mr) (x0 : Nat) (x1 : Int32) (x2 : Int32) : Option (Mr × Int32) := k4 u x0 x1 (x2 + (2 : Int32))
set_option maxHeartbeats 4000000 in
set_option maxRecDepth 100000 in
theorem wk_Im_checksum_42 (cx : Cx p l e s m args below meth c cIm_checksum 3 bw "ImageForge$Image" (some .int) D cA ad L rs al A) (F : Nat) (out : Mr × Int32) {k4 : Mr → Nat → Int32 → Int32 → Option (Mr × Int32)} (hk4 : ∀ (u : Mr) (x0 : Nat) (x1 : Int32) (x2 : Int32), k4 u x0 x1 x2 = some out → okk al 6 x0 = true → Wb p l e rm_Im_checksum s m args below meth c D cA ad L rs A (QI below args s D cA ad L rs A out) 3 4 [(0, .ref (ad x0)), (1, .int x1), (2, .int x2)] [] u) : ∀ (u : Mr) (x0 : Nat) (x1 : Int32) (x2 : Int32), bk_Im_checksum_42 F al k4 u x0 x1 x2 = some out → okk al 6 x0 = true → Wb p l e rm_Im_checksum s m args below meth c D cA ad L rs A (QI below args s D cA ad L rs A out) 3 42 [(0, .ref (ad x0)), (1, .int x1), (2, .int x2)] [] u := by
  obtain ⟨hx, hb, hml, hown, hts, hr, hlocks, hK, hA, hD, hN, hal, hNx⟩ := cx
  intro u x0 x1 x2 h q0 H locs ls hl hP hS
  unfold bk_Im_checksum_42 at h
  refine lv_iinc (k := 2) (v := x2 + (2 : Int32)) (lv' := [(2, .int (x2 + (2 : Int32))), (0, .ref (ad x0)), (1, .int x1)]) hx hb dIm_checksum_42 hl rfl (congrArg (fun z => _ + z) (show Int32.ofInt 2 = 2 by decide)) (by decide) rfl (fun ls hl => ?_)
  refine lv_goto (tgt := 4) hx hb dIm_checksum_45 rfl ?_
  exact hk4 u x0 x1 (x2 + (2 : Int32)) h q0 _ _ _ (lv_sub hl [1, 2, 0] rfl) hP hS
def bk_Im_checksum_24 (F : Nat) (al : Nat → Bool) (k4 : Mr → Nat → Int32 → Int32 → Option (Mr × Int32)) (u : Mr) (x0 : Nat) (x1 : Int32) (x2 : Int32) : Option (Mr × Int32) := bd2 (fn_Im_halfAt F al u x0 x2) fun u1 v1 => (bk_Im_checksum_42 F al k4 u1 x0 (((x1 + v1) &&& (65535 : Int32)) + ((x1 + v1) >>> ((16 : Int32) &&& 31))) x2)
set_option maxHeartbeats 4000000 in
set_option maxRecDepth 100000 in
theorem wk_Im_checksum_24 (cx : Cx p l e s m args below meth c cIm_checksum 3 bw "ImageForge$Image" (some .int) D cA ad L rs al A) (F : Nat) (out : Mr × Int32) {k4 : Mr → Nat → Int32 → Int32 → Option (Mr × Int32)} (hk4 : ∀ (u : Mr) (x0 : Nat) (x1 : Int32) (x2 : Int32), k4 u x0 x1 x2 = some out → okk al 6 x0 = true → Wb p l e rm_Im_checksum s m args below meth c D cA ad L rs A (QI below args s D cA ad L rs A out) 3 4 [(0, .ref (ad x0)), (1, .int x1), (2, .int x2)] [] u) : ∀ (u : Mr) (x0 : Nat) (x1 : Int32) (x2 : Int32), bk_Im_checksum_24 F al k4 u x0 x1 x2 = some out → okk al 6 x0 = true → Wb p l e rm_Im_checksum s m args below meth c D cA ad L rs A (QI below args s D cA ad L rs A out) 3 24 [(0, .ref (ad x0)), (1, .int x1), (2, .int x2)] [] u := by
  obtain ⟨hx, hb, hml, hown, hts, hr, hlocks, hK, hA, hD, hN, hal, hNx⟩ := cx
  intro u x0 x1 x2 h q0 H locs ls hl hP hS
  unfold bk_Im_checksum_24 at h
  refine lv_iload_n hx hb dIm_checksum_24 rfl (lv_at hl 1 rfl) ?_
  refine lv_aload_n hx hb dIm_checksum_25 rfl (lv_at hl 0 rfl) ?_
  refine lv_iload_n hx hb dIm_checksum_26 rfl (lv_at hl 2 rfl) ?_
  obtain ⟨u1, v1, hc1, h⟩ := bd2_some h
  refine x_ci (u := u) (out := (u1, v1)) hA hD hS (va_runV (As := [.int x2]) (rest := [.int x1]) ⟨hx, hb, hml, hown, hts⟩ (ct_Im_halfAt hal hN F u x0 x2 (u1, v1) hc1 q0 _) ⟨callB_of 1 hts gdIm_halfAt rfl rfl rfl (hts _ tw_2) (hts _ tw_659) hdIm_halfAt ⟨Nat.le_of_ble_eq_true rfl, Nat.le_of_ble_eq_true rfl⟩, (hts _ tw_661), (hts _ tp_36)⟩ (x_preV hK hD hNx hP (hal _ (okk_al q0)) (okk_t q0) rfl rfl) rfl rfl hl.1 rfl (lv_room (Nat.le_of_ble_eq_true rfl)) dIm_checksum_27 ⟨Nat.zero_le _, Nat.zero_le _⟩) (fun H locs hP hS => ?_)
  refine lv_iadd hx hb dIm_checksum_30 ?_
  refine lv_istore_n (lv' := [(1, .int (x1 + v1)), (0, .ref (ad x0)), (2, .int x2)]) hx hb dIm_checksum_31 rfl hl (by decide) rfl (fun ls hl => ?_)
  refine lv_iload_n hx hb dIm_checksum_32 rfl (lv_at hl 0 rfl) ?_
  refine lv_ldc (v := 65535) hx hb hown (hts _ tw_663) dIm_checksum_33 ?_
  refine lv_iand hx hb dIm_checksum_35 ?_
  refine lv_iload_n hx hb dIm_checksum_36 rfl (lv_at hl 0 rfl) ?_
  refine lv_bipush (v := 16) hx hb dIm_checksum_37 (by decide) ?_
  refine lv_ishr hx hb dIm_checksum_39 ?_
  refine lv_iadd hx hb dIm_checksum_40 ?_
  refine lv_istore_n (lv' := [(1, .int (((x1 + v1) &&& (65535 : Int32)) + ((x1 + v1) >>> ((16 : Int32) &&& 31)))), (0, .ref (ad x0)), (2, .int x2)]) hx hb dIm_checksum_41 rfl hl (by decide) rfl (fun ls hl => ?_)
  exact wk_Im_checksum_42 ⟨hx, hb, hml, hown, hts, hr, hlocks, hK, hA, hD, hN, hal, hNx⟩ F out hk4 u1 x0 (((x1 + v1) &&& (65535 : Int32)) + ((x1 + v1) >>> ((16 : Int32) &&& 31))) x2 h q0 _ _ _ (lv_sub hl [1, 0, 2] rfl) hP hS
def bk_Im_checksum_4 (F : Nat) (al : Nat → Bool) : Nat → Mr → Nat → Int32 → Int32 → Option (Mr × Int32)
  | 0, _, _, _, _ => none
  | n + 1, u, x0, x1, x2 => if (u.1 x0 1) ≤ x2 then (some (u, x1 + (u.1 x0 1))) else (if x2 < (20 : Int32) then (bk_Im_checksum_24 F al (bk_Im_checksum_4 F al n) u x0 x1 x2) else (if x2 < (24 : Int32) then (bk_Im_checksum_42 F al (bk_Im_checksum_4 F al n) u x0 x1 x2) else (bk_Im_checksum_24 F al (bk_Im_checksum_4 F al n) u x0 x1 x2)))
set_option maxHeartbeats 4000000 in
set_option maxRecDepth 100000 in
theorem wk_Im_checksum_4 (cx : Cx p l e s m args below meth c cIm_checksum 3 bw "ImageForge$Image" (some .int) D cA ad L rs al A) (F : Nat) (out : Mr × Int32) : ∀ n : Nat, ∀ (u : Mr) (x0 : Nat) (x1 : Int32) (x2 : Int32), bk_Im_checksum_4 F al n u x0 x1 x2 = some out → okk al 6 x0 = true → Wb p l e rm_Im_checksum s m args below meth c D cA ad L rs A (QI below args s D cA ad L rs A out) 3 4 [(0, .ref (ad x0)), (1, .int x1), (2, .int x2)] [] u := by
  obtain ⟨hx, hb, hml, hown, hts, hr, hlocks, hK, hA, hD, hN, hal, hNx⟩ := cx
  intro n
  induction n with
  | zero =>
    intro u x0 x1 x2 h
    cases h
  | succ n ih =>
    intro u x0 x1 x2 h q0 H locs ls hl hP hS
    rw [bk_Im_checksum_4] at h
    refine lv_iload_n hx hb dIm_checksum_4 rfl (lv_at hl 2 rfl) ?_
    refine lv_aload_n hx hb dIm_checksum_5 rfl (lv_at hl 0 rfl) ?_
    refine x_get hx hb hts in_Im hown hK hP (hal _ (okk_al q0)) (okk_t q0) rfl rfl 1 (by decide) (hts _ tw_49) (fun _ h9 => h9) rfl dIm_checksum_6 ?_
    refine lv_icmp_ge (tgt := 48) hx hb dIm_checksum_9 rfl (fun hc => ?_) (fun hc => ?_)
    · replace h := it_t h hc
      refine lv_iload_n hx hb dIm_checksum_48 rfl (lv_at hl 1 rfl) ?_
      refine lv_aload_n hx hb dIm_checksum_49 rfl (lv_at hl 0 rfl) ?_
      refine x_get hx hb hts in_Im hown hK hP (hal _ (okk_al q0)) (okk_t q0) rfl rfl 1 (by decide) (hts _ tw_49) (fun _ h9 => h9) rfl dIm_checksum_50 ?_
      refine lv_iadd hx hb dIm_checksum_53 ?_
      exact x_iret hx hb hr hlocks h hP hS dIm_checksum_54
    · replace h := it_f h hc
      refine lv_iload_n hx hb dIm_checksum_12 rfl (lv_at hl 2 rfl) ?_
      refine lv_bipush (v := 20) hx hb dIm_checksum_13 (by decide) ?_
      refine lv_icmp_lt (tgt := 24) hx hb dIm_checksum_15 rfl (fun hc => ?_) (fun hc => ?_)
      · replace h := it_t h hc
        exact wk_Im_checksum_24 ⟨hx, hb, hml, hown, hts, hr, hlocks, hK, hA, hD, hN, hal, hNx⟩ F out ih u x0 x1 x2 h q0 _ _ _ (lv_sub hl [0, 1, 2] rfl) hP hS
      · replace h := it_f h hc
        refine lv_iload_n hx hb dIm_checksum_18 rfl (lv_at hl 2 rfl) ?_
        refine lv_bipush (v := 24) hx hb dIm_checksum_19 (by decide) ?_
        refine lv_icmp_lt (tgt := 42) hx hb dIm_checksum_21 rfl (fun hc => ?_) (fun hc => ?_)
        · replace h := it_t h hc
          exact wk_Im_checksum_42 ⟨hx, hb, hml, hown, hts, hr, hlocks, hK, hA, hD, hN, hal, hNx⟩ F out ih u x0 x1 x2 h q0 _ _ _ (lv_sub hl [0, 1, 2] rfl) hP hS
        · replace h := it_f h hc
          exact wk_Im_checksum_24 ⟨hx, hb, hml, hown, hts, hr, hlocks, hK, hA, hD, hN, hal, hNx⟩ F out ih u x0 x1 x2 h q0 _ _ _ (lv_sub hl [0, 1, 2] rfl) hP hS
def bk_Im_checksum_0 (F : Nat) (al : Nat → Bool) (u : Mr) (x0 : Nat) : Option (Mr × Int32) := bk_Im_checksum_4 F al F u x0 (0 : Int32) (0 : Int32)
set_option maxHeartbeats 4000000 in
set_option maxRecDepth 100000 in
theorem wk_Im_checksum_0 (cx : Cx p l e s m args below meth c cIm_checksum 3 bw "ImageForge$Image" (some .int) D cA ad L rs al A) (F : Nat) (out : Mr × Int32) : ∀ (u : Mr) (x0 : Nat), bk_Im_checksum_0 F al u x0 = some out → okk al 6 x0 = true → Wb p l e rm_Im_checksum s m args below meth c D cA ad L rs A (QI below args s D cA ad L rs A out) 3 0 [(0, .ref (ad x0))] [] u := by
  obtain ⟨hx, hb, hml, hown, hts, hr, hlocks, hK, hA, hD, hN, hal, hNx⟩ := cx
  intro u x0 h q0 H locs ls hl hP hS
  unfold bk_Im_checksum_0 at h
  refine lv_iconst (v := 0) hx hb dIm_checksum_0 (by decide) ?_
  refine lv_istore_n (lv' := [(1, .int (0 : Int32)), (0, .ref (ad x0))]) hx hb dIm_checksum_1 rfl hl (by decide) rfl (fun ls hl => ?_)
  refine lv_iconst (v := 0) hx hb dIm_checksum_2 (by decide) ?_
  refine lv_istore_n (lv' := [(2, .int (0 : Int32)), (1, .int (0 : Int32)), (0, .ref (ad x0))]) hx hb dIm_checksum_3 rfl hl (by decide) rfl (fun ls hl => ?_)
  exact wk_Im_checksum_4 ⟨hx, hb, hml, hown, hts, hr, hlocks, hK, hA, hD, hN, hal, hNx⟩ F out F u x0 (0 : Int32) (0 : Int32) h q0 _ _ _ (lv_sub hl [2, 1, 0] rfl) hP hS
def fn_Im_checksum (F : Nat) (al : Nat → Bool) (u : Mr) (x0 : Nat) : Option (Mr × Int32) := bk_Im_checksum_0 F al u x0
set_option maxHeartbeats 4000000 in
set_option maxRecDepth 100000 in
theorem ct_Im_checksum {l : Launch} {D : va_G} {cA : Nat → ClassId} {ad : Nat → Nat} {L : List Nat} {rs : va_W} {al : Nat → Bool} (hal : ∀ k, al k = true → k ∈ L) (hN : L.Nodup) (F : Nat) (u : Mr) (x0 : Nat) (out : Mr × Int32) (h : fn_Im_checksum F al u x0 = some out) (q0 : okk al 6 x0 = true) : CtI l yIm_checksum wsIm_checksum rm_Im_checksum [.ref (ad x0)] D cA ad L rs u out := by
  intro sz
  refine Met.ofW (cc := cIm_checksum) (maxL := 3) (ret := (some .int)) (by decide) rfl ?_
  intro p e s m args below meth c s₁ B hml hv
  obtain ⟨rfl, hsz, hP, hK, hD0, hNx⟩ := hv
  subst hsz
  have hD := hD0.self (sz := s.heap.size)
  generalize hAe : va_A (ww ad cA L rs u) s.heap.size = A at hD ⊢
  have hA : ∀ q, s.heap.size ≤ q → A q := fun q h => by rw [← hAe]; exact Or.inr h
  have hl := lv_entry ([.ref (ad x0)]) (n := 3) (Nat.le_of_ble_eq_true rfl)
  rw [lg_entry_eq]
  generalize (lg_sl ([.ref (ad x0)]) ++ List.replicate (3 - (lg_sl ([.ref (ad x0)])).length) Slot.unset).toArray = ls at hl ⊢
  exact wk_Im_checksum_0 ⟨B.exec, B.bytes, hml, findClass_of_methodNamed B.named, hts_bw (atoms_spec (ws := wsIm_checksum) B.pre), B.returns, B.notSynchronized, hK, hA, fun v => ww_D hD, hN, hal, hNx⟩ F out u x0 h q0 _ _ _ (lv_sub hl [0] rfl) hP va_S.rf
end
end

theorem tw_0 : (Jvm.Cond.initialized "ImageForgeLaw") ∈ bw := bw_t (List.mem_of_getElem? (i := 0) (by decide +kernel)) (by decide +kernel)
theorem tw_27 : (Jvm.Cond.classLink "ImageForgeLaw" (8 : Nat) "ImageForge") ∈ bw := bw_t (List.mem_of_getElem? (i := 27) (by decide +kernel)) (by decide +kernel)
theorem tw_28 : (Jvm.Cond.instantiable "ImageForge" (6 : Nat)) ∈ bw := bw_t (List.mem_of_getElem? (i := 28) (by decide +kernel)) (by decide +kernel)
theorem tw_29 : (Jvm.Cond.methodLink "ImageForgeLaw" (56 : Nat) ({ cls := "ImageForge", name := "<init>", desc := "()V" } : Jvm.MethodName)) ∈ bw := bw_t (List.mem_of_getElem? (i := 29) (by decide +kernel)) (by decide +kernel)
theorem tw_30 : (Jvm.Cond.instanceMethod ({ cls := "ImageForge", name := "<init>", desc := "()V" } : Jvm.MethodName)) ∈ bw := bw_t (List.mem_of_getElem? (i := 30) (by decide +kernel)) (by decide +kernel)
theorem tw_218 : (Jvm.Cond.methodLink "ImageForgeLaw" (108 : Nat) ({ cls := "ImageForge", name := "at", desc := "(I)I" } : Jvm.MethodName)) ∈ bw := bw_t (List.mem_of_getElem? (i := 218) (by decide +kernel)) (by decide +kernel)
theorem tw_219 : (Jvm.Cond.instanceMethod ({ cls := "ImageForge", name := "at", desc := "(I)I" } : Jvm.MethodName)) ∈ bw := bw_t (List.mem_of_getElem? (i := 219) (by decide +kernel)) (by decide +kernel)
theorem tw_220 : (Jvm.Cond.selects "ImageForge" ({ cls := "ImageForge", name := "at", desc := "(I)I" } : Jvm.MethodName) ({ cls := "ImageForge", name := "at", desc := "(I)I" } : Jvm.MethodName)) ∈ bw := bw_t (List.mem_of_getElem? (i := 220) (by decide +kernel)) (by decide +kernel)
theorem tw_230 : (Jvm.Cond.methodLink "ImageForgeLaw" (112 : Nat) ({ cls := "ImageForge", name := "find", desc := "(I)I" } : Jvm.MethodName)) ∈ bw := bw_t (List.mem_of_getElem? (i := 230) (by decide +kernel)) (by decide +kernel)
theorem tw_231 : (Jvm.Cond.instanceMethod ({ cls := "ImageForge", name := "find", desc := "(I)I" } : Jvm.MethodName)) ∈ bw := bw_t (List.mem_of_getElem? (i := 231) (by decide +kernel)) (by decide +kernel)
theorem tw_232 : (Jvm.Cond.selects "ImageForge" ({ cls := "ImageForge", name := "find", desc := "(I)I" } : Jvm.MethodName) ({ cls := "ImageForge", name := "find", desc := "(I)I" } : Jvm.MethodName)) ∈ bw := bw_t (List.mem_of_getElem? (i := 232) (by decide +kernel)) (by decide +kernel)
theorem tw_242 : (Jvm.Cond.methodLink "ImageForgeLaw" (62 : Nat) ({ cls := "ImageForgeLaw", name := "put", desc := "(LImageForge;IIJI[J)I" } : Jvm.MethodName)) ∈ bw := bw_t (List.mem_of_getElem? (i := 242) (by decide +kernel)) (by decide +kernel)
theorem tw_243 : (Jvm.Cond.static ({ cls := "ImageForgeLaw", name := "put", desc := "(LImageForge;IIJI[J)I" } : Jvm.MethodName)) ∈ bw := bw_t (List.mem_of_getElem? (i := 243) (by decide +kernel)) (by decide +kernel)
theorem tw_341 : (Jvm.Cond.methodLink "ImageForgeLaw" (71 : Nat) ({ cls := "ImageForgeLaw", name := "define", desc := "(LImageForge;IIII)I" } : Jvm.MethodName)) ∈ bw := bw_t (List.mem_of_getElem? (i := 341) (by decide +kernel)) (by decide +kernel)
theorem tw_342 : (Jvm.Cond.static ({ cls := "ImageForgeLaw", name := "define", desc := "(LImageForge;IIII)I" } : Jvm.MethodName)) ∈ bw := bw_t (List.mem_of_getElem? (i := 342) (by decide +kernel)) (by decide +kernel)
theorem tw_355 : (Jvm.Cond.methodLink "ImageForgeLaw" (75 : Nat) ({ cls := "ImageForgeLaw", name := "refer", desc := "(LImageForge;IIIII)I" } : Jvm.MethodName)) ∈ bw := bw_t (List.mem_of_getElem? (i := 355) (by decide +kernel)) (by decide +kernel)
theorem tw_356 : (Jvm.Cond.static ({ cls := "ImageForgeLaw", name := "refer", desc := "(LImageForge;IIIII)I" } : Jvm.MethodName)) ∈ bw := bw_t (List.mem_of_getElem? (i := 356) (by decide +kernel)) (by decide +kernel)
theorem tw_486 : (Jvm.Cond.methodLink "ImageForgeLaw" (79 : Nat) ({ cls := "ImageForgeLaw", name := "imported", desc := "(LImageForge;III)I" } : Jvm.MethodName)) ∈ bw := bw_t (List.mem_of_getElem? (i := 486) (by decide +kernel)) (by decide +kernel)
theorem tw_487 : (Jvm.Cond.static ({ cls := "ImageForgeLaw", name := "imported", desc := "(LImageForge;III)I" } : Jvm.MethodName)) ∈ bw := bw_t (List.mem_of_getElem? (i := 487) (by decide +kernel)) (by decide +kernel)
theorem tw_497 : (Jvm.Cond.methodLink "ImageForgeLaw" (83 : Nat) ({ cls := "ImageForgeLaw", name := "exported", desc := "(LImageForge;IZ)I" } : Jvm.MethodName)) ∈ bw := bw_t (List.mem_of_getElem? (i := 497) (by decide +kernel)) (by decide +kernel)
theorem tw_498 : (Jvm.Cond.static ({ cls := "ImageForgeLaw", name := "exported", desc := "(LImageForge;IZ)I" } : Jvm.MethodName)) ∈ bw := bw_t (List.mem_of_getElem? (i := 498) (by decide +kernel)) (by decide +kernel)
theorem tw_505 : (Jvm.Cond.methodLink "ImageForgeLaw" (87 : Nat) ({ cls := "ImageForgeLaw", name := "link", desc := "(LImageForge;[J)I" } : Jvm.MethodName)) ∈ bw := bw_t (List.mem_of_getElem? (i := 505) (by decide +kernel)) (by decide +kernel)
theorem tw_506 : (Jvm.Cond.static ({ cls := "ImageForgeLaw", name := "link", desc := "(LImageForge;[J)I" } : Jvm.MethodName)) ∈ bw := bw_t (List.mem_of_getElem? (i := 506) (by decide +kernel)) (by decide +kernel)
theorem tw_664 : (Jvm.Cond.methodLink "ImageForgeLaw" (91 : Nat) ({ cls := "ImageForgeLaw", name := "image", desc := "(LImageForge;I[J)I" } : Jvm.MethodName)) ∈ bw := bw_t (List.mem_of_getElem? (i := 664) (by decide +kernel)) (by decide +kernel)
theorem tw_665 : (Jvm.Cond.static ({ cls := "ImageForgeLaw", name := "image", desc := "(LImageForge;I[J)I" } : Jvm.MethodName)) ∈ bw := bw_t (List.mem_of_getElem? (i := 665) (by decide +kernel)) (by decide +kernel)
theorem tw_673 : (Jvm.Cond.methodLink "ImageForgeLaw" (95 : Nat) ({ cls := "ImageForgeLaw", name := "spoil", desc := "(LImageForge;II)I" } : Jvm.MethodName)) ∈ bw := bw_t (List.mem_of_getElem? (i := 673) (by decide +kernel)) (by decide +kernel)
theorem tw_674 : (Jvm.Cond.static ({ cls := "ImageForgeLaw", name := "spoil", desc := "(LImageForge;II)I" } : Jvm.MethodName)) ∈ bw := bw_t (List.mem_of_getElem? (i := 674) (by decide +kernel)) (by decide +kernel)
theorem tw_684 : (Jvm.Cond.methodLink "ImageForgeLaw" (99 : Nat) ({ cls := "ImageForgeLaw", name := "seal", desc := "(LImageForge;[J)I" } : Jvm.MethodName)) ∈ bw := bw_t (List.mem_of_getElem? (i := 684) (by decide +kernel)) (by decide +kernel)
theorem tw_685 : (Jvm.Cond.static ({ cls := "ImageForgeLaw", name := "seal", desc := "(LImageForge;[J)I" } : Jvm.MethodName)) ∈ bw := bw_t (List.mem_of_getElem? (i := 685) (by decide +kernel)) (by decide +kernel)
theorem tw_698 : (Jvm.Cond.methodLink "ImageForgeLaw" (102 : Nat) ({ cls := "ImageForgeLaw", name := "offer", desc := "(LImageForge;III)I" } : Jvm.MethodName)) ∈ bw := bw_t (List.mem_of_getElem? (i := 698) (by decide +kernel)) (by decide +kernel)
theorem tw_699 : (Jvm.Cond.static ({ cls := "ImageForgeLaw", name := "offer", desc := "(LImageForge;III)I" } : Jvm.MethodName)) ∈ bw := bw_t (List.mem_of_getElem? (i := 699) (by decide +kernel)) (by decide +kernel)
theorem tw_706 : (Jvm.Cond.methodLink "ImageForgeLaw" (105 : Nat) ({ cls := "ImageForgeLaw", name := "load", desc := "(LImageForge;I[J)I" } : Jvm.MethodName)) ∈ bw := bw_t (List.mem_of_getElem? (i := 706) (by decide +kernel)) (by decide +kernel)
theorem tw_707 : (Jvm.Cond.static ({ cls := "ImageForgeLaw", name := "load", desc := "(LImageForge;I[J)I" } : Jvm.MethodName)) ∈ bw := bw_t (List.mem_of_getElem? (i := 707) (by decide +kernel)) (by decide +kernel)
theorem tw_776 : (Jvm.Cond.classLink "ImageForgeLaw" (57 : Nat) "ImageForgeModel") ∈ bw := bw_t (List.mem_of_getElem? (i := 776) (by decide +kernel)) (by decide +kernel)
theorem tw_777 : (Jvm.Cond.instantiable "ImageForgeModel" (32 : Nat)) ∈ bw := bw_t (List.mem_of_getElem? (i := 777) (by decide +kernel)) (by decide +kernel)
theorem tw_778 : (Jvm.Cond.methodLink "ImageForgeLaw" (59 : Nat) ({ cls := "ImageForgeModel", name := "<init>", desc := "()V" } : Jvm.MethodName)) ∈ bw := bw_t (List.mem_of_getElem? (i := 778) (by decide +kernel)) (by decide +kernel)
theorem tw_779 : (Jvm.Cond.instanceMethod ({ cls := "ImageForgeModel", name := "<init>", desc := "()V" } : Jvm.MethodName)) ∈ bw := bw_t (List.mem_of_getElem? (i := 779) (by decide +kernel)) (by decide +kernel)
theorem tw_879 : (Jvm.Cond.methodLink "ImageForgeLaw" (68 : Nat) ({ cls := "ImageForgeModel", name := "thrown", desc := "()I" } : Jvm.MethodName)) ∈ bw := bw_t (List.mem_of_getElem? (i := 879) (by decide +kernel)) (by decide +kernel)
theorem tw_880 : (Jvm.Cond.instanceMethod ({ cls := "ImageForgeModel", name := "thrown", desc := "()I" } : Jvm.MethodName)) ∈ bw := bw_t (List.mem_of_getElem? (i := 880) (by decide +kernel)) (by decide +kernel)
theorem tw_881 : (Jvm.Cond.selects "ImageForgeModel" ({ cls := "ImageForgeModel", name := "thrown", desc := "()I" } : Jvm.MethodName) ({ cls := "ImageForgeModel", name := "thrown", desc := "()I" } : Jvm.MethodName)) ∈ bw := bw_t (List.mem_of_getElem? (i := 881) (by decide +kernel)) (by decide +kernel)
theorem tw_883 : (Jvm.Cond.methodLink "ImageForgeLaw" (67 : Nat) ({ cls := "ImageForgeModel", name := "put", desc := "(IIJI)I" } : Jvm.MethodName)) ∈ bw := bw_t (List.mem_of_getElem? (i := 883) (by decide +kernel)) (by decide +kernel)
theorem tw_884 : (Jvm.Cond.instanceMethod ({ cls := "ImageForgeModel", name := "put", desc := "(IIJI)I" } : Jvm.MethodName)) ∈ bw := bw_t (List.mem_of_getElem? (i := 884) (by decide +kernel)) (by decide +kernel)
theorem tw_885 : (Jvm.Cond.selects "ImageForgeModel" ({ cls := "ImageForgeModel", name := "put", desc := "(IIJI)I" } : Jvm.MethodName) ({ cls := "ImageForgeModel", name := "put", desc := "(IIJI)I" } : Jvm.MethodName)) ∈ bw := bw_t (List.mem_of_getElem? (i := 885) (by decide +kernel)) (by decide +kernel)
theorem tw_895 : (Jvm.Cond.methodLink "ImageForgeLaw" (74 : Nat) ({ cls := "ImageForgeModel", name := "define", desc := "(IIII)V" } : Jvm.MethodName)) ∈ bw := bw_t (List.mem_of_getElem? (i := 895) (by decide +kernel)) (by decide +kernel)
theorem tw_896 : (Jvm.Cond.instanceMethod ({ cls := "ImageForgeModel", name := "define", desc := "(IIII)V" } : Jvm.MethodName)) ∈ bw := bw_t (List.mem_of_getElem? (i := 896) (by decide +kernel)) (by decide +kernel)
theorem tw_897 : (Jvm.Cond.selects "ImageForgeModel" ({ cls := "ImageForgeModel", name := "define", desc := "(IIII)V" } : Jvm.MethodName) ({ cls := "ImageForgeModel", name := "define", desc := "(IIII)V" } : Jvm.MethodName)) ∈ bw := bw_t (List.mem_of_getElem? (i := 897) (by decide +kernel)) (by decide +kernel)
theorem tw_899 : (Jvm.Cond.methodLink "ImageForgeLaw" (78 : Nat) ({ cls := "ImageForgeModel", name := "refer", desc := "(IIIII)V" } : Jvm.MethodName)) ∈ bw := bw_t (List.mem_of_getElem? (i := 899) (by decide +kernel)) (by decide +kernel)
theorem tw_900 : (Jvm.Cond.instanceMethod ({ cls := "ImageForgeModel", name := "refer", desc := "(IIIII)V" } : Jvm.MethodName)) ∈ bw := bw_t (List.mem_of_getElem? (i := 900) (by decide +kernel)) (by decide +kernel)
theorem tw_901 : (Jvm.Cond.selects "ImageForgeModel" ({ cls := "ImageForgeModel", name := "refer", desc := "(IIIII)V" } : Jvm.MethodName) ({ cls := "ImageForgeModel", name := "refer", desc := "(IIIII)V" } : Jvm.MethodName)) ∈ bw := bw_t (List.mem_of_getElem? (i := 901) (by decide +kernel)) (by decide +kernel)
theorem tw_907 : (Jvm.Cond.methodLink "ImageForgeLaw" (82 : Nat) ({ cls := "ImageForgeModel", name := "imported", desc := "(III)V" } : Jvm.MethodName)) ∈ bw := bw_t (List.mem_of_getElem? (i := 907) (by decide +kernel)) (by decide +kernel)
theorem tw_908 : (Jvm.Cond.instanceMethod ({ cls := "ImageForgeModel", name := "imported", desc := "(III)V" } : Jvm.MethodName)) ∈ bw := bw_t (List.mem_of_getElem? (i := 908) (by decide +kernel)) (by decide +kernel)
theorem tw_909 : (Jvm.Cond.selects "ImageForgeModel" ({ cls := "ImageForgeModel", name := "imported", desc := "(III)V" } : Jvm.MethodName) ({ cls := "ImageForgeModel", name := "imported", desc := "(III)V" } : Jvm.MethodName)) ∈ bw := bw_t (List.mem_of_getElem? (i := 909) (by decide +kernel)) (by decide +kernel)
theorem tw_911 : (Jvm.Cond.methodLink "ImageForgeLaw" (86 : Nat) ({ cls := "ImageForgeModel", name := "exported", desc := "(IZ)V" } : Jvm.MethodName)) ∈ bw := bw_t (List.mem_of_getElem? (i := 911) (by decide +kernel)) (by decide +kernel)
theorem tw_912 : (Jvm.Cond.instanceMethod ({ cls := "ImageForgeModel", name := "exported", desc := "(IZ)V" } : Jvm.MethodName)) ∈ bw := bw_t (List.mem_of_getElem? (i := 912) (by decide +kernel)) (by decide +kernel)
theorem tw_913 : (Jvm.Cond.selects "ImageForgeModel" ({ cls := "ImageForgeModel", name := "exported", desc := "(IZ)V" } : Jvm.MethodName) ({ cls := "ImageForgeModel", name := "exported", desc := "(IZ)V" } : Jvm.MethodName)) ∈ bw := bw_t (List.mem_of_getElem? (i := 913) (by decide +kernel)) (by decide +kernel)
theorem tw_915 : (Jvm.Cond.methodLink "ImageForgeLaw" (104 : Nat) ({ cls := "ImageForgeModel", name := "offer", desc := "(III)V" } : Jvm.MethodName)) ∈ bw := bw_t (List.mem_of_getElem? (i := 915) (by decide +kernel)) (by decide +kernel)
theorem tw_916 : (Jvm.Cond.instanceMethod ({ cls := "ImageForgeModel", name := "offer", desc := "(III)V" } : Jvm.MethodName)) ∈ bw := bw_t (List.mem_of_getElem? (i := 916) (by decide +kernel)) (by decide +kernel)
theorem tw_917 : (Jvm.Cond.selects "ImageForgeModel" ({ cls := "ImageForgeModel", name := "offer", desc := "(III)V" } : Jvm.MethodName) ({ cls := "ImageForgeModel", name := "offer", desc := "(III)V" } : Jvm.MethodName)) ∈ bw := bw_t (List.mem_of_getElem? (i := 917) (by decide +kernel)) (by decide +kernel)
theorem tw_919 : (Jvm.Cond.methodLink "ImageForgeLaw" (90 : Nat) ({ cls := "ImageForgeModel", name := "link", desc := "()I" } : Jvm.MethodName)) ∈ bw := bw_t (List.mem_of_getElem? (i := 919) (by decide +kernel)) (by decide +kernel)
theorem tw_920 : (Jvm.Cond.instanceMethod ({ cls := "ImageForgeModel", name := "link", desc := "()I" } : Jvm.MethodName)) ∈ bw := bw_t (List.mem_of_getElem? (i := 920) (by decide +kernel)) (by decide +kernel)
theorem tw_921 : (Jvm.Cond.selects "ImageForgeModel" ({ cls := "ImageForgeModel", name := "link", desc := "()I" } : Jvm.MethodName) ({ cls := "ImageForgeModel", name := "link", desc := "()I" } : Jvm.MethodName)) ∈ bw := bw_t (List.mem_of_getElem? (i := 921) (by decide +kernel)) (by decide +kernel)
theorem tw_995 : (Jvm.Cond.methodLink "ImageForgeLaw" (94 : Nat) ({ cls := "ImageForgeModel", name := "image", desc := "(I)I" } : Jvm.MethodName)) ∈ bw := bw_t (List.mem_of_getElem? (i := 995) (by decide +kernel)) (by decide +kernel)
theorem tw_996 : (Jvm.Cond.instanceMethod ({ cls := "ImageForgeModel", name := "image", desc := "(I)I" } : Jvm.MethodName)) ∈ bw := bw_t (List.mem_of_getElem? (i := 996) (by decide +kernel)) (by decide +kernel)
theorem tw_997 : (Jvm.Cond.selects "ImageForgeModel" ({ cls := "ImageForgeModel", name := "image", desc := "(I)I" } : Jvm.MethodName) ({ cls := "ImageForgeModel", name := "image", desc := "(I)I" } : Jvm.MethodName)) ∈ bw := bw_t (List.mem_of_getElem? (i := 997) (by decide +kernel)) (by decide +kernel)
theorem tw_999 : (Jvm.Cond.methodLink "ImageForgeLaw" (98 : Nat) ({ cls := "ImageForgeModel", name := "spoil", desc := "(II)V" } : Jvm.MethodName)) ∈ bw := bw_t (List.mem_of_getElem? (i := 999) (by decide +kernel)) (by decide +kernel)
theorem tw_1000 : (Jvm.Cond.instanceMethod ({ cls := "ImageForgeModel", name := "spoil", desc := "(II)V" } : Jvm.MethodName)) ∈ bw := bw_t (List.mem_of_getElem? (i := 1000) (by decide +kernel)) (by decide +kernel)
theorem tw_1001 : (Jvm.Cond.selects "ImageForgeModel" ({ cls := "ImageForgeModel", name := "spoil", desc := "(II)V" } : Jvm.MethodName) ({ cls := "ImageForgeModel", name := "spoil", desc := "(II)V" } : Jvm.MethodName)) ∈ bw := bw_t (List.mem_of_getElem? (i := 1001) (by decide +kernel)) (by decide +kernel)
theorem tw_1003 : (Jvm.Cond.methodLink "ImageForgeLaw" (101 : Nat) ({ cls := "ImageForgeModel", name := "seal", desc := "()I" } : Jvm.MethodName)) ∈ bw := bw_t (List.mem_of_getElem? (i := 1003) (by decide +kernel)) (by decide +kernel)
theorem tw_1004 : (Jvm.Cond.instanceMethod ({ cls := "ImageForgeModel", name := "seal", desc := "()I" } : Jvm.MethodName)) ∈ bw := bw_t (List.mem_of_getElem? (i := 1004) (by decide +kernel)) (by decide +kernel)
theorem tw_1005 : (Jvm.Cond.selects "ImageForgeModel" ({ cls := "ImageForgeModel", name := "seal", desc := "()I" } : Jvm.MethodName) ({ cls := "ImageForgeModel", name := "seal", desc := "()I" } : Jvm.MethodName)) ∈ bw := bw_t (List.mem_of_getElem? (i := 1005) (by decide +kernel)) (by decide +kernel)
theorem tw_1007 : (Jvm.Cond.methodLink "ImageForgeLaw" (107 : Nat) ({ cls := "ImageForgeModel", name := "load", desc := "(I)I" } : Jvm.MethodName)) ∈ bw := bw_t (List.mem_of_getElem? (i := 1007) (by decide +kernel)) (by decide +kernel)
theorem tw_1008 : (Jvm.Cond.instanceMethod ({ cls := "ImageForgeModel", name := "load", desc := "(I)I" } : Jvm.MethodName)) ∈ bw := bw_t (List.mem_of_getElem? (i := 1008) (by decide +kernel)) (by decide +kernel)
theorem tw_1009 : (Jvm.Cond.selects "ImageForgeModel" ({ cls := "ImageForgeModel", name := "load", desc := "(I)I" } : Jvm.MethodName) ({ cls := "ImageForgeModel", name := "load", desc := "(I)I" } : Jvm.MethodName)) ∈ bw := bw_t (List.mem_of_getElem? (i := 1009) (by decide +kernel)) (by decide +kernel)
theorem tw_1045 : (Jvm.Cond.methodLink "ImageForgeLaw" (111 : Nat) ({ cls := "ImageForgeModel", name := "at", desc := "(I)I" } : Jvm.MethodName)) ∈ bw := bw_t (List.mem_of_getElem? (i := 1045) (by decide +kernel)) (by decide +kernel)
theorem tw_1046 : (Jvm.Cond.instanceMethod ({ cls := "ImageForgeModel", name := "at", desc := "(I)I" } : Jvm.MethodName)) ∈ bw := bw_t (List.mem_of_getElem? (i := 1046) (by decide +kernel)) (by decide +kernel)
theorem tw_1047 : (Jvm.Cond.selects "ImageForgeModel" ({ cls := "ImageForgeModel", name := "at", desc := "(I)I" } : Jvm.MethodName) ({ cls := "ImageForgeModel", name := "at", desc := "(I)I" } : Jvm.MethodName)) ∈ bw := bw_t (List.mem_of_getElem? (i := 1047) (by decide +kernel)) (by decide +kernel)
theorem tw_1049 : (Jvm.Cond.methodLink "ImageForgeLaw" (115 : Nat) ({ cls := "ImageForgeModel", name := "find", desc := "(I)I" } : Jvm.MethodName)) ∈ bw := bw_t (List.mem_of_getElem? (i := 1049) (by decide +kernel)) (by decide +kernel)
theorem tw_1050 : (Jvm.Cond.instanceMethod ({ cls := "ImageForgeModel", name := "find", desc := "(I)I" } : Jvm.MethodName)) ∈ bw := bw_t (List.mem_of_getElem? (i := 1050) (by decide +kernel)) (by decide +kernel)
theorem tw_1051 : (Jvm.Cond.selects "ImageForgeModel" ({ cls := "ImageForgeModel", name := "find", desc := "(I)I" } : Jvm.MethodName) ({ cls := "ImageForgeModel", name := "find", desc := "(I)I" } : Jvm.MethodName)) ∈ bw := bw_t (List.mem_of_getElem? (i := 1051) (by decide +kernel)) (by decide +kernel)
theorem tw_1053 : (Jvm.Cond.constantLong "ImageForgeLaw" (60 : Nat) (4294967295 : Int64)) ∈ bw := bw_t (List.mem_of_getElem? (i := 1053) (by decide +kernel)) (by decide +kernel)
theorem tw_1054 : (Jvm.Cond.arrayClass Jvm.ClassFile.FieldType.long) ∈ bw := bw_t (List.mem_of_getElem? (i := 1054) (by decide +kernel)) (by decide +kernel)
theorem dLw_law_0 : decode code 0 = .ok (.new 8, 3) := by decide +kernel
theorem dLw_law_3 : decode code 3 = .ok (.dup, 1) := by decide +kernel
theorem dLw_law_4 : decode code 4 = .ok (.invokespecial 56, 3) := by decide +kernel
theorem dLw_law_7 : decode code 7 = .ok (.astore_n 1, 1) := by decide +kernel
theorem dLw_law_8 : decode code 8 = .ok (.new 57, 3) := by decide +kernel
theorem dLw_law_11 : decode code 11 = .ok (.dup, 1) := by decide +kernel
theorem dLw_law_12 : decode code 12 = .ok (.invokespecial 59, 3) := by decide +kernel
theorem dLw_law_15 : decode code 15 = .ok (.astore_n 2, 1) := by decide +kernel
theorem dLw_law_16 : decode code 16 = .ok (.iconst 1, 1) := by decide +kernel
theorem dLw_law_17 : decode code 17 = .ok (.newarray .long, 2) := by decide +kernel
theorem dLw_law_19 : decode code 19 = .ok (.astore_n 3, 1) := by decide +kernel
theorem dLw_law_20 : decode code 20 = .ok (.iconst 0, 1) := by decide +kernel
theorem dLw_law_21 : decode code 21 = .ok (.istore 4, 2) := by decide +kernel
theorem dLw_law_23 : decode code 23 = .ok (.iload 4, 2) := by decide +kernel
theorem dLw_law_25 : decode code 25 = .ok (.aload_n 0, 1) := by decide +kernel
theorem dLw_law_26 : decode code 26 = .ok (.arraylength, 1) := by decide +kernel
theorem dLw_law_27 : decode code 27 = .ok (.bipush 6, 2) := by decide +kernel
theorem dLw_law_29 : decode code 29 = .ok (.isub, 1) := by decide +kernel
theorem dLw_law_30 : decode code 30 = .ok (.if_icmp .gt 846, 3) := by decide +kernel
theorem dLw_law_33 : decode code 33 = .ok (.aload_n 0, 1) := by decide +kernel
theorem dLw_law_34 : decode code 34 = .ok (.iload 4, 2) := by decide +kernel
theorem dLw_law_36 : decode code 36 = .ok (.iaload, 1) := by decide +kernel
theorem dLw_law_37 : decode code 37 = .ok (.bipush 15, 2) := by decide +kernel
theorem dLw_law_39 : decode code 39 = .ok (.iand, 1) := by decide +kernel
theorem dLw_law_40 : decode code 40 = .ok (.tableswitch 830 0 12 #[68, 192, 264, 348, 408, 472, 516, 572, 620, 664, 724, 780, 805], 68) := by decide +kernel
theorem dLw_law_108 : decode code 108 = .ok (.aload_n 1, 1) := by decide +kernel
theorem dLw_law_109 : decode code 109 = .ok (.aload_n 0, 1) := by decide +kernel
theorem dLw_law_110 : decode code 110 = .ok (.iload 4, 2) := by decide +kernel
theorem dLw_law_112 : decode code 112 = .ok (.iconst 1, 1) := by decide +kernel
theorem dLw_law_113 : decode code 113 = .ok (.iadd, 1) := by decide +kernel
theorem dLw_law_114 : decode code 114 = .ok (.iaload, 1) := by decide +kernel
theorem dLw_law_115 : decode code 115 = .ok (.aload_n 0, 1) := by decide +kernel
theorem dLw_law_116 : decode code 116 = .ok (.iload 4, 2) := by decide +kernel
theorem dLw_law_118 : decode code 118 = .ok (.iconst 2, 1) := by decide +kernel
theorem dLw_law_119 : decode code 119 = .ok (.iadd, 1) := by decide +kernel
theorem dLw_law_120 : decode code 120 = .ok (.iaload, 1) := by decide +kernel
theorem dLw_law_121 : decode code 121 = .ok (.aload_n 0, 1) := by decide +kernel
theorem dLw_law_122 : decode code 122 = .ok (.iload 4, 2) := by decide +kernel
theorem dLw_law_124 : decode code 124 = .ok (.iconst 3, 1) := by decide +kernel
theorem dLw_law_125 : decode code 125 = .ok (.iadd, 1) := by decide +kernel
theorem dLw_law_126 : decode code 126 = .ok (.iaload, 1) := by decide +kernel
theorem dLw_law_127 : decode code 127 = .ok (.i2l, 1) := by decide +kernel
theorem dLw_law_128 : decode code 128 = .ok (.bipush 32, 2) := by decide +kernel
theorem dLw_law_130 : decode code 130 = .ok (.lshl, 1) := by decide +kernel
theorem dLw_law_131 : decode code 131 = .ok (.aload_n 0, 1) := by decide +kernel
theorem dLw_law_132 : decode code 132 = .ok (.iload 4, 2) := by decide +kernel
theorem dLw_law_134 : decode code 134 = .ok (.iconst 4, 1) := by decide +kernel
theorem dLw_law_135 : decode code 135 = .ok (.iadd, 1) := by decide +kernel
theorem dLw_law_136 : decode code 136 = .ok (.iaload, 1) := by decide +kernel
theorem dLw_law_137 : decode code 137 = .ok (.i2l, 1) := by decide +kernel
theorem dLw_law_138 : decode code 138 = .ok (.ldc2_w 60, 3) := by decide +kernel
theorem dLw_law_141 : decode code 141 = .ok (.land, 1) := by decide +kernel
theorem dLw_law_142 : decode code 142 = .ok (.lor, 1) := by decide +kernel
theorem dLw_law_143 : decode code 143 = .ok (.aload_n 0, 1) := by decide +kernel
theorem dLw_law_144 : decode code 144 = .ok (.iload 4, 2) := by decide +kernel
theorem dLw_law_146 : decode code 146 = .ok (.iconst 5, 1) := by decide +kernel
theorem dLw_law_147 : decode code 147 = .ok (.iadd, 1) := by decide +kernel
theorem dLw_law_148 : decode code 148 = .ok (.iaload, 1) := by decide +kernel
theorem dLw_law_149 : decode code 149 = .ok (.aload_n 3, 1) := by decide +kernel
theorem dLw_law_150 : decode code 150 = .ok (.invokestatic 62, 3) := by decide +kernel
theorem dLw_law_153 : decode code 153 = .ok (.istore 5, 2) := by decide +kernel
theorem dLw_law_155 : decode code 155 = .ok (.aload_n 2, 1) := by decide +kernel
theorem dLw_law_156 : decode code 156 = .ok (.aload_n 0, 1) := by decide +kernel
theorem dLw_law_157 : decode code 157 = .ok (.iload 4, 2) := by decide +kernel
theorem dLw_law_159 : decode code 159 = .ok (.iconst 1, 1) := by decide +kernel
theorem dLw_law_160 : decode code 160 = .ok (.iadd, 1) := by decide +kernel
theorem dLw_law_161 : decode code 161 = .ok (.iaload, 1) := by decide +kernel
theorem dLw_law_162 : decode code 162 = .ok (.aload_n 0, 1) := by decide +kernel
theorem dLw_law_163 : decode code 163 = .ok (.iload 4, 2) := by decide +kernel
theorem dLw_law_165 : decode code 165 = .ok (.iconst 2, 1) := by decide +kernel
theorem dLw_law_166 : decode code 166 = .ok (.iadd, 1) := by decide +kernel
theorem dLw_law_167 : decode code 167 = .ok (.iaload, 1) := by decide +kernel
theorem dLw_law_168 : decode code 168 = .ok (.aload_n 0, 1) := by decide +kernel
theorem dLw_law_169 : decode code 169 = .ok (.iload 4, 2) := by decide +kernel
theorem dLw_law_171 : decode code 171 = .ok (.iconst 3, 1) := by decide +kernel
theorem dLw_law_172 : decode code 172 = .ok (.iadd, 1) := by decide +kernel
theorem dLw_law_173 : decode code 173 = .ok (.iaload, 1) := by decide +kernel
theorem dLw_law_174 : decode code 174 = .ok (.i2l, 1) := by decide +kernel
theorem dLw_law_175 : decode code 175 = .ok (.bipush 32, 2) := by decide +kernel
theorem dLw_law_177 : decode code 177 = .ok (.lshl, 1) := by decide +kernel
theorem dLw_law_178 : decode code 178 = .ok (.aload_n 0, 1) := by decide +kernel
theorem dLw_law_179 : decode code 179 = .ok (.iload 4, 2) := by decide +kernel
theorem dLw_law_181 : decode code 181 = .ok (.iconst 4, 1) := by decide +kernel
theorem dLw_law_182 : decode code 182 = .ok (.iadd, 1) := by decide +kernel
theorem dLw_law_183 : decode code 183 = .ok (.iaload, 1) := by decide +kernel
theorem dLw_law_184 : decode code 184 = .ok (.i2l, 1) := by decide +kernel
theorem dLw_law_185 : decode code 185 = .ok (.ldc2_w 60, 3) := by decide +kernel
theorem dLw_law_188 : decode code 188 = .ok (.land, 1) := by decide +kernel
theorem dLw_law_189 : decode code 189 = .ok (.lor, 1) := by decide +kernel
theorem dLw_law_190 : decode code 190 = .ok (.aload_n 0, 1) := by decide +kernel
theorem dLw_law_191 : decode code 191 = .ok (.iload 4, 2) := by decide +kernel
theorem dLw_law_193 : decode code 193 = .ok (.iconst 5, 1) := by decide +kernel
theorem dLw_law_194 : decode code 194 = .ok (.iadd, 1) := by decide +kernel
theorem dLw_law_195 : decode code 195 = .ok (.iaload, 1) := by decide +kernel
theorem dLw_law_196 : decode code 196 = .ok (.invokevirtual 67, 3) := by decide +kernel
theorem dLw_law_199 : decode code 199 = .ok (.istore 6, 2) := by decide +kernel
theorem dLw_law_201 : decode code 201 = .ok (.aload_n 2, 1) := by decide +kernel
theorem dLw_law_202 : decode code 202 = .ok (.invokevirtual 68, 3) := by decide +kernel
theorem dLw_law_205 : decode code 205 = .ok (.iload 5, 2) := by decide +kernel
theorem dLw_law_207 : decode code 207 = .ok (.if_icmp .eq 5, 3) := by decide +kernel
theorem dLw_law_210 : decode code 210 = .ok (.iconst 0, 1) := by decide +kernel
theorem dLw_law_211 : decode code 211 = .ok (.ireturn, 1) := by decide +kernel
theorem dLw_law_212 : decode code 212 = .ok (.iload 5, 2) := by decide +kernel
theorem dLw_law_214 : decode code 214 = .ok (.ifCond .ne 15, 3) := by decide +kernel
theorem dLw_law_217 : decode code 217 = .ok (.aload_n 3, 1) := by decide +kernel
theorem dLw_law_218 : decode code 218 = .ok (.iconst 0, 1) := by decide +kernel
theorem dLw_law_219 : decode code 219 = .ok (.laload, 1) := by decide +kernel
theorem dLw_law_220 : decode code 220 = .ok (.iload 6, 2) := by decide +kernel
theorem dLw_law_222 : decode code 222 = .ok (.i2l, 1) := by decide +kernel
theorem dLw_law_223 : decode code 223 = .ok (.lcmp, 1) := by decide +kernel
theorem dLw_law_224 : decode code 224 = .ok (.ifCond .eq 5, 3) := by decide +kernel
theorem dLw_law_227 : decode code 227 = .ok (.iconst 0, 1) := by decide +kernel
theorem dLw_law_228 : decode code 228 = .ok (.ireturn, 1) := by decide +kernel
theorem dLw_law_229 : decode code 229 = .ok (.goto 641, 3) := by decide +kernel
theorem dLw_law_232 : decode code 232 = .ok (.aload_n 1, 1) := by decide +kernel
theorem dLw_law_233 : decode code 233 = .ok (.aload_n 0, 1) := by decide +kernel
theorem dLw_law_234 : decode code 234 = .ok (.iload 4, 2) := by decide +kernel
theorem dLw_law_236 : decode code 236 = .ok (.iconst 1, 1) := by decide +kernel
theorem dLw_law_237 : decode code 237 = .ok (.iadd, 1) := by decide +kernel
theorem dLw_law_238 : decode code 238 = .ok (.iaload, 1) := by decide +kernel
theorem dLw_law_239 : decode code 239 = .ok (.aload_n 0, 1) := by decide +kernel
theorem dLw_law_240 : decode code 240 = .ok (.iload 4, 2) := by decide +kernel
theorem dLw_law_242 : decode code 242 = .ok (.iconst 2, 1) := by decide +kernel
theorem dLw_law_243 : decode code 243 = .ok (.iadd, 1) := by decide +kernel
theorem dLw_law_244 : decode code 244 = .ok (.iaload, 1) := by decide +kernel
theorem dLw_law_245 : decode code 245 = .ok (.aload_n 0, 1) := by decide +kernel
theorem dLw_law_246 : decode code 246 = .ok (.iload 4, 2) := by decide +kernel
theorem dLw_law_248 : decode code 248 = .ok (.iconst 3, 1) := by decide +kernel
theorem dLw_law_249 : decode code 249 = .ok (.iadd, 1) := by decide +kernel
theorem dLw_law_250 : decode code 250 = .ok (.iaload, 1) := by decide +kernel
theorem dLw_law_251 : decode code 251 = .ok (.aload_n 0, 1) := by decide +kernel
theorem dLw_law_252 : decode code 252 = .ok (.iload 4, 2) := by decide +kernel
theorem dLw_law_254 : decode code 254 = .ok (.iconst 4, 1) := by decide +kernel
theorem dLw_law_255 : decode code 255 = .ok (.iadd, 1) := by decide +kernel
theorem dLw_law_256 : decode code 256 = .ok (.iaload, 1) := by decide +kernel
theorem dLw_law_257 : decode code 257 = .ok (.invokestatic 71, 3) := by decide +kernel
theorem dLw_law_260 : decode code 260 = .ok (.istore 5, 2) := by decide +kernel
theorem dLw_law_262 : decode code 262 = .ok (.aload_n 2, 1) := by decide +kernel
theorem dLw_law_263 : decode code 263 = .ok (.aload_n 0, 1) := by decide +kernel
theorem dLw_law_264 : decode code 264 = .ok (.iload 4, 2) := by decide +kernel
theorem dLw_law_266 : decode code 266 = .ok (.iconst 1, 1) := by decide +kernel
theorem dLw_law_267 : decode code 267 = .ok (.iadd, 1) := by decide +kernel
theorem dLw_law_268 : decode code 268 = .ok (.iaload, 1) := by decide +kernel
theorem dLw_law_269 : decode code 269 = .ok (.aload_n 0, 1) := by decide +kernel
theorem dLw_law_270 : decode code 270 = .ok (.iload 4, 2) := by decide +kernel
theorem dLw_law_272 : decode code 272 = .ok (.iconst 2, 1) := by decide +kernel
theorem dLw_law_273 : decode code 273 = .ok (.iadd, 1) := by decide +kernel
theorem dLw_law_274 : decode code 274 = .ok (.iaload, 1) := by decide +kernel
theorem dLw_law_275 : decode code 275 = .ok (.aload_n 0, 1) := by decide +kernel
theorem dLw_law_276 : decode code 276 = .ok (.iload 4, 2) := by decide +kernel
theorem dLw_law_278 : decode code 278 = .ok (.iconst 3, 1) := by decide +kernel
theorem dLw_law_279 : decode code 279 = .ok (.iadd, 1) := by decide +kernel
theorem dLw_law_280 : decode code 280 = .ok (.iaload, 1) := by decide +kernel
theorem dLw_law_281 : decode code 281 = .ok (.aload_n 0, 1) := by decide +kernel
theorem dLw_law_282 : decode code 282 = .ok (.iload 4, 2) := by decide +kernel
theorem dLw_law_284 : decode code 284 = .ok (.iconst 4, 1) := by decide +kernel
theorem dLw_law_285 : decode code 285 = .ok (.iadd, 1) := by decide +kernel
theorem dLw_law_286 : decode code 286 = .ok (.iaload, 1) := by decide +kernel
theorem dLw_law_287 : decode code 287 = .ok (.invokevirtual 74, 3) := by decide +kernel
theorem dLw_law_290 : decode code 290 = .ok (.aload_n 2, 1) := by decide +kernel
theorem dLw_law_291 : decode code 291 = .ok (.invokevirtual 68, 3) := by decide +kernel
theorem dLw_law_294 : decode code 294 = .ok (.iload 5, 2) := by decide +kernel
theorem dLw_law_296 : decode code 296 = .ok (.if_icmp .eq 5, 3) := by decide +kernel
theorem dLw_law_299 : decode code 299 = .ok (.iconst 0, 1) := by decide +kernel
theorem dLw_law_300 : decode code 300 = .ok (.ireturn, 1) := by decide +kernel
theorem dLw_law_301 : decode code 301 = .ok (.goto 569, 3) := by decide +kernel
theorem dLw_law_304 : decode code 304 = .ok (.aload_n 1, 1) := by decide +kernel
theorem dLw_law_305 : decode code 305 = .ok (.aload_n 0, 1) := by decide +kernel
theorem dLw_law_306 : decode code 306 = .ok (.iload 4, 2) := by decide +kernel
theorem dLw_law_308 : decode code 308 = .ok (.iconst 1, 1) := by decide +kernel
theorem dLw_law_309 : decode code 309 = .ok (.iadd, 1) := by decide +kernel
theorem dLw_law_310 : decode code 310 = .ok (.iaload, 1) := by decide +kernel
theorem dLw_law_311 : decode code 311 = .ok (.aload_n 0, 1) := by decide +kernel
theorem dLw_law_312 : decode code 312 = .ok (.iload 4, 2) := by decide +kernel
theorem dLw_law_314 : decode code 314 = .ok (.iconst 2, 1) := by decide +kernel
theorem dLw_law_315 : decode code 315 = .ok (.iadd, 1) := by decide +kernel
theorem dLw_law_316 : decode code 316 = .ok (.iaload, 1) := by decide +kernel
theorem dLw_law_317 : decode code 317 = .ok (.aload_n 0, 1) := by decide +kernel
theorem dLw_law_318 : decode code 318 = .ok (.iload 4, 2) := by decide +kernel
theorem dLw_law_320 : decode code 320 = .ok (.iconst 3, 1) := by decide +kernel
theorem dLw_law_321 : decode code 321 = .ok (.iadd, 1) := by decide +kernel
theorem dLw_law_322 : decode code 322 = .ok (.iaload, 1) := by decide +kernel
theorem dLw_law_323 : decode code 323 = .ok (.aload_n 0, 1) := by decide +kernel
theorem dLw_law_324 : decode code 324 = .ok (.iload 4, 2) := by decide +kernel
theorem dLw_law_326 : decode code 326 = .ok (.iconst 4, 1) := by decide +kernel
theorem dLw_law_327 : decode code 327 = .ok (.iadd, 1) := by decide +kernel
theorem dLw_law_328 : decode code 328 = .ok (.iaload, 1) := by decide +kernel
theorem dLw_law_329 : decode code 329 = .ok (.aload_n 0, 1) := by decide +kernel
theorem dLw_law_330 : decode code 330 = .ok (.iload 4, 2) := by decide +kernel
theorem dLw_law_332 : decode code 332 = .ok (.iconst 5, 1) := by decide +kernel
theorem dLw_law_333 : decode code 333 = .ok (.iadd, 1) := by decide +kernel
theorem dLw_law_334 : decode code 334 = .ok (.iaload, 1) := by decide +kernel
theorem dLw_law_335 : decode code 335 = .ok (.invokestatic 75, 3) := by decide +kernel
theorem dLw_law_338 : decode code 338 = .ok (.istore 5, 2) := by decide +kernel
theorem dLw_law_340 : decode code 340 = .ok (.aload_n 2, 1) := by decide +kernel
theorem dLw_law_341 : decode code 341 = .ok (.aload_n 0, 1) := by decide +kernel
theorem dLw_law_342 : decode code 342 = .ok (.iload 4, 2) := by decide +kernel
theorem dLw_law_344 : decode code 344 = .ok (.iconst 1, 1) := by decide +kernel
theorem dLw_law_345 : decode code 345 = .ok (.iadd, 1) := by decide +kernel
theorem dLw_law_346 : decode code 346 = .ok (.iaload, 1) := by decide +kernel
theorem dLw_law_347 : decode code 347 = .ok (.aload_n 0, 1) := by decide +kernel
theorem dLw_law_348 : decode code 348 = .ok (.iload 4, 2) := by decide +kernel
theorem dLw_law_350 : decode code 350 = .ok (.iconst 2, 1) := by decide +kernel
theorem dLw_law_351 : decode code 351 = .ok (.iadd, 1) := by decide +kernel
theorem dLw_law_352 : decode code 352 = .ok (.iaload, 1) := by decide +kernel
theorem dLw_law_353 : decode code 353 = .ok (.aload_n 0, 1) := by decide +kernel
theorem dLw_law_354 : decode code 354 = .ok (.iload 4, 2) := by decide +kernel
theorem dLw_law_356 : decode code 356 = .ok (.iconst 3, 1) := by decide +kernel
theorem dLw_law_357 : decode code 357 = .ok (.iadd, 1) := by decide +kernel
theorem dLw_law_358 : decode code 358 = .ok (.iaload, 1) := by decide +kernel
theorem dLw_law_359 : decode code 359 = .ok (.aload_n 0, 1) := by decide +kernel
theorem dLw_law_360 : decode code 360 = .ok (.iload 4, 2) := by decide +kernel
theorem dLw_law_362 : decode code 362 = .ok (.iconst 4, 1) := by decide +kernel
theorem dLw_law_363 : decode code 363 = .ok (.iadd, 1) := by decide +kernel
theorem dLw_law_364 : decode code 364 = .ok (.iaload, 1) := by decide +kernel
theorem dLw_law_365 : decode code 365 = .ok (.aload_n 0, 1) := by decide +kernel
theorem dLw_law_366 : decode code 366 = .ok (.iload 4, 2) := by decide +kernel
theorem dLw_law_368 : decode code 368 = .ok (.iconst 5, 1) := by decide +kernel
theorem dLw_law_369 : decode code 369 = .ok (.iadd, 1) := by decide +kernel
theorem dLw_law_370 : decode code 370 = .ok (.iaload, 1) := by decide +kernel
theorem dLw_law_371 : decode code 371 = .ok (.invokevirtual 78, 3) := by decide +kernel
theorem dLw_law_374 : decode code 374 = .ok (.aload_n 2, 1) := by decide +kernel
theorem dLw_law_375 : decode code 375 = .ok (.invokevirtual 68, 3) := by decide +kernel
theorem dLw_law_378 : decode code 378 = .ok (.iload 5, 2) := by decide +kernel
theorem dLw_law_380 : decode code 380 = .ok (.if_icmp .eq 5, 3) := by decide +kernel
theorem dLw_law_383 : decode code 383 = .ok (.iconst 0, 1) := by decide +kernel
theorem dLw_law_384 : decode code 384 = .ok (.ireturn, 1) := by decide +kernel
theorem dLw_law_385 : decode code 385 = .ok (.goto 485, 3) := by decide +kernel
theorem dLw_law_388 : decode code 388 = .ok (.aload_n 1, 1) := by decide +kernel
theorem dLw_law_389 : decode code 389 = .ok (.aload_n 0, 1) := by decide +kernel
theorem dLw_law_390 : decode code 390 = .ok (.iload 4, 2) := by decide +kernel
theorem dLw_law_392 : decode code 392 = .ok (.iconst 1, 1) := by decide +kernel
theorem dLw_law_393 : decode code 393 = .ok (.iadd, 1) := by decide +kernel
theorem dLw_law_394 : decode code 394 = .ok (.iaload, 1) := by decide +kernel
theorem dLw_law_395 : decode code 395 = .ok (.aload_n 0, 1) := by decide +kernel
theorem dLw_law_396 : decode code 396 = .ok (.iload 4, 2) := by decide +kernel
theorem dLw_law_398 : decode code 398 = .ok (.iconst 2, 1) := by decide +kernel
theorem dLw_law_399 : decode code 399 = .ok (.iadd, 1) := by decide +kernel
theorem dLw_law_400 : decode code 400 = .ok (.iaload, 1) := by decide +kernel
theorem dLw_law_401 : decode code 401 = .ok (.aload_n 0, 1) := by decide +kernel
theorem dLw_law_402 : decode code 402 = .ok (.iload 4, 2) := by decide +kernel
theorem dLw_law_404 : decode code 404 = .ok (.iconst 3, 1) := by decide +kernel
theorem dLw_law_405 : decode code 405 = .ok (.iadd, 1) := by decide +kernel
theorem dLw_law_406 : decode code 406 = .ok (.iaload, 1) := by decide +kernel
theorem dLw_law_407 : decode code 407 = .ok (.invokestatic 79, 3) := by decide +kernel
theorem dLw_law_410 : decode code 410 = .ok (.istore 5, 2) := by decide +kernel
theorem dLw_law_412 : decode code 412 = .ok (.aload_n 2, 1) := by decide +kernel
theorem dLw_law_413 : decode code 413 = .ok (.aload_n 0, 1) := by decide +kernel
theorem dLw_law_414 : decode code 414 = .ok (.iload 4, 2) := by decide +kernel
theorem dLw_law_416 : decode code 416 = .ok (.iconst 1, 1) := by decide +kernel
theorem dLw_law_417 : decode code 417 = .ok (.iadd, 1) := by decide +kernel
theorem dLw_law_418 : decode code 418 = .ok (.iaload, 1) := by decide +kernel
theorem dLw_law_419 : decode code 419 = .ok (.aload_n 0, 1) := by decide +kernel
theorem dLw_law_420 : decode code 420 = .ok (.iload 4, 2) := by decide +kernel
theorem dLw_law_422 : decode code 422 = .ok (.iconst 2, 1) := by decide +kernel
theorem dLw_law_423 : decode code 423 = .ok (.iadd, 1) := by decide +kernel
theorem dLw_law_424 : decode code 424 = .ok (.iaload, 1) := by decide +kernel
theorem dLw_law_425 : decode code 425 = .ok (.aload_n 0, 1) := by decide +kernel
theorem dLw_law_426 : decode code 426 = .ok (.iload 4, 2) := by decide +kernel
theorem dLw_law_428 : decode code 428 = .ok (.iconst 3, 1) := by decide +kernel
theorem dLw_law_429 : decode code 429 = .ok (.iadd, 1) := by decide +kernel
theorem dLw_law_430 : decode code 430 = .ok (.iaload, 1) := by decide +kernel
theorem dLw_law_431 : decode code 431 = .ok (.invokevirtual 82, 3) := by decide +kernel
theorem dLw_law_434 : decode code 434 = .ok (.aload_n 2, 1) := by decide +kernel
theorem dLw_law_435 : decode code 435 = .ok (.invokevirtual 68, 3) := by decide +kernel
theorem dLw_law_438 : decode code 438 = .ok (.iload 5, 2) := by decide +kernel
theorem dLw_law_440 : decode code 440 = .ok (.if_icmp .eq 5, 3) := by decide +kernel
theorem dLw_law_443 : decode code 443 = .ok (.iconst 0, 1) := by decide +kernel
theorem dLw_law_444 : decode code 444 = .ok (.ireturn, 1) := by decide +kernel
theorem dLw_law_445 : decode code 445 = .ok (.goto 425, 3) := by decide +kernel
theorem dLw_law_448 : decode code 448 = .ok (.aload_n 1, 1) := by decide +kernel
theorem dLw_law_449 : decode code 449 = .ok (.aload_n 0, 1) := by decide +kernel
theorem dLw_law_450 : decode code 450 = .ok (.iload 4, 2) := by decide +kernel
theorem dLw_law_452 : decode code 452 = .ok (.iconst 1, 1) := by decide +kernel
theorem dLw_law_453 : decode code 453 = .ok (.iadd, 1) := by decide +kernel
theorem dLw_law_454 : decode code 454 = .ok (.iaload, 1) := by decide +kernel
theorem dLw_law_455 : decode code 455 = .ok (.aload_n 0, 1) := by decide +kernel
theorem dLw_law_456 : decode code 456 = .ok (.iload 4, 2) := by decide +kernel
theorem dLw_law_458 : decode code 458 = .ok (.iconst 2, 1) := by decide +kernel
theorem dLw_law_459 : decode code 459 = .ok (.iadd, 1) := by decide +kernel
theorem dLw_law_460 : decode code 460 = .ok (.iaload, 1) := by decide +kernel
theorem dLw_law_461 : decode code 461 = .ok (.ifCond .eq 7, 3) := by decide +kernel
theorem dLw_law_464 : decode code 464 = .ok (.iconst 1, 1) := by decide +kernel
theorem dLw_law_465 : decode code 465 = .ok (.goto 4, 3) := by decide +kernel
theorem dLw_law_468 : decode code 468 = .ok (.iconst 0, 1) := by decide +kernel
theorem dLw_law_469 : decode code 469 = .ok (.invokestatic 83, 3) := by decide +kernel
theorem dLw_law_472 : decode code 472 = .ok (.istore 5, 2) := by decide +kernel
theorem dLw_law_474 : decode code 474 = .ok (.aload_n 2, 1) := by decide +kernel
theorem dLw_law_475 : decode code 475 = .ok (.aload_n 0, 1) := by decide +kernel
theorem dLw_law_476 : decode code 476 = .ok (.iload 4, 2) := by decide +kernel
theorem dLw_law_478 : decode code 478 = .ok (.iconst 1, 1) := by decide +kernel
theorem dLw_law_479 : decode code 479 = .ok (.iadd, 1) := by decide +kernel
theorem dLw_law_480 : decode code 480 = .ok (.iaload, 1) := by decide +kernel
theorem dLw_law_481 : decode code 481 = .ok (.aload_n 0, 1) := by decide +kernel
theorem dLw_law_482 : decode code 482 = .ok (.iload 4, 2) := by decide +kernel
theorem dLw_law_484 : decode code 484 = .ok (.iconst 2, 1) := by decide +kernel
theorem dLw_law_485 : decode code 485 = .ok (.iadd, 1) := by decide +kernel
theorem dLw_law_486 : decode code 486 = .ok (.iaload, 1) := by decide +kernel
theorem dLw_law_487 : decode code 487 = .ok (.ifCond .eq 7, 3) := by decide +kernel
theorem dLw_law_490 : decode code 490 = .ok (.iconst 1, 1) := by decide +kernel
theorem dLw_law_491 : decode code 491 = .ok (.goto 4, 3) := by decide +kernel
theorem dLw_law_494 : decode code 494 = .ok (.iconst 0, 1) := by decide +kernel
theorem dLw_law_495 : decode code 495 = .ok (.invokevirtual 86, 3) := by decide +kernel
theorem dLw_law_498 : decode code 498 = .ok (.aload_n 2, 1) := by decide +kernel
theorem dLw_law_499 : decode code 499 = .ok (.invokevirtual 68, 3) := by decide +kernel
theorem dLw_law_502 : decode code 502 = .ok (.iload 5, 2) := by decide +kernel
theorem dLw_law_504 : decode code 504 = .ok (.if_icmp .eq 5, 3) := by decide +kernel
theorem dLw_law_507 : decode code 507 = .ok (.iconst 0, 1) := by decide +kernel
theorem dLw_law_508 : decode code 508 = .ok (.ireturn, 1) := by decide +kernel
theorem dLw_law_509 : decode code 509 = .ok (.goto 361, 3) := by decide +kernel
theorem dLw_law_512 : decode code 512 = .ok (.aload_n 1, 1) := by decide +kernel
theorem dLw_law_513 : decode code 513 = .ok (.aload_n 3, 1) := by decide +kernel
theorem dLw_law_514 : decode code 514 = .ok (.invokestatic 87, 3) := by decide +kernel
theorem dLw_law_517 : decode code 517 = .ok (.istore 5, 2) := by decide +kernel
theorem dLw_law_519 : decode code 519 = .ok (.aload_n 2, 1) := by decide +kernel
theorem dLw_law_520 : decode code 520 = .ok (.invokevirtual 90, 3) := by decide +kernel
theorem dLw_law_523 : decode code 523 = .ok (.istore 6, 2) := by decide +kernel
theorem dLw_law_525 : decode code 525 = .ok (.aload_n 2, 1) := by decide +kernel
theorem dLw_law_526 : decode code 526 = .ok (.invokevirtual 68, 3) := by decide +kernel
theorem dLw_law_529 : decode code 529 = .ok (.iload 5, 2) := by decide +kernel
theorem dLw_law_531 : decode code 531 = .ok (.if_icmp .eq 5, 3) := by decide +kernel
theorem dLw_law_534 : decode code 534 = .ok (.iconst 0, 1) := by decide +kernel
theorem dLw_law_535 : decode code 535 = .ok (.ireturn, 1) := by decide +kernel
theorem dLw_law_536 : decode code 536 = .ok (.iload 5, 2) := by decide +kernel
theorem dLw_law_538 : decode code 538 = .ok (.ifCond .ne 15, 3) := by decide +kernel
theorem dLw_law_541 : decode code 541 = .ok (.aload_n 3, 1) := by decide +kernel
theorem dLw_law_542 : decode code 542 = .ok (.iconst 0, 1) := by decide +kernel
theorem dLw_law_543 : decode code 543 = .ok (.laload, 1) := by decide +kernel
theorem dLw_law_544 : decode code 544 = .ok (.iload 6, 2) := by decide +kernel
theorem dLw_law_546 : decode code 546 = .ok (.i2l, 1) := by decide +kernel
theorem dLw_law_547 : decode code 547 = .ok (.lcmp, 1) := by decide +kernel
theorem dLw_law_548 : decode code 548 = .ok (.ifCond .eq 5, 3) := by decide +kernel
theorem dLw_law_551 : decode code 551 = .ok (.iconst 0, 1) := by decide +kernel
theorem dLw_law_552 : decode code 552 = .ok (.ireturn, 1) := by decide +kernel
theorem dLw_law_553 : decode code 553 = .ok (.goto 317, 3) := by decide +kernel
theorem dLw_law_556 : decode code 556 = .ok (.aload_n 1, 1) := by decide +kernel
theorem dLw_law_557 : decode code 557 = .ok (.aload_n 0, 1) := by decide +kernel
theorem dLw_law_558 : decode code 558 = .ok (.iload 4, 2) := by decide +kernel
theorem dLw_law_560 : decode code 560 = .ok (.iconst 1, 1) := by decide +kernel
theorem dLw_law_561 : decode code 561 = .ok (.iadd, 1) := by decide +kernel
theorem dLw_law_562 : decode code 562 = .ok (.iaload, 1) := by decide +kernel
theorem dLw_law_563 : decode code 563 = .ok (.aload_n 3, 1) := by decide +kernel
theorem dLw_law_564 : decode code 564 = .ok (.invokestatic 91, 3) := by decide +kernel
theorem dLw_law_567 : decode code 567 = .ok (.istore 5, 2) := by decide +kernel
theorem dLw_law_569 : decode code 569 = .ok (.aload_n 2, 1) := by decide +kernel
theorem dLw_law_570 : decode code 570 = .ok (.aload_n 0, 1) := by decide +kernel
theorem dLw_law_571 : decode code 571 = .ok (.iload 4, 2) := by decide +kernel
theorem dLw_law_573 : decode code 573 = .ok (.iconst 1, 1) := by decide +kernel
theorem dLw_law_574 : decode code 574 = .ok (.iadd, 1) := by decide +kernel
theorem dLw_law_575 : decode code 575 = .ok (.iaload, 1) := by decide +kernel
theorem dLw_law_576 : decode code 576 = .ok (.invokevirtual 94, 3) := by decide +kernel
theorem dLw_law_579 : decode code 579 = .ok (.istore 6, 2) := by decide +kernel
theorem dLw_law_581 : decode code 581 = .ok (.aload_n 2, 1) := by decide +kernel
theorem dLw_law_582 : decode code 582 = .ok (.invokevirtual 68, 3) := by decide +kernel
theorem dLw_law_585 : decode code 585 = .ok (.iload 5, 2) := by decide +kernel
theorem dLw_law_587 : decode code 587 = .ok (.if_icmp .eq 5, 3) := by decide +kernel
theorem dLw_law_590 : decode code 590 = .ok (.iconst 0, 1) := by decide +kernel
theorem dLw_law_591 : decode code 591 = .ok (.ireturn, 1) := by decide +kernel
theorem dLw_law_592 : decode code 592 = .ok (.iload 5, 2) := by decide +kernel
theorem dLw_law_594 : decode code 594 = .ok (.ifCond .ne 15, 3) := by decide +kernel
theorem dLw_law_597 : decode code 597 = .ok (.aload_n 3, 1) := by decide +kernel
theorem dLw_law_598 : decode code 598 = .ok (.iconst 0, 1) := by decide +kernel
theorem dLw_law_599 : decode code 599 = .ok (.laload, 1) := by decide +kernel
theorem dLw_law_600 : decode code 600 = .ok (.iload 6, 2) := by decide +kernel
theorem dLw_law_602 : decode code 602 = .ok (.i2l, 1) := by decide +kernel
theorem dLw_law_603 : decode code 603 = .ok (.lcmp, 1) := by decide +kernel
theorem dLw_law_604 : decode code 604 = .ok (.ifCond .eq 5, 3) := by decide +kernel
theorem dLw_law_607 : decode code 607 = .ok (.iconst 0, 1) := by decide +kernel
theorem dLw_law_608 : decode code 608 = .ok (.ireturn, 1) := by decide +kernel
theorem dLw_law_609 : decode code 609 = .ok (.goto 261, 3) := by decide +kernel
theorem dLw_law_612 : decode code 612 = .ok (.aload_n 1, 1) := by decide +kernel
theorem dLw_law_613 : decode code 613 = .ok (.aload_n 0, 1) := by decide +kernel
theorem dLw_law_614 : decode code 614 = .ok (.iload 4, 2) := by decide +kernel
theorem dLw_law_616 : decode code 616 = .ok (.iconst 1, 1) := by decide +kernel
theorem dLw_law_617 : decode code 617 = .ok (.iadd, 1) := by decide +kernel
theorem dLw_law_618 : decode code 618 = .ok (.iaload, 1) := by decide +kernel
theorem dLw_law_619 : decode code 619 = .ok (.aload_n 0, 1) := by decide +kernel
theorem dLw_law_620 : decode code 620 = .ok (.iload 4, 2) := by decide +kernel
theorem dLw_law_622 : decode code 622 = .ok (.iconst 2, 1) := by decide +kernel
theorem dLw_law_623 : decode code 623 = .ok (.iadd, 1) := by decide +kernel
theorem dLw_law_624 : decode code 624 = .ok (.iaload, 1) := by decide +kernel
theorem dLw_law_625 : decode code 625 = .ok (.invokestatic 95, 3) := by decide +kernel
theorem dLw_law_628 : decode code 628 = .ok (.istore 5, 2) := by decide +kernel
theorem dLw_law_630 : decode code 630 = .ok (.aload_n 2, 1) := by decide +kernel
theorem dLw_law_631 : decode code 631 = .ok (.aload_n 0, 1) := by decide +kernel
theorem dLw_law_632 : decode code 632 = .ok (.iload 4, 2) := by decide +kernel
theorem dLw_law_634 : decode code 634 = .ok (.iconst 1, 1) := by decide +kernel
theorem dLw_law_635 : decode code 635 = .ok (.iadd, 1) := by decide +kernel
theorem dLw_law_636 : decode code 636 = .ok (.iaload, 1) := by decide +kernel
theorem dLw_law_637 : decode code 637 = .ok (.aload_n 0, 1) := by decide +kernel
theorem dLw_law_638 : decode code 638 = .ok (.iload 4, 2) := by decide +kernel
theorem dLw_law_640 : decode code 640 = .ok (.iconst 2, 1) := by decide +kernel
theorem dLw_law_641 : decode code 641 = .ok (.iadd, 1) := by decide +kernel
theorem dLw_law_642 : decode code 642 = .ok (.iaload, 1) := by decide +kernel
theorem dLw_law_643 : decode code 643 = .ok (.invokevirtual 98, 3) := by decide +kernel
theorem dLw_law_646 : decode code 646 = .ok (.aload_n 2, 1) := by decide +kernel
theorem dLw_law_647 : decode code 647 = .ok (.invokevirtual 68, 3) := by decide +kernel
theorem dLw_law_650 : decode code 650 = .ok (.iload 5, 2) := by decide +kernel
theorem dLw_law_652 : decode code 652 = .ok (.if_icmp .eq 5, 3) := by decide +kernel
theorem dLw_law_655 : decode code 655 = .ok (.iconst 0, 1) := by decide +kernel
theorem dLw_law_656 : decode code 656 = .ok (.ireturn, 1) := by decide +kernel
theorem dLw_law_657 : decode code 657 = .ok (.goto 213, 3) := by decide +kernel
theorem dLw_law_660 : decode code 660 = .ok (.aload_n 1, 1) := by decide +kernel
theorem dLw_law_661 : decode code 661 = .ok (.aload_n 3, 1) := by decide +kernel
theorem dLw_law_662 : decode code 662 = .ok (.invokestatic 99, 3) := by decide +kernel
theorem dLw_law_665 : decode code 665 = .ok (.istore 5, 2) := by decide +kernel
theorem dLw_law_667 : decode code 667 = .ok (.aload_n 2, 1) := by decide +kernel
theorem dLw_law_668 : decode code 668 = .ok (.invokevirtual 101, 3) := by decide +kernel
theorem dLw_law_671 : decode code 671 = .ok (.istore 6, 2) := by decide +kernel
theorem dLw_law_673 : decode code 673 = .ok (.aload_n 2, 1) := by decide +kernel
theorem dLw_law_674 : decode code 674 = .ok (.invokevirtual 68, 3) := by decide +kernel
theorem dLw_law_677 : decode code 677 = .ok (.iload 5, 2) := by decide +kernel
theorem dLw_law_679 : decode code 679 = .ok (.if_icmp .eq 5, 3) := by decide +kernel
theorem dLw_law_682 : decode code 682 = .ok (.iconst 0, 1) := by decide +kernel
theorem dLw_law_683 : decode code 683 = .ok (.ireturn, 1) := by decide +kernel
theorem dLw_law_684 : decode code 684 = .ok (.iload 5, 2) := by decide +kernel
theorem dLw_law_686 : decode code 686 = .ok (.ifCond .ne 15, 3) := by decide +kernel
theorem dLw_law_689 : decode code 689 = .ok (.aload_n 3, 1) := by decide +kernel
theorem dLw_law_690 : decode code 690 = .ok (.iconst 0, 1) := by decide +kernel
theorem dLw_law_691 : decode code 691 = .ok (.laload, 1) := by decide +kernel
theorem dLw_law_692 : decode code 692 = .ok (.iload 6, 2) := by decide +kernel
theorem dLw_law_694 : decode code 694 = .ok (.i2l, 1) := by decide +kernel
theorem dLw_law_695 : decode code 695 = .ok (.lcmp, 1) := by decide +kernel
theorem dLw_law_696 : decode code 696 = .ok (.ifCond .eq 5, 3) := by decide +kernel
theorem dLw_law_699 : decode code 699 = .ok (.iconst 0, 1) := by decide +kernel
theorem dLw_law_700 : decode code 700 = .ok (.ireturn, 1) := by decide +kernel
theorem dLw_law_701 : decode code 701 = .ok (.goto 169, 3) := by decide +kernel
theorem dLw_law_704 : decode code 704 = .ok (.aload_n 1, 1) := by decide +kernel
theorem dLw_law_705 : decode code 705 = .ok (.aload_n 0, 1) := by decide +kernel
theorem dLw_law_706 : decode code 706 = .ok (.iload 4, 2) := by decide +kernel
theorem dLw_law_708 : decode code 708 = .ok (.iconst 1, 1) := by decide +kernel
theorem dLw_law_709 : decode code 709 = .ok (.iadd, 1) := by decide +kernel
theorem dLw_law_710 : decode code 710 = .ok (.iaload, 1) := by decide +kernel
theorem dLw_law_711 : decode code 711 = .ok (.aload_n 0, 1) := by decide +kernel
theorem dLw_law_712 : decode code 712 = .ok (.iload 4, 2) := by decide +kernel
theorem dLw_law_714 : decode code 714 = .ok (.iconst 2, 1) := by decide +kernel
theorem dLw_law_715 : decode code 715 = .ok (.iadd, 1) := by decide +kernel
theorem dLw_law_716 : decode code 716 = .ok (.iaload, 1) := by decide +kernel
theorem dLw_law_717 : decode code 717 = .ok (.aload_n 0, 1) := by decide +kernel
theorem dLw_law_718 : decode code 718 = .ok (.iload 4, 2) := by decide +kernel
theorem dLw_law_720 : decode code 720 = .ok (.iconst 3, 1) := by decide +kernel
theorem dLw_law_721 : decode code 721 = .ok (.iadd, 1) := by decide +kernel
theorem dLw_law_722 : decode code 722 = .ok (.iaload, 1) := by decide +kernel
theorem dLw_law_723 : decode code 723 = .ok (.invokestatic 102, 3) := by decide +kernel
theorem dLw_law_726 : decode code 726 = .ok (.istore 5, 2) := by decide +kernel
theorem dLw_law_728 : decode code 728 = .ok (.aload_n 2, 1) := by decide +kernel
theorem dLw_law_729 : decode code 729 = .ok (.aload_n 0, 1) := by decide +kernel
theorem dLw_law_730 : decode code 730 = .ok (.iload 4, 2) := by decide +kernel
theorem dLw_law_732 : decode code 732 = .ok (.iconst 1, 1) := by decide +kernel
theorem dLw_law_733 : decode code 733 = .ok (.iadd, 1) := by decide +kernel
theorem dLw_law_734 : decode code 734 = .ok (.iaload, 1) := by decide +kernel
theorem dLw_law_735 : decode code 735 = .ok (.aload_n 0, 1) := by decide +kernel
theorem dLw_law_736 : decode code 736 = .ok (.iload 4, 2) := by decide +kernel
theorem dLw_law_738 : decode code 738 = .ok (.iconst 2, 1) := by decide +kernel
theorem dLw_law_739 : decode code 739 = .ok (.iadd, 1) := by decide +kernel
theorem dLw_law_740 : decode code 740 = .ok (.iaload, 1) := by decide +kernel
theorem dLw_law_741 : decode code 741 = .ok (.aload_n 0, 1) := by decide +kernel
theorem dLw_law_742 : decode code 742 = .ok (.iload 4, 2) := by decide +kernel
theorem dLw_law_744 : decode code 744 = .ok (.iconst 3, 1) := by decide +kernel
theorem dLw_law_745 : decode code 745 = .ok (.iadd, 1) := by decide +kernel
theorem dLw_law_746 : decode code 746 = .ok (.iaload, 1) := by decide +kernel
theorem dLw_law_747 : decode code 747 = .ok (.invokevirtual 104, 3) := by decide +kernel
theorem dLw_law_750 : decode code 750 = .ok (.aload_n 2, 1) := by decide +kernel
theorem dLw_law_751 : decode code 751 = .ok (.invokevirtual 68, 3) := by decide +kernel
theorem dLw_law_754 : decode code 754 = .ok (.iload 5, 2) := by decide +kernel
theorem dLw_law_756 : decode code 756 = .ok (.if_icmp .eq 5, 3) := by decide +kernel
theorem dLw_law_759 : decode code 759 = .ok (.iconst 0, 1) := by decide +kernel
theorem dLw_law_760 : decode code 760 = .ok (.ireturn, 1) := by decide +kernel
theorem dLw_law_761 : decode code 761 = .ok (.goto 109, 3) := by decide +kernel
theorem dLw_law_764 : decode code 764 = .ok (.aload_n 1, 1) := by decide +kernel
theorem dLw_law_765 : decode code 765 = .ok (.aload_n 0, 1) := by decide +kernel
theorem dLw_law_766 : decode code 766 = .ok (.iload 4, 2) := by decide +kernel
theorem dLw_law_768 : decode code 768 = .ok (.iconst 1, 1) := by decide +kernel
theorem dLw_law_769 : decode code 769 = .ok (.iadd, 1) := by decide +kernel
theorem dLw_law_770 : decode code 770 = .ok (.iaload, 1) := by decide +kernel
theorem dLw_law_771 : decode code 771 = .ok (.aload_n 3, 1) := by decide +kernel
theorem dLw_law_772 : decode code 772 = .ok (.invokestatic 105, 3) := by decide +kernel
theorem dLw_law_775 : decode code 775 = .ok (.istore 5, 2) := by decide +kernel
theorem dLw_law_777 : decode code 777 = .ok (.aload_n 2, 1) := by decide +kernel
theorem dLw_law_778 : decode code 778 = .ok (.aload_n 0, 1) := by decide +kernel
theorem dLw_law_779 : decode code 779 = .ok (.iload 4, 2) := by decide +kernel
theorem dLw_law_781 : decode code 781 = .ok (.iconst 1, 1) := by decide +kernel
theorem dLw_law_782 : decode code 782 = .ok (.iadd, 1) := by decide +kernel
theorem dLw_law_783 : decode code 783 = .ok (.iaload, 1) := by decide +kernel
theorem dLw_law_784 : decode code 784 = .ok (.invokevirtual 107, 3) := by decide +kernel
theorem dLw_law_787 : decode code 787 = .ok (.istore 6, 2) := by decide +kernel
theorem dLw_law_789 : decode code 789 = .ok (.aload_n 2, 1) := by decide +kernel
theorem dLw_law_790 : decode code 790 = .ok (.invokevirtual 68, 3) := by decide +kernel
theorem dLw_law_793 : decode code 793 = .ok (.iload 5, 2) := by decide +kernel
theorem dLw_law_795 : decode code 795 = .ok (.if_icmp .eq 5, 3) := by decide +kernel
theorem dLw_law_798 : decode code 798 = .ok (.iconst 0, 1) := by decide +kernel
theorem dLw_law_799 : decode code 799 = .ok (.ireturn, 1) := by decide +kernel
theorem dLw_law_800 : decode code 800 = .ok (.iload 5, 2) := by decide +kernel
theorem dLw_law_802 : decode code 802 = .ok (.ifCond .ne 15, 3) := by decide +kernel
theorem dLw_law_805 : decode code 805 = .ok (.aload_n 3, 1) := by decide +kernel
theorem dLw_law_806 : decode code 806 = .ok (.iconst 0, 1) := by decide +kernel
theorem dLw_law_807 : decode code 807 = .ok (.laload, 1) := by decide +kernel
theorem dLw_law_808 : decode code 808 = .ok (.iload 6, 2) := by decide +kernel
theorem dLw_law_810 : decode code 810 = .ok (.i2l, 1) := by decide +kernel
theorem dLw_law_811 : decode code 811 = .ok (.lcmp, 1) := by decide +kernel
theorem dLw_law_812 : decode code 812 = .ok (.ifCond .eq 5, 3) := by decide +kernel
theorem dLw_law_815 : decode code 815 = .ok (.iconst 0, 1) := by decide +kernel
theorem dLw_law_816 : decode code 816 = .ok (.ireturn, 1) := by decide +kernel
theorem dLw_law_817 : decode code 817 = .ok (.goto 53, 3) := by decide +kernel
theorem dLw_law_820 : decode code 820 = .ok (.aload_n 1, 1) := by decide +kernel
theorem dLw_law_821 : decode code 821 = .ok (.aload_n 0, 1) := by decide +kernel
theorem dLw_law_822 : decode code 822 = .ok (.iload 4, 2) := by decide +kernel
theorem dLw_law_824 : decode code 824 = .ok (.iconst 1, 1) := by decide +kernel
theorem dLw_law_825 : decode code 825 = .ok (.iadd, 1) := by decide +kernel
theorem dLw_law_826 : decode code 826 = .ok (.iaload, 1) := by decide +kernel
theorem dLw_law_827 : decode code 827 = .ok (.invokevirtual 108, 3) := by decide +kernel
theorem dLw_law_830 : decode code 830 = .ok (.aload_n 2, 1) := by decide +kernel
theorem dLw_law_831 : decode code 831 = .ok (.aload_n 0, 1) := by decide +kernel
theorem dLw_law_832 : decode code 832 = .ok (.iload 4, 2) := by decide +kernel
theorem dLw_law_834 : decode code 834 = .ok (.iconst 1, 1) := by decide +kernel
theorem dLw_law_835 : decode code 835 = .ok (.iadd, 1) := by decide +kernel
theorem dLw_law_836 : decode code 836 = .ok (.iaload, 1) := by decide +kernel
theorem dLw_law_837 : decode code 837 = .ok (.invokevirtual 111, 3) := by decide +kernel
theorem dLw_law_840 : decode code 840 = .ok (.if_icmp .eq 30, 3) := by decide +kernel
theorem dLw_law_843 : decode code 843 = .ok (.iconst 0, 1) := by decide +kernel
theorem dLw_law_844 : decode code 844 = .ok (.ireturn, 1) := by decide +kernel
theorem dLw_law_845 : decode code 845 = .ok (.aload_n 1, 1) := by decide +kernel
theorem dLw_law_846 : decode code 846 = .ok (.aload_n 0, 1) := by decide +kernel
theorem dLw_law_847 : decode code 847 = .ok (.iload 4, 2) := by decide +kernel
theorem dLw_law_849 : decode code 849 = .ok (.iconst 1, 1) := by decide +kernel
theorem dLw_law_850 : decode code 850 = .ok (.iadd, 1) := by decide +kernel
theorem dLw_law_851 : decode code 851 = .ok (.iaload, 1) := by decide +kernel
theorem dLw_law_852 : decode code 852 = .ok (.invokevirtual 112, 3) := by decide +kernel
theorem dLw_law_855 : decode code 855 = .ok (.aload_n 2, 1) := by decide +kernel
theorem dLw_law_856 : decode code 856 = .ok (.aload_n 0, 1) := by decide +kernel
theorem dLw_law_857 : decode code 857 = .ok (.iload 4, 2) := by decide +kernel
theorem dLw_law_859 : decode code 859 = .ok (.iconst 1, 1) := by decide +kernel
theorem dLw_law_860 : decode code 860 = .ok (.iadd, 1) := by decide +kernel
theorem dLw_law_861 : decode code 861 = .ok (.iaload, 1) := by decide +kernel
theorem dLw_law_862 : decode code 862 = .ok (.invokevirtual 115, 3) := by decide +kernel
theorem dLw_law_865 : decode code 865 = .ok (.if_icmp .eq 5, 3) := by decide +kernel
theorem dLw_law_868 : decode code 868 = .ok (.iconst 0, 1) := by decide +kernel
theorem dLw_law_869 : decode code 869 = .ok (.ireturn, 1) := by decide +kernel
theorem dLw_law_870 : decode code 870 = .ok (.iinc 4 6, 3) := by decide +kernel
theorem dLw_law_873 : decode code 873 = .ok (.goto (-850), 3) := by decide +kernel
theorem dLw_law_876 : decode code 876 = .ok (.iconst 1, 1) := by decide +kernel
theorem dLw_law_877 : decode code 877 = .ok (.ireturn, 1) := by decide +kernel
/-! The law's own loop: what holds throughout. -/
abbrev CL (p : Program) (l : Launch) (s : State) (m : MethodId) (b : Nat) (c : Code) (D : va_G) (cA : Nat → ClassId) (ad : Nat → Nat) (L : List Nat) (rs : va_W) (al : Nat → Bool) (A : Nat → Prop) (Ls : Nat) (xs : Nat → Int32) (c0 s0 : Nat) : Prop :=
  p.tables.exec = Jvm.exec ∧ c.code = code ∧ c.maxLocals = 7 ∧ s.vm.findClass "ImageForgeLaw" = some m.cls ∧ (∀ w ∈ bw, w.before #[Value.ref b] s = true) ∧ va_K D vwCl (tyl cA) s ∧ (∀ q, s.heap.size ≤ q → A q) ∧ (∀ v : Mr, va_D A (ww ad cA L rs v)) ∧ L.Nodup ∧ (∀ k, al k = true → k ∈ L) ∧ Nx s ∧ l.stackTraces = false ∧
  zL Bundle.tN "UNASSIGNED_STACK" Bundle.steD A s s.heap ∧ zL Bundle.tN "SUPPRESSED_SENTINEL" Bundle.listD A s s.heap ∧ Ny s ∧ Nq s ∧ va_X b Ls xs s s.heap ∧ b < s.heap.size ∧ ¬ A b ∧ okk al 1 64 = true ∧ okk al 32 2048 = true ∧ okk al 22 1408 = true ∧ c0 + 2 ≤ 601024 ∧ s0 + 14 ≤ 7293034
/-- the frame at the loop's head and at its end -/
abbrev lvL (b : Nat) (ad : Nat → Nat) (x4 : Int32) : List (Nat × Value) := [(0, .ref b), (1, .ref (ad 64)), (2, .ref (ad 2048)), (3, .ref (ad 1408)), (4, .int x4)]

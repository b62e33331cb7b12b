/-- a private method of a class that the tables say can be made, by its rows of tables_1 -/
def lw_okq (q : MethodName × Nat) : Prop := (q.1.cls ≠ "java/lang/invoke/MethodHandle" ∧ q.1.cls ≠ "java/lang/invoke/VarHandle") ∧ Cond.instantiable q.1.cls q.2 ∈ tables_1 ∧ Cond.privateMethod q.1 ∈ tables_1 ∧ Cond.instanceMethod q.1 ∈ tables_1
theorem lw_p0 : lw_okq (⟨"java/lang/Throwable", "fillInStackTrace", "(I)Ljava/lang/Throwable;"⟩, 6) := ⟨⟨by decide +kernel, by decide +kernel⟩, List.mem_of_getElem? (i := 307) (by decide +kernel), List.mem_of_getElem? (i := 305) (by decide +kernel), List.mem_of_getElem? (i := 306) (by decide +kernel)⟩
theorem lw_p1 : lw_okq (⟨"TypeKernel", "askedLevel", "(J)I"⟩, 7) := ⟨⟨by decide +kernel, by decide +kernel⟩, List.mem_of_getElem? (i := 19) (by decide +kernel), List.mem_of_getElem? (i := 341) (by decide +kernel), List.mem_of_getElem? (i := 342) (by decide +kernel)⟩
theorem lw_p2 : lw_okq (⟨"TypeKernel$Levels", "find", "(J)I"⟩, 5) := ⟨⟨by decide +kernel, by decide +kernel⟩, List.mem_of_getElem? (i := 27) (by decide +kernel), List.mem_of_getElem? (i := 372) (by decide +kernel), List.mem_of_getElem? (i := 373) (by decide +kernel)⟩
theorem lw_p3 : lw_okq (⟨"TypeKernel", "needLevel", "(I)V"⟩, 7) := ⟨⟨by decide +kernel, by decide +kernel⟩, List.mem_of_getElem? (i := 19) (by decide +kernel), List.mem_of_getElem? (i := 393) (by decide +kernel), List.mem_of_getElem? (i := 394) (by decide +kernel)⟩
theorem lw_p4 : lw_okq (⟨"TypeKernel", "needParameterValue", "(I)V"⟩, 7) := ⟨⟨by decide +kernel, by decide +kernel⟩, List.mem_of_getElem? (i := 19) (by decide +kernel), List.mem_of_getElem? (i := 454) (by decide +kernel), List.mem_of_getElem? (i := 455) (by decide +kernel)⟩
theorem lw_p5 : lw_okq (⟨"TypeKernel", "askedTerm", "(IIII)I"⟩, 7) := ⟨⟨by decide +kernel, by decide +kernel⟩, List.mem_of_getElem? (i := 19) (by decide +kernel), List.mem_of_getElem? (i := 467) (by decide +kernel), List.mem_of_getElem? (i := 468) (by decide +kernel)⟩
theorem lw_p6 : lw_okq (⟨"TypeKernel$Terms", "sizeOf", "(I)I"⟩, 12) := ⟨⟨by decide +kernel, by decide +kernel⟩, List.mem_of_getElem? (i := 54) (by decide +kernel), List.mem_of_getElem? (i := 478) (by decide +kernel), List.mem_of_getElem? (i := 479) (by decide +kernel)⟩
theorem lw_p7 : lw_okq (⟨"TypeKernel$Terms", "find", "(IIII)I"⟩, 12) := ⟨⟨by decide +kernel, by decide +kernel⟩, List.mem_of_getElem? (i := 54) (by decide +kernel), List.mem_of_getElem? (i := 491) (by decide +kernel), List.mem_of_getElem? (i := 492) (by decide +kernel)⟩
theorem lw_p8 : lw_okq (⟨"TypeKernel$Terms", "openFor", "(IIII)I"⟩, 12) := ⟨⟨by decide +kernel, by decide +kernel⟩, List.mem_of_getElem? (i := 54) (by decide +kernel), List.mem_of_getElem? (i := 496) (by decide +kernel), List.mem_of_getElem? (i := 497) (by decide +kernel)⟩
theorem lw_p9 : lw_okq (⟨"TypeKernel$Terms", "openOf", "(I)I"⟩, 12) := ⟨⟨by decide +kernel, by decide +kernel⟩, List.mem_of_getElem? (i := 54) (by decide +kernel), List.mem_of_getElem? (i := 500) (by decide +kernel), List.mem_of_getElem? (i := 501) (by decide +kernel)⟩
theorem lw_p10 : lw_okq (⟨"TypeKernel", "needName", "(I)V"⟩, 7) := ⟨⟨by decide +kernel, by decide +kernel⟩, List.mem_of_getElem? (i := 19) (by decide +kernel), List.mem_of_getElem? (i := 521) (by decide +kernel), List.mem_of_getElem? (i := 522) (by decide +kernel)⟩
theorem lw_p11 : lw_okq (⟨"TypeKernel", "needTerm", "(I)V"⟩, 7) := ⟨⟨by decide +kernel, by decide +kernel⟩, List.mem_of_getElem? (i := 19) (by decide +kernel), List.mem_of_getElem? (i := 534) (by decide +kernel), List.mem_of_getElem? (i := 535) (by decide +kernel)⟩
theorem lw_p12 : lw_okq (⟨"TypeKernel$Typer", "putSort", "(JLTypeKernel$Row;)I"⟩, 8) := ⟨⟨by decide +kernel, by decide +kernel⟩, List.mem_of_getElem? (i := 192) (by decide +kernel), List.mem_of_getElem? (i := 560) (by decide +kernel), List.mem_of_getElem? (i := 561) (by decide +kernel)⟩
theorem lw_p13 : lw_okq (⟨"TypeKernel$Typer", "putBinderType", "(IILTypeKernel$Row;)I"⟩, 8) := ⟨⟨by decide +kernel, by decide +kernel⟩, List.mem_of_getElem? (i := 192) (by decide +kernel), List.mem_of_getElem? (i := 573) (by decide +kernel), List.mem_of_getElem? (i := 574) (by decide +kernel)⟩
theorem lw_p14 : lw_okq (⟨"TypeKernel$Terms", "await", "(II)V"⟩, 12) := ⟨⟨by decide +kernel, by decide +kernel⟩, List.mem_of_getElem? (i := 54) (by decide +kernel), List.mem_of_getElem? (i := 581) (by decide +kernel), List.mem_of_getElem? (i := 582) (by decide +kernel)⟩
theorem lw_p15 : lw_okq (⟨"TypeKernel$Typer", "putNameType", "(ILTypeKernel$Row;)I"⟩, 8) := ⟨⟨by decide +kernel, by decide +kernel⟩, List.mem_of_getElem? (i := 192) (by decide +kernel), List.mem_of_getElem? (i := 591) (by decide +kernel), List.mem_of_getElem? (i := 592) (by decide +kernel)⟩
def lw_privs_1 : List (MethodName × Nat) := [(⟨"java/lang/Throwable", "fillInStackTrace", "(I)Ljava/lang/Throwable;"⟩, 6), (⟨"TypeKernel", "askedLevel", "(J)I"⟩, 7), (⟨"TypeKernel$Levels", "find", "(J)I"⟩, 5), (⟨"TypeKernel", "needLevel", "(I)V"⟩, 7), (⟨"TypeKernel", "needParameterValue", "(I)V"⟩, 7), (⟨"TypeKernel", "askedTerm", "(IIII)I"⟩, 7), (⟨"TypeKernel$Terms", "sizeOf", "(I)I"⟩, 12), (⟨"TypeKernel$Terms", "find", "(IIII)I"⟩, 12), (⟨"TypeKernel$Terms", "openFor", "(IIII)I"⟩, 12), (⟨"TypeKernel$Terms", "openOf", "(I)I"⟩, 12), (⟨"TypeKernel", "needName", "(I)V"⟩, 7), (⟨"TypeKernel", "needTerm", "(I)V"⟩, 7), (⟨"TypeKernel$Typer", "putSort", "(JLTypeKernel$Row;)I"⟩, 8), (⟨"TypeKernel$Typer", "putBinderType", "(IILTypeKernel$Row;)I"⟩, 8), (⟨"TypeKernel$Terms", "await", "(II)V"⟩, 12), (⟨"TypeKernel$Typer", "putNameType", "(ILTypeKernel$Row;)I"⟩, 8)]
theorem lw_r1 : ∀ q ∈ lw_privs_1, lw_okq q := List.forall_mem_cons.mpr ⟨lw_p0, List.forall_mem_cons.mpr ⟨lw_p1, List.forall_mem_cons.mpr ⟨lw_p2, List.forall_mem_cons.mpr ⟨lw_p3, List.forall_mem_cons.mpr ⟨lw_p4, List.forall_mem_cons.mpr ⟨lw_p5, List.forall_mem_cons.mpr ⟨lw_p6, List.forall_mem_cons.mpr ⟨lw_p7, List.forall_mem_cons.mpr ⟨lw_p8, List.forall_mem_cons.mpr ⟨lw_p9, List.forall_mem_cons.mpr ⟨lw_p10, List.forall_mem_cons.mpr ⟨lw_p11, List.forall_mem_cons.mpr ⟨lw_p12, List.forall_mem_cons.mpr ⟨lw_p13, List.forall_mem_cons.mpr ⟨lw_p14, List.forall_mem_cons.mpr ⟨lw_p15, fun _ h => absurd h List.not_mem_nil⟩⟩⟩⟩⟩⟩⟩⟩⟩⟩⟩⟩⟩⟩⟩⟩
theorem lw_p16 : lw_okq (⟨"TypeKernel$Typer", "findOfPi", "(III)I"⟩, 8) := ⟨⟨by decide +kernel, by decide +kernel⟩, List.mem_of_getElem? (i := 192) (by decide +kernel), List.mem_of_getElem? (i := 610) (by decide +kernel), List.mem_of_getElem? (i := 611) (by decide +kernel)⟩
theorem lw_p17 : lw_okq (⟨"TypeKernel$Reducer", "nextStep", "(LTypeKernel$Row;)I"⟩, 5) := ⟨⟨by decide +kernel, by decide +kernel⟩, List.mem_of_getElem? (i := 132) (by decide +kernel), List.mem_of_getElem? (i := 619) (by decide +kernel), List.mem_of_getElem? (i := 620) (by decide +kernel)⟩
theorem lw_p18 : lw_okq (⟨"TypeKernel$Reducer", "shrink", "(LTypeKernel$Row;I)V"⟩, 5) := ⟨⟨by decide +kernel, by decide +kernel⟩, List.mem_of_getElem? (i := 132) (by decide +kernel), List.mem_of_getElem? (i := 631) (by decide +kernel), List.mem_of_getElem? (i := 632) (by decide +kernel)⟩
theorem lw_p19 : lw_okq (⟨"TypeKernel$Row", "copyMark", "(LTypeKernel$Row;III)V"⟩, 6) := ⟨⟨by decide +kernel, by decide +kernel⟩, List.mem_of_getElem? (i := 138) (by decide +kernel), List.mem_of_getElem? (i := 645) (by decide +kernel), List.mem_of_getElem? (i := 646) (by decide +kernel)⟩
theorem lw_p20 : lw_okq (⟨"TypeKernel$Row", "moveTail", "(II)V"⟩, 6) := ⟨⟨by decide +kernel, by decide +kernel⟩, List.mem_of_getElem? (i := 138) (by decide +kernel), List.mem_of_getElem? (i := 658) (by decide +kernel), List.mem_of_getElem? (i := 659) (by decide +kernel)⟩
theorem lw_p21 : lw_okq (⟨"TypeKernel$Reducer", "takeStep", "(LTypeKernel$Row;I)Z"⟩, 5) := ⟨⟨by decide +kernel, by decide +kernel⟩, List.mem_of_getElem? (i := 132) (by decide +kernel), List.mem_of_getElem? (i := 665) (by decide +kernel), List.mem_of_getElem? (i := 666) (by decide +kernel)⟩
theorem lw_p22 : lw_okq (⟨"TypeKernel$Typer", "findOfLambda", "(III)I"⟩, 8) := ⟨⟨by decide +kernel, by decide +kernel⟩, List.mem_of_getElem? (i := 192) (by decide +kernel), List.mem_of_getElem? (i := 682) (by decide +kernel), List.mem_of_getElem? (i := 683) (by decide +kernel)⟩
theorem lw_p23 : lw_okq (⟨"TypeKernel$Typer", "findOfApply", "(III)I"⟩, 8) := ⟨⟨by decide +kernel, by decide +kernel⟩, List.mem_of_getElem? (i := 192) (by decide +kernel), List.mem_of_getElem? (i := 691) (by decide +kernel), List.mem_of_getElem? (i := 692) (by decide +kernel)⟩
theorem lw_p24 : lw_okq (⟨"TypeKernel$Typer", "findOfLet", "(III)I"⟩, 8) := ⟨⟨by decide +kernel, by decide +kernel⟩, List.mem_of_getElem? (i := 192) (by decide +kernel), List.mem_of_getElem? (i := 707) (by decide +kernel), List.mem_of_getElem? (i := 708) (by decide +kernel)⟩
theorem lw_p25 : lw_okq (⟨"TypeKernel", "numbered", "(LTypeKernel$Row;)I"⟩, 7) := ⟨⟨by decide +kernel, by decide +kernel⟩, List.mem_of_getElem? (i := 19) (by decide +kernel), List.mem_of_getElem? (i := 711) (by decide +kernel), List.mem_of_getElem? (i := 712) (by decide +kernel)⟩
theorem lw_p26 : lw_okq (⟨"TypeKernel$Terms", "keepLeaf", "(LTypeKernel$Row;I)I"⟩, 12) := ⟨⟨by decide +kernel, by decide +kernel⟩, List.mem_of_getElem? (i := 54) (by decide +kernel), List.mem_of_getElem? (i := 719) (by decide +kernel), List.mem_of_getElem? (i := 720) (by decide +kernel)⟩
theorem lw_p27 : lw_okq (⟨"TypeKernel", "reasonAgainst", "(III)I"⟩, 7) := ⟨⟨by decide +kernel, by decide +kernel⟩, List.mem_of_getElem? (i := 19) (by decide +kernel), List.mem_of_getElem? (i := 760) (by decide +kernel), List.mem_of_getElem? (i := 761) (by decide +kernel)⟩
theorem lw_p28 : lw_okq (⟨"TypeKernel", "hasStrangeParameter", "(II)Z"⟩, 7) := ⟨⟨by decide +kernel, by decide +kernel⟩, List.mem_of_getElem? (i := 19) (by decide +kernel), List.mem_of_getElem? (i := 764) (by decide +kernel), List.mem_of_getElem? (i := 765) (by decide +kernel)⟩
theorem lw_p29 : lw_okq (⟨"TypeKernelModel", "isLevel", "(I)Z"⟩, 40) := ⟨⟨by decide +kernel, by decide +kernel⟩, List.mem_of_getElem? (i := 810) (by decide +kernel), List.mem_of_getElem? (i := 954) (by decide +kernel), List.mem_of_getElem? (i := 955) (by decide +kernel)⟩
theorem lw_p30 : lw_okq (⟨"TypeKernelModel", "numberOfLevel", "(III)I"⟩, 40) := ⟨⟨by decide +kernel, by decide +kernel⟩, List.mem_of_getElem? (i := 810) (by decide +kernel), List.mem_of_getElem? (i := 958) (by decide +kernel), List.mem_of_getElem? (i := 959) (by decide +kernel)⟩
theorem lw_p31 : lw_okq (⟨"TypeKernelModel", "numberOfTerm", "(IIII)I"⟩, 40) := ⟨⟨by decide +kernel, by decide +kernel⟩, List.mem_of_getElem? (i := 810) (by decide +kernel), List.mem_of_getElem? (i := 966) (by decide +kernel), List.mem_of_getElem? (i := 967) (by decide +kernel)⟩
def lw_privs_2 : List (MethodName × Nat) := [(⟨"TypeKernel$Typer", "findOfPi", "(III)I"⟩, 8), (⟨"TypeKernel$Reducer", "nextStep", "(LTypeKernel$Row;)I"⟩, 5), (⟨"TypeKernel$Reducer", "shrink", "(LTypeKernel$Row;I)V"⟩, 5), (⟨"TypeKernel$Row", "copyMark", "(LTypeKernel$Row;III)V"⟩, 6), (⟨"TypeKernel$Row", "moveTail", "(II)V"⟩, 6), (⟨"TypeKernel$Reducer", "takeStep", "(LTypeKernel$Row;I)Z"⟩, 5), (⟨"TypeKernel$Typer", "findOfLambda", "(III)I"⟩, 8), (⟨"TypeKernel$Typer", "findOfApply", "(III)I"⟩, 8), (⟨"TypeKernel$Typer", "findOfLet", "(III)I"⟩, 8), (⟨"TypeKernel", "numbered", "(LTypeKernel$Row;)I"⟩, 7), (⟨"TypeKernel$Terms", "keepLeaf", "(LTypeKernel$Row;I)I"⟩, 12), (⟨"TypeKernel", "reasonAgainst", "(III)I"⟩, 7), (⟨"TypeKernel", "hasStrangeParameter", "(II)Z"⟩, 7), (⟨"TypeKernelModel", "isLevel", "(I)Z"⟩, 40), (⟨"TypeKernelModel", "numberOfLevel", "(III)I"⟩, 40), (⟨"TypeKernelModel", "numberOfTerm", "(IIII)I"⟩, 40)]
theorem lw_r2 : ∀ q ∈ lw_privs_2, lw_okq q := List.forall_mem_cons.mpr ⟨lw_p16, List.forall_mem_cons.mpr ⟨lw_p17, List.forall_mem_cons.mpr ⟨lw_p18, List.forall_mem_cons.mpr ⟨lw_p19, List.forall_mem_cons.mpr ⟨lw_p20, List.forall_mem_cons.mpr ⟨lw_p21, List.forall_mem_cons.mpr ⟨lw_p22, List.forall_mem_cons.mpr ⟨lw_p23, List.forall_mem_cons.mpr ⟨lw_p24, List.forall_mem_cons.mpr ⟨lw_p25, List.forall_mem_cons.mpr ⟨lw_p26, List.forall_mem_cons.mpr ⟨lw_p27, List.forall_mem_cons.mpr ⟨lw_p28, List.forall_mem_cons.mpr ⟨lw_p29, List.forall_mem_cons.mpr ⟨lw_p30, List.forall_mem_cons.mpr ⟨lw_p31, fun _ h => absurd h List.not_mem_nil⟩⟩⟩⟩⟩⟩⟩⟩⟩⟩⟩⟩⟩⟩⟩⟩
theorem lw_p32 : lw_okq (⟨"TypeKernelModel", "openOf", "(IIII)I"⟩, 40) := ⟨⟨by decide +kernel, by decide +kernel⟩, List.mem_of_getElem? (i := 810) (by decide +kernel), List.mem_of_getElem? (i := 970) (by decide +kernel), List.mem_of_getElem? (i := 971) (by decide +kernel)⟩
theorem lw_p33 : lw_okq (⟨"TypeKernelModel", "orFull", "(II)I"⟩, 40) := ⟨⟨by decide +kernel, by decide +kernel⟩, List.mem_of_getElem? (i := 810) (by decide +kernel), List.mem_of_getElem? (i := 974) (by decide +kernel), List.mem_of_getElem? (i := 975) (by decide +kernel)⟩
theorem lw_p34 : lw_okq (⟨"TypeKernelModel", "isName", "(I)Z"⟩, 40) := ⟨⟨by decide +kernel, by decide +kernel⟩, List.mem_of_getElem? (i := 810) (by decide +kernel), List.mem_of_getElem? (i := 986) (by decide +kernel), List.mem_of_getElem? (i := 987) (by decide +kernel)⟩
theorem lw_p35 : lw_okq (⟨"TypeKernelModel", "isTerm", "(I)Z"⟩, 40) := ⟨⟨by decide +kernel, by decide +kernel⟩, List.mem_of_getElem? (i := 810) (by decide +kernel), List.mem_of_getElem? (i := 994) (by decide +kernel), List.mem_of_getElem? (i := 995) (by decide +kernel)⟩
theorem lw_p36 : lw_okq (⟨"TypeKernelModel", "begin", "(I)V"⟩, 40) := ⟨⟨by decide +kernel, by decide +kernel⟩, List.mem_of_getElem? (i := 810) (by decide +kernel), List.mem_of_getElem? (i := 1006) (by decide +kernel), List.mem_of_getElem? (i := 1007) (by decide +kernel)⟩
theorem lw_p37 : lw_okq (⟨"TypeKernelModel", "layTerm", "(I[II)I"⟩, 40) := ⟨⟨by decide +kernel, by decide +kernel⟩, List.mem_of_getElem? (i := 810) (by decide +kernel), List.mem_of_getElem? (i := 1010) (by decide +kernel), List.mem_of_getElem? (i := 1011) (by decide +kernel)⟩
theorem lw_p38 : lw_okq (⟨"TypeKernelModel", "layLevel", "(I[II)I"⟩, 40) := ⟨⟨by decide +kernel, by decide +kernel⟩, List.mem_of_getElem? (i := 810) (by decide +kernel), List.mem_of_getElem? (i := 1014) (by decide +kernel), List.mem_of_getElem? (i := 1015) (by decide +kernel)⟩
theorem lw_p39 : lw_okq (⟨"TypeKernelModel", "typeOf", "(I)I"⟩, 40) := ⟨⟨by decide +kernel, by decide +kernel⟩, List.mem_of_getElem? (i := 810) (by decide +kernel), List.mem_of_getElem? (i := 1018) (by decide +kernel), List.mem_of_getElem? (i := 1019) (by decide +kernel)⟩
theorem lw_p40 : lw_okq (⟨"TypeKernelModel", "typeOfSingle", "(I)I"⟩, 40) := ⟨⟨by decide +kernel, by decide +kernel⟩, List.mem_of_getElem? (i := 810) (by decide +kernel), List.mem_of_getElem? (i := 1022) (by decide +kernel), List.mem_of_getElem? (i := 1023) (by decide +kernel)⟩
theorem lw_p41 : lw_okq (⟨"TypeKernelModel", "put", "(I)V"⟩, 40) := ⟨⟨by decide +kernel, by decide +kernel⟩, List.mem_of_getElem? (i := 810) (by decide +kernel), List.mem_of_getElem? (i := 1026) (by decide +kernel), List.mem_of_getElem? (i := 1027) (by decide +kernel)⟩
theorem lw_p42 : lw_okq (⟨"TypeKernelModel", "copy", "([III)V"⟩, 40) := ⟨⟨by decide +kernel, by decide +kernel⟩, List.mem_of_getElem? (i := 810) (by decide +kernel), List.mem_of_getElem? (i := 1033) (by decide +kernel), List.mem_of_getElem? (i := 1034) (by decide +kernel)⟩
theorem lw_p43 : lw_okq (⟨"TypeKernelModel", "lift", "([III)V"⟩, 40) := ⟨⟨by decide +kernel, by decide +kernel⟩, List.mem_of_getElem? (i := 810) (by decide +kernel), List.mem_of_getElem? (i := 1037) (by decide +kernel), List.mem_of_getElem? (i := 1038) (by decide +kernel)⟩
theorem lw_p44 : lw_okq (⟨"TypeKernelModel", "named", "(I[II)V"⟩, 40) := ⟨⟨by decide +kernel, by decide +kernel⟩, List.mem_of_getElem? (i := 810) (by decide +kernel), List.mem_of_getElem? (i := 1047) (by decide +kernel), List.mem_of_getElem? (i := 1048) (by decide +kernel)⟩
theorem lw_p45 : lw_okq (⟨"TypeKernelModel", "withLevels", "(II[II)V"⟩, 40) := ⟨⟨by decide +kernel, by decide +kernel⟩, List.mem_of_getElem? (i := 810) (by decide +kernel), List.mem_of_getElem? (i := 1051) (by decide +kernel), List.mem_of_getElem? (i := 1052) (by decide +kernel)⟩
theorem lw_p46 : lw_okq (⟨"TypeKernelModel", "settle", "(I)I"⟩, 40) := ⟨⟨by decide +kernel, by decide +kernel⟩, List.mem_of_getElem? (i := 810) (by decide +kernel), List.mem_of_getElem? (i := 1055) (by decide +kernel), List.mem_of_getElem? (i := 1056) (by decide +kernel)⟩
theorem lw_p47 : lw_okq (⟨"TypeKernelModel", "push", "([III)V"⟩, 40) := ⟨⟨by decide +kernel, by decide +kernel⟩, List.mem_of_getElem? (i := 810) (by decide +kernel), List.mem_of_getElem? (i := 1062) (by decide +kernel), List.mem_of_getElem? (i := 1063) (by decide +kernel)⟩
def lw_privs_3 : List (MethodName × Nat) := [(⟨"TypeKernelModel", "openOf", "(IIII)I"⟩, 40), (⟨"TypeKernelModel", "orFull", "(II)I"⟩, 40), (⟨"TypeKernelModel", "isName", "(I)Z"⟩, 40), (⟨"TypeKernelModel", "isTerm", "(I)Z"⟩, 40), (⟨"TypeKernelModel", "begin", "(I)V"⟩, 40), (⟨"TypeKernelModel", "layTerm", "(I[II)I"⟩, 40), (⟨"TypeKernelModel", "layLevel", "(I[II)I"⟩, 40), (⟨"TypeKernelModel", "typeOf", "(I)I"⟩, 40), (⟨"TypeKernelModel", "typeOfSingle", "(I)I"⟩, 40), (⟨"TypeKernelModel", "put", "(I)V"⟩, 40), (⟨"TypeKernelModel", "copy", "([III)V"⟩, 40), (⟨"TypeKernelModel", "lift", "([III)V"⟩, 40), (⟨"TypeKernelModel", "named", "(I[II)V"⟩, 40), (⟨"TypeKernelModel", "withLevels", "(II[II)V"⟩, 40), (⟨"TypeKernelModel", "settle", "(I)I"⟩, 40), (⟨"TypeKernelModel", "push", "([III)V"⟩, 40)]
theorem lw_r3 : ∀ q ∈ lw_privs_3, lw_okq q := List.forall_mem_cons.mpr ⟨lw_p32, List.forall_mem_cons.mpr ⟨lw_p33, List.forall_mem_cons.mpr ⟨lw_p34, List.forall_mem_cons.mpr ⟨lw_p35, List.forall_mem_cons.mpr ⟨lw_p36, List.forall_mem_cons.mpr ⟨lw_p37, List.forall_mem_cons.mpr ⟨lw_p38, List.forall_mem_cons.mpr ⟨lw_p39, List.forall_mem_cons.mpr ⟨lw_p40, List.forall_mem_cons.mpr ⟨lw_p41, List.forall_mem_cons.mpr ⟨lw_p42, List.forall_mem_cons.mpr ⟨lw_p43, List.forall_mem_cons.mpr ⟨lw_p44, List.forall_mem_cons.mpr ⟨lw_p45, List.forall_mem_cons.mpr ⟨lw_p46, List.forall_mem_cons.mpr ⟨lw_p47, fun _ h => absurd h List.not_mem_nil⟩⟩⟩⟩⟩⟩⟩⟩⟩⟩⟩⟩⟩⟩⟩⟩
theorem lw_p48 : lw_okq (⟨"TypeKernelModel", "typeOfPi", "(I)I"⟩, 40) := ⟨⟨by decide +kernel, by decide +kernel⟩, List.mem_of_getElem? (i := 810) (by decide +kernel), List.mem_of_getElem? (i := 1066) (by decide +kernel), List.mem_of_getElem? (i := 1067) (by decide +kernel)⟩
theorem lw_p49 : lw_okq (⟨"TypeKernelModel", "ofSort", "(I)I"⟩, 40) := ⟨⟨by decide +kernel, by decide +kernel⟩, List.mem_of_getElem? (i := 810) (by decide +kernel), List.mem_of_getElem? (i := 1070) (by decide +kernel), List.mem_of_getElem? (i := 1071) (by decide +kernel)⟩
theorem lw_p50 : lw_okq (⟨"TypeKernelModel", "normalAt", "(I)I"⟩, 40) := ⟨⟨by decide +kernel, by decide +kernel⟩, List.mem_of_getElem? (i := 810) (by decide +kernel), List.mem_of_getElem? (i := 1074) (by decide +kernel), List.mem_of_getElem? (i := 1075) (by decide +kernel)⟩
theorem lw_p51 : lw_okq (⟨"TypeKernelModel", "load", "([III)V"⟩, 40) := ⟨⟨by decide +kernel, by decide +kernel⟩, List.mem_of_getElem? (i := 810) (by decide +kernel), List.mem_of_getElem? (i := 1078) (by decide +kernel), List.mem_of_getElem? (i := 1079) (by decide +kernel)⟩
theorem lw_p52 : lw_okq (⟨"TypeKernelModel", "normalize", "()I"⟩, 40) := ⟨⟨by decide +kernel, by decide +kernel⟩, List.mem_of_getElem? (i := 810) (by decide +kernel), List.mem_of_getElem? (i := 1082) (by decide +kernel), List.mem_of_getElem? (i := 1083) (by decide +kernel)⟩
theorem lw_p53 : lw_okq (⟨"TypeKernelModel", "stepAt", "()I"⟩, 40) := ⟨⟨by decide +kernel, by decide +kernel⟩, List.mem_of_getElem? (i := 810) (by decide +kernel), List.mem_of_getElem? (i := 1086) (by decide +kernel), List.mem_of_getElem? (i := 1087) (by decide +kernel)⟩
theorem lw_p54 : lw_okq (⟨"TypeKernelModel", "with", "([II[II)V"⟩, 40) := ⟨⟨by decide +kernel, by decide +kernel⟩, List.mem_of_getElem? (i := 810) (by decide +kernel), List.mem_of_getElem? (i := 1093) (by decide +kernel), List.mem_of_getElem? (i := 1094) (by decide +kernel)⟩
theorem lw_p55 : lw_okq (⟨"TypeKernelModel", "take", "()V"⟩, 40) := ⟨⟨by decide +kernel, by decide +kernel⟩, List.mem_of_getElem? (i := 810) (by decide +kernel), List.mem_of_getElem? (i := 1097) (by decide +kernel), List.mem_of_getElem? (i := 1098) (by decide +kernel)⟩
theorem lw_p56 : lw_okq (⟨"TypeKernelModel", "shorten", "()V"⟩, 40) := ⟨⟨by decide +kernel, by decide +kernel⟩, List.mem_of_getElem? (i := 810) (by decide +kernel), List.mem_of_getElem? (i := 1101) (by decide +kernel), List.mem_of_getElem? (i := 1102) (by decide +kernel)⟩
theorem lw_p57 : lw_okq (⟨"TypeKernelModel", "has", "(I)Z"⟩, 40) := ⟨⟨by decide +kernel, by decide +kernel⟩, List.mem_of_getElem? (i := 810) (by decide +kernel), List.mem_of_getElem? (i := 1105) (by decide +kernel), List.mem_of_getElem? (i := 1106) (by decide +kernel)⟩
theorem lw_p58 : lw_okq (⟨"TypeKernelModel", "typeOfLambda", "(I)I"⟩, 40) := ⟨⟨by decide +kernel, by decide +kernel⟩, List.mem_of_getElem? (i := 810) (by decide +kernel), List.mem_of_getElem? (i := 1109) (by decide +kernel), List.mem_of_getElem? (i := 1110) (by decide +kernel)⟩
theorem lw_p59 : lw_okq (⟨"TypeKernelModel", "typeOfApply", "(I)I"⟩, 40) := ⟨⟨by decide +kernel, by decide +kernel⟩, List.mem_of_getElem? (i := 810) (by decide +kernel), List.mem_of_getElem? (i := 1113) (by decide +kernel), List.mem_of_getElem? (i := 1114) (by decide +kernel)⟩
theorem lw_p60 : lw_okq (⟨"TypeKernelModel", "isSame", "([II[II)Z"⟩, 40) := ⟨⟨by decide +kernel, by decide +kernel⟩, List.mem_of_getElem? (i := 810) (by decide +kernel), List.mem_of_getElem? (i := 1117) (by decide +kernel), List.mem_of_getElem? (i := 1118) (by decide +kernel)⟩
theorem lw_p61 : lw_okq (⟨"TypeKernelModel", "isSameLevel", "([II[II)Z"⟩, 40) := ⟨⟨by decide +kernel, by decide +kernel⟩, List.mem_of_getElem? (i := 810) (by decide +kernel), List.mem_of_getElem? (i := 1121) (by decide +kernel), List.mem_of_getElem? (i := 1122) (by decide +kernel)⟩
theorem lw_p62 : lw_okq (⟨"TypeKernelModel", "isAtMost", "([II[II)Z"⟩, 40) := ⟨⟨by decide +kernel, by decide +kernel⟩, List.mem_of_getElem? (i := 810) (by decide +kernel), List.mem_of_getElem? (i := 1125) (by decide +kernel), List.mem_of_getElem? (i := 1126) (by decide +kernel)⟩
theorem lw_p63 : lw_okq (⟨"TypeKernelModel", "valueOf", "([IIIII)I"⟩, 40) := ⟨⟨by decide +kernel, by decide +kernel⟩, List.mem_of_getElem? (i := 810) (by decide +kernel), List.mem_of_getElem? (i := 1129) (by decide +kernel), List.mem_of_getElem? (i := 1130) (by decide +kernel)⟩
def lw_privs_4 : List (MethodName × Nat) := [(⟨"TypeKernelModel", "typeOfPi", "(I)I"⟩, 40), (⟨"TypeKernelModel", "ofSort", "(I)I"⟩, 40), (⟨"TypeKernelModel", "normalAt", "(I)I"⟩, 40), (⟨"TypeKernelModel", "load", "([III)V"⟩, 40), (⟨"TypeKernelModel", "normalize", "()I"⟩, 40), (⟨"TypeKernelModel", "stepAt", "()I"⟩, 40), (⟨"TypeKernelModel", "with", "([II[II)V"⟩, 40), (⟨"TypeKernelModel", "take", "()V"⟩, 40), (⟨"TypeKernelModel", "shorten", "()V"⟩, 40), (⟨"TypeKernelModel", "has", "(I)Z"⟩, 40), (⟨"TypeKernelModel", "typeOfLambda", "(I)I"⟩, 40), (⟨"TypeKernelModel", "typeOfApply", "(I)I"⟩, 40), (⟨"TypeKernelModel", "isSame", "([II[II)Z"⟩, 40), (⟨"TypeKernelModel", "isSameLevel", "([II[II)Z"⟩, 40), (⟨"TypeKernelModel", "isAtMost", "([II[II)Z"⟩, 40), (⟨"TypeKernelModel", "valueOf", "([IIIII)I"⟩, 40)]
theorem lw_r4 : ∀ q ∈ lw_privs_4, lw_okq q := List.forall_mem_cons.mpr ⟨lw_p48, List.forall_mem_cons.mpr ⟨lw_p49, List.forall_mem_cons.mpr ⟨lw_p50, List.forall_mem_cons.mpr ⟨lw_p51, List.forall_mem_cons.mpr ⟨lw_p52, List.forall_mem_cons.mpr ⟨lw_p53, List.forall_mem_cons.mpr ⟨lw_p54, List.forall_mem_cons.mpr ⟨lw_p55, List.forall_mem_cons.mpr ⟨lw_p56, List.forall_mem_cons.mpr ⟨lw_p57, List.forall_mem_cons.mpr ⟨lw_p58, List.forall_mem_cons.mpr ⟨lw_p59, List.forall_mem_cons.mpr ⟨lw_p60, List.forall_mem_cons.mpr ⟨lw_p61, List.forall_mem_cons.mpr ⟨lw_p62, List.forall_mem_cons.mpr ⟨lw_p63, fun _ h => absurd h List.not_mem_nil⟩⟩⟩⟩⟩⟩⟩⟩⟩⟩⟩⟩⟩⟩⟩⟩
theorem lw_p64 : lw_okq (⟨"TypeKernelModel", "typeOfLet", "(I)I"⟩, 40) := ⟨⟨by decide +kernel, by decide +kernel⟩, List.mem_of_getElem? (i := 810) (by decide +kernel), List.mem_of_getElem? (i := 1133) (by decide +kernel), List.mem_of_getElem? (i := 1134) (by decide +kernel)⟩
theorem lw_p65 : lw_okq (⟨"TypeKernelModel", "answer", "([II)I"⟩, 40) := ⟨⟨by decide +kernel, by decide +kernel⟩, List.mem_of_getElem? (i := 810) (by decide +kernel), List.mem_of_getElem? (i := 1137) (by decide +kernel), List.mem_of_getElem? (i := 1138) (by decide +kernel)⟩
theorem lw_p66 : lw_okq (⟨"TypeKernelModel", "countTerm", "([II)I"⟩, 40) := ⟨⟨by decide +kernel, by decide +kernel⟩, List.mem_of_getElem? (i := 810) (by decide +kernel), List.mem_of_getElem? (i := 1141) (by decide +kernel), List.mem_of_getElem? (i := 1142) (by decide +kernel)⟩
theorem lw_p67 : lw_okq (⟨"TypeKernelModel", "countSingle", "([II)I"⟩, 40) := ⟨⟨by decide +kernel, by decide +kernel⟩, List.mem_of_getElem? (i := 810) (by decide +kernel), List.mem_of_getElem? (i := 1145) (by decide +kernel), List.mem_of_getElem? (i := 1146) (by decide +kernel)⟩
theorem lw_p68 : lw_okq (⟨"TypeKernelModel", "countLevel", "([II)I"⟩, 40) := ⟨⟨by decide +kernel, by decide +kernel⟩, List.mem_of_getElem? (i := 810) (by decide +kernel), List.mem_of_getElem? (i := 1149) (by decide +kernel), List.mem_of_getElem? (i := 1150) (by decide +kernel)⟩
theorem lw_p69 : lw_okq (⟨"TypeKernelModel", "reasonOf", "(III)I"⟩, 40) := ⟨⟨by decide +kernel, by decide +kernel⟩, List.mem_of_getElem? (i := 810) (by decide +kernel), List.mem_of_getElem? (i := 1169) (by decide +kernel), List.mem_of_getElem? (i := 1170) (by decide +kernel)⟩
def lw_privs_5 : List (MethodName × Nat) := [(⟨"TypeKernelModel", "typeOfLet", "(I)I"⟩, 40), (⟨"TypeKernelModel", "answer", "([II)I"⟩, 40), (⟨"TypeKernelModel", "countTerm", "([II)I"⟩, 40), (⟨"TypeKernelModel", "countSingle", "([II)I"⟩, 40), (⟨"TypeKernelModel", "countLevel", "([II)I"⟩, 40), (⟨"TypeKernelModel", "reasonOf", "(III)I"⟩, 40)]
theorem lw_r5 : ∀ q ∈ lw_privs_5, lw_okq q := List.forall_mem_cons.mpr ⟨lw_p64, List.forall_mem_cons.mpr ⟨lw_p65, List.forall_mem_cons.mpr ⟨lw_p66, List.forall_mem_cons.mpr ⟨lw_p67, List.forall_mem_cons.mpr ⟨lw_p68, List.forall_mem_cons.mpr ⟨lw_p69, fun _ h => absurd h List.not_mem_nil⟩⟩⟩⟩⟩⟩
def lw_privs : List (MethodName × Nat) := lw_privs_1 ++ (lw_privs_2 ++ (lw_privs_3 ++ (lw_privs_4 ++ (lw_privs_5))))
def lw_tbl : List Cond := k2_sels lw_privs ++ tables_1
theorem lw_privs_ok : ∀ q ∈ lw_privs, lw_okq q := by
  show ∀ q ∈ lw_privs_1 ++ (lw_privs_2 ++ (lw_privs_3 ++ (lw_privs_4 ++ (lw_privs_5)))), lw_okq q
  exact List.forall_mem_append.mpr ⟨lw_r1, List.forall_mem_append.mpr ⟨lw_r2, List.forall_mem_append.mpr ⟨lw_r3, List.forall_mem_append.mpr ⟨lw_r4, lw_r5⟩⟩⟩⟩
/-- where a static field lies, its class's statics cell in H -/
def vx_L (C n d : String) (A : Nat → Prop) (U : State) (H : Heap) : Prop := ∃ (c : ClassId) (k : Class) (i : Nat) (f : Field) (a : Nat) (cell : Cell), U.vm.findClass C = some c ∧ U.fieldFound? C n d = some (c, k, i, f) ∧ f.isStatic = true ∧ k.statics = some a ∧ H[a]? = some cell ∧ cell.vm.isStatics = true ∧ cell.cls = c ∧ f.slot < cell.slots.size ∧ k.staticTypes[f.slot]? = some f.type ∧ ¬ A a
theorem vx_L.moved {C n d : String} {A : Nat → Prop} {u U : State} {H : Heap} (hvm : u.vm.Alike U.vm) (h : vx_L C n d A u H) : vx_L C n d A U H := by
  obtain ⟨c, k, i, f, a, cell, h1, h2, h3, h4, h5, h6, h7, h8, h9, h10⟩ := h
  obtain ⟨k', hi', he⟩ := State.fieldFound?_setVm hvm h2
  exact ⟨c, k', i, f, a, cell, by rw [hvm.findClass]; exact h1, hi', h3, by rw [he]; exact h4, h5, h6, h7, h8, by rw [he]; exact h9, h10⟩
theorem vx_L.kept {C n d : String} {A : Nat → Prop} {U : State} {H H1 : Heap} (h : vx_L C n d A U H) (hq : ∀ a : Nat, a < H.size → ¬ A a → H1[a]? = H[a]?) : vx_L C n d A U H1 := by
  obtain ⟨c, k, i, f, a, cell, h1, h2, h3, h4, h5, h6, h7, h8, h9, h10⟩ := h
  exact ⟨c, k, i, f, a, cell, h1, h2, h3, h4, by rw [hq a (Array.getElem?_eq_some_iff.mp h5).1 h10]; exact h5, h6, h7, h8, h9, h10⟩
theorem vx_L.narrow {C n d : String} {A B : Nat → Prop} {U : State} {H : Heap} (h : vx_L C n d A U H) (hAB : ∀ q, B q → A q) : vx_L C n d B U H := by
  obtain ⟨c, k, i, f, a, cell, h1, h2, h3, h4, h5, h6, h7, h8, h9, h10⟩ := h
  exact ⟨c, k, i, f, a, cell, h1, h2, h3, h4, h5, h6, h7, h8, h9, fun z => h10 (hAB _ z)⟩
theorem vx_L.word {C n d : String} {A : Nat → Prop} {s : State} {args : Array Value} (h : vx_L C n d A s s.heap) : (Cond.laysStatic C n d).before args s = true := by
  obtain ⟨c, k, i, f, a, cell, h1, h2, h3, h4, h5, h6, h7, h8, h9, -⟩ := h
  show (Cond.laysStatic C n d).holds args s none s [] = true
  exact Cond.laysStatic_of h1 h2 h3 h4 h5 h6 h7 h8 h9
/-- .. and what it holds: null or some reference -/
def vx_Zq (C n d : String) (A : Nat → Prop) (U : State) (H : Heap) : Prop := va_Zq C n d A U H ∧ vx_L C n d A U H
theorem vx_Zq.moved {C n d : String} {A : Nat → Prop} {u U : State} {H : Heap} (hvm : u.vm.Alike U.vm) (h : vx_Zq C n d A u H) : vx_Zq C n d A U H := ⟨va_Zq.moved hvm h.1, vx_L.moved hvm h.2⟩
theorem vx_Zq.kept {C n d : String} {A : Nat → Prop} {U : State} {H H1 : Heap} (h : vx_Zq C n d A U H) (hq : ∀ a : Nat, a < H.size → ¬ A a → H1[a]? = H[a]?) : vx_Zq C n d A U H1 := ⟨va_Zq.kept h.1 hq, vx_L.kept h.2 hq⟩
theorem vx_Zq.narrow {C n d : String} {A B : Nat → Prop} {U : State} {H : Heap} (h : vx_Zq C n d A U H) (hAB : ∀ q, B q → A q) : vx_Zq C n d B U H := ⟨va_Zq.narrow h.1 hAB, vx_L.narrow h.2 hAB⟩
theorem vx_Zqof {args : Array Value} {s : State} {C n d : String} {A : Nat → Prop} (hl : (Cond.laysStatic C n d).before args s = true) (hini : (Cond.initialized C).before args s = true) (h : (Cond.isRef (.static C n d)).before args s = true) (hA : ∀ a : Nat, a < s.heap.size → ¬ A a) : vx_Zq C n d A s s.heap := by
  refine ⟨va_Zqof hl hini h hA, ?_⟩
  obtain ⟨c, k, i, f, a, cell, h1, h2, h3, h4, h5, h6, h7, h8, h9⟩ := Cond.laysStatic_spec hl
  exact ⟨c, k, i, f, a, cell, h1, h2, h3, h4, h5, h6, h7, h8, h9, hA a (Array.getElem?_eq_some_iff.mp h5).1⟩
def RX0 : String := "TypeKernel$Code"
def TX0 : u_T := fun k => match k with
  | _ => ("", "", "", false)
def tyX0 : Nat → FieldType := fun k => match k with
  | _ => .int
theorem nmX0 : ∀ a, a < 0 → ∀ b, b < 0 → a ≠ b → (TX0 a).2.1 ≠ (TX0 b).2.1 := by decide +kernel
theorem tyX0_ok : ∀ k, k < 0 → parseFieldDescriptor (TX0 k).2.2.1 = some (tyX0 k) := by decide +kernel
abbrev cX0_ofParameter : ByteArray := prog_2_method_2_code
def yX0_ofParameter : MethodName := ⟨RX0, "ofParameter", "(I)J"⟩
abbrev cX0_ofUp : ByteArray := prog_2_method_3_code
def yX0_ofUp : MethodName := ⟨RX0, "ofUp", "(J)J"⟩
abbrev cX0_ofTwo : ByteArray := prog_2_method_4_code
def yX0_ofTwo : MethodName := ⟨RX0, "ofTwo", "(IJJ)J"⟩
abbrev cX0_markAt : ByteArray := prog_2_method_5_code
def yX0_markAt : MethodName := ⟨RX0, "markAt", "(JI)I"⟩
abbrev cX0_sizeOf : ByteArray := prog_2_method_6_code
def yX0_sizeOf : MethodName := ⟨RX0, "sizeOf", "(J)I"⟩
abbrev cX0_kindOf : ByteArray := prog_2_method_7_code
def yX0_kindOf : MethodName := ⟨RX0, "kindOf", "(J)I"⟩
abbrev cX0_parameterOf : ByteArray := prog_2_method_8_code
def yX0_parameterOf : MethodName := ⟨RX0, "parameterOf", "(J)I"⟩
abbrev cX0_partsOf : ByteArray := prog_2_method_9_code
def yX0_partsOf : MethodName := ⟨RX0, "partsOf", "(I)I"⟩
abbrev cX0_firstPartSize : ByteArray := prog_2_method_10_code
def yX0_firstPartSize : MethodName := ⟨RX0, "firstPartSize", "(J)I"⟩
abbrev cX0_cut : ByteArray := prog_2_method_11_code
def yX0_cut : MethodName := ⟨RX0, "cut", "(JII)J"⟩
abbrev cX0_hasParameterFrom : ByteArray := prog_2_method_12_code
def yX0_hasParameterFrom : MethodName := ⟨RX0, "hasParameterFrom", "(JI)Z"⟩
abbrev cX0_withLevels : ByteArray := prog_2_method_13_code
def yX0_withLevels : MethodName := ⟨RX0, "withLevels", "(JJJ)J"⟩
def RX1 : String := "TypeKernel$Levels"
def TX1 : u_T := fun k => match k with
  | 0 => ("TypeKernel$Levels", "count", "I", false)
  | 1 => ("TypeKernel$Levels", "code", "[J", true)
  | 2 => ("TypeKernel$Levels", "one", "[I", true)
  | 3 => ("TypeKernel$Levels", "two", "[I", true)
  | _ => ("TypeKernel$Levels", "stack", "[I", true)
def tyX1 : Nat → FieldType := fun k => match k with
  | 0 => .int
  | 1 => .array .long
  | 2 => .array .int
  | 3 => .array .int
  | _ => .array .int
theorem nmX1 : ∀ a, a < 5 → ∀ b, b < 5 → a ≠ b → (TX1 a).2.1 ≠ (TX1 b).2.1 := by decide +kernel
theorem tyX1_ok : ∀ k, k < 5 → parseFieldDescriptor (TX1 k).2.2.1 = some (tyX1 k) := by decide +kernel
abbrev cX1_init : ByteArray := prog_3_method_1_code
def yX1_init : MethodName := ⟨RX1, "<init>", "()V"⟩
abbrev cX1_codeOf : ByteArray := prog_3_method_2_code
def yX1_codeOf : MethodName := ⟨RX1, "codeOf", "(I)J"⟩
abbrev cX1_find : ByteArray := prog_3_method_3_code
def yX1_find : MethodName := ⟨RX1, "find", "(J)I"⟩
abbrev cX1_keep : ByteArray := prog_3_method_4_code
def yX1_keep : MethodName := ⟨RX1, "keep", "(J)I"⟩
abbrev cX1_worth : ByteArray := prog_3_method_5_code
def yX1_worth : MethodName := ⟨RX1, "worth", "(JIII)I"⟩
abbrev cX1_isAtMost : ByteArray := prog_3_method_6_code
def yX1_isAtMost : MethodName := ⟨RX1, "isAtMost", "(JJ)Z"⟩
abbrev cX1_areSame : ByteArray := prog_3_method_7_code
def yX1_areSame : MethodName := ⟨RX1, "areSame", "(JJ)Z"⟩
def RX2 : String := "TypeKernel$Names"
def TX2 : u_T := fun k => match k with
  | 0 => ("TypeKernel$Names", "count", "I", false)
  | 1 => ("TypeKernel$Names", "parameters", "[I", true)
  | 2 => ("TypeKernel$Names", "typeTerm", "[I", true)
  | _ => ("TypeKernel$Names", "valueTerm", "[I", true)
def tyX2 : Nat → FieldType := fun k => match k with
  | 0 => .int
  | 1 => .array .int
  | 2 => .array .int
  | _ => .array .int
theorem nmX2 : ∀ a, a < 4 → ∀ b, b < 4 → a ≠ b → (TX2 a).2.1 ≠ (TX2 b).2.1 := by decide +kernel
theorem tyX2_ok : ∀ k, k < 4 → parseFieldDescriptor (TX2 k).2.2.1 = some (tyX2 k) := by decide +kernel
abbrev cX2_init : ByteArray := prog_4_method_1_code
def yX2_init : MethodName := ⟨RX2, "<init>", "()V"⟩
abbrev cX2_add : ByteArray := prog_4_method_2_code
def yX2_add : MethodName := ⟨RX2, "add", "(III)I"⟩
abbrev cX2_typeOf : ByteArray := prog_4_method_3_code
def yX2_typeOf : MethodName := ⟨RX2, "typeOf", "(I)I"⟩
abbrev cX2_valueOf : ByteArray := prog_4_method_4_code
def yX2_valueOf : MethodName := ⟨RX2, "valueOf", "(I)I"⟩
def RX3 : String := "TypeKernel$Reducer"
def TX3 : u_T := fun k => match k with
  | 0 => ("TypeKernel$Reducer", "terms", "LTypeKernel$Terms;", true)
  | 1 => ("TypeKernel$Reducer", "names", "LTypeKernel$Names;", true)
  | 2 => ("TypeKernel$Reducer", "body", "LTypeKernel$Row;", true)
  | 3 => ("TypeKernel$Reducer", "argument", "LTypeKernel$Row;", true)
  | _ => ("TypeKernel$Reducer", "made", "LTypeKernel$Row;", true)
def tyX3 : Nat → FieldType := fun k => match k with
  | 0 => .object "TypeKernel$Terms"
  | 1 => .object "TypeKernel$Names"
  | 2 => .object "TypeKernel$Row"
  | 3 => .object "TypeKernel$Row"
  | _ => .object "TypeKernel$Row"
theorem nmX3 : ∀ a, a < 5 → ∀ b, b < 5 → a ≠ b → (TX3 a).2.1 ≠ (TX3 b).2.1 := by decide +kernel
theorem tyX3_ok : ∀ k, k < 5 → parseFieldDescriptor (TX3 k).2.2.1 = some (tyX3 k) := by decide +kernel
abbrev cX3_init : ByteArray := prog_5_method_1_code
def yX3_init : MethodName := ⟨RX3, "<init>", "(LTypeKernel$Terms;LTypeKernel$Names;)V"⟩
abbrev cX3_reduce : ByteArray := prog_5_method_2_code
def yX3_reduce : MethodName := ⟨RX3, "reduce", "(LTypeKernel$Row;)I"⟩
abbrev cX3_nextStep : ByteArray := prog_5_method_3_code
def yX3_nextStep : MethodName := ⟨RX3, "nextStep", "(LTypeKernel$Row;)I"⟩
abbrev cX3_takeStep : ByteArray := prog_5_method_4_code
def yX3_takeStep : MethodName := ⟨RX3, "takeStep", "(LTypeKernel$Row;I)Z"⟩
abbrev cX3_shrink : ByteArray := prog_5_method_5_code
def yX3_shrink : MethodName := ⟨RX3, "shrink", "(LTypeKernel$Row;I)V"⟩
def RX4 : String := "TypeKernel$Row"
def TX4 : u_T := fun k => match k with
  | 0 => ("TypeKernel$Row", "size", "I", false)
  | 1 => ("TypeKernel$Row", "kind", "[I", true)
  | 2 => ("TypeKernel$Row", "index", "[I", true)
  | 3 => ("TypeKernel$Row", "depth", "[I", true)
  | 4 => ("TypeKernel$Row", "first", "[J", true)
  | _ => ("TypeKernel$Row", "second", "[J", true)
def tyX4 : Nat → FieldType := fun k => match k with
  | 0 => .int
  | 1 => .array .int
  | 2 => .array .int
  | 3 => .array .int
  | 4 => .array .long
  | _ => .array .long
theorem nmX4 : ∀ a, a < 6 → ∀ b, b < 6 → a ≠ b → (TX4 a).2.1 ≠ (TX4 b).2.1 := by decide +kernel
theorem tyX4_ok : ∀ k, k < 6 → parseFieldDescriptor (TX4 k).2.2.1 = some (tyX4 k) := by decide +kernel
abbrev cX4_init : ByteArray := prog_6_method_1_code
def yX4_init : MethodName := ⟨RX4, "<init>", "()V"⟩
abbrev cX4_partsOf : ByteArray := prog_6_method_2_code
def yX4_partsOf : MethodName := ⟨RX4, "partsOf", "(I)I"⟩
abbrev cX4_kindAt : ByteArray := prog_6_method_3_code
def yX4_kindAt : MethodName := ⟨RX4, "kindAt", "(I)I"⟩
abbrev cX4_add : ByteArray := prog_6_method_4_code
def yX4_add : MethodName := ⟨RX4, "add", "(IIIJJ)V"⟩
abbrev cX4_beSort : ByteArray := prog_6_method_5_code
def yX4_beSort : MethodName := ⟨RX4, "beSort", "(J)V"⟩
abbrev cX4_endOf : ByteArray := prog_6_method_6_code
def yX4_endOf : MethodName := ⟨RX4, "endOf", "(I)I"⟩
abbrev cX4_copyMark : ByteArray := prog_6_method_7_code
def yX4_copyMark : MethodName := ⟨RX4, "copyMark", "(LTypeKernel$Row;III)V"⟩
abbrev cX4_append : ByteArray := prog_6_method_8_code
def yX4_append : MethodName := ⟨RX4, "append", "(LTypeKernel$Row;I)V"⟩
abbrev cX4_takePart : ByteArray := prog_6_method_9_code
def yX4_takePart : MethodName := ⟨RX4, "takePart", "(LTypeKernel$Row;II)V"⟩
abbrev cX4_countNextOuter : ByteArray := prog_6_method_10_code
def yX4_countNextOuter : MethodName := ⟨RX4, "countNextOuter", "()I"⟩
abbrev cX4_raise : ByteArray := prog_6_method_11_code
def yX4_raise : MethodName := ⟨RX4, "raise", "(I)V"⟩
abbrev cX4_fillWith : ByteArray := prog_6_method_12_code
def yX4_fillWith : MethodName := ⟨RX4, "fillWith", "(LTypeKernel$Row;LTypeKernel$Row;)Z"⟩
abbrev cX4_replace : ByteArray := prog_6_method_13_code
def yX4_replace : MethodName := ⟨RX4, "replace", "(IILTypeKernel$Row;)Z"⟩
abbrev cX4_moveTail : ByteArray := prog_6_method_14_code
def yX4_moveTail : MethodName := ⟨RX4, "moveTail", "(II)V"⟩
abbrev cX4_giveLevels : ByteArray := prog_6_method_15_code
def yX4_giveLevels : MethodName := ⟨RX4, "giveLevels", "(JJ)Z"⟩
abbrev cX4_hasParameterFrom : ByteArray := prog_6_method_16_code
def yX4_hasParameterFrom : MethodName := ⟨RX4, "hasParameterFrom", "(I)Z"⟩
abbrev cX4_matches : ByteArray := prog_6_method_17_code
def yX4_matches : MethodName := ⟨RX4, "matches", "(IILTypeKernel$Row;LTypeKernel$Levels;)Z"⟩
def RX5 : String := "TypeKernel$Terms"
def TX5 : u_T := fun k => match k with
  | 0 => ("TypeKernel$Terms", "count", "I", false)
  | 1 => ("TypeKernel$Terms", "kind", "[I", true)
  | 2 => ("TypeKernel$Terms", "one", "[I", true)
  | 3 => ("TypeKernel$Terms", "two", "[I", true)
  | 4 => ("TypeKernel$Terms", "three", "[I", true)
  | 5 => ("TypeKernel$Terms", "size", "[I", true)
  | 6 => ("TypeKernel$Terms", "open", "[I", true)
  | 7 => ("TypeKernel$Terms", "levels", "LTypeKernel$Levels;", true)
  | 8 => ("TypeKernel$Terms", "waiting", "[I", true)
  | 9 => ("TypeKernel$Terms", "waitingDepth", "[I", true)
  | 10 => ("TypeKernel$Terms", "waits", "I", false)
  | _ => ("TypeKernel$Terms", "reading", "I", false)
def tyX5 : Nat → FieldType := fun k => match k with
  | 0 => .int
  | 1 => .array .int
  | 2 => .array .int
  | 3 => .array .int
  | 4 => .array .int
  | 5 => .array .int
  | 6 => .array .int
  | 7 => .object "TypeKernel$Levels"
  | 8 => .array .int
  | 9 => .array .int
  | 10 => .int
  | _ => .int
theorem nmX5 : ∀ a, a < 12 → ∀ b, b < 12 → a ≠ b → (TX5 a).2.1 ≠ (TX5 b).2.1 := by decide +kernel
theorem tyX5_ok : ∀ k, k < 12 → parseFieldDescriptor (TX5 k).2.2.1 = some (tyX5 k) := by decide +kernel
abbrev cX5_init : ByteArray := prog_7_method_1_code
def yX5_init : MethodName := ⟨RX5, "<init>", "(LTypeKernel$Levels;)V"⟩
abbrev cX5_has : ByteArray := prog_7_method_2_code
def yX5_has : MethodName := ⟨RX5, "has", "(I)Z"⟩
abbrev cX5_sizeOf : ByteArray := prog_7_method_3_code
def yX5_sizeOf : MethodName := ⟨RX5, "sizeOf", "(I)I"⟩
abbrev cX5_openOf : ByteArray := prog_7_method_4_code
def yX5_openOf : MethodName := ⟨RX5, "openOf", "(I)I"⟩
abbrev cX5_sizeFor : ByteArray := prog_7_method_5_code
def yX5_sizeFor : MethodName := ⟨RX5, "sizeFor", "(IIII)I"⟩
abbrev cX5_openFor : ByteArray := prog_7_method_6_code
def yX5_openFor : MethodName := ⟨RX5, "openFor", "(IIII)I"⟩
abbrev cX5_find : ByteArray := prog_7_method_7_code
def yX5_find : MethodName := ⟨RX5, "find", "(IIII)I"⟩
abbrev cX5_keep : ByteArray := prog_7_method_8_code
def yX5_keep : MethodName := ⟨RX5, "keep", "(IIII)I"⟩
abbrev cX5_keepNext : ByteArray := prog_7_method_9_code
def yX5_keepNext : MethodName := ⟨RX5, "keepNext", "(LTypeKernel$Row;I)I"⟩
abbrev cX5_keepLeaf : ByteArray := prog_7_method_10_code
def yX5_keepLeaf : MethodName := ⟨RX5, "keepLeaf", "(LTypeKernel$Row;I)I"⟩
abbrev cX5_spread : ByteArray := prog_7_method_11_code
def yX5_spread : MethodName := ⟨RX5, "spread", "(ILTypeKernel$Row;)V"⟩
abbrev cX5_await : ByteArray := prog_7_method_12_code
def yX5_await : MethodName := ⟨RX5, "await", "(II)V"⟩
def RX6 : String := "TypeKernel$Typer"
def TX6 : u_T := fun k => match k with
  | 0 => ("TypeKernel$Typer", "levels", "LTypeKernel$Levels;", true)
  | 1 => ("TypeKernel$Typer", "terms", "LTypeKernel$Terms;", true)
  | 2 => ("TypeKernel$Typer", "names", "LTypeKernel$Names;", true)
  | 3 => ("TypeKernel$Typer", "reducer", "LTypeKernel$Reducer;", true)
  | 4 => ("TypeKernel$Typer", "found", "LTypeKernel$Row;", true)
  | 5 => ("TypeKernel$Typer", "rows", "[LTypeKernel$Row;", true)
  | 6 => ("TypeKernel$Typer", "binderType", "[I", true)
  | _ => ("TypeKernel$Typer", "written", "LTypeKernel$Row;", true)
def tyX6 : Nat → FieldType := fun k => match k with
  | 0 => .object "TypeKernel$Levels"
  | 1 => .object "TypeKernel$Terms"
  | 2 => .object "TypeKernel$Names"
  | 3 => .object "TypeKernel$Reducer"
  | 4 => .object "TypeKernel$Row"
  | 5 => .array (.object "TypeKernel$Row")
  | 6 => .array .int
  | _ => .object "TypeKernel$Row"
theorem nmX6 : ∀ a, a < 8 → ∀ b, b < 8 → a ≠ b → (TX6 a).2.1 ≠ (TX6 b).2.1 := by decide +kernel
theorem tyX6_ok : ∀ k, k < 8 → parseFieldDescriptor (TX6 k).2.2.1 = some (tyX6 k) := by decide +kernel
abbrev cX6_init : ByteArray := prog_8_method_1_code
def yX6_init : MethodName := ⟨RX6, "<init>", "(LTypeKernel$Levels;LTypeKernel$Terms;LTypeKernel$Names;LTypeKernel$Reducer;)V"⟩
abbrev cX6_needSort : ByteArray := prog_8_method_2_code
def yX6_needSort : MethodName := ⟨RX6, "needSort", "(ILTypeKernel$Row;)I"⟩
abbrev cX6_find : ByteArray := prog_8_method_3_code
def yX6_find : MethodName := ⟨RX6, "find", "(III)I"⟩
abbrev cX6_putSort : ByteArray := prog_8_method_4_code
def yX6_putSort : MethodName := ⟨RX6, "putSort", "(JLTypeKernel$Row;)I"⟩
abbrev cX6_putBinderType : ByteArray := prog_8_method_5_code
def yX6_putBinderType : MethodName := ⟨RX6, "putBinderType", "(IILTypeKernel$Row;)I"⟩
abbrev cX6_putNameType : ByteArray := prog_8_method_6_code
def yX6_putNameType : MethodName := ⟨RX6, "putNameType", "(ILTypeKernel$Row;)I"⟩
abbrev cX6_findOfPi : ByteArray := prog_8_method_7_code
def yX6_findOfPi : MethodName := ⟨RX6, "findOfPi", "(III)I"⟩
abbrev cX6_findOfLambda : ByteArray := prog_8_method_8_code
def yX6_findOfLambda : MethodName := ⟨RX6, "findOfLambda", "(III)I"⟩
abbrev cX6_findOfApply : ByteArray := prog_8_method_9_code
def yX6_findOfApply : MethodName := ⟨RX6, "findOfApply", "(III)I"⟩
abbrev cX6_findOfLet : ByteArray := prog_8_method_10_code
def yX6_findOfLet : MethodName := ⟨RX6, "findOfLet", "(III)I"⟩
def RX7 : String := "TypeKernel"
def TX7 : u_T := fun k => match k with
  | 0 => ("TypeKernel", "levels", "LTypeKernel$Levels;", true)
  | 1 => ("TypeKernel", "terms", "LTypeKernel$Terms;", true)
  | 2 => ("TypeKernel", "names", "LTypeKernel$Names;", true)
  | 3 => ("TypeKernel", "reducer", "LTypeKernel$Reducer;", true)
  | 4 => ("TypeKernel", "typer", "LTypeKernel$Typer;", true)
  | 5 => ("TypeKernel", "here", "LTypeKernel$Row;", true)
  | _ => ("TypeKernel", "there", "LTypeKernel$Row;", true)
def tyX7 : Nat → FieldType := fun k => match k with
  | 0 => .object "TypeKernel$Levels"
  | 1 => .object "TypeKernel$Terms"
  | 2 => .object "TypeKernel$Names"
  | 3 => .object "TypeKernel$Reducer"
  | 4 => .object "TypeKernel$Typer"
  | 5 => .object "TypeKernel$Row"
  | _ => .object "TypeKernel$Row"
theorem nmX7 : ∀ a, a < 7 → ∀ b, b < 7 → a ≠ b → (TX7 a).2.1 ≠ (TX7 b).2.1 := by decide +kernel
theorem tyX7_ok : ∀ k, k < 7 → parseFieldDescriptor (TX7 k).2.2.1 = some (tyX7 k) := by decide +kernel
abbrev cX7_init : ByteArray := prog_1_method_1_code
def yX7_init : MethodName := ⟨RX7, "<init>", "()V"⟩
abbrev cX7_level : ByteArray := prog_1_method_2_code
def yX7_level : MethodName := ⟨RX7, "level", "(III)I"⟩
abbrev cX7_atMost : ByteArray := prog_1_method_3_code
def yX7_atMost : MethodName := ⟨RX7, "atMost", "(II)Z"⟩
abbrev cX7_value : ByteArray := prog_1_method_4_code
def yX7_value : MethodName := ⟨RX7, "value", "(IIII)I"⟩
abbrev cX7_sort : ByteArray := prog_1_method_5_code
def yX7_sort : MethodName := ⟨RX7, "sort", "(I)I"⟩
abbrev cX7_variable : ByteArray := prog_1_method_6_code
def yX7_variable : MethodName := ⟨RX7, "variable", "(I)I"⟩
abbrev cX7_name : ByteArray := prog_1_method_7_code
def yX7_name : MethodName := ⟨RX7, "name", "(III)I"⟩
abbrev cX7_term : ByteArray := prog_1_method_8_code
def yX7_term : MethodName := ⟨RX7, "term", "(III)I"⟩
abbrev cX7_let : ByteArray := prog_1_method_9_code
def yX7_let : MethodName := ⟨RX7, "let", "(III)I"⟩
abbrev cX7_type : ByteArray := prog_1_method_10_code
def yX7_type : MethodName := ⟨RX7, "type", "(I)I"⟩
abbrev cX7_normal : ByteArray := prog_1_method_11_code
def yX7_normal : MethodName := ⟨RX7, "normal", "(I)I"⟩
abbrev cX7_steps : ByteArray := prog_1_method_12_code
def yX7_steps : MethodName := ⟨RX7, "steps", "(I)I"⟩
abbrev cX7_same : ByteArray := prog_1_method_13_code
def yX7_same : MethodName := ⟨RX7, "same", "(II)I"⟩
abbrev cX7_declare : ByteArray := prog_1_method_14_code
def yX7_declare : MethodName := ⟨RX7, "declare", "(III)I"⟩
abbrev cX7_part : ByteArray := prog_1_method_15_code
def yX7_part : MethodName := ⟨RX7, "part", "(II)I"⟩
abbrev cX7_levelPart : ByteArray := prog_1_method_16_code
def yX7_levelPart : MethodName := ⟨RX7, "levelPart", "(II)I"⟩
abbrev cX7_declared : ByteArray := prog_1_method_17_code
def yX7_declared : MethodName := ⟨RX7, "declared", "(II)I"⟩
abbrev cX7_told : ByteArray := prog_1_method_18_code
def yX7_told : MethodName := ⟨RX7, "told", "(I)I"⟩
abbrev cX7_clear : ByteArray := prog_1_method_19_code
def yX7_clear : MethodName := ⟨RX7, "clear", "()V"⟩
abbrev cX7_needLevel : ByteArray := prog_1_method_20_code
def yX7_needLevel : MethodName := ⟨RX7, "needLevel", "(I)V"⟩
abbrev cX7_needTerm : ByteArray := prog_1_method_21_code
def yX7_needTerm : MethodName := ⟨RX7, "needTerm", "(I)V"⟩
abbrev cX7_needName : ByteArray := prog_1_method_22_code
def yX7_needName : MethodName := ⟨RX7, "needName", "(I)V"⟩
abbrev cX7_needParameterValue : ByteArray := prog_1_method_23_code
def yX7_needParameterValue : MethodName := ⟨RX7, "needParameterValue", "(I)V"⟩
abbrev cX7_askedLevel : ByteArray := prog_1_method_24_code
def yX7_askedLevel : MethodName := ⟨RX7, "askedLevel", "(J)I"⟩
abbrev cX7_askedTerm : ByteArray := prog_1_method_25_code
def yX7_askedTerm : MethodName := ⟨RX7, "askedTerm", "(IIII)I"⟩
abbrev cX7_numbered : ByteArray := prog_1_method_26_code
def yX7_numbered : MethodName := ⟨RX7, "numbered", "(LTypeKernel$Row;)I"⟩
abbrev cX7_reasonAgainst : ByteArray := prog_1_method_27_code
def yX7_reasonAgainst : MethodName := ⟨RX7, "reasonAgainst", "(III)I"⟩
abbrev cX7_hasStrangeParameter : ByteArray := prog_1_method_28_code
def yX7_hasStrangeParameter : MethodName := ⟨RX7, "hasStrangeParameter", "(II)Z"⟩
def RX8 : String := "TypeKernelModel"
def TX8 : u_T := fun k => match k with
  | 0 => ("TypeKernelModel", "code", "I", false)
  | 1 => ("TypeKernelModel", "levelKind", "[I", true)
  | 2 => ("TypeKernelModel", "levelA", "[I", true)
  | 3 => ("TypeKernelModel", "levelB", "[I", true)
  | 4 => ("TypeKernelModel", "levelSize", "[I", true)
  | 5 => ("TypeKernelModel", "levels", "I", false)
  | 6 => ("TypeKernelModel", "termKind", "[I", true)
  | 7 => ("TypeKernelModel", "partA", "[I", true)
  | 8 => ("TypeKernelModel", "partB", "[I", true)
  | 9 => ("TypeKernelModel", "partC", "[I", true)
  | 10 => ("TypeKernelModel", "termSize", "[I", true)
  | 11 => ("TypeKernelModel", "termOpen", "[I", true)
  | 12 => ("TypeKernelModel", "terms", "I", false)
  | 13 => ("TypeKernelModel", "nameParameters", "[I", true)
  | 14 => ("TypeKernelModel", "nameType", "[I", true)
  | 15 => ("TypeKernelModel", "nameValue", "[I", true)
  | 16 => ("TypeKernelModel", "names", "I", false)
  | 17 => ("TypeKernelModel", "term", "[I", true)
  | 18 => ("TypeKernelModel", "now", "[I", true)
  | 19 => ("TypeKernelModel", "next", "[I", true)
  | 20 => ("TypeKernelModel", "told", "[I", true)
  | 21 => ("TypeKernelModel", "pool", "[I", true)
  | 22 => ("TypeKernelModel", "nowSize", "I", false)
  | 23 => ("TypeKernelModel", "nextSize", "I", false)
  | 24 => ("TypeKernelModel", "toldSize", "I", false)
  | 25 => ("TypeKernelModel", "top", "I", false)
  | 26 => ("TypeKernelModel", "stack", "[I", true)
  | 27 => ("TypeKernelModel", "deeper", "[I", true)
  | 28 => ("TypeKernelModel", "work", "[I", true)
  | 29 => ("TypeKernelModel", "isAsked", "Z", false)
  | 30 => ("TypeKernelModel", "wide", "Z", false)
  | 31 => ("TypeKernelModel", "places", "[I", true)
  | 32 => ("TypeKernelModel", "binders", "[I", true)
  | 33 => ("TypeKernelModel", "binderCount", "I", false)
  | 34 => ("TypeKernelModel", "openKind", "[I", true)
  | 35 => ("TypeKernelModel", "openHas", "[I", true)
  | 36 => ("TypeKernelModel", "openParts", "[I", true)
  | 37 => ("TypeKernelModel", "readEnd", "I", false)
  | 38 => ("TypeKernelModel", "levelOpen", "[I", true)
  | _ => ("TypeKernelModel", "levelFirst", "[I", true)
def tyX8 : Nat → FieldType := fun k => match k with
  | 0 => .int
  | 1 => .array .int
  | 2 => .array .int
  | 3 => .array .int
  | 4 => .array .int
  | 5 => .int
  | 6 => .array .int
  | 7 => .array .int
  | 8 => .array .int
  | 9 => .array .int
  | 10 => .array .int
  | 11 => .array .int
  | 12 => .int
  | 13 => .array .int
  | 14 => .array .int
  | 15 => .array .int
  | 16 => .int
  | 17 => .array .int
  | 18 => .array .int
  | 19 => .array .int
  | 20 => .array .int
  | 21 => .array .int
  | 22 => .int
  | 23 => .int
  | 24 => .int
  | 25 => .int
  | 26 => .array .int
  | 27 => .array .int
  | 28 => .array .int
  | 29 => .boolean
  | 30 => .boolean
  | 31 => .array .int
  | 32 => .array .int
  | 33 => .int
  | 34 => .array .int
  | 35 => .array .int
  | 36 => .array .int
  | 37 => .int
  | 38 => .array .int
  | _ => .array .int
theorem nmX8 : ∀ a, a < 40 → ∀ b, b < 40 → a ≠ b → (TX8 a).2.1 ≠ (TX8 b).2.1 := by decide +kernel
theorem tyX8_ok : ∀ k, k < 40 → parseFieldDescriptor (TX8 k).2.2.1 = some (tyX8 k) := by decide +kernel
abbrev cX8_init : ByteArray := prog_10_method_1_code
def yX8_init : MethodName := ⟨RX8, "<init>", "()V"⟩
abbrev cX8_thrown : ByteArray := prog_10_method_2_code
def yX8_thrown : MethodName := ⟨RX8, "thrown", "()I"⟩
abbrev cX8_clear : ByteArray := prog_10_method_3_code
def yX8_clear : MethodName := ⟨RX8, "clear", "()V"⟩
abbrev cX8_isIn : ByteArray := prog_10_method_4_code
def yX8_isIn : MethodName := ⟨RX8, "isIn", "(III)Z"⟩
abbrev cX8_isLevel : ByteArray := prog_10_method_5_code
def yX8_isLevel : MethodName := ⟨RX8, "isLevel", "(I)Z"⟩
abbrev cX8_isTerm : ByteArray := prog_10_method_6_code
def yX8_isTerm : MethodName := ⟨RX8, "isTerm", "(I)Z"⟩
abbrev cX8_isName : ByteArray := prog_10_method_7_code
def yX8_isName : MethodName := ⟨RX8, "isName", "(I)Z"⟩
abbrev cX8_numberOfLevel : ByteArray := prog_10_method_8_code
def yX8_numberOfLevel : MethodName := ⟨RX8, "numberOfLevel", "(III)I"⟩
abbrev cX8_numberOfTerm : ByteArray := prog_10_method_9_code
def yX8_numberOfTerm : MethodName := ⟨RX8, "numberOfTerm", "(IIII)I"⟩
abbrev cX8_openOf : ByteArray := prog_10_method_10_code
def yX8_openOf : MethodName := ⟨RX8, "openOf", "(IIII)I"⟩
abbrev cX8_level : ByteArray := prog_10_method_11_code
def yX8_level : MethodName := ⟨RX8, "level", "(III)I"⟩
abbrev cX8_orFull : ByteArray := prog_10_method_12_code
def yX8_orFull : MethodName := ⟨RX8, "orFull", "(II)I"⟩
abbrev cX8_sort : ByteArray := prog_10_method_13_code
def yX8_sort : MethodName := ⟨RX8, "sort", "(I)I"⟩
abbrev cX8_variable : ByteArray := prog_10_method_14_code
def yX8_variable : MethodName := ⟨RX8, "variable", "(I)I"⟩
abbrev cX8_name : ByteArray := prog_10_method_15_code
def yX8_name : MethodName := ⟨RX8, "name", "(III)I"⟩
abbrev cX8_term : ByteArray := prog_10_method_16_code
def yX8_term : MethodName := ⟨RX8, "term", "(III)I"⟩
abbrev cX8_let : ByteArray := prog_10_method_17_code
def yX8_let : MethodName := ⟨RX8, "let", "(III)I"⟩
abbrev cX8_behindLevel : ByteArray := prog_10_method_18_code
def yX8_behindLevel : MethodName := ⟨RX8, "behindLevel", "([II)I"⟩
abbrev cX8_behindToken : ByteArray := prog_10_method_19_code
def yX8_behindToken : MethodName := ⟨RX8, "behindToken", "([II)I"⟩
abbrev cX8_partsOf : ByteArray := prog_10_method_20_code
def yX8_partsOf : MethodName := ⟨RX8, "partsOf", "(I)I"⟩
abbrev cX8_behindTerm : ByteArray := prog_10_method_21_code
def yX8_behindTerm : MethodName := ⟨RX8, "behindTerm", "([II)I"⟩
abbrev cX8_fits : ByteArray := prog_10_method_22_code
def yX8_fits : MethodName := ⟨RX8, "fits", "([III)Z"⟩
abbrev cX8_layLevel : ByteArray := prog_10_method_23_code
def yX8_layLevel : MethodName := ⟨RX8, "layLevel", "(I[II)I"⟩
abbrev cX8_layTerm : ByteArray := prog_10_method_24_code
def yX8_layTerm : MethodName := ⟨RX8, "layTerm", "(I[II)I"⟩
abbrev cX8_put : ByteArray := prog_10_method_25_code
def yX8_put : MethodName := ⟨RX8, "put", "(I)V"⟩
abbrev cX8_copy : ByteArray := prog_10_method_26_code
def yX8_copy : MethodName := ⟨RX8, "copy", "([III)V"⟩
abbrev cX8_lift : ByteArray := prog_10_method_27_code
def yX8_lift : MethodName := ⟨RX8, "lift", "([III)V"⟩
abbrev cX8_with : ByteArray := prog_10_method_28_code
def yX8_with : MethodName := ⟨RX8, "with", "([II[II)V"⟩
abbrev cX8_withLevels : ByteArray := prog_10_method_29_code
def yX8_withLevels : MethodName := ⟨RX8, "withLevels", "(II[II)V"⟩
abbrev cX8_named : ByteArray := prog_10_method_30_code
def yX8_named : MethodName := ⟨RX8, "named", "(I[II)V"⟩
abbrev cX8_stepAt : ByteArray := prog_10_method_31_code
def yX8_stepAt : MethodName := ⟨RX8, "stepAt", "()I"⟩
abbrev cX8_take : ByteArray := prog_10_method_32_code
def yX8_take : MethodName := ⟨RX8, "take", "()V"⟩
abbrev cX8_normalize : ByteArray := prog_10_method_33_code
def yX8_normalize : MethodName := ⟨RX8, "normalize", "()I"⟩
abbrev cX8_shorten : ByteArray := prog_10_method_34_code
def yX8_shorten : MethodName := ⟨RX8, "shorten", "()V"⟩
abbrev cX8_has : ByteArray := prog_10_method_35_code
def yX8_has : MethodName := ⟨RX8, "has", "(I)Z"⟩
abbrev cX8_load : ByteArray := prog_10_method_36_code
def yX8_load : MethodName := ⟨RX8, "load", "([III)V"⟩
abbrev cX8_valueOf : ByteArray := prog_10_method_37_code
def yX8_valueOf : MethodName := ⟨RX8, "valueOf", "([IIIII)I"⟩
abbrev cX8_isAtMost : ByteArray := prog_10_method_38_code
def yX8_isAtMost : MethodName := ⟨RX8, "isAtMost", "([II[II)Z"⟩
abbrev cX8_isSameLevel : ByteArray := prog_10_method_39_code
def yX8_isSameLevel : MethodName := ⟨RX8, "isSameLevel", "([II[II)Z"⟩
abbrev cX8_isSame : ByteArray := prog_10_method_40_code
def yX8_isSame : MethodName := ⟨RX8, "isSame", "([II[II)Z"⟩
abbrev cX8_push : ByteArray := prog_10_method_41_code
def yX8_push : MethodName := ⟨RX8, "push", "([III)V"⟩
abbrev cX8_settle : ByteArray := prog_10_method_42_code
def yX8_settle : MethodName := ⟨RX8, "settle", "(I)I"⟩
abbrev cX8_normalAt : ByteArray := prog_10_method_43_code
def yX8_normalAt : MethodName := ⟨RX8, "normalAt", "(I)I"⟩
abbrev cX8_ofSort : ByteArray := prog_10_method_44_code
def yX8_ofSort : MethodName := ⟨RX8, "ofSort", "(I)I"⟩
abbrev cX8_typeOf : ByteArray := prog_10_method_45_code
def yX8_typeOf : MethodName := ⟨RX8, "typeOf", "(I)I"⟩
abbrev cX8_typeOfSingle : ByteArray := prog_10_method_46_code
def yX8_typeOfSingle : MethodName := ⟨RX8, "typeOfSingle", "(I)I"⟩
abbrev cX8_typeOfPi : ByteArray := prog_10_method_47_code
def yX8_typeOfPi : MethodName := ⟨RX8, "typeOfPi", "(I)I"⟩
abbrev cX8_typeOfLambda : ByteArray := prog_10_method_48_code
def yX8_typeOfLambda : MethodName := ⟨RX8, "typeOfLambda", "(I)I"⟩
abbrev cX8_typeOfApply : ByteArray := prog_10_method_49_code
def yX8_typeOfApply : MethodName := ⟨RX8, "typeOfApply", "(I)I"⟩
abbrev cX8_typeOfLet : ByteArray := prog_10_method_50_code
def yX8_typeOfLet : MethodName := ⟨RX8, "typeOfLet", "(I)I"⟩
abbrev cX8_countLevel : ByteArray := prog_10_method_51_code
def yX8_countLevel : MethodName := ⟨RX8, "countLevel", "([II)I"⟩
abbrev cX8_countTerm : ByteArray := prog_10_method_52_code
def yX8_countTerm : MethodName := ⟨RX8, "countTerm", "([II)I"⟩
abbrev cX8_countSingle : ByteArray := prog_10_method_53_code
def yX8_countSingle : MethodName := ⟨RX8, "countSingle", "([II)I"⟩
abbrev cX8_answer : ByteArray := prog_10_method_54_code
def yX8_answer : MethodName := ⟨RX8, "answer", "([II)I"⟩
abbrev cX8_begin : ByteArray := prog_10_method_55_code
def yX8_begin : MethodName := ⟨RX8, "begin", "(I)V"⟩
abbrev cX8_type : ByteArray := prog_10_method_56_code
def yX8_type : MethodName := ⟨RX8, "type", "(I)I"⟩
abbrev cX8_normal : ByteArray := prog_10_method_57_code
def yX8_normal : MethodName := ⟨RX8, "normal", "(I)I"⟩
abbrev cX8_steps : ByteArray := prog_10_method_58_code
def yX8_steps : MethodName := ⟨RX8, "steps", "(I)I"⟩
abbrev cX8_same : ByteArray := prog_10_method_59_code
def yX8_same : MethodName := ⟨RX8, "same", "(II)I"⟩
abbrev cX8_hasBelow : ByteArray := prog_10_method_60_code
def yX8_hasBelow : MethodName := ⟨RX8, "hasBelow", "([III)Z"⟩
abbrev cX8_reasonOf : ByteArray := prog_10_method_61_code
def yX8_reasonOf : MethodName := ⟨RX8, "reasonOf", "(III)I"⟩
abbrev cX8_declare : ByteArray := prog_10_method_62_code
def yX8_declare : MethodName := ⟨RX8, "declare", "(III)I"⟩
abbrev cX8_atMost : ByteArray := prog_10_method_63_code
def yX8_atMost : MethodName := ⟨RX8, "atMost", "(II)Z"⟩
abbrev cX8_value : ByteArray := prog_10_method_64_code
def yX8_value : MethodName := ⟨RX8, "value", "(IIII)I"⟩
abbrev cX8_part : ByteArray := prog_10_method_65_code
def yX8_part : MethodName := ⟨RX8, "part", "(II)I"⟩
abbrev cX8_levelPart : ByteArray := prog_10_method_66_code
def yX8_levelPart : MethodName := ⟨RX8, "levelPart", "(II)I"⟩
abbrev cX8_declared : ByteArray := prog_10_method_67_code
def yX8_declared : MethodName := ⟨RX8, "declared", "(II)I"⟩
abbrev cX8_told : ByteArray := prog_10_method_68_code
def yX8_told : MethodName := ⟨RX8, "told", "(I)I"⟩
def RL : String := "TypeKernelLaw"
abbrev cL_level : ByteArray := method_3_code
def yL_level : MethodName := ⟨RL, "level", "(LTypeKernel;III[J)I"⟩
abbrev cL_atMost : ByteArray := method_4_code
def yL_atMost : MethodName := ⟨RL, "atMost", "(LTypeKernel;II[J)I"⟩
abbrev cL_value : ByteArray := method_5_code
def yL_value : MethodName := ⟨RL, "value", "(LTypeKernel;IIII[J)I"⟩
abbrev cL_sort : ByteArray := method_6_code
def yL_sort : MethodName := ⟨RL, "sort", "(LTypeKernel;I[J)I"⟩
abbrev cL_variable : ByteArray := method_7_code
def yL_variable : MethodName := ⟨RL, "variable", "(LTypeKernel;I[J)I"⟩
abbrev cL_name : ByteArray := method_8_code
def yL_name : MethodName := ⟨RL, "name", "(LTypeKernel;III[J)I"⟩
abbrev cL_term : ByteArray := method_9_code
def yL_term : MethodName := ⟨RL, "term", "(LTypeKernel;III[J)I"⟩
abbrev cL_let : ByteArray := method_10_code
def yL_let : MethodName := ⟨RL, "let", "(LTypeKernel;III[J)I"⟩
abbrev cL_type : ByteArray := method_11_code
def yL_type : MethodName := ⟨RL, "type", "(LTypeKernel;I[J)I"⟩
abbrev cL_normal : ByteArray := method_12_code
def yL_normal : MethodName := ⟨RL, "normal", "(LTypeKernel;I[J)I"⟩
abbrev cL_steps : ByteArray := method_13_code
def yL_steps : MethodName := ⟨RL, "steps", "(LTypeKernel;I[J)I"⟩
abbrev cL_same : ByteArray := method_14_code
def yL_same : MethodName := ⟨RL, "same", "(LTypeKernel;II[J)I"⟩
abbrev cL_declare : ByteArray := method_15_code
def yL_declare : MethodName := ⟨RL, "declare", "(LTypeKernel;III[J)I"⟩
abbrev cL_part : ByteArray := method_16_code
def yL_part : MethodName := ⟨RL, "part", "(LTypeKernel;II[J)I"⟩
abbrev cL_levelPart : ByteArray := method_17_code
def yL_levelPart : MethodName := ⟨RL, "levelPart", "(LTypeKernel;II[J)I"⟩
abbrev cL_declared : ByteArray := method_18_code
def yL_declared : MethodName := ⟨RL, "declared", "(LTypeKernel;II[J)I"⟩
abbrev cL_law : ByteArray := code
def yL_law : MethodName := ⟨RL, "law", "([I)Z"⟩
abbrev vwCl : List vw_C := [(RX1, TX1, 5), (RX2, TX2, 4), (RX3, TX3, 5), (RX4, TX4, 6), (RX5, TX5, 12), (RX6, TX6, 8), (RX7, TX7, 7), (RX8, TX8, 40)]
/-- the words that every method is given -/
def TB : List Cond := lw_tbl.filter goodWord
theorem TB_good {w : Cond} (h : w ∈ TB) : (w.onTables && w.keeps) = true ∨ ∃ ty, w = .arrayClass ty := good_of_word (List.mem_filter.mp h).2
theorem TB_of {args : Array Value} {s : State} (h : ∀ w ∈ lw_tbl, w.before args s = true) : ∀ w ∈ TB, w.before args s = true := fun w hw => h w (List.mem_filter.mp hw).1
theorem tb1 {w : Cond} (h : w ∈ tables_1_1) (g : goodWord w = true) : w ∈ TB := List.mem_filter.mpr ⟨List.mem_append_right _ (List.mem_append_left _ h), g⟩
theorem tb2 {w : Cond} (h : w ∈ tables_1_2) (g : goodWord w = true) : w ∈ TB := List.mem_filter.mpr ⟨List.mem_append_right _ (List.mem_append_right _ (List.mem_append_left _ h)), g⟩
theorem tb3 {w : Cond} (h : w ∈ tables_1_3) (g : goodWord w = true) : w ∈ TB := List.mem_filter.mpr ⟨List.mem_append_right _ (List.mem_append_right _ (List.mem_append_right _ (List.mem_append_left _ h))), g⟩
theorem tb4 {w : Cond} (h : w ∈ tables_1_4) (g : goodWord w = true) : w ∈ TB := List.mem_filter.mpr ⟨List.mem_append_right _ (List.mem_append_right _ (List.mem_append_right _ (List.mem_append_right _ (List.mem_append_left _ h)))), g⟩
theorem tb5 {w : Cond} (h : w ∈ tables_1_5) (g : goodWord w = true) : w ∈ TB := List.mem_filter.mpr ⟨List.mem_append_right _ (List.mem_append_right _ (List.mem_append_right _ (List.mem_append_right _ (List.mem_append_right _ h)))), g⟩
theorem tbS {q : MethodName × Nat} (h : q ∈ lw_privs) : Cond.selects q.1.cls q.1 q.1 ∈ TB := List.mem_filter.mpr ⟨List.mem_append_left _ (List.mem_map.mpr ⟨q, h, rfl⟩), rfl⟩

section
-- ===== PART A: goes FIRST, ahead of the names: the tables' words, and 'selects' of the private methods out of them =====
/-- a private method of a class that the tables say can be made, by its rows of tables_1 -/
def lw_okq (q : MethodName × Nat) : Prop := (q.1.cls ≠ "java/lang/invoke/MethodHandle" ∧ q.1.cls ≠ "java/lang/invoke/VarHandle") ∧ Cond.instantiable q.1.cls q.2 ∈ tables_1 ∧ Cond.privateMethod q.1 ∈ tables_1 ∧ Cond.instanceMethod q.1 ∈ tables_1
theorem lw_p0 : lw_okq (⟨"TarYard$Reader", "faultOfEntry", "(LTarYard$Tree;)I"⟩, 14) := ⟨⟨by decide +kernel, by decide +kernel⟩, List.mem_of_getElem? (i := 79) (by decide +kernel), List.mem_of_getElem? (i := 290) (by decide +kernel), List.mem_of_getElem? (i := 291) (by decide +kernel)⟩
theorem lw_p1 : lw_okq (⟨"TarYard$Reader", "isMarked", "()Z"⟩, 14) := ⟨⟨by decide +kernel, by decide +kernel⟩, List.mem_of_getElem? (i := 79) (by decide +kernel), List.mem_of_getElem? (i := 309) (by decide +kernel), List.mem_of_getElem? (i := 310) (by decide +kernel)⟩
theorem lw_p2 : lw_okq (⟨"TarYard$Reader", "takeNumbers", "()Z"⟩, 14) := ⟨⟨by decide +kernel, by decide +kernel⟩, List.mem_of_getElem? (i := 79) (by decide +kernel), List.mem_of_getElem? (i := 320) (by decide +kernel), List.mem_of_getElem? (i := 321) (by decide +kernel)⟩
theorem lw_p3 : lw_okq (⟨"TarYard$Reader", "takeKind", "()Z"⟩, 14) := ⟨⟨by decide +kernel, by decide +kernel⟩, List.mem_of_getElem? (i := 79) (by decide +kernel), List.mem_of_getElem? (i := 328) (by decide +kernel), List.mem_of_getElem? (i := 329) (by decide +kernel)⟩
theorem lw_p4 : lw_okq (⟨"TarYard$Reader", "takePath", "(LTarYard$Tree;)Z"⟩, 14) := ⟨⟨by decide +kernel, by decide +kernel⟩, List.mem_of_getElem? (i := 79) (by decide +kernel), List.mem_of_getElem? (i := 336) (by decide +kernel), List.mem_of_getElem? (i := 337) (by decide +kernel)⟩
theorem lw_p5 : lw_okq (⟨"TarYard$Reader", "addText", "(LTarYard$Row;II)Z"⟩, 14) := ⟨⟨by decide +kernel, by decide +kernel⟩, List.mem_of_getElem? (i := 79) (by decide +kernel), List.mem_of_getElem? (i := 341) (by decide +kernel), List.mem_of_getElem? (i := 342) (by decide +kernel)⟩
theorem lw_p6 : lw_okq (⟨"TarYard$Reader", "takeTarget", "(LTarYard$Tree;)Z"⟩, 14) := ⟨⟨by decide +kernel, by decide +kernel⟩, List.mem_of_getElem? (i := 79) (by decide +kernel), List.mem_of_getElem? (i := 383) (by decide +kernel), List.mem_of_getElem? (i := 384) (by decide +kernel)⟩
theorem lw_p7 : lw_okq (⟨"TarYard$Reader", "faultOfContents", "(I)I"⟩, 14) := ⟨⟨by decide +kernel, by decide +kernel⟩, List.mem_of_getElem? (i := 79) (by decide +kernel), List.mem_of_getElem? (i := 392) (by decide +kernel), List.mem_of_getElem? (i := 393) (by decide +kernel)⟩
theorem lw_p8 : lw_okq (⟨"TarYard$Reader", "takeEntry", "(LTarYard$Tree;)V"⟩, 14) := ⟨⟨by decide +kernel, by decide +kernel⟩, List.mem_of_getElem? (i := 79) (by decide +kernel), List.mem_of_getElem? (i := 399) (by decide +kernel), List.mem_of_getElem? (i := 400) (by decide +kernel)⟩
theorem lw_p9 : lw_okq (⟨"java/lang/Throwable", "fillInStackTrace", "(I)Ljava/lang/Throwable;"⟩, 6) := ⟨⟨by decide +kernel, by decide +kernel⟩, List.mem_of_getElem? (i := 472) (by decide +kernel), List.mem_of_getElem? (i := 470) (by decide +kernel), List.mem_of_getElem? (i := 471) (by decide +kernel)⟩
theorem lw_p10 : lw_okq (⟨"TarYard", "refuseName", "(I)V"⟩, 7) := ⟨⟨by decide +kernel, by decide +kernel⟩, List.mem_of_getElem? (i := 20) (by decide +kernel), List.mem_of_getElem? (i := 506) (by decide +kernel), List.mem_of_getElem? (i := 507) (by decide +kernel)⟩
theorem lw_p11 : lw_okq (⟨"TarYard", "known", "(I)LTarYard$Node;"⟩, 7) := ⟨⟨by decide +kernel, by decide +kernel⟩, List.mem_of_getElem? (i := 20) (by decide +kernel), List.mem_of_getElem? (i := 539) (by decide +kernel), List.mem_of_getElem? (i := 540) (by decide +kernel)⟩
theorem lw_p12 : lw_okq (⟨"TarYard$Tree", "isGone", "(I)Z"⟩, 3) := ⟨⟨by decide +kernel, by decide +kernel⟩, List.mem_of_getElem? (i := 133) (by decide +kernel), List.mem_of_getElem? (i := 592) (by decide +kernel), List.mem_of_getElem? (i := 593) (by decide +kernel)⟩
theorem lw_p13 : lw_okq (⟨"TarYard$Tree", "newNumber", "(I)I"⟩, 3) := ⟨⟨by decide +kernel, by decide +kernel⟩, List.mem_of_getElem? (i := 133) (by decide +kernel), List.mem_of_getElem? (i := 597) (by decide +kernel), List.mem_of_getElem? (i := 598) (by decide +kernel)⟩
theorem lw_p14 : lw_okq (⟨"TarYard$Tree", "closeGaps", "()V"⟩, 3) := ⟨⟨by decide +kernel, by decide +kernel⟩, List.mem_of_getElem? (i := 133) (by decide +kernel), List.mem_of_getElem? (i := 601) (by decide +kernel), List.mem_of_getElem? (i := 602) (by decide +kernel)⟩
theorem lw_p15 : lw_okq (⟨"TarYard$Writer", "isTellable", "(LTarYard$Tree;I)Z"⟩, 3) := ⟨⟨by decide +kernel, by decide +kernel⟩, List.mem_of_getElem? (i := 61) (by decide +kernel), List.mem_of_getElem? (i := 617) (by decide +kernel), List.mem_of_getElem? (i := 618) (by decide +kernel)⟩
def lw_privs_1 : List (MethodName × Nat) := [(⟨"TarYard$Reader", "faultOfEntry", "(LTarYard$Tree;)I"⟩, 14), (⟨"TarYard$Reader", "isMarked", "()Z"⟩, 14), (⟨"TarYard$Reader", "takeNumbers", "()Z"⟩, 14), (⟨"TarYard$Reader", "takeKind", "()Z"⟩, 14), (⟨"TarYard$Reader", "takePath", "(LTarYard$Tree;)Z"⟩, 14), (⟨"TarYard$Reader", "addText", "(LTarYard$Row;II)Z"⟩, 14), (⟨"TarYard$Reader", "takeTarget", "(LTarYard$Tree;)Z"⟩, 14), (⟨"TarYard$Reader", "faultOfContents", "(I)I"⟩, 14), (⟨"TarYard$Reader", "takeEntry", "(LTarYard$Tree;)V"⟩, 14), (⟨"java/lang/Throwable", "fillInStackTrace", "(I)Ljava/lang/Throwable;"⟩, 6), (⟨"TarYard", "refuseName", "(I)V"⟩, 7), (⟨"TarYard", "known", "(I)LTarYard$Node;"⟩, 7), (⟨"TarYard$Tree", "isGone", "(I)Z"⟩, 3), (⟨"TarYard$Tree", "newNumber", "(I)I"⟩, 3), (⟨"TarYard$Tree", "closeGaps", "()V"⟩, 3), (⟨"TarYard$Writer", "isTellable", "(LTarYard$Tree;I)Z"⟩, 3)]
theorem lw_r1 : ∀ q ∈ lw_privs_1, lw_okq q := List.forall_mem_cons.mpr ⟨lw_p0, List.forall_mem_cons.mpr ⟨lw_p1, List.forall_mem_cons.mpr ⟨lw_p2, List.forall_mem_cons.mpr ⟨lw_p3, List.forall_mem_cons.mpr ⟨lw_p4, List.forall_mem_cons.mpr ⟨lw_p5, List.forall_mem_cons.mpr ⟨lw_p6, List.forall_mem_cons.mpr ⟨lw_p7, List.forall_mem_cons.mpr ⟨lw_p8, List.forall_mem_cons.mpr ⟨lw_p9, List.forall_mem_cons.mpr ⟨lw_p10, List.forall_mem_cons.mpr ⟨lw_p11, List.forall_mem_cons.mpr ⟨lw_p12, List.forall_mem_cons.mpr ⟨lw_p13, List.forall_mem_cons.mpr ⟨lw_p14, List.forall_mem_cons.mpr ⟨lw_p15, fun _ h => absurd h List.not_mem_nil⟩⟩⟩⟩⟩⟩⟩⟩⟩⟩⟩⟩⟩⟩⟩⟩
theorem lw_p16 : lw_okq (⟨"TarYard$Writer", "cutOfPath", "()I"⟩, 3) := ⟨⟨by decide +kernel, by decide +kernel⟩, List.mem_of_getElem? (i := 61) (by decide +kernel), List.mem_of_getElem? (i := 637) (by decide +kernel), List.mem_of_getElem? (i := 638) (by decide +kernel)⟩
theorem lw_p17 : lw_okq (⟨"TarYard$Writer", "putEntries", "(LTarYard$Tree;Z)V"⟩, 3) := ⟨⟨by decide +kernel, by decide +kernel⟩, List.mem_of_getElem? (i := 61) (by decide +kernel), List.mem_of_getElem? (i := 669) (by decide +kernel), List.mem_of_getElem? (i := 670) (by decide +kernel)⟩
theorem lw_p18 : lw_okq (⟨"TarYard$Tree", "nextChild", "(II)I"⟩, 3) := ⟨⟨by decide +kernel, by decide +kernel⟩, List.mem_of_getElem? (i := 133) (by decide +kernel), List.mem_of_getElem? (i := 677) (by decide +kernel), List.mem_of_getElem? (i := 678) (by decide +kernel)⟩
theorem lw_p19 : lw_okq (⟨"TarYard$Tree", "comesBehind", "(II)Z"⟩, 3) := ⟨⟨by decide +kernel, by decide +kernel⟩, List.mem_of_getElem? (i := 133) (by decide +kernel), List.mem_of_getElem? (i := 681) (by decide +kernel), List.mem_of_getElem? (i := 682) (by decide +kernel)⟩
theorem lw_p20 : lw_okq (⟨"TarYard$Writer", "putHeader", "(LTarYard$Tree;I)V"⟩, 3) := ⟨⟨by decide +kernel, by decide +kernel⟩, List.mem_of_getElem? (i := 61) (by decide +kernel), List.mem_of_getElem? (i := 691) (by decide +kernel), List.mem_of_getElem? (i := 692) (by decide +kernel)⟩
theorem lw_p21 : lw_okq (⟨"TarYard$Writer", "putPath", "(I)V"⟩, 3) := ⟨⟨by decide +kernel, by decide +kernel⟩, List.mem_of_getElem? (i := 61) (by decide +kernel), List.mem_of_getElem? (i := 695) (by decide +kernel), List.mem_of_getElem? (i := 696) (by decide +kernel)⟩
theorem lw_p22 : lw_okq (⟨"TarYard$Writer", "putContents", "(LTarYard$Node;)V"⟩, 3) := ⟨⟨by decide +kernel, by decide +kernel⟩, List.mem_of_getElem? (i := 61) (by decide +kernel), List.mem_of_getElem? (i := 718) (by decide +kernel), List.mem_of_getElem? (i := 719) (by decide +kernel)⟩
theorem lw_p23 : lw_okq (⟨"TarYardModel", "clear", "(I)V"⟩, 27) := ⟨⟨by decide +kernel, by decide +kernel⟩, List.mem_of_getElem? (i := 777) (by decide +kernel), List.mem_of_getElem? (i := 784) (by decide +kernel), List.mem_of_getElem? (i := 785) (by decide +kernel)⟩
theorem lw_p24 : lw_okq (⟨"TarYardModel", "isNode", "(I)Z"⟩, 27) := ⟨⟨by decide +kernel, by decide +kernel⟩, List.mem_of_getElem? (i := 777) (by decide +kernel), List.mem_of_getElem? (i := 881) (by decide +kernel), List.mem_of_getElem? (i := 882) (by decide +kernel)⟩
theorem lw_p25 : lw_okq (⟨"TarYardModel", "count", "()I"⟩, 27) := ⟨⟨by decide +kernel, by decide +kernel⟩, List.mem_of_getElem? (i := 777) (by decide +kernel), List.mem_of_getElem? (i := 885) (by decide +kernel), List.mem_of_getElem? (i := 886) (by decide +kernel)⟩
theorem lw_p26 : lw_okq (⟨"TarYardModel", "spell", "(JI)Z"⟩, 27) := ⟨⟨by decide +kernel, by decide +kernel⟩, List.mem_of_getElem? (i := 777) (by decide +kernel), List.mem_of_getElem? (i := 889) (by decide +kernel), List.mem_of_getElem? (i := 890) (by decide +kernel)⟩
theorem lw_p27 : lw_okq (⟨"TarYardModel", "find", "(II[BII)I"⟩, 27) := ⟨⟨by decide +kernel, by decide +kernel⟩, List.mem_of_getElem? (i := 777) (by decide +kernel), List.mem_of_getElem? (i := 900) (by decide +kernel), List.mem_of_getElem? (i := 901) (by decide +kernel)⟩
theorem lw_p28 : lw_okq (⟨"TarYardModel", "isCalled", "(I[BII)Z"⟩, 27) := ⟨⟨by decide +kernel, by decide +kernel⟩, List.mem_of_getElem? (i := 777) (by decide +kernel), List.mem_of_getElem? (i := 904) (by decide +kernel), List.mem_of_getElem? (i := 905) (by decide +kernel)⟩
theorem lw_p29 : lw_okq (⟨"TarYardModel", "fails", "(ZI)Z"⟩, 27) := ⟨⟨by decide +kernel, by decide +kernel⟩, List.mem_of_getElem? (i := 777) (by decide +kernel), List.mem_of_getElem? (i := 908) (by decide +kernel), List.mem_of_getElem? (i := 909) (by decide +kernel)⟩
theorem lw_p30 : lw_okq (⟨"TarYardModel", "add", "(III[BII)V"⟩, 27) := ⟨⟨by decide +kernel, by decide +kernel⟩, List.mem_of_getElem? (i := 777) (by decide +kernel), List.mem_of_getElem? (i := 912) (by decide +kernel), List.mem_of_getElem? (i := 913) (by decide +kernel)⟩
theorem lw_p31 : lw_okq (⟨"TarYardModel", "move", "(II)V"⟩, 27) := ⟨⟨by decide +kernel, by decide +kernel⟩, List.mem_of_getElem? (i := 777) (by decide +kernel), List.mem_of_getElem? (i := 937) (by decide +kernel), List.mem_of_getElem? (i := 938) (by decide +kernel)⟩
def lw_privs_2 : List (MethodName × Nat) := [(⟨"TarYard$Writer", "cutOfPath", "()I"⟩, 3), (⟨"TarYard$Writer", "putEntries", "(LTarYard$Tree;Z)V"⟩, 3), (⟨"TarYard$Tree", "nextChild", "(II)I"⟩, 3), (⟨"TarYard$Tree", "comesBehind", "(II)Z"⟩, 3), (⟨"TarYard$Writer", "putHeader", "(LTarYard$Tree;I)V"⟩, 3), (⟨"TarYard$Writer", "putPath", "(I)V"⟩, 3), (⟨"TarYard$Writer", "putContents", "(LTarYard$Node;)V"⟩, 3), (⟨"TarYardModel", "clear", "(I)V"⟩, 27), (⟨"TarYardModel", "isNode", "(I)Z"⟩, 27), (⟨"TarYardModel", "count", "()I"⟩, 27), (⟨"TarYardModel", "spell", "(JI)Z"⟩, 27), (⟨"TarYardModel", "find", "(II[BII)I"⟩, 27), (⟨"TarYardModel", "isCalled", "(I[BII)Z"⟩, 27), (⟨"TarYardModel", "fails", "(ZI)Z"⟩, 27), (⟨"TarYardModel", "add", "(III[BII)V"⟩, 27), (⟨"TarYardModel", "move", "(II)V"⟩, 27)]
theorem lw_r2 : ∀ q ∈ lw_privs_2, lw_okq q := List.forall_mem_cons.mpr ⟨lw_p16, List.forall_mem_cons.mpr ⟨lw_p17, List.forall_mem_cons.mpr ⟨lw_p18, List.forall_mem_cons.mpr ⟨lw_p19, List.forall_mem_cons.mpr ⟨lw_p20, List.forall_mem_cons.mpr ⟨lw_p21, List.forall_mem_cons.mpr ⟨lw_p22, List.forall_mem_cons.mpr ⟨lw_p23, List.forall_mem_cons.mpr ⟨lw_p24, List.forall_mem_cons.mpr ⟨lw_p25, List.forall_mem_cons.mpr ⟨lw_p26, List.forall_mem_cons.mpr ⟨lw_p27, List.forall_mem_cons.mpr ⟨lw_p28, List.forall_mem_cons.mpr ⟨lw_p29, List.forall_mem_cons.mpr ⟨lw_p30, List.forall_mem_cons.mpr ⟨lw_p31, fun _ h => absurd h List.not_mem_nil⟩⟩⟩⟩⟩⟩⟩⟩⟩⟩⟩⟩⟩⟩⟩⟩
theorem lw_p32 : lw_okq (⟨"TarYardModel", "arrange", "()V"⟩, 27) := ⟨⟨by decide +kernel, by decide +kernel⟩, List.mem_of_getElem? (i := 777) (by decide +kernel), List.mem_of_getElem? (i := 945) (by decide +kernel), List.mem_of_getElem? (i := 946) (by decide +kernel)⟩
theorem lw_p33 : lw_okq (⟨"TarYardModel", "next", "(II)I"⟩, 27) := ⟨⟨by decide +kernel, by decide +kernel⟩, List.mem_of_getElem? (i := 777) (by decide +kernel), List.mem_of_getElem? (i := 949) (by decide +kernel), List.mem_of_getElem? (i := 950) (by decide +kernel)⟩
theorem lw_p34 : lw_okq (⟨"TarYardModel", "compare", "(II)I"⟩, 27) := ⟨⟨by decide +kernel, by decide +kernel⟩, List.mem_of_getElem? (i := 777) (by decide +kernel), List.mem_of_getElem? (i := 953) (by decide +kernel), List.mem_of_getElem? (i := 954) (by decide +kernel)⟩
theorem lw_p35 : lw_okq (⟨"TarYardModel", "blocksOf", "(I)I"⟩, 27) := ⟨⟨by decide +kernel, by decide +kernel⟩, List.mem_of_getElem? (i := 777) (by decide +kernel), List.mem_of_getElem? (i := 957) (by decide +kernel), List.mem_of_getElem? (i := 958) (by decide +kernel)⟩
theorem lw_p36 : lw_okq (⟨"TarYardModel", "tell", "(I)V"⟩, 27) := ⟨⟨by decide +kernel, by decide +kernel⟩, List.mem_of_getElem? (i := 777) (by decide +kernel), List.mem_of_getElem? (i := 961) (by decide +kernel), List.mem_of_getElem? (i := 962) (by decide +kernel)⟩
theorem lw_p37 : lw_okq (⟨"TarYardModel", "cutOf", "()I"⟩, 27) := ⟨⟨by decide +kernel, by decide +kernel⟩, List.mem_of_getElem? (i := 777) (by decide +kernel), List.mem_of_getElem? (i := 965) (by decide +kernel), List.mem_of_getElem? (i := 966) (by decide +kernel)⟩
theorem lw_p38 : lw_okq (⟨"TarYardModel", "head", "(II)V"⟩, 27) := ⟨⟨by decide +kernel, by decide +kernel⟩, List.mem_of_getElem? (i := 777) (by decide +kernel), List.mem_of_getElem? (i := 969) (by decide +kernel), List.mem_of_getElem? (i := 970) (by decide +kernel)⟩
theorem lw_p39 : lw_okq (⟨"TarYardModel", "octal", "(IIJ)V"⟩, 27) := ⟨⟨by decide +kernel, by decide +kernel⟩, List.mem_of_getElem? (i := 777) (by decide +kernel), List.mem_of_getElem? (i := 973) (by decide +kernel), List.mem_of_getElem? (i := 974) (by decide +kernel)⟩
theorem lw_p40 : lw_okq (⟨"TarYardModel", "sum", "(I)I"⟩, 27) := ⟨⟨by decide +kernel, by decide +kernel⟩, List.mem_of_getElem? (i := 777) (by decide +kernel), List.mem_of_getElem? (i := 982) (by decide +kernel), List.mem_of_getElem? (i := 983) (by decide +kernel)⟩
theorem lw_p41 : lw_okq (⟨"TarYardModel", "isZero", "(II)Z"⟩, 27) := ⟨⟨by decide +kernel, by decide +kernel⟩, List.mem_of_getElem? (i := 777) (by decide +kernel), List.mem_of_getElem? (i := 990) (by decide +kernel), List.mem_of_getElem? (i := 991) (by decide +kernel)⟩
theorem lw_p42 : lw_okq (⟨"TarYardModel", "entry", "(II)I"⟩, 27) := ⟨⟨by decide +kernel, by decide +kernel⟩, List.mem_of_getElem? (i := 777) (by decide +kernel), List.mem_of_getElem? (i := 994) (by decide +kernel), List.mem_of_getElem? (i := 995) (by decide +kernel)⟩
theorem lw_p43 : lw_okq (⟨"TarYardModel", "firstFault", "(I)I"⟩, 27) := ⟨⟨by decide +kernel, by decide +kernel⟩, List.mem_of_getElem? (i := 777) (by decide +kernel), List.mem_of_getElem? (i := 998) (by decide +kernel), List.mem_of_getElem? (i := 999) (by decide +kernel)⟩
theorem lw_p44 : lw_okq (⟨"TarYardModel", "number", "(II)J"⟩, 27) := ⟨⟨by decide +kernel, by decide +kernel⟩, List.mem_of_getElem? (i := 777) (by decide +kernel), List.mem_of_getElem? (i := 1002) (by decide +kernel), List.mem_of_getElem? (i := 1003) (by decide +kernel)⟩
theorem lw_p45 : lw_okq (⟨"TarYardModel", "textOf", "(II)I"⟩, 27) := ⟨⟨by decide +kernel, by decide +kernel⟩, List.mem_of_getElem? (i := 777) (by decide +kernel), List.mem_of_getElem? (i := 1009) (by decide +kernel), List.mem_of_getElem? (i := 1010) (by decide +kernel)⟩
theorem lw_p46 : lw_okq (⟨"TarYardModel", "copyIn", "(II)V"⟩, 27) := ⟨⟨by decide +kernel, by decide +kernel⟩, List.mem_of_getElem? (i := 777) (by decide +kernel), List.mem_of_getElem? (i := 1013) (by decide +kernel), List.mem_of_getElem? (i := 1014) (by decide +kernel)⟩
theorem lw_p47 : lw_okq (⟨"TarYardModel", "walk", "(IZ)I"⟩, 27) := ⟨⟨by decide +kernel, by decide +kernel⟩, List.mem_of_getElem? (i := 777) (by decide +kernel), List.mem_of_getElem? (i := 1017) (by decide +kernel), List.mem_of_getElem? (i := 1018) (by decide +kernel)⟩
def lw_privs_3 : List (MethodName × Nat) := [(⟨"TarYardModel", "arrange", "()V"⟩, 27), (⟨"TarYardModel", "next", "(II)I"⟩, 27), (⟨"TarYardModel", "compare", "(II)I"⟩, 27), (⟨"TarYardModel", "blocksOf", "(I)I"⟩, 27), (⟨"TarYardModel", "tell", "(I)V"⟩, 27), (⟨"TarYardModel", "cutOf", "()I"⟩, 27), (⟨"TarYardModel", "head", "(II)V"⟩, 27), (⟨"TarYardModel", "octal", "(IIJ)V"⟩, 27), (⟨"TarYardModel", "sum", "(I)I"⟩, 27), (⟨"TarYardModel", "isZero", "(II)Z"⟩, 27), (⟨"TarYardModel", "entry", "(II)I"⟩, 27), (⟨"TarYardModel", "firstFault", "(I)I"⟩, 27), (⟨"TarYardModel", "number", "(II)J"⟩, 27), (⟨"TarYardModel", "textOf", "(II)I"⟩, 27), (⟨"TarYardModel", "copyIn", "(II)V"⟩, 27), (⟨"TarYardModel", "walk", "(IZ)I"⟩, 27)]
theorem lw_r3 : ∀ q ∈ lw_privs_3, lw_okq q := List.forall_mem_cons.mpr ⟨lw_p32, List.forall_mem_cons.mpr ⟨lw_p33, List.forall_mem_cons.mpr ⟨lw_p34, List.forall_mem_cons.mpr ⟨lw_p35, List.forall_mem_cons.mpr ⟨lw_p36, List.forall_mem_cons.mpr ⟨lw_p37, List.forall_mem_cons.mpr ⟨lw_p38, List.forall_mem_cons.mpr ⟨lw_p39, List.forall_mem_cons.mpr ⟨lw_p40, List.forall_mem_cons.mpr ⟨lw_p41, List.forall_mem_cons.mpr ⟨lw_p42, List.forall_mem_cons.mpr ⟨lw_p43, List.forall_mem_cons.mpr ⟨lw_p44, List.forall_mem_cons.mpr ⟨lw_p45, List.forall_mem_cons.mpr ⟨lw_p46, List.forall_mem_cons.mpr ⟨lw_p47, fun _ h => absurd h List.not_mem_nil⟩⟩⟩⟩⟩⟩⟩⟩⟩⟩⟩⟩⟩⟩⟩⟩
def lw_privs : List (MethodName × Nat) := lw_privs_1 ++ (lw_privs_2 ++ (lw_privs_3))
def lw_tbl : List Cond := k2_sels lw_privs ++ tables_1
theorem lw_privs_ok : ∀ q ∈ lw_privs, lw_okq q := by
  show ∀ q ∈ lw_privs_1 ++ (lw_privs_2 ++ (lw_privs_3)), lw_okq q
  exact List.forall_mem_append.mpr ⟨lw_r1, List.forall_mem_append.mpr ⟨lw_r2, lw_r3⟩⟩
end
section
/-! My tables of the program, written by wip/gen/emit.py: methods with their instructions, fields, calls, constants, places of throws, handlers; by the numbers of the ten classes and of their pools. -/
/-- number, class, instructions by sixteens of bytes, variables, what comes back, is it a constructor -/
abbrev AY : Type := Nat × Nat × List (List (Nat × Jvm.ClassFile.Instr × Nat)) × Nat × Option FieldType × Bool
def yNd_init : AY := (0, 0, [[(0, .aload_n 0, 1), (1, .invokespecial 3, 3), (4, .aload_n 0, 1), (5, .new 9, 3), (8, .dup, 1), (9, .invokespecial 11, 3), (12, .putfield 12, 3), (15, .aload_n 0, 1)], [(16, .new 9, 3), (19, .dup, 1), (20, .invokespecial 11, 3), (23, .putfield 18, 3), (26, .aload_n 0, 1), (27, .iconst 0, 1), (28, .putfield 21, 3), (31, .aload_n 0, 1)], [(32, .iconst (-1), 1), (33, .putfield 25, 3), (36, .aload_n 0, 1), (37, .iconst (-1), 1), (38, .putfield 28, 3), (41, .aload_n 0, 1), (42, .iconst 0, 1), (43, .putfield 31, 3), (46, .aload_n 0, 1), (47, .iconst 0, 1)], [(48, .putfield 34, 3), (51, .aload_n 0, 1), (52, .iconst 0, 1), (53, .putfield 37, 3), (56, .return_, 1)]], 1, none, true)
def yNd_begin : AY := (1, 0, [[(0, .aload_n 0, 1), (1, .getfield 12, 3), (4, .iconst 0, 1), (5, .invokevirtual 40, 3), (8, .aload_n 0, 1), (9, .getfield 18, 3), (12, .iconst 0, 1), (13, .invokevirtual 40, 3)], [(16, .aload_n 0, 1), (17, .iload_n 1, 1), (18, .putfield 21, 3), (21, .aload_n 0, 1), (22, .iload_n 2, 1), (23, .putfield 25, 3), (26, .aload_n 0, 1), (27, .iload_n 3, 1), (28, .putfield 28, 3), (31, .aload_n 0, 1)], [(32, .iconst 0, 1), (33, .putfield 31, 3), (36, .aload_n 0, 1), (37, .iconst 0, 1), (38, .putfield 34, 3), (41, .aload_n 0, 1), (42, .iconst 0, 1), (43, .putfield 37, 3), (46, .return_, 1)]], 4, none, false)
def yNd_contentsLength : AY := (2, 0, [[(0, .aload_n 0, 1), (1, .getfield 21, 3), (4, .iconst 1, 1), (5, .if_icmp .ne 13, 3), (8, .aload_n 0, 1), (9, .getfield 18, 3), (12, .getfield 44, 3), (15, .goto 4, 3)], [(18, .iconst 0, 1), (19, .ireturn, 1)]], 1, some .int, false)
def yRd_init : AY := (3, 1, [[(0, .aload_n 0, 1), (1, .invokespecial 3, 3), (4, .aload_n 0, 1), (5, .new 9, 3), (8, .dup, 1), (9, .invokespecial 11, 3), (12, .putfield 12, 3), (15, .aload_n 0, 1)], [(16, .new 9, 3), (19, .dup, 1), (20, .invokespecial 11, 3), (23, .putfield 18, 3), (26, .aload_n 0, 1), (27, .iconst 0, 1), (28, .putfield 21, 3), (31, .aload_n 0, 1)], [(32, .iconst 0, 1), (33, .putfield 25, 3), (36, .aload_n 0, 1), (37, .lconst 0, 1), (38, .putfield 28, 3), (41, .aload_n 0, 1), (42, .lconst 0, 1), (43, .putfield 32, 3), (46, .aload_n 0, 1), (47, .lconst 0, 1)], [(48, .putfield 35, 3), (51, .aload_n 0, 1), (52, .lconst 0, 1), (53, .putfield 38, 3), (56, .aload_n 0, 1), (57, .iconst (-1), 1), (58, .putfield 41, 3), (61, .aload_n 0, 1), (62, .iconst (-1), 1), (63, .putfield 44, 3)], [(66, .aload_n 0, 1), (67, .iconst 0, 1), (68, .putfield 47, 3), (71, .aload_n 0, 1), (72, .iconst 0, 1), (73, .putfield 50, 3), (76, .aload_n 0, 1), (77, .iconst (-1), 1), (78, .putfield 53, 3)], [(81, .aload_n 0, 1), (82, .aload_n 1, 1), (83, .putfield 56, 3), (86, .return_, 1)]], 2, none, true)
def yRd_addText : AY := (4, 1, [[(0, .iload_n 2, 1), (1, .istore 4, 2), (3, .iload 4, 2), (5, .iload_n 2, 1), (6, .iload_n 3, 1), (7, .iadd, 1), (8, .if_icmp .ge 24, 3), (11, .aload_n 0, 1), (12, .getfield 56, 3), (15, .getfield 129, 3)], [(18, .iload 4, 2), (20, .invokevirtual 132, 3), (23, .ifCond .le 9, 3), (26, .iinc 4 1, 3), (29, .goto (-26), 3)], [(32, .aload_n 1, 1), (33, .getfield 148, 3), (36, .istore 5, 2), (38, .aload_n 1, 1), (39, .iload 5, 2), (41, .iload 4, 2), (43, .iadd, 1), (44, .iload_n 2, 1), (45, .isub, 1), (46, .invokevirtual 140, 3)], [(49, .iload_n 2, 1), (50, .istore 6, 2), (52, .iload 6, 2), (54, .iload 4, 2), (56, .if_icmp .ge 32, 3), (59, .aload_n 1, 1), (60, .iload 5, 2), (62, .iload 6, 2)], [(64, .iadd, 1), (65, .iload_n 2, 1), (66, .isub, 1), (67, .aload_n 0, 1), (68, .getfield 56, 3), (71, .getfield 129, 3), (74, .iload 6, 2), (76, .invokevirtual 132, 3), (79, .invokevirtual 176, 3)], [(82, .iinc 6 1, 3), (85, .goto (-33), 3), (88, .aload_n 0, 1), (89, .getfield 56, 3), (92, .iload 4, 2), (94, .iload_n 2, 1), (95, .iload_n 3, 1)], [(96, .iadd, 1), (97, .invokevirtual 115, 3), (100, .ireturn, 1)]], 7, some .boolean, false)
def yRd_faultOfContents : AY := (5, 1, [[(0, .iload_n 1, 1), (1, .invokestatic 180, 3), (4, .istore_n 2, 1), (5, .aload_n 0, 1), (6, .getfield 21, 3), (9, .iload_n 2, 1), (10, .iadd, 1), (11, .aload_n 0, 1), (12, .getfield 56, 3), (15, .invokevirtual 82, 3)], [(18, .if_icmp .lt 6, 3), (21, .bipush 10, 2), (23, .ireturn, 1), (24, .aload_n 0, 1), (25, .getfield 25, 3), (28, .sipush 512, 3), (31, .iadd, 1)], [(32, .istore_n 3, 1), (33, .aload_n 0, 1), (34, .getfield 56, 3), (37, .iload_n 3, 1), (38, .iload_n 1, 1), (39, .iadd, 1), (40, .iload_n 3, 1), (41, .iload_n 2, 1), (42, .sipush 512, 3), (45, .imul, 1), (46, .iadd, 1), (47, .invokevirtual 115, 3)], [(50, .ifCond .eq 7, 3), (53, .iconst 0, 1), (54, .goto 5, 3), (57, .bipush 11, 2), (59, .ireturn, 1)]], 4, some .int, false)
def yRd_faultOfEntry : AY := (6, 1, [[(0, .aload_n 0, 1), (1, .aload_n 0, 1), (2, .getfield 21, 3), (5, .sipush 512, 3), (8, .imul, 1), (9, .putfield 25, 3), (12, .aload_n 0, 1), (13, .getfield 21, 3)], [(16, .aload_n 0, 1), (17, .getfield 56, 3), (20, .invokevirtual 82, 3), (23, .if_icmp .lt 5, 3), (26, .iconst 1, 1), (27, .ireturn, 1), (28, .aload_n 0, 1), (29, .getfield 56, 3)], [(32, .aload_n 0, 1), (33, .getfield 21, 3), (36, .invokevirtual 65, 3), (39, .ifCond .eq 5, 3), (42, .iconst 2, 1), (43, .ireturn, 1), (44, .aload_n 0, 1), (45, .getfield 56, 3)], [(48, .aload_n 0, 1), (49, .getfield 21, 3), (52, .invokevirtual 86, 3), (55, .ifCond .ne 5, 3), (58, .iconst 3, 1), (59, .ireturn, 1), (60, .aload_n 0, 1), (61, .invokevirtual 89, 3)], [(64, .ifCond .ne 5, 3), (67, .iconst 4, 1), (68, .ireturn, 1), (69, .aload_n 0, 1), (70, .invokevirtual 93, 3), (73, .ifCond .ne 5, 3), (76, .iconst 5, 1), (77, .ireturn, 1), (78, .aload_n 0, 1), (79, .invokevirtual 96, 3)], [(82, .ifCond .ne 6, 3), (85, .bipush 6, 2), (87, .ireturn, 1), (88, .aload_n 0, 1), (89, .aload_n 1, 1), (90, .invokevirtual 99, 3), (93, .ifCond .ne 6, 3)], [(96, .bipush 7, 2), (98, .ireturn, 1), (99, .aload_n 0, 1), (100, .aload_n 1, 1), (101, .invokevirtual 103, 3), (104, .ifCond .ne 6, 3), (107, .bipush 8, 2), (109, .ireturn, 1), (110, .aload_n 1, 1), (111, .getfield 71, 3)], [(114, .bipush 30, 2), (116, .if_icmp .ge 14, 3), (119, .aload_n 0, 1), (120, .getfield 38, 3), (123, .ldc2_w 106, 3), (126, .lcmp, 1), (127, .ifCond .le 6, 3)], [(130, .bipush 9, 2), (132, .ireturn, 1), (133, .aload_n 0, 1), (134, .aload_n 0, 1), (135, .getfield 38, 3), (138, .l2i, 1), (139, .invokevirtual 108, 3), (142, .ireturn, 1)]], 2, some .int, false)
def yRd_isMarked : AY := (7, 1, [[(0, .aload_n 0, 1), (1, .getfield 56, 3), (4, .aload_n 0, 1), (5, .getfield 25, 3), (8, .sipush 257, 3), (11, .iadd, 1), (12, .invokevirtual 112, 3), (15, .ifCond .eq 59, 3)], [(18, .aload_n 0, 1), (19, .getfield 56, 3), (22, .aload_n 0, 1), (23, .getfield 25, 3), (26, .sipush 265, 3), (29, .iadd, 1), (30, .aload_n 0, 1), (31, .getfield 25, 3)], [(34, .sipush 329, 3), (37, .iadd, 1), (38, .invokevirtual 115, 3), (41, .ifCond .eq 33, 3), (44, .aload_n 0, 1), (45, .getfield 56, 3)], [(48, .aload_n 0, 1), (49, .getfield 25, 3), (52, .sipush 500, 3), (55, .iadd, 1), (56, .aload_n 0, 1), (57, .getfield 25, 3), (60, .sipush 512, 3), (63, .iadd, 1)], [(64, .invokevirtual 115, 3), (67, .ifCond .eq 7, 3), (70, .iconst 1, 1), (71, .goto 4, 3), (74, .iconst 0, 1), (75, .ireturn, 1)]], 1, some .boolean, false)
def yRd_takeEntry : AY := (8, 1, [[(0, .aload_n 1, 1), (1, .aload_n 0, 1), (2, .getfield 44, 3), (5, .aload_n 0, 1), (6, .getfield 41, 3), (9, .aload_n 0, 1), (10, .getfield 53, 3), (13, .aload_n 0, 1), (14, .getfield 12, 3)], [(17, .aload_n 0, 1), (18, .getfield 47, 3), (21, .aload_n 0, 1), (22, .getfield 50, 3), (25, .invokevirtual 183, 3), (28, .istore_n 2, 1), (29, .aload_n 1, 1), (30, .iload_n 2, 1), (31, .invokevirtual 187, 3)], [(34, .ifCond .eq 108, 3), (37, .aload_n 1, 1), (38, .getfield 190, 3), (41, .iload_n 2, 1), (42, .aaload, 1), (43, .astore_n 3, 1), (44, .aload_n 3, 1), (45, .aload_n 0, 1), (46, .getfield 28, 3)], [(49, .l2i, 1), (50, .putfield 194, 3), (53, .aload_n 3, 1), (54, .aload_n 0, 1), (55, .getfield 32, 3), (58, .l2i, 1), (59, .putfield 198, 3), (62, .aload_n 3, 1), (63, .aload_n 0, 1)], [(64, .getfield 35, 3), (67, .l2i, 1), (68, .putfield 200, 3), (71, .aload_n 0, 1), (72, .getfield 41, 3), (75, .iconst 2, 1), (76, .if_icmp .ne 22, 3), (79, .aload_n 3, 1)], [(80, .getfield 202, 3), (83, .aload_n 0, 1), (84, .getfield 18, 3), (87, .iconst 0, 1), (88, .aload_n 0, 1), (89, .getfield 18, 3), (92, .getfield 148, 3), (95, .invokevirtual 205, 3)], [(98, .aload_n 0, 1), (99, .getfield 41, 3), (102, .iconst 1, 1), (103, .if_icmp .ne 39, 3), (106, .aload_n 3, 1), (107, .getfield 202, 3), (110, .aload_n 0, 1), (111, .getfield 56, 3)], [(114, .getfield 129, 3), (117, .aload_n 0, 1), (118, .getfield 25, 3), (121, .sipush 512, 3), (124, .iadd, 1), (125, .aload_n 0, 1), (126, .getfield 25, 3)], [(129, .sipush 512, 3), (132, .iadd, 1), (133, .aload_n 0, 1), (134, .getfield 38, 3), (137, .l2i, 1), (138, .iadd, 1), (139, .invokevirtual 205, 3), (142, .aload_n 0, 1), (143, .dup, 1)], [(144, .getfield 21, 3), (147, .iconst 1, 1), (148, .aload_n 0, 1), (149, .getfield 38, 3), (152, .l2i, 1), (153, .invokestatic 180, 3), (156, .iadd, 1), (157, .iadd, 1), (158, .putfield 21, 3)], [(161, .return_, 1)]], 4, none, false)
def yRd_takeKind : AY := (9, 1, [[(0, .aload_n 0, 1), (1, .aload_n 0, 1), (2, .getfield 56, 3), (5, .getfield 129, 3), (8, .aload_n 0, 1), (9, .getfield 25, 3), (12, .sipush 156, 3), (15, .iadd, 1)], [(16, .invokevirtual 132, 3), (19, .invokestatic 135, 3), (22, .putfield 41, 3), (25, .aload_n 0, 1), (26, .getfield 41, 3), (29, .iconst (-1), 1), (30, .if_icmp .eq 24, 3)], [(33, .aload_n 0, 1), (34, .getfield 41, 3), (37, .iconst 1, 1), (38, .if_icmp .eq 12, 3), (41, .aload_n 0, 1), (42, .getfield 38, 3), (45, .lconst 0, 1), (46, .lcmp, 1), (47, .ifCond .ne 7, 3)], [(50, .iconst 1, 1), (51, .goto 4, 3), (54, .iconst 0, 1), (55, .ireturn, 1)]], 1, some .boolean, false)
def yRd_takeNumbers : AY := (10, 1, [[(0, .aload_n 0, 1), (1, .aload_n 0, 1), (2, .getfield 56, 3), (5, .aload_n 0, 1), (6, .getfield 25, 3), (9, .bipush 100, 2), (11, .iadd, 1), (12, .bipush 7, 2), (14, .invokevirtual 119, 3)], [(17, .putfield 28, 3), (20, .aload_n 0, 1), (21, .aload_n 0, 1), (22, .getfield 56, 3), (25, .aload_n 0, 1), (26, .getfield 25, 3), (29, .bipush 108, 2), (31, .iadd, 1)], [(32, .bipush 7, 2), (34, .invokevirtual 119, 3), (37, .putfield 32, 3), (40, .aload_n 0, 1), (41, .aload_n 0, 1), (42, .getfield 56, 3), (45, .aload_n 0, 1), (46, .getfield 25, 3)], [(49, .bipush 124, 2), (51, .iadd, 1), (52, .bipush 11, 2), (54, .invokevirtual 119, 3), (57, .putfield 38, 3), (60, .aload_n 0, 1), (61, .aload_n 0, 1), (62, .getfield 56, 3)], [(65, .aload_n 0, 1), (66, .getfield 25, 3), (69, .sipush 136, 3), (72, .iadd, 1), (73, .bipush 11, 2), (75, .invokevirtual 119, 3), (78, .putfield 35, 3)], [(81, .aload_n 0, 1), (82, .getfield 28, 3), (85, .ldc2_w 123, 3), (88, .lcmp, 1), (89, .ifCond .eq 133, 3), (92, .aload_n 0, 1), (93, .getfield 28, 3)], [(96, .ldc2_w 125, 3), (99, .lcmp, 1), (100, .ifCond .gt 122, 3), (103, .aload_n 0, 1), (104, .getfield 32, 3), (107, .ldc2_w 123, 3), (110, .lcmp, 1), (111, .ifCond .eq 111, 3)], [(114, .aload_n 0, 1), (115, .getfield 38, 3), (118, .ldc2_w 123, 3), (121, .lcmp, 1), (122, .ifCond .eq 100, 3), (125, .aload_n 0, 1), (126, .getfield 35, 3)], [(129, .ldc2_w 123, 3), (132, .lcmp, 1), (133, .ifCond .eq 89, 3), (136, .aload_n 0, 1), (137, .getfield 35, 3), (140, .ldc2_w 127, 3), (143, .lcmp, 1)], [(144, .ifCond .gt 78, 3), (147, .aload_n 0, 1), (148, .getfield 56, 3), (151, .aload_n 0, 1), (152, .getfield 25, 3), (155, .bipush 116, 2), (157, .iadd, 1), (158, .bipush 7, 2)], [(160, .invokevirtual 119, 3), (163, .ldc2_w 123, 3), (166, .lcmp, 1), (167, .ifCond .eq 55, 3), (170, .aload_n 0, 1), (171, .getfield 56, 3), (174, .aload_n 0, 1), (175, .getfield 25, 3)], [(178, .sipush 329, 3), (181, .iadd, 1), (182, .bipush 7, 2), (184, .invokevirtual 119, 3), (187, .ldc2_w 123, 3), (190, .lcmp, 1), (191, .ifCond .eq 31, 3)], [(194, .aload_n 0, 1), (195, .getfield 56, 3), (198, .aload_n 0, 1), (199, .getfield 25, 3), (202, .sipush 337, 3), (205, .iadd, 1), (206, .bipush 7, 2)], [(208, .invokevirtual 119, 3), (211, .ldc2_w 123, 3), (214, .lcmp, 1), (215, .ifCond .eq 7, 3), (218, .iconst 1, 1), (219, .goto 4, 3), (222, .iconst 0, 1), (223, .ireturn, 1)]], 1, some .boolean, false)
def yRd_takePath : AY := (11, 1, [[(0, .aload_n 0, 1), (1, .getfield 12, 3), (4, .iconst 0, 1), (5, .invokevirtual 140, 3), (8, .aload_n 0, 1), (9, .aload_n 0, 1), (10, .getfield 12, 3), (13, .aload_n 0, 1), (14, .getfield 25, 3)], [(17, .sipush 345, 3), (20, .iadd, 1), (21, .sipush 155, 3), (24, .invokevirtual 144, 3), (27, .istore_n 2, 1), (28, .aload_n 0, 1), (29, .getfield 12, 3)], [(32, .getfield 148, 3), (35, .ifCond .le 14, 3), (38, .aload_n 0, 1), (39, .getfield 12, 3), (42, .ldc2_w 150, 3), (45, .iconst 1, 1), (46, .invokevirtual 152, 3)], [(49, .aload_n 0, 1), (50, .aload_n 0, 1), (51, .getfield 12, 3), (54, .aload_n 0, 1), (55, .getfield 25, 3), (58, .iconst 0, 1), (59, .iadd, 1), (60, .bipush 100, 2), (62, .invokevirtual 144, 3)], [(65, .ifCond .eq 11, 3), (68, .iload_n 2, 1), (69, .ifCond .eq 7, 3), (72, .iconst 1, 1), (73, .goto 4, 3), (76, .iconst 0, 1), (77, .istore_n 2, 1), (78, .aload_n 0, 1), (79, .getfield 12, 3)], [(82, .aload_n 0, 1), (83, .getfield 12, 3), (86, .getfield 148, 3), (89, .iconst 1, 1), (90, .isub, 1), (91, .invokevirtual 132, 3), (94, .bipush 47, 2)], [(96, .if_icmp .ne 7, 3), (99, .iconst 1, 1), (100, .goto 4, 3), (103, .iconst 0, 1), (104, .istore_n 3, 1), (105, .iload_n 2, 1), (106, .ifCond .eq 19, 3), (109, .iload_n 3, 1), (110, .aload_n 0, 1), (111, .getfield 41, 3)], [(114, .ifCond .ne 7, 3), (117, .iconst 1, 1), (118, .goto 4, 3), (121, .iconst 0, 1), (122, .if_icmp .eq 5, 3), (125, .iconst 0, 1), (126, .ireturn, 1), (127, .aload_n 0, 1)], [(128, .iload_n 3, 1), (129, .ifCond .eq 15, 3), (132, .aload_n 0, 1), (133, .getfield 12, 3), (136, .getfield 148, 3), (139, .iconst 1, 1), (140, .isub, 1), (141, .goto 10, 3)], [(144, .aload_n 0, 1), (145, .getfield 12, 3), (148, .getfield 148, 3), (151, .putfield 50, 3), (154, .aload_n 0, 1), (155, .getfield 12, 3), (158, .aload_n 0, 1), (159, .getfield 50, 3)], [(162, .invokevirtual 156, 3), (165, .istore 4, 2), (167, .aload_n 0, 1), (168, .iload 4, 2), (170, .iconst 1, 1), (171, .iadd, 1), (172, .putfield 47, 3), (175, .aload_n 0, 1)], [(176, .iload 4, 2), (178, .iconst (-1), 1), (179, .if_icmp .ne 7, 3), (182, .iconst 0, 1), (183, .goto 13, 3), (186, .aload_n 1, 1), (187, .aload_n 0, 1), (188, .getfield 12, 3), (191, .iload 4, 2)], [(193, .invokevirtual 159, 3), (196, .putfield 44, 3), (199, .aload_n 0, 1), (200, .getfield 12, 3), (203, .aload_n 0, 1), (204, .getfield 47, 3), (207, .aload_n 0, 1)], [(208, .getfield 50, 3), (211, .invokevirtual 163, 3), (214, .ifCond .eq 57, 3), (217, .aload_n 0, 1), (218, .getfield 50, 3), (221, .aload_n 0, 1), (222, .getfield 47, 3)], [(225, .isub, 1), (226, .bipush 100, 2), (228, .if_icmp .gt 43, 3), (231, .aload_n 1, 1), (232, .aload_n 0, 1), (233, .getfield 44, 3), (236, .iconst 0, 1), (237, .invokevirtual 166, 3)], [(240, .ifCond .eq 31, 3), (243, .aload_n 1, 1), (244, .aload_n 0, 1), (245, .getfield 44, 3), (248, .aload_n 0, 1), (249, .getfield 12, 3), (252, .aload_n 0, 1), (253, .getfield 47, 3)], [(256, .aload_n 0, 1), (257, .getfield 50, 3), (260, .invokevirtual 169, 3), (263, .iconst (-1), 1), (264, .if_icmp .ne 7, 3), (267, .iconst 1, 1), (268, .goto 4, 3), (271, .iconst 0, 1)], [(272, .ireturn, 1)]], 5, some .boolean, false)
def yRd_takeTarget : AY := (12, 1, [[(0, .aload_n 0, 1), (1, .getfield 18, 3), (4, .iconst 0, 1), (5, .invokevirtual 140, 3), (8, .aload_n 0, 1), (9, .iconst (-1), 1), (10, .putfield 53, 3), (13, .aload_n 0, 1), (14, .aload_n 0, 1), (15, .getfield 18, 3)], [(18, .aload_n 0, 1), (19, .getfield 25, 3), (22, .sipush 157, 3), (25, .iadd, 1), (26, .bipush 100, 2), (28, .invokevirtual 144, 3), (31, .ifCond .ne 5, 3)], [(34, .iconst 0, 1), (35, .ireturn, 1), (36, .aload_n 0, 1), (37, .getfield 41, 3), (40, .iconst 2, 1), (41, .if_icmp .ne 11, 3), (44, .aload_n 0, 1), (45, .getfield 18, 3)], [(48, .invokevirtual 173, 3), (51, .ireturn, 1), (52, .aload_n 0, 1), (53, .getfield 41, 3), (56, .iconst 3, 1), (57, .if_icmp .ne 32, 3), (60, .aload_n 0, 1), (61, .aload_n 1, 1), (62, .aload_n 0, 1), (63, .getfield 18, 3)], [(66, .aload_n 0, 1), (67, .getfield 18, 3), (70, .getfield 148, 3), (73, .invokevirtual 159, 3), (76, .putfield 53, 3), (79, .aload_n 1, 1)], [(80, .aload_n 0, 1), (81, .getfield 53, 3), (84, .iconst 1, 1), (85, .invokevirtual 166, 3), (88, .ireturn, 1), (89, .aload_n 0, 1), (90, .getfield 18, 3), (93, .getfield 148, 3)], [(96, .ifCond .ne 7, 3), (99, .iconst 1, 1), (100, .goto 4, 3), (103, .iconst 0, 1), (104, .ireturn, 1)]], 2, some .boolean, false)
def yRd_takeTree : AY := (13, 1, [[(0, .aload_n 1, 1), (1, .invokevirtual 60, 3), (4, .aload_n 0, 1), (5, .iconst 0, 1), (6, .putfield 21, 3), (9, .iconst 0, 1), (10, .istore_n 2, 1), (11, .iload_n 2, 1), (12, .bipush 20, 2), (14, .if_icmp .gt 62, 3)], [(17, .aload_n 0, 1), (18, .getfield 56, 3), (21, .aload_n 0, 1), (22, .getfield 21, 3), (25, .invokevirtual 65, 3), (28, .ifCond .eq 24, 3), (31, .aload_n 0, 1)], [(32, .getfield 56, 3), (35, .aload_n 0, 1), (36, .getfield 21, 3), (39, .iconst 1, 1), (40, .iadd, 1), (41, .invokevirtual 65, 3), (44, .ifCond .eq 8, 3), (47, .aload_n 1, 1)], [(48, .getfield 71, 3), (51, .ireturn, 1), (52, .aload_n 0, 1), (53, .aload_n 1, 1), (54, .invokevirtual 74, 3), (57, .istore_n 3, 1), (58, .iload_n 3, 1), (59, .ifCond .eq 6, 3), (62, .iload_n 3, 1), (63, .ineg, 1)], [(64, .ireturn, 1), (65, .aload_n 0, 1), (66, .aload_n 1, 1), (67, .invokevirtual 78, 3), (70, .iinc 2 1, 3), (73, .goto (-62), 3), (76, .iconst (-1), 1), (77, .ireturn, 1)]], 4, some .int, false)
def yRw_init : AY := (14, 2, [[(0, .aload_n 0, 1), (1, .invokespecial 3, 3), (4, .aload_n 0, 1), (5, .bipush 16, 2), (7, .newarray .byte, 2), (9, .putfield 11, 3), (12, .aload_n 0, 1), (13, .iconst 0, 1), (14, .putfield 15, 3)], [(17, .return_, 1)]], 1, none, true)
def yRw_addLetters : AY := (15, 2, [[(0, .aload_n 0, 1), (1, .getfield 15, 3), (4, .istore 4, 2), (6, .aload_n 0, 1), (7, .iload 4, 2), (9, .iload_n 3, 1), (10, .iadd, 1), (11, .invokevirtual 34, 3), (14, .iconst 0, 1), (15, .istore 5, 2)], [(17, .iload 5, 2), (19, .iload_n 3, 1), (20, .if_icmp .ge 33, 3), (23, .iload 5, 2), (25, .bipush 8, 2), (27, .if_icmp .ge 26, 3), (30, .aload_n 0, 1), (31, .iload 4, 2)], [(33, .iload 5, 2), (35, .iadd, 1), (36, .lload_n 1, 1), (37, .bipush 8, 2), (39, .iload 5, 2), (41, .imul, 1), (42, .lushr, 1), (43, .l2i, 1), (44, .invokevirtual 38, 3), (47, .iinc 5 1, 3)], [(50, .goto (-33), 3), (53, .return_, 1)]], 6, none, false)
def yRw_at : AY := (16, 2, [[(0, .iload_n 1, 1), (1, .ifCond .lt 24, 3), (4, .iload_n 1, 1), (5, .aload_n 0, 1), (6, .getfield 15, 3), (9, .if_icmp .ge 16, 3), (12, .aload_n 0, 1), (13, .getfield 11, 3)], [(16, .iload_n 1, 1), (17, .baload, 1), (18, .sipush 255, 3), (21, .iand, 1), (22, .goto 4, 3), (25, .iconst (-1), 1), (26, .ireturn, 1)]], 2, some .int, false)
def yRw_copySlice : AY := (17, 2, [[(0, .aload_n 0, 1), (1, .iload_n 3, 1), (2, .iload_n 2, 1), (3, .isub, 1), (4, .invokevirtual 34, 3), (7, .iconst 0, 1), (8, .istore 4, 2), (10, .iload 4, 2), (12, .aload_n 0, 1), (13, .getfield 15, 3)], [(16, .if_icmp .ge 23, 3), (19, .aload_n 0, 1), (20, .iload 4, 2), (22, .aload_n 1, 1), (23, .iload_n 2, 1), (24, .iload 4, 2), (26, .iadd, 1), (27, .invokevirtual 42, 3), (30, .invokevirtual 38, 3)], [(33, .iinc 4 1, 3), (36, .goto (-26), 3), (39, .return_, 1)]], 5, none, false)
def yRw_isNameOfAnyLength : AY := (18, 2, [[(0, .iconst 1, 1), (1, .istore_n 3, 1), (2, .iload_n 1, 1), (3, .istore 4, 2), (5, .iload 4, 2), (7, .iload_n 2, 1), (8, .if_icmp .ge 57, 3), (11, .aload_n 0, 1), (12, .iload 4, 2), (14, .invokevirtual 42, 3)], [(17, .istore 5, 2), (19, .iload 5, 2), (21, .bipush 33, 2), (23, .if_icmp .lt 17, 3), (26, .iload 5, 2), (28, .bipush 126, 2), (30, .if_icmp .gt 10, 3)], [(33, .iload 5, 2), (35, .bipush 47, 2), (37, .if_icmp .ne 5, 3), (40, .iconst 0, 1), (41, .ireturn, 1), (42, .iload_n 3, 1), (43, .ifCond .eq 14, 3), (46, .iload 5, 2)], [(48, .bipush 46, 2), (50, .if_icmp .ne 7, 3), (53, .iconst 1, 1), (54, .goto 4, 3), (57, .iconst 0, 1), (58, .istore_n 3, 1), (59, .iinc 4 1, 3), (62, .goto (-57), 3)], [(65, .iload_n 2, 1), (66, .iload_n 1, 1), (67, .if_icmp .le 18, 3), (70, .iload_n 3, 1), (71, .ifCond .eq 10, 3), (74, .iload_n 2, 1), (75, .iload_n 1, 1), (76, .isub, 1), (77, .iconst 2, 1), (78, .if_icmp .le 7, 3)], [(81, .iconst 1, 1), (82, .goto 4, 3), (85, .iconst 0, 1), (86, .ireturn, 1)]], 6, some .boolean, false)
def yRw_isSlice : AY := (19, 2, [[(0, .iload_n 2, 1), (1, .ifCond .lt 21, 3), (4, .iload_n 3, 1), (5, .aload_n 1, 1), (6, .getfield 15, 3), (9, .if_icmp .gt 13, 3), (12, .aload_n 0, 1), (13, .getfield 15, 3)], [(16, .iload_n 3, 1), (17, .iload_n 2, 1), (18, .isub, 1), (19, .if_icmp .eq 5, 3), (22, .iconst 0, 1), (23, .ireturn, 1), (24, .iconst 0, 1), (25, .istore 4, 2), (27, .iload 4, 2), (29, .aload_n 0, 1), (30, .getfield 15, 3)], [(33, .if_icmp .ge 30, 3), (36, .aload_n 0, 1), (37, .getfield 11, 3), (40, .iload 4, 2), (42, .baload, 1), (43, .aload_n 1, 1), (44, .getfield 11, 3), (47, .iload_n 2, 1)], [(48, .iload 4, 2), (50, .iadd, 1), (51, .baload, 1), (52, .if_icmp .eq 5, 3), (55, .iconst 0, 1), (56, .ireturn, 1), (57, .iinc 4 1, 3), (60, .goto (-33), 3), (63, .iconst 1, 1)], [(64, .ireturn, 1)]], 5, some .boolean, false)
def yRw_isTarget : AY := (20, 2, [[(0, .iconst 0, 1), (1, .istore_n 1, 1), (2, .iload_n 1, 1), (3, .aload_n 0, 1), (4, .getfield 15, 3), (7, .if_icmp .ge 31, 3), (10, .aload_n 0, 1), (11, .iload_n 1, 1), (12, .invokevirtual 42, 3), (15, .bipush 33, 2)], [(17, .if_icmp .lt 13, 3), (20, .aload_n 0, 1), (21, .iload_n 1, 1), (22, .invokevirtual 42, 3), (25, .bipush 126, 2), (27, .if_icmp .le 5, 3), (30, .iconst 0, 1), (31, .ireturn, 1)], [(32, .iinc 1 1, 3), (35, .goto (-33), 3), (38, .iconst 1, 1), (39, .ireturn, 1)]], 2, some .boolean, false)
def yRw_lastSlash : AY := (21, 2, [[(0, .iload_n 1, 1), (1, .iconst 1, 1), (2, .isub, 1), (3, .istore_n 2, 1), (4, .iload_n 2, 1), (5, .ifCond .lt 21, 3), (8, .aload_n 0, 1), (9, .iload_n 2, 1), (10, .invokevirtual 42, 3), (13, .bipush 47, 2), (15, .if_icmp .ne 5, 3)], [(18, .iload_n 2, 1), (19, .ireturn, 1), (20, .iinc 2 (-1), 3), (23, .goto (-19), 3), (26, .iconst (-1), 1), (27, .ireturn, 1)]], 3, some .int, false)
def yRw_order : AY := (22, 2, [[(0, .aload_n 0, 1), (1, .getfield 15, 3), (4, .aload_n 1, 1), (5, .getfield 15, 3), (8, .invokestatic 19, 3), (11, .istore_n 2, 1), (12, .iconst 0, 1), (13, .istore_n 3, 1), (14, .iload_n 3, 1), (15, .iload_n 2, 1)], [(16, .if_icmp .ge 34, 3), (19, .aload_n 0, 1), (20, .iload_n 3, 1), (21, .invokevirtual 42, 3), (24, .aload_n 1, 1), (25, .iload_n 3, 1), (26, .invokevirtual 42, 3), (29, .if_icmp .eq 15, 3)], [(32, .aload_n 0, 1), (33, .iload_n 3, 1), (34, .invokevirtual 42, 3), (37, .aload_n 1, 1), (38, .iload_n 3, 1), (39, .invokevirtual 42, 3), (42, .isub, 1), (43, .ireturn, 1), (44, .iinc 3 1, 3), (47, .goto (-33), 3)], [(50, .aload_n 0, 1), (51, .getfield 15, 3), (54, .aload_n 1, 1), (55, .getfield 15, 3), (58, .isub, 1), (59, .ireturn, 1)]], 4, some .int, false)
def yRw_put : AY := (23, 2, [[(0, .iload_n 1, 1), (1, .ifCond .lt 19, 3), (4, .iload_n 1, 1), (5, .aload_n 0, 1), (6, .getfield 15, 3), (9, .if_icmp .ge 11, 3), (12, .aload_n 0, 1), (13, .getfield 11, 3)], [(16, .iload_n 1, 1), (17, .iload_n 2, 1), (18, .i2b, 1), (19, .bastore, 1), (20, .return_, 1)]], 3, none, false)
def yRw_putAll : AY := (24, 2, [[(0, .iconst 0, 1), (1, .istore_n 3, 1), (2, .iload_n 3, 1), (3, .aload_n 2, 1), (4, .getfield 15, 3), (7, .if_icmp .ge 21, 3), (10, .aload_n 0, 1), (11, .iload_n 1, 1), (12, .iload_n 3, 1), (13, .iadd, 1), (14, .aload_n 2, 1), (15, .iload_n 3, 1)], [(16, .invokevirtual 42, 3), (19, .invokevirtual 38, 3), (22, .iinc 3 1, 3), (25, .goto (-23), 3), (28, .return_, 1)]], 4, none, false)
def yRw_resize : AY := (25, 2, [[(0, .iconst 0, 1), (1, .iload_n 1, 1), (2, .sipush 10240, 3), (5, .invokestatic 19, 3), (8, .invokestatic 25, 3), (11, .istore_n 2, 1), (12, .iload_n 2, 1), (13, .aload_n 0, 1), (14, .getfield 11, 3)], [(17, .arraylength, 1), (18, .if_icmp .le 43, 3), (21, .aload_n 0, 1), (22, .aload_n 0, 1), (23, .getfield 11, 3), (26, .iload_n 2, 1), (27, .sipush 128, 3), (30, .if_icmp .gt 9, 3)], [(33, .sipush 128, 3), (36, .goto 19, 3), (39, .iload_n 2, 1), (40, .sipush 2048, 3), (43, .if_icmp .gt 9, 3), (46, .sipush 2048, 3)], [(49, .goto 6, 3), (52, .sipush 10240, 3), (55, .invokestatic 28, 3), (58, .putfield 11, 3), (61, .aload_n 0, 1), (62, .getfield 15, 3)], [(65, .istore_n 3, 1), (66, .iload_n 3, 1), (67, .iload_n 2, 1), (68, .if_icmp .ge 16, 3), (71, .aload_n 0, 1), (72, .getfield 11, 3), (75, .iload_n 3, 1), (76, .iconst 0, 1), (77, .bastore, 1), (78, .iinc 3 1, 3)], [(81, .goto (-15), 3), (84, .aload_n 0, 1), (85, .iload_n 2, 1), (86, .putfield 15, 3), (89, .return_, 1)]], 4, none, false)
def yTp_init : AY := (26, 3, [[(0, .aload_n 0, 1), (1, .invokespecial 3, 3), (4, .aload_n 0, 1), (5, .new 9, 3), (8, .dup, 1), (9, .invokespecial 11, 3), (12, .putfield 12, 3), (15, .return_, 1)]], 1, none, true)
def yTp_blocksOf : AY := (27, 3, [[(0, .iload_n 0, 1), (1, .sipush 512, 3), (4, .iadd, 1), (5, .iconst 1, 1), (6, .isub, 1), (7, .sipush 512, 3), (10, .idiv, 1), (11, .ireturn, 1)]], 1, some .int, false)
def yTp_hasCheck : AY := (28, 3, [[(0, .aload_n 0, 1), (1, .iload_n 1, 1), (2, .sipush 512, 3), (5, .imul, 1), (6, .sipush 148, 3), (9, .iadd, 1), (10, .bipush 6, 2), (12, .invokevirtual 53, 3), (15, .aload_n 0, 1)], [(16, .iload_n 1, 1), (17, .invokevirtual 46, 3), (20, .i2l, 1), (21, .lcmp, 1), (22, .ifCond .ne 30, 3), (25, .aload_n 0, 1), (26, .getfield 12, 3), (29, .iload_n 1, 1), (30, .sipush 512, 3)], [(33, .imul, 1), (34, .sipush 156, 3), (37, .iadd, 1), (38, .iconst 1, 1), (39, .isub, 1), (40, .invokevirtual 22, 3), (43, .bipush 32, 2), (45, .if_icmp .ne 7, 3)], [(48, .iconst 1, 1), (49, .goto 4, 3), (52, .iconst 0, 1), (53, .ireturn, 1)]], 2, some .boolean, false)
def yTp_hasMark : AY := (29, 3, [[(0, .iconst 0, 1), (1, .istore_n 2, 1), (2, .iload_n 2, 1), (3, .getstatic 42, 3), (6, .arraylength, 1), (7, .if_icmp .ge 29, 3), (10, .aload_n 0, 1), (11, .getfield 12, 3), (14, .iload_n 1, 1), (15, .iload_n 2, 1)], [(16, .iadd, 1), (17, .invokevirtual 22, 3), (20, .getstatic 42, 3), (23, .iload_n 2, 1), (24, .baload, 1), (25, .if_icmp .eq 5, 3), (28, .iconst 0, 1), (29, .ireturn, 1), (30, .iinc 2 1, 3)], [(33, .goto (-31), 3), (36, .iconst 1, 1), (37, .ireturn, 1)]], 3, some .boolean, false)
def yTp_isBlockOfZeros : AY := (30, 3, [[(0, .iload_n 1, 1), (1, .aload_n 0, 1), (2, .invokevirtual 26, 3), (5, .if_icmp .ge 28, 3), (8, .aload_n 0, 1), (9, .iload_n 1, 1), (10, .sipush 512, 3), (13, .imul, 1), (14, .iload_n 1, 1), (15, .sipush 512, 3)], [(18, .imul, 1), (19, .sipush 512, 3), (22, .iadd, 1), (23, .invokevirtual 30, 3), (26, .ifCond .eq 7, 3), (29, .iconst 1, 1), (30, .goto 4, 3)], [(33, .iconst 0, 1), (34, .ireturn, 1)]], 2, some .boolean, false)
def yTp_isZeros : AY := (31, 3, [[(0, .iload_n 1, 1), (1, .istore_n 3, 1), (2, .iload_n 3, 1), (3, .iload_n 2, 1), (4, .if_icmp .ge 22, 3), (7, .aload_n 0, 1), (8, .getfield 12, 3), (11, .iload_n 3, 1), (12, .invokevirtual 22, 3), (15, .ifCond .eq 5, 3)], [(18, .iconst 0, 1), (19, .ireturn, 1), (20, .iinc 3 1, 3), (23, .goto (-21), 3), (26, .iconst 1, 1), (27, .ireturn, 1)]], 4, some .boolean, false)
def yTp_octal : AY := (32, 3, [[(0, .lconst 0, 1), (1, .lstore_n 3, 1), (2, .iconst 0, 1), (3, .istore 5, 2), (5, .iload 5, 2), (7, .iload_n 2, 1), (8, .if_icmp .ge 53, 3), (11, .aload_n 0, 1), (12, .getfield 12, 3), (15, .iload_n 1, 1)], [(16, .iload 5, 2), (18, .iadd, 1), (19, .invokevirtual 22, 3), (22, .istore 6, 2), (24, .iload 6, 2), (26, .bipush 48, 2), (28, .if_icmp .lt 10, 3), (31, .iload 6, 2)], [(33, .bipush 55, 2), (35, .if_icmp .le 7, 3), (38, .ldc2_w 38, 3), (41, .lreturn, 1), (42, .lload_n 3, 1), (43, .ldc2_w 40, 3), (46, .lmul, 1), (47, .iload 6, 2)], [(49, .bipush 48, 2), (51, .isub, 1), (52, .i2l, 1), (53, .ladd, 1), (54, .lstore_n 3, 1), (55, .iinc 5 1, 3), (58, .goto (-53), 3), (61, .aload_n 0, 1), (62, .getfield 12, 3)], [(65, .iload_n 1, 1), (66, .iload_n 2, 1), (67, .iadd, 1), (68, .invokevirtual 22, 3), (71, .ifCond .ne 7, 3), (74, .lload_n 3, 1), (75, .goto 6, 3), (78, .ldc2_w 38, 3)], [(81, .lreturn, 1)]], 7, some .long, false)
def yTp_putCheck : AY := (33, 3, [[(0, .aload_n 0, 1), (1, .iload_n 1, 1), (2, .invokevirtual 46, 3), (5, .istore_n 2, 1), (6, .aload_n 0, 1), (7, .iload_n 1, 1), (8, .sipush 512, 3), (11, .imul, 1), (12, .sipush 148, 3), (15, .iadd, 1)], [(16, .bipush 6, 2), (18, .iload_n 2, 1), (19, .invokevirtual 49, 3), (22, .aload_n 0, 1), (23, .getfield 12, 3), (26, .iload_n 1, 1), (27, .sipush 512, 3), (30, .imul, 1), (31, .sipush 156, 3)], [(34, .iadd, 1), (35, .iconst 1, 1), (36, .isub, 1), (37, .bipush 32, 2), (39, .invokevirtual 34, 3), (42, .iload_n 2, 1), (43, .ireturn, 1)]], 3, some .int, false)
def yTp_putMark : AY := (34, 3, [[(0, .iconst 0, 1), (1, .istore_n 2, 1), (2, .iload_n 2, 1), (3, .getstatic 42, 3), (6, .arraylength, 1), (7, .if_icmp .ge 24, 3), (10, .aload_n 0, 1), (11, .getfield 12, 3), (14, .iload_n 1, 1), (15, .iload_n 2, 1)], [(16, .iadd, 1), (17, .getstatic 42, 3), (20, .iload_n 2, 1), (21, .baload, 1), (22, .invokevirtual 34, 3), (25, .iinc 2 1, 3), (28, .goto (-26), 3), (31, .return_, 1)]], 3, none, false)
def yTp_putOctal : AY := (35, 3, [[(0, .iload_n 3, 1), (1, .istore 4, 2), (3, .iload_n 2, 1), (4, .iconst 1, 1), (5, .isub, 1), (6, .istore 5, 2), (8, .iload 5, 2), (10, .ifCond .lt 34, 3), (13, .aload_n 0, 1), (14, .getfield 12, 3)], [(17, .iload_n 1, 1), (18, .iload 5, 2), (20, .iadd, 1), (21, .bipush 48, 2), (23, .iload 4, 2), (25, .bipush 7, 2), (27, .iand, 1), (28, .iadd, 1), (29, .invokevirtual 34, 3)], [(32, .iload 4, 2), (34, .iconst 3, 1), (35, .iushr, 1), (36, .istore 4, 2), (38, .iinc 5 (-1), 3), (41, .goto (-33), 3), (44, .aload_n 0, 1), (45, .getfield 12, 3)], [(48, .iload_n 1, 1), (49, .iload_n 2, 1), (50, .iadd, 1), (51, .iconst 0, 1), (52, .invokevirtual 34, 3), (55, .return_, 1)]], 6, none, false)
def yTp_sum : AY := (36, 3, [[(0, .iconst 0, 1), (1, .istore_n 2, 1), (2, .iconst 0, 1), (3, .istore_n 3, 1), (4, .iload_n 3, 1), (5, .sipush 512, 3), (8, .if_icmp .ge 45, 3), (11, .iload_n 2, 1), (12, .iload_n 3, 1), (13, .sipush 148, 3)], [(16, .if_icmp .lt 15, 3), (19, .iload_n 3, 1), (20, .sipush 156, 3), (23, .if_icmp .ge 8, 3), (26, .bipush 32, 2), (28, .goto 17, 3), (31, .aload_n 0, 1)], [(32, .getfield 12, 3), (35, .iload_n 1, 1), (36, .sipush 512, 3), (39, .imul, 1), (40, .iload_n 3, 1), (41, .iadd, 1), (42, .invokevirtual 22, 3), (45, .iadd, 1), (46, .istore_n 2, 1), (47, .iinc 3 1, 3)], [(50, .goto (-46), 3), (53, .iload_n 2, 1), (54, .ireturn, 1)]], 4, some .int, false)
def yTp_wholeBlocks : AY := (37, 3, [[(0, .aload_n 0, 1), (1, .getfield 12, 3), (4, .getfield 18, 3), (7, .sipush 512, 3), (10, .idiv, 1), (11, .ireturn, 1)]], 1, some .int, false)
def yTr_init : AY := (38, 4, [[(0, .aload_n 0, 1), (1, .invokespecial 3, 3), (4, .aload_n 0, 1), (5, .bipush 30, 2), (7, .anewarray 9, 3), (10, .putfield 11, 3), (13, .aload_n 0, 1), (14, .iconst 1, 1), (15, .putfield 17, 3)], [(18, .aload_n 0, 1), (19, .bipush 30, 2), (21, .newarray .int, 2), (23, .putfield 21, 3), (26, .iconst 0, 1), (27, .istore_n 1, 1), (28, .iload_n 1, 1), (29, .bipush 30, 2), (31, .if_icmp .ge 22, 3)], [(34, .aload_n 0, 1), (35, .getfield 11, 3), (38, .iload_n 1, 1), (39, .new 9, 3), (42, .dup, 1), (43, .invokespecial 25, 3), (46, .aastore, 1), (47, .iinc 1 1, 3)], [(50, .goto (-22), 3), (53, .return_, 1)]], 2, none, true)
def yTr_add : AY := (39, 4, [[(0, .aload_n 0, 1), (1, .getfield 17, 3), (4, .bipush 30, 2), (6, .if_icmp .lt 5, 3), (9, .iconst (-1), 1), (10, .ireturn, 1), (11, .aload_n 0, 1), (12, .getfield 11, 3), (15, .aload_n 0, 1)], [(16, .getfield 17, 3), (19, .aaload, 1), (20, .iload_n 2, 1), (21, .iload_n 1, 1), (22, .iload_n 3, 1), (23, .invokevirtual 26, 3), (26, .aload_n 0, 1), (27, .getfield 11, 3), (30, .aload_n 0, 1), (31, .getfield 17, 3)], [(34, .aaload, 1), (35, .getfield 36, 3), (38, .aload 4, 2), (40, .iload 5, 2), (42, .iload 6, 2), (44, .invokevirtual 54, 3), (47, .aload_n 0, 1)], [(48, .dup, 1), (49, .getfield 17, 3), (52, .iconst 1, 1), (53, .iadd, 1), (54, .putfield 17, 3), (57, .aload_n 0, 1), (58, .getfield 17, 3), (61, .iconst 1, 1), (62, .isub, 1), (63, .ireturn, 1)]], 7, some .int, false)
def yTr_childNamed : AY := (40, 4, [[(0, .iconst 1, 1), (1, .istore 5, 2), (3, .iload 5, 2), (5, .aload_n 0, 1), (6, .getfield 17, 3), (9, .if_icmp .ge 46, 3), (12, .aload_n 0, 1), (13, .getfield 11, 3)], [(16, .iload 5, 2), (18, .aaload, 1), (19, .getfield 33, 3), (22, .iload_n 1, 1), (23, .if_icmp .ne 26, 3), (26, .aload_n 0, 1), (27, .getfield 11, 3), (30, .iload 5, 2)], [(32, .aaload, 1), (33, .getfield 36, 3), (36, .aload_n 2, 1), (37, .iload_n 3, 1), (38, .iload 4, 2), (40, .invokevirtual 40, 3), (43, .ifCond .eq 6, 3), (46, .iload 5, 2)], [(48, .ireturn, 1), (49, .iinc 5 1, 3), (52, .goto (-49), 3), (55, .iconst (-1), 1), (56, .ireturn, 1)]], 6, some .int, false)
def yTr_clear : AY := (41, 4, [[(0, .aload_n 0, 1), (1, .getfield 11, 3), (4, .iconst 0, 1), (5, .aaload, 1), (6, .iconst 0, 1), (7, .iconst (-1), 1), (8, .iconst (-1), 1), (9, .invokevirtual 26, 3), (12, .aload_n 0, 1), (13, .iconst 1, 1), (14, .putfield 17, 3)], [(17, .return_, 1)]], 1, none, false)
def yTr_closeGaps : AY := (42, 4, [[(0, .iconst 1, 1), (1, .istore_n 1, 1), (2, .iload_n 1, 1), (3, .aload_n 0, 1), (4, .getfield 17, 3), (7, .if_icmp .ge 50, 3), (10, .aload_n 0, 1), (11, .getfield 21, 3), (14, .iload_n 1, 1), (15, .iaload, 1)], [(16, .istore_n 2, 1), (17, .aload_n 0, 1), (18, .iload_n 2, 1), (19, .invokevirtual 71, 3), (22, .ifCond .eq 29, 3), (25, .aload_n 0, 1), (26, .getfield 11, 3), (29, .iload_n 1, 1), (30, .aaload, 1), (31, .astore_n 3, 1)], [(32, .aload_n 0, 1), (33, .getfield 11, 3), (36, .iload_n 1, 1), (37, .aload_n 0, 1), (38, .getfield 11, 3), (41, .iload_n 2, 1), (42, .aaload, 1), (43, .aastore, 1), (44, .aload_n 0, 1), (45, .getfield 11, 3)], [(48, .iload_n 2, 1), (49, .aload_n 3, 1), (50, .aastore, 1), (51, .iinc 1 1, 3), (54, .goto (-52), 3), (57, .return_, 1)]], 4, none, false)
def yTr_comesBehind : AY := (43, 4, [[(0, .aload_n 0, 1), (1, .iload_n 2, 1), (2, .invokevirtual 71, 3), (5, .ifCond .eq 35, 3), (8, .aload_n 0, 1), (9, .iload_n 1, 1), (10, .invokevirtual 71, 3), (13, .ifCond .eq 31, 3)], [(16, .aload_n 0, 1), (17, .getfield 11, 3), (20, .iload_n 1, 1), (21, .aaload, 1), (22, .getfield 36, 3), (25, .aload_n 0, 1), (26, .getfield 11, 3), (29, .iload_n 2, 1), (30, .aaload, 1), (31, .getfield 36, 3)], [(34, .invokevirtual 108, 3), (37, .ifCond .le 7, 3), (40, .iconst 1, 1), (41, .goto 4, 3), (44, .iconst 0, 1), (45, .ireturn, 1)]], 3, some .boolean, false)
def yTr_drop : AY := (44, 4, [[(0, .iconst 1, 1), (1, .istore_n 2, 1), (2, .aload_n 0, 1), (3, .getfield 21, 3), (6, .iconst 0, 1), (7, .iconst 0, 1), (8, .iastore, 1), (9, .iconst 1, 1), (10, .istore_n 3, 1), (11, .iload_n 3, 1), (12, .aload_n 0, 1), (13, .getfield 17, 3)], [(16, .if_icmp .ge 66, 3), (19, .iload_n 3, 1), (20, .iload_n 1, 1), (21, .if_icmp .eq 35, 3), (24, .aload_n 0, 1), (25, .aload_n 0, 1), (26, .getfield 11, 3), (29, .iload_n 3, 1), (30, .aaload, 1), (31, .getfield 33, 3)], [(34, .invokevirtual 58, 3), (37, .ifCond .ne 19, 3), (40, .aload_n 0, 1), (41, .aload_n 0, 1), (42, .getfield 11, 3), (45, .iload_n 3, 1), (46, .aaload, 1), (47, .getfield 62, 3)], [(50, .invokevirtual 58, 3), (53, .ifCond .eq 13, 3), (56, .aload_n 0, 1), (57, .getfield 21, 3), (60, .iload_n 3, 1), (61, .iconst (-1), 1), (62, .iastore, 1), (63, .goto 13, 3)], [(66, .aload_n 0, 1), (67, .getfield 21, 3), (70, .iload_n 3, 1), (71, .iload_n 2, 1), (72, .iastore, 1), (73, .iinc 2 1, 3), (76, .iinc 3 1, 3), (79, .goto (-68), 3)], [(82, .aload_n 0, 1), (83, .getfield 17, 3), (86, .iload_n 2, 1), (87, .isub, 1), (88, .istore_n 3, 1), (89, .iconst 1, 1), (90, .istore 4, 2), (92, .iload 4, 2), (94, .aload_n 0, 1), (95, .getfield 17, 3)], [(98, .if_icmp .ge 57, 3), (101, .aload_n 0, 1), (102, .getfield 11, 3), (105, .iload 4, 2), (107, .aaload, 1), (108, .aload_n 0, 1), (109, .aload_n 0, 1), (110, .getfield 11, 3)], [(113, .iload 4, 2), (115, .aaload, 1), (116, .getfield 33, 3), (119, .invokevirtual 65, 3), (122, .putfield 33, 3), (125, .aload_n 0, 1), (126, .getfield 11, 3)], [(129, .iload 4, 2), (131, .aaload, 1), (132, .aload_n 0, 1), (133, .aload_n 0, 1), (134, .getfield 11, 3), (137, .iload 4, 2), (139, .aaload, 1), (140, .getfield 62, 3), (143, .invokevirtual 65, 3)], [(146, .putfield 62, 3), (149, .iinc 4 1, 3), (152, .goto (-60), 3), (155, .aload_n 0, 1), (156, .invokevirtual 68, 3), (159, .aload_n 0, 1)], [(160, .iload_n 2, 1), (161, .putfield 17, 3), (164, .iload_n 3, 1), (165, .ireturn, 1)]], 5, some .int, false)
def yTr_follower : AY := (45, 4, [[(0, .aload_n 0, 1), (1, .iload_n 1, 1), (2, .iconst (-1), 1), (3, .invokevirtual 102, 3), (6, .istore_n 2, 1), (7, .iload_n 1, 1), (8, .istore_n 3, 1), (9, .iconst 0, 1), (10, .istore 4, 2), (12, .iload 4, 2), (14, .bipush 30, 2)], [(16, .if_icmp .ge 48, 3), (19, .iload_n 2, 1), (20, .iconst (-1), 1), (21, .if_icmp .ne 43, 3), (24, .iload_n 3, 1), (25, .ifCond .le 39, 3), (28, .aload_n 0, 1), (29, .iload_n 3, 1), (30, .invokevirtual 71, 3)], [(33, .ifCond .eq 31, 3), (36, .aload_n 0, 1), (37, .getfield 11, 3), (40, .iload_n 3, 1), (41, .aaload, 1), (42, .getfield 33, 3), (45, .istore 5, 2), (47, .aload_n 0, 1)], [(48, .iload 5, 2), (50, .iload_n 3, 1), (51, .invokevirtual 102, 3), (54, .istore_n 2, 1), (55, .iload 5, 2), (57, .istore_n 3, 1), (58, .iinc 4 1, 3), (61, .goto (-49), 3)], [(64, .iload_n 2, 1), (65, .ireturn, 1)]], 6, some .int, false)
def yTr_has : AY := (46, 4, [[(0, .iload_n 1, 1), (1, .ifCond .lt 15, 3), (4, .iload_n 1, 1), (5, .aload_n 0, 1), (6, .getfield 17, 3), (9, .if_icmp .ge 7, 3), (12, .iconst 1, 1), (13, .goto 4, 3)], [(16, .iconst 0, 1), (17, .ireturn, 1)]], 2, some .boolean, false)
def yTr_isGone : AY := (47, 4, [[(0, .aload_n 0, 1), (1, .iload_n 1, 1), (2, .invokevirtual 71, 3), (5, .ifCond .eq 17, 3), (8, .aload_n 0, 1), (9, .getfield 21, 3), (12, .iload_n 1, 1), (13, .iaload, 1), (14, .iconst (-1), 1), (15, .if_icmp .ne 7, 3)], [(18, .iconst 1, 1), (19, .goto 4, 3), (22, .iconst 0, 1), (23, .ireturn, 1)]], 2, some .boolean, false)
def yTr_isOfKind : AY := (48, 4, [[(0, .iload_n 1, 1), (1, .ifCond .lt 28, 3), (4, .iload_n 1, 1), (5, .aload_n 0, 1), (6, .getfield 17, 3), (9, .if_icmp .ge 20, 3), (12, .aload_n 0, 1), (13, .getfield 11, 3)], [(16, .iload_n 1, 1), (17, .aaload, 1), (18, .getfield 30, 3), (21, .iload_n 2, 1), (22, .if_icmp .ne 7, 3), (25, .iconst 1, 1), (26, .goto 4, 3), (29, .iconst 0, 1), (30, .ireturn, 1)]], 3, some .boolean, false)
def yTr_longestPath : AY := (49, 4, [[(0, .iconst 0, 1), (1, .istore_n 1, 1), (2, .iconst 1, 1), (3, .istore_n 2, 1), (4, .iload_n 2, 1), (5, .aload_n 0, 1), (6, .getfield 17, 3), (9, .if_icmp .ge 19, 3), (12, .iload_n 1, 1), (13, .aload_n 0, 1), (14, .iload_n 2, 1), (15, .invokevirtual 81, 3)], [(18, .invokestatic 84, 3), (21, .istore_n 1, 1), (22, .iinc 2 1, 3), (25, .goto (-21), 3), (28, .iload_n 1, 1), (29, .ireturn, 1)]], 3, some .int, false)
def yTr_lookUp : AY := (50, 4, [[(0, .iconst 0, 1), (1, .istore_n 3, 1), (2, .iconst 0, 1), (3, .istore 4, 2), (5, .iconst 0, 1), (6, .istore 5, 2), (8, .iload 5, 2), (10, .iload_n 2, 1), (11, .if_icmp .gt 48, 3), (14, .iload_n 3, 1), (15, .iconst (-1), 1)], [(16, .if_icmp .eq 43, 3), (19, .iload 5, 2), (21, .iload_n 2, 1), (22, .if_icmp .eq 14, 3), (25, .aload_n 1, 1), (26, .iload 5, 2), (28, .invokevirtual 46, 3), (31, .bipush 47, 2)], [(33, .if_icmp .ne 20, 3), (36, .aload_n 0, 1), (37, .iload_n 3, 1), (38, .aload_n 1, 1), (39, .iload 4, 2), (41, .iload 5, 2), (43, .invokevirtual 50, 3), (46, .istore_n 3, 1), (47, .iload 5, 2)], [(49, .iconst 1, 1), (50, .iadd, 1), (51, .istore 4, 2), (53, .iinc 5 1, 3), (56, .goto (-48), 3), (59, .iload_n 3, 1), (60, .ireturn, 1)]], 6, some .int, false)
def yTr_newNumber : AY := (51, 4, [[(0, .aload_n 0, 1), (1, .iload_n 1, 1), (2, .invokevirtual 71, 3), (5, .ifCond .eq 12, 3), (8, .aload_n 0, 1), (9, .getfield 21, 3), (12, .iload_n 1, 1), (13, .iaload, 1), (14, .goto 4, 3)], [(17, .iconst (-1), 1), (18, .ireturn, 1)]], 2, some .int, false)
def yTr_nextChild : AY := (52, 4, [[(0, .iconst (-1), 1), (1, .istore_n 3, 1), (2, .iconst 1, 1), (3, .istore 4, 2), (5, .iload 4, 2), (7, .aload_n 0, 1), (8, .getfield 17, 3), (11, .if_icmp .ge 51, 3), (14, .aload_n 0, 1), (15, .getfield 11, 3)], [(18, .iload 4, 2), (20, .aaload, 1), (21, .getfield 33, 3), (24, .iload_n 1, 1), (25, .if_icmp .ne 31, 3), (28, .aload_n 0, 1), (29, .iload 4, 2), (31, .iload_n 2, 1)], [(32, .invokevirtual 105, 3), (35, .ifCond .eq 21, 3), (38, .iload_n 3, 1), (39, .iconst (-1), 1), (40, .if_icmp .eq 13, 3), (43, .aload_n 0, 1), (44, .iload_n 3, 1), (45, .iload 4, 2), (47, .invokevirtual 105, 3)], [(50, .ifCond .eq 6, 3), (53, .iload 4, 2), (55, .istore_n 3, 1), (56, .iinc 4 1, 3), (59, .goto (-54), 3), (62, .iload_n 3, 1), (63, .ireturn, 1)]], 5, some .int, false)
def yTr_pathLength : AY := (53, 4, [[(0, .aload_n 0, 1), (1, .iload_n 1, 1), (2, .iconst 0, 1), (3, .invokevirtual 74, 3), (6, .ifCond .eq 7, 3), (9, .iconst 1, 1), (10, .goto 4, 3), (13, .iconst 0, 1), (14, .istore_n 2, 1), (15, .iload_n 1, 1)], [(16, .istore_n 3, 1), (17, .iconst 0, 1), (18, .istore 4, 2), (20, .iload 4, 2), (22, .bipush 30, 2), (24, .if_icmp .ge 57, 3), (27, .iload_n 3, 1), (28, .ifCond .le 53, 3), (31, .aload_n 0, 1)], [(32, .iload_n 3, 1), (33, .invokevirtual 71, 3), (36, .ifCond .eq 45, 3), (39, .iload_n 2, 1), (40, .aload_n 0, 1), (41, .getfield 11, 3), (44, .iload_n 3, 1), (45, .aaload, 1), (46, .getfield 36, 3)], [(49, .getfield 78, 3), (52, .iload 4, 2), (54, .ifCond .le 7, 3), (57, .iconst 1, 1), (58, .goto 4, 3), (61, .iconst 0, 1), (62, .iadd, 1), (63, .iadd, 1)], [(64, .istore_n 2, 1), (65, .aload_n 0, 1), (66, .getfield 11, 3), (69, .iload_n 3, 1), (70, .aaload, 1), (71, .getfield 33, 3), (74, .istore_n 3, 1), (75, .iinc 4 1, 3), (78, .goto (-58), 3)], [(81, .iload_n 2, 1), (82, .ireturn, 1)]], 5, some .int, false)
def yTr_spellPath : AY := (54, 4, [[(0, .aload_n 2, 1), (1, .aload_n 0, 1), (2, .iload_n 1, 1), (3, .invokevirtual 81, 3), (6, .invokevirtual 90, 3), (9, .aload_n 2, 1), (10, .getfield 78, 3), (13, .istore_n 3, 1), (14, .aload_n 0, 1), (15, .iload_n 1, 1)], [(16, .iconst 0, 1), (17, .invokevirtual 74, 3), (20, .ifCond .eq 13, 3), (23, .iinc 3 (-1), 3), (26, .aload_n 2, 1), (27, .iload_n 3, 1), (28, .bipush 47, 2), (30, .invokevirtual 94, 3)], [(33, .iload_n 1, 1), (34, .istore 4, 2), (36, .iconst 0, 1), (37, .istore 5, 2), (39, .iload 5, 2), (41, .bipush 30, 2), (43, .if_icmp .ge 81, 3), (46, .iload 4, 2)], [(48, .ifCond .le 76, 3), (51, .aload_n 0, 1), (52, .iload 4, 2), (54, .invokevirtual 71, 3), (57, .ifCond .eq 67, 3), (60, .iload 5, 2), (62, .ifCond .le 13, 3)], [(65, .iinc 3 (-1), 3), (68, .aload_n 2, 1), (69, .iload_n 3, 1), (70, .bipush 47, 2), (72, .invokevirtual 94, 3), (75, .iload_n 3, 1), (76, .aload_n 0, 1), (77, .getfield 11, 3)], [(80, .iload 4, 2), (82, .aaload, 1), (83, .getfield 36, 3), (86, .getfield 78, 3), (89, .isub, 1), (90, .istore_n 3, 1), (91, .aload_n 2, 1), (92, .iload_n 3, 1), (93, .aload_n 0, 1), (94, .getfield 11, 3)], [(97, .iload 4, 2), (99, .aaload, 1), (100, .getfield 36, 3), (103, .invokevirtual 98, 3), (106, .aload_n 0, 1), (107, .getfield 11, 3), (110, .iload 4, 2)], [(112, .aaload, 1), (113, .getfield 33, 3), (116, .istore 4, 2), (118, .iinc 5 1, 3), (121, .goto (-82), 3), (124, .return_, 1)]], 6, none, false)
def yTt_kindOf : AY := (55, 5, [[(0, .iload_n 0, 1), (1, .tableswitch 47 48 53 #[39, 41, 43, 47, 47, 45], 39)], [], [(40, .iconst 1, 1), (41, .ireturn, 1), (42, .iconst 3, 1), (43, .ireturn, 1), (44, .iconst 2, 1), (45, .ireturn, 1), (46, .iconst 0, 1), (47, .ireturn, 1)], [(48, .iconst (-1), 1), (49, .ireturn, 1)]], 1, some .int, false)
def yTt_typeOf : AY := (56, 5, [[(0, .iload_n 0, 1), (1, .tableswitch 36 1 3 #[27, 33, 30], 27)], [(28, .bipush 48, 2), (30, .ireturn, 1), (31, .bipush 49, 2)], [(33, .ireturn, 1), (34, .bipush 50, 2), (36, .ireturn, 1), (37, .bipush 53, 2), (39, .ireturn, 1)]], 1, some .int, false)
def yWr_init : AY := (57, 6, [[(0, .aload_n 0, 1), (1, .invokespecial 3, 3), (4, .aload_n 0, 1), (5, .new 9, 3), (8, .dup, 1), (9, .invokespecial 11, 3), (12, .putfield 12, 3), (15, .aload_n 0, 1)], [(16, .iconst 0, 1), (17, .putfield 18, 3), (20, .aload_n 0, 1), (21, .aload_n 1, 1), (22, .putfield 22, 3), (25, .return_, 1)]], 2, none, true)
def yWr_blocksFor : AY := (58, 6, [[(0, .iconst 2, 1), (1, .istore_n 2, 1), (2, .iconst 1, 1), (3, .istore_n 3, 1), (4, .iload_n 3, 1), (5, .aload_n 1, 1), (6, .getfield 26, 3), (9, .if_icmp .ge 37, 3), (12, .aload_n 0, 1), (13, .aload_n 1, 1), (14, .iload_n 3, 1), (15, .invokevirtual 31, 3)], [(18, .ifCond .ne 5, 3), (21, .iconst (-1), 1), (22, .ireturn, 1), (23, .iload_n 2, 1), (24, .iconst 1, 1), (25, .aload_n 1, 1), (26, .getfield 35, 3), (29, .iload_n 3, 1), (30, .aaload, 1), (31, .invokevirtual 39, 3)], [(34, .invokestatic 45, 3), (37, .iadd, 1), (38, .iadd, 1), (39, .istore_n 2, 1), (40, .iinc 3 1, 3), (43, .goto (-39), 3), (46, .iload_n 2, 1), (47, .bipush 20, 2)], [(49, .if_icmp .gt 7, 3), (52, .iload_n 2, 1), (53, .goto 4, 3), (56, .iconst (-1), 1), (57, .ireturn, 1)]], 4, some .int, false)
def yWr_cutOfPath : AY := (59, 6, [[(0, .iconst 0, 1), (1, .aload_n 0, 1), (2, .getfield 12, 3), (5, .getfield 64, 3), (8, .iconst 1, 1), (9, .isub, 1), (10, .bipush 100, 2), (12, .isub, 1), (13, .invokestatic 67, 3)], [(16, .istore_n 1, 1), (17, .iload_n 1, 1), (18, .aload_n 0, 1), (19, .getfield 12, 3), (22, .getfield 64, 3), (25, .iconst 1, 1), (26, .isub, 1), (27, .if_icmp .ge 24, 3), (30, .aload_n 0, 1), (31, .getfield 12, 3)], [(34, .iload_n 1, 1), (35, .invokevirtual 73, 3), (38, .bipush 47, 2), (40, .if_icmp .ne 5, 3), (43, .iload_n 1, 1), (44, .ireturn, 1), (45, .iinc 1 1, 3)], [(48, .goto (-31), 3), (51, .iconst (-1), 1), (52, .ireturn, 1)]], 2, some .int, false)
def yWr_isTellable : AY := (60, 6, [[(0, .aload_n 1, 1), (1, .iload_n 2, 1), (2, .invokevirtual 51, 3), (5, .bipush 100, 2), (7, .if_icmp .le 31, 3), (10, .aload_n 1, 1), (11, .iload_n 2, 1), (12, .aload_n 0, 1), (13, .getfield 12, 3)], [(16, .invokevirtual 54, 3), (19, .aload_n 0, 1), (20, .invokevirtual 58, 3), (23, .istore_n 3, 1), (24, .iload_n 3, 1), (25, .iconst (-1), 1), (26, .if_icmp .eq 10, 3), (29, .iload_n 3, 1), (30, .sipush 155, 3)], [(33, .if_icmp .le 5, 3), (36, .iconst 0, 1), (37, .ireturn, 1), (38, .aload_n 1, 1), (39, .aload_n 1, 1), (40, .getfield 35, 3), (43, .iload_n 2, 1), (44, .aaload, 1), (45, .getfield 61, 3)], [(48, .invokevirtual 51, 3), (51, .bipush 100, 2), (53, .if_icmp .gt 7, 3), (56, .iconst 1, 1), (57, .goto 4, 3), (60, .iconst 0, 1), (61, .ireturn, 1)]], 4, some .boolean, false)
def yWr_putContents : AY := (61, 6, [[(0, .aload_n 1, 1), (1, .getfield 122, 3), (4, .iconst 1, 1), (5, .if_icmp .ne 44, 3), (8, .aload_n 0, 1), (9, .getfield 22, 3), (12, .getfield 76, 3), (15, .aload_n 0, 1)], [(16, .getfield 18, 3), (19, .sipush 512, 3), (22, .imul, 1), (23, .aload_n 1, 1), (24, .getfield 134, 3), (27, .invokevirtual 137, 3), (30, .aload_n 0, 1), (31, .dup, 1)], [(32, .getfield 18, 3), (35, .aload_n 1, 1), (36, .getfield 134, 3), (39, .getfield 64, 3), (42, .invokestatic 45, 3), (45, .iadd, 1), (46, .putfield 18, 3)], [(49, .return_, 1)]], 2, none, false)
def yWr_putEntries : AY := (62, 6, [[(0, .iconst 0, 1), (1, .istore_n 3, 1), (2, .iconst 1, 1), (3, .istore 4, 2), (5, .iload 4, 2), (7, .aload_n 1, 1), (8, .getfield 26, 3), (11, .if_icmp .ge 54, 3), (14, .iload_n 3, 1), (15, .iconst (-1), 1)], [(16, .if_icmp .eq 49, 3), (19, .aload_n 1, 1), (20, .iload_n 3, 1), (21, .invokevirtual 87, 3), (24, .istore_n 3, 1), (25, .aload_n 1, 1), (26, .iload_n 3, 1), (27, .invokevirtual 90, 3), (30, .ifCond .eq 29, 3)], [(33, .aload_n 1, 1), (34, .iload_n 3, 1), (35, .iconst 3, 1), (36, .invokevirtual 94, 3), (39, .iload_n 2, 1), (40, .if_icmp .ne 19, 3), (43, .aload_n 0, 1), (44, .aload_n 1, 1), (45, .iload_n 3, 1), (46, .invokevirtual 98, 3)], [(49, .aload_n 0, 1), (50, .aload_n 1, 1), (51, .getfield 35, 3), (54, .iload_n 3, 1), (55, .aaload, 1), (56, .invokevirtual 102, 3), (59, .iinc 4 1, 3), (62, .goto (-57), 3)], [(65, .return_, 1)]], 5, none, false)
def yWr_putHeader : AY := (63, 6, [[(0, .aload_n 1, 1), (1, .getfield 35, 3), (4, .iload_n 2, 1), (5, .aaload, 1), (6, .astore_n 3, 1), (7, .aload_n 0, 1), (8, .getfield 18, 3), (11, .sipush 512, 3), (14, .imul, 1), (15, .istore 4, 2)], [(17, .aload_n 1, 1), (18, .iload_n 2, 1), (19, .aload_n 0, 1), (20, .getfield 12, 3), (23, .invokevirtual 54, 3), (26, .aload_n 0, 1), (27, .iload 4, 2), (29, .invokevirtual 106, 3)], [(32, .aload_n 0, 1), (33, .getfield 22, 3), (36, .iload 4, 2), (38, .bipush 100, 2), (40, .iadd, 1), (41, .bipush 7, 2), (43, .aload_n 3, 1), (44, .getfield 109, 3), (47, .invokevirtual 112, 3)], [(50, .aload_n 0, 1), (51, .getfield 22, 3), (54, .iload 4, 2), (56, .bipush 108, 2), (58, .iadd, 1), (59, .bipush 7, 2), (61, .aload_n 3, 1), (62, .getfield 116, 3)], [(65, .invokevirtual 112, 3), (68, .aload_n 0, 1), (69, .getfield 22, 3), (72, .iload 4, 2), (74, .bipush 116, 2), (76, .iadd, 1), (77, .bipush 7, 2), (79, .iconst 0, 1)], [(80, .invokevirtual 112, 3), (83, .aload_n 0, 1), (84, .getfield 22, 3), (87, .iload 4, 2), (89, .bipush 124, 2), (91, .iadd, 1), (92, .bipush 11, 2), (94, .aload_n 3, 1), (95, .invokevirtual 39, 3)], [(98, .invokevirtual 112, 3), (101, .aload_n 0, 1), (102, .getfield 22, 3), (105, .iload 4, 2), (107, .sipush 136, 3), (110, .iadd, 1), (111, .bipush 11, 2)], [(113, .aload_n 3, 1), (114, .getfield 119, 3), (117, .invokevirtual 112, 3), (120, .aload_n 0, 1), (121, .getfield 22, 3), (124, .getfield 76, 3), (127, .iload 4, 2)], [(129, .sipush 156, 3), (132, .iadd, 1), (133, .aload_n 3, 1), (134, .getfield 122, 3), (137, .invokestatic 125, 3), (140, .invokevirtual 130, 3), (143, .aload_n 3, 1)], [(144, .getfield 122, 3), (147, .iconst 2, 1), (148, .if_icmp .ne 23, 3), (151, .aload_n 0, 1), (152, .getfield 22, 3), (155, .getfield 76, 3), (158, .iload 4, 2)], [(160, .sipush 157, 3), (163, .iadd, 1), (164, .aload_n 3, 1), (165, .getfield 134, 3), (168, .invokevirtual 137, 3), (171, .aload_n 3, 1), (172, .getfield 122, 3), (175, .iconst 3, 1)], [(176, .if_icmp .ne 35, 3), (179, .aload_n 1, 1), (180, .aload_n 3, 1), (181, .getfield 61, 3), (184, .aload_n 0, 1), (185, .getfield 12, 3), (188, .invokevirtual 54, 3), (191, .aload_n 0, 1)], [(192, .getfield 22, 3), (195, .getfield 76, 3), (198, .iload 4, 2), (200, .sipush 157, 3), (203, .iadd, 1), (204, .aload_n 0, 1), (205, .getfield 12, 3)], [(208, .invokevirtual 137, 3), (211, .aload_n 0, 1), (212, .getfield 22, 3), (215, .iload 4, 2), (217, .sipush 257, 3), (220, .iadd, 1), (221, .invokevirtual 140, 3)], [(224, .aload_n 0, 1), (225, .getfield 22, 3), (228, .iload 4, 2), (230, .sipush 329, 3), (233, .iadd, 1), (234, .bipush 7, 2), (236, .iconst 0, 1), (237, .invokevirtual 112, 3)], [(240, .aload_n 0, 1), (241, .getfield 22, 3), (244, .iload 4, 2), (246, .sipush 337, 3), (249, .iadd, 1), (250, .bipush 7, 2), (252, .iconst 0, 1), (253, .invokevirtual 112, 3)], [(256, .aload_n 0, 1), (257, .getfield 22, 3), (260, .aload_n 0, 1), (261, .getfield 18, 3), (264, .invokevirtual 143, 3), (267, .pop, 1), (268, .aload_n 0, 1), (269, .dup, 1), (270, .getfield 18, 3)], [(273, .iconst 1, 1), (274, .iadd, 1), (275, .putfield 18, 3), (278, .return_, 1)]], 5, none, false)
def yWr_putPath : AY := (64, 6, [[(0, .aload_n 0, 1), (1, .getfield 12, 3), (4, .getfield 64, 3), (7, .bipush 100, 2), (9, .if_icmp .le 10, 3), (12, .aload_n 0, 1), (13, .invokevirtual 58, 3)], [(16, .goto 4, 3), (19, .iconst (-1), 1), (20, .istore_n 2, 1), (21, .iconst 0, 1), (22, .istore_n 3, 1), (23, .iload_n 3, 1), (24, .iload_n 2, 1), (25, .if_icmp .ge 34, 3), (28, .aload_n 0, 1), (29, .getfield 22, 3)], [(32, .getfield 76, 3), (35, .iload_n 1, 1), (36, .sipush 345, 3), (39, .iadd, 1), (40, .iload_n 3, 1), (41, .iadd, 1), (42, .aload_n 0, 1), (43, .getfield 12, 3), (46, .iload_n 3, 1), (47, .invokevirtual 73, 3)], [(50, .invokevirtual 130, 3), (53, .iinc 3 1, 3), (56, .goto (-33), 3), (59, .iload_n 2, 1), (60, .iconst 1, 1), (61, .iadd, 1), (62, .istore_n 3, 1), (63, .iload_n 3, 1)], [(64, .aload_n 0, 1), (65, .getfield 12, 3), (68, .getfield 64, 3), (71, .if_icmp .ge 36, 3), (74, .aload_n 0, 1), (75, .getfield 22, 3), (78, .getfield 76, 3)], [(81, .iload_n 1, 1), (82, .iconst 0, 1), (83, .iadd, 1), (84, .iload_n 3, 1), (85, .iadd, 1), (86, .iload_n 2, 1), (87, .isub, 1), (88, .iconst 1, 1), (89, .isub, 1), (90, .aload_n 0, 1), (91, .getfield 12, 3), (94, .iload_n 3, 1), (95, .invokevirtual 73, 3)], [(98, .invokevirtual 130, 3), (101, .iinc 3 1, 3), (104, .goto (-41), 3), (107, .return_, 1)]], 4, none, false)
def yWr_putTree : AY := (65, 6, [[(0, .aload_n 0, 1), (1, .getfield 22, 3), (4, .getfield 76, 3), (7, .iconst 0, 1), (8, .invokevirtual 79, 3), (11, .aload_n 0, 1), (12, .getfield 22, 3), (15, .getfield 76, 3)], [(18, .iload_n 2, 1), (19, .sipush 512, 3), (22, .imul, 1), (23, .invokevirtual 79, 3), (26, .aload_n 0, 1), (27, .iconst 0, 1), (28, .putfield 18, 3), (31, .aload_n 0, 1)], [(32, .aload_n 1, 1), (33, .iconst 0, 1), (34, .invokevirtual 83, 3), (37, .aload_n 0, 1), (38, .aload_n 1, 1), (39, .iconst 1, 1), (40, .invokevirtual 83, 3), (43, .return_, 1)]], 3, none, false)
def yTY_init : AY := (66, 7, [[(0, .aload_n 0, 1), (1, .invokespecial 3, 3), (4, .aload_n 0, 1), (5, .new 9, 3), (8, .dup, 1), (9, .invokespecial 11, 3), (12, .putfield 12, 3), (15, .aload_n 0, 1)], [(16, .new 16, 3), (19, .dup, 1), (20, .aload_n 0, 1), (21, .getfield 12, 3), (24, .invokespecial 18, 3), (27, .putfield 21, 3), (30, .aload_n 0, 1), (31, .new 25, 3)], [(34, .dup, 1), (35, .aload_n 0, 1), (36, .getfield 12, 3), (39, .invokespecial 27, 3), (42, .putfield 28, 3), (45, .aload_n 0, 1), (46, .new 32, 3)], [(49, .dup, 1), (50, .invokespecial 34, 3), (53, .putfield 35, 3), (56, .aload_n 0, 1), (57, .new 39, 3), (60, .dup, 1), (61, .invokespecial 41, 3)], [(64, .putfield 42, 3), (67, .aload_n 0, 1), (68, .new 39, 3), (71, .dup, 1), (72, .invokespecial 41, 3), (75, .putfield 46, 3), (78, .aload_n 0, 1), (79, .iconst (-1), 1)], [(80, .putfield 49, 3), (83, .return_, 1)]], 1, none, true)
def yTY_alter : AY := (67, 7, [[(0, .aload_n 0, 1), (1, .getfield 12, 3), (4, .getfield 185, 3), (7, .iload_n 1, 1), (8, .invokevirtual 188, 3), (11, .istore_n 3, 1), (12, .iload_n 3, 1), (13, .iconst (-1), 1), (14, .if_icmp .eq 14, 3)], [(17, .iload_n 2, 1), (18, .ifCond .lt 10, 3), (21, .iload_n 2, 1), (22, .sipush 255, 3), (25, .if_icmp .le 13, 3), (28, .new 53, 3), (31, .dup, 1)], [(32, .ldc 191, 2), (34, .invokespecial 57, 3), (38, .aload_n 0, 1), (39, .getfield 12, 3), (42, .getfield 185, 3), (45, .iload_n 1, 1), (46, .iload_n 2, 1), (47, .invokevirtual 140, 3)], [(50, .iload_n 3, 1), (51, .ireturn, 1)]], 4, some .int, false)
def yTY_check : AY := (68, 7, [[(0, .iload_n 1, 1), (1, .ifCond .lt 14, 3), (4, .iload_n 1, 1), (5, .aload_n 0, 1), (6, .getfield 12, 3), (9, .invokevirtual 193, 3), (12, .if_icmp .lt 13, 3), (15, .new 53, 3)], [(18, .dup, 1), (19, .ldc 197, 2), (21, .invokespecial 57, 3), (25, .aload_n 0, 1), (26, .getfield 12, 3), (29, .iload_n 1, 1), (30, .invokevirtual 199, 3)], [(33, .ireturn, 1)]], 2, some .int, false)
def yTY_contents : AY := (69, 7, [[(0, .aload_n 0, 1), (1, .iload_n 1, 1), (2, .invokevirtual 93, 3), (5, .astore 4, 2), (7, .aload 4, 2), (9, .getfield 118, 3), (12, .iconst 1, 1), (13, .if_icmp .eq 13, 3)], [(16, .new 53, 3), (19, .dup, 1), (20, .ldc 136, 2), (22, .invokespecial 57, 3), (26, .iload_n 2, 1), (27, .ifCond .lt 21, 3), (30, .iload_n 2, 1), (31, .sipush 2000, 3)], [(34, .if_icmp .gt 14, 3), (37, .iload_n 3, 1), (38, .ifCond .lt 10, 3), (41, .iload_n 3, 1), (42, .sipush 255, 3), (45, .if_icmp .le 13, 3)], [(48, .new 53, 3), (51, .dup, 1), (52, .ldc 138, 2), (54, .invokespecial 57, 3), (58, .aload 4, 2), (60, .getfield 131, 3), (63, .iload_n 2, 1)], [(64, .invokevirtual 68, 3), (67, .iconst 0, 1), (68, .istore 5, 2), (70, .iload 5, 2), (72, .iload_n 2, 1), (73, .if_icmp .ge 26, 3), (76, .aload 4, 2), (78, .getfield 131, 3)], [(81, .iload 5, 2), (83, .iload_n 3, 1), (84, .bipush 31, 2), (86, .iload 5, 2), (88, .imul, 1), (89, .iadd, 1), (90, .invokevirtual 140, 3), (93, .iinc 5 1, 3)], [(96, .goto (-26), 3), (99, .return_, 1)]], 6, none, false)
def yTY_fill : AY := (70, 7, [[(0, .aload_n 0, 1), (1, .iload_n 1, 1), (2, .invokevirtual 93, 3), (5, .astore 5, 2), (7, .aload 5, 2), (9, .getfield 118, 3), (12, .iconst 1, 1), (13, .if_icmp .eq 22, 3)], [(16, .aload 5, 2), (18, .getfield 118, 3), (21, .iconst 2, 1), (22, .if_icmp .eq 13, 3), (25, .new 53, 3), (28, .dup, 1), (29, .ldc 121, 2), (31, .invokespecial 57, 3)], [(35, .iload 4, 2), (37, .ifCond .lt 10, 3), (40, .iload 4, 2), (42, .bipush 8, 2), (44, .if_icmp .le 13, 3), (47, .new 53, 3)], [(50, .dup, 1), (51, .ldc 123, 2), (53, .invokespecial 57, 3), (57, .aload_n 0, 1), (58, .getfield 35, 3), (61, .iconst 0, 1), (62, .invokevirtual 68, 3)], [(65, .aload_n 0, 1), (66, .getfield 35, 3), (69, .lload_n 2, 1), (70, .iload 4, 2), (72, .invokevirtual 72, 3), (75, .aload 5, 2), (77, .getfield 118, 3)], [(80, .iconst 2, 1), (81, .if_icmp .ne 23, 3), (84, .aload_n 0, 1), (85, .getfield 35, 3), (88, .invokevirtual 125, 3), (91, .ifCond .ne 13, 3), (94, .new 53, 3)], [(97, .dup, 1), (98, .ldc 129, 2), (100, .invokespecial 57, 3), (104, .aload 5, 2), (106, .getfield 131, 3), (109, .getfield 106, 3)], [(112, .iload 4, 2), (114, .iadd, 1), (115, .aload 5, 2), (117, .getfield 118, 3), (120, .iconst 1, 1), (121, .if_icmp .ne 9, 3), (124, .sipush 2000, 3), (127, .goto 5, 3)], [(130, .bipush 100, 2), (132, .if_icmp .le 13, 3), (135, .new 84, 3), (138, .dup, 1), (139, .ldc 134, 2), (141, .invokespecial 88, 3)], [(145, .aload 5, 2), (147, .getfield 131, 3), (150, .lload_n 2, 1), (151, .iload 4, 2), (153, .invokevirtual 72, 3), (156, .aload 5, 2), (158, .getfield 131, 3)], [(161, .getfield 106, 3), (164, .ireturn, 1)]], 6, some .int, false)
def yTY_hand : AY := (71, 7, [[(0, .aload_n 0, 1), (1, .getfield 12, 3), (4, .getfield 185, 3), (7, .iload_n 1, 1), (8, .invokevirtual 188, 3), (11, .ireturn, 1)]], 2, some .int, false)
def yTY_known : AY := (72, 7, [[(0, .aload_n 0, 1), (1, .getfield 42, 3), (4, .iload_n 1, 1), (5, .invokevirtual 156, 3), (8, .ifCond .ne 13, 3), (11, .new 53, 3), (14, .dup, 1), (15, .ldc 216, 2)], [(17, .invokespecial 57, 3), (21, .aload_n 0, 1), (22, .getfield 42, 3), (25, .getfield 218, 3), (28, .iload_n 1, 1), (29, .aaload, 1), (30, .areturn, 1)]], 2, some (.object "TarYard$Node"), false)
def yTY_make : AY := (73, 7, [[(0, .iload_n 2, 1), (1, .ifCond .lt 8, 3), (4, .iload_n 2, 1), (5, .iconst 3, 1), (6, .if_icmp .le 13, 3), (9, .new 53, 3), (12, .dup, 1), (13, .ldc 55, 2), (15, .invokespecial 57, 3)], [(19, .aload_n 0, 1), (20, .getfield 42, 3), (23, .iload_n 1, 1), (24, .iconst 0, 1), (25, .invokevirtual 60, 3), (28, .ifCond .ne 13, 3), (31, .new 53, 3)], [(34, .dup, 1), (35, .ldc 64, 2), (37, .invokespecial 57, 3), (41, .iload 5, 2), (43, .iconst 1, 1), (44, .if_icmp .lt 10, 3), (47, .iload 5, 2)], [(49, .bipush 8, 2), (51, .if_icmp .le 13, 3), (54, .new 53, 3), (57, .dup, 1), (58, .ldc 66, 2), (60, .invokespecial 57, 3)], [(64, .aload_n 0, 1), (65, .getfield 35, 3), (68, .iconst 0, 1), (69, .invokevirtual 68, 3), (72, .aload_n 0, 1), (73, .getfield 35, 3), (76, .lload_n 3, 1), (77, .iload 5, 2), (79, .invokevirtual 72, 3)], [(82, .aload_n 0, 1), (83, .iload_n 1, 1), (84, .invokevirtual 76, 3), (87, .iload_n 2, 1), (88, .iconst 3, 1), (89, .if_icmp .ne 26, 3), (92, .aload_n 0, 1), (93, .getfield 42, 3)], [(96, .iload 6, 2), (98, .iconst 1, 1), (99, .invokevirtual 60, 3), (102, .ifCond .ne 13, 3), (105, .new 53, 3), (108, .dup, 1), (109, .ldc 79, 2), (111, .invokespecial 57, 3)], [(115, .aload_n 0, 1), (116, .getfield 42, 3), (119, .getfield 81, 3), (122, .bipush 30, 2), (124, .if_icmp .lt 13, 3), (127, .new 84, 3)], [(130, .dup, 1), (131, .ldc 86, 2), (133, .invokespecial 88, 3), (137, .aload_n 0, 1), (138, .getfield 42, 3), (141, .iload_n 1, 1), (142, .iload_n 2, 1), (143, .iload_n 2, 1)], [(144, .iconst 3, 1), (145, .if_icmp .ne 8, 3), (148, .iload 6, 2), (150, .goto 4, 3), (153, .iconst (-1), 1), (154, .aload_n 0, 1), (155, .getfield 35, 3), (158, .iconst 0, 1), (159, .iload 5, 2)], [(161, .invokevirtual 89, 3), (164, .ireturn, 1)]], 7, some .int, false)
def yTY_node : AY := (74, 7, [[(0, .aload_n 0, 1), (1, .iload_n 1, 1), (2, .invokevirtual 93, 3), (5, .astore_n 3, 1), (6, .iload_n 2, 1), (7, .tableswitch 91 0 7 #[45, 50, 55, 63, 68, 73, 78, 86], 45)], [], [], [(52, .aload_n 3, 1), (53, .getfield 118, 3), (56, .ireturn, 1), (57, .aload_n 3, 1), (58, .getfield 113, 3), (61, .ireturn, 1), (62, .aload_n 3, 1), (63, .getfield 101, 3)], [(66, .getfield 106, 3), (69, .ireturn, 1), (70, .aload_n 3, 1), (71, .getfield 147, 3), (74, .ireturn, 1), (75, .aload_n 3, 1), (76, .getfield 150, 3), (79, .ireturn, 1)], [(80, .aload_n 3, 1), (81, .getfield 153, 3), (84, .ireturn, 1), (85, .aload_n 3, 1), (86, .getfield 131, 3), (89, .getfield 106, 3), (92, .ireturn, 1), (93, .aload_n 3, 1), (94, .getfield 204, 3)], [(97, .ireturn, 1), (98, .new 53, 3), (101, .dup, 1), (102, .ldc 207, 2), (104, .invokespecial 57, 3)]], 4, some .int, false)
def yTY_part : AY := (75, 7, [[(0, .aload_n 0, 1), (1, .iload_n 1, 1), (2, .invokevirtual 93, 3), (5, .astore 4, 2), (7, .iload_n 2, 1), (8, .ifCond .eq 18, 3), (11, .iload_n 2, 1), (12, .iconst 1, 1), (13, .if_icmp .eq 13, 3)], [(16, .new 53, 3), (19, .dup, 1), (20, .ldc 209, 2), (22, .invokespecial 57, 3), (26, .iload_n 2, 1), (27, .ifCond .ne 15, 3), (30, .aload 4, 2)], [(32, .getfield 101, 3), (35, .iload_n 3, 1), (36, .invokevirtual 188, 3), (39, .goto 12, 3), (42, .aload 4, 2), (44, .getfield 131, 3), (47, .iload_n 3, 1)], [(48, .invokevirtual 188, 3), (51, .ireturn, 1)]], 5, some .int, false)
def yTY_place : AY := (76, 7, [[(0, .aload_n 0, 1), (1, .getfield 49, 3), (4, .ireturn, 1)]], 1, some .int, false)
def yTY_read : AY := (77, 7, [[(0, .aload_n 0, 1), (1, .getfield 28, 3), (4, .aload_n 0, 1), (5, .getfield 46, 3), (8, .invokevirtual 179, 3), (11, .istore_n 1, 1), (12, .iload_n 1, 1), (13, .ifCond .ge 16, 3)], [(16, .aload_n 0, 1), (17, .aload_n 0, 1), (18, .getfield 28, 3), (21, .getfield 182, 3), (24, .putfield 49, 3), (27, .iload_n 1, 1), (28, .ireturn, 1), (29, .aload_n 0, 1), (30, .getfield 42, 3)], [(33, .astore_n 2, 1), (34, .aload_n 0, 1), (35, .aload_n 0, 1), (36, .getfield 46, 3), (39, .putfield 42, 3), (42, .aload_n 0, 1), (43, .aload_n 2, 1), (44, .putfield 46, 3), (47, .aload_n 0, 1)], [(48, .iconst (-1), 1), (49, .putfield 49, 3), (52, .iload_n 1, 1), (53, .ireturn, 1)]], 3, some .int, false)
def yTY_refuseName : AY := (78, 7, [[(0, .aload_n 0, 1), (1, .getfield 35, 3), (4, .iconst 0, 1), (5, .aload_n 0, 1), (6, .getfield 35, 3), (9, .getfield 106, 3), (12, .invokevirtual 222, 3), (15, .ifCond .ne 13, 3)], [(18, .new 53, 3), (21, .dup, 1), (22, .ldc 225, 2), (24, .invokespecial 57, 3), (28, .aload_n 0, 1), (29, .getfield 42, 3)], [(32, .iload_n 1, 1), (33, .aload_n 0, 1), (34, .getfield 35, 3), (37, .iconst 0, 1), (38, .aload_n 0, 1), (39, .getfield 35, 3), (42, .getfield 106, 3), (45, .invokevirtual 227, 3)], [(48, .iconst (-1), 1), (49, .if_icmp .eq 13, 3), (52, .new 53, 3), (55, .dup, 1), (56, .ldc 231, 2), (58, .invokespecial 57, 3), (62, .return_, 1)]], 2, none, false)
def yTY_remove : AY := (79, 7, [[(0, .iload_n 1, 1), (1, .ifCond .eq 14, 3), (4, .aload_n 0, 1), (5, .getfield 42, 3), (8, .iload_n 1, 1), (9, .invokevirtual 156, 3), (12, .ifCond .ne 13, 3), (15, .new 53, 3)], [(18, .dup, 1), (19, .ldc 160, 2), (21, .invokespecial 57, 3), (25, .aload_n 0, 1), (26, .getfield 42, 3), (29, .iload_n 1, 1), (30, .invokevirtual 162, 3)], [(33, .ireturn, 1)]], 2, some .int, false)
def yTY_rename : AY := (80, 7, [[(0, .aload_n 0, 1), (1, .iload_n 1, 1), (2, .invokevirtual 93, 3), (5, .astore 5, 2), (7, .iload_n 1, 1), (8, .ifCond .ne 13, 3), (11, .new 53, 3), (14, .dup, 1), (15, .ldc 97, 2)], [(17, .invokespecial 57, 3), (21, .iload 4, 2), (23, .iconst 1, 1), (24, .if_icmp .lt 10, 3), (27, .iload 4, 2), (29, .bipush 8, 2), (31, .if_icmp .le 13, 3)], [(34, .new 53, 3), (37, .dup, 1), (38, .ldc 99, 2), (40, .invokespecial 57, 3), (44, .aload_n 0, 1), (45, .getfield 35, 3)], [(48, .aload 5, 2), (50, .getfield 101, 3), (53, .iconst 0, 1), (54, .aload 5, 2), (56, .getfield 101, 3), (59, .getfield 106, 3), (62, .invokevirtual 109, 3)], [(65, .aload_n 0, 1), (66, .getfield 35, 3), (69, .lload_n 2, 1), (70, .iload 4, 2), (72, .invokevirtual 72, 3), (75, .aload_n 0, 1), (76, .aload 5, 2), (78, .getfield 113, 3)], [(81, .invokevirtual 76, 3), (84, .aload_n 0, 1), (85, .getfield 35, 3), (88, .getfield 106, 3), (91, .bipush 100, 2), (93, .if_icmp .le 13, 3)], [(96, .new 84, 3), (99, .dup, 1), (100, .ldc 116, 2), (102, .invokespecial 88, 3), (106, .aload 5, 2), (108, .getfield 101, 3), (111, .lload_n 2, 1)], [(112, .iload 4, 2), (114, .invokevirtual 72, 3), (117, .aload 5, 2), (119, .getfield 101, 3), (122, .getfield 106, 3), (125, .ireturn, 1)]], 6, some .int, false)
def yTY_set : AY := (81, 7, [[(0, .aload_n 0, 1), (1, .iload_n 1, 1), (2, .invokevirtual 93, 3), (5, .astore 5, 2), (7, .iload_n 2, 1), (8, .ifCond .lt 25, 3), (11, .iload_n 2, 1), (12, .sipush 4095, 3), (15, .if_icmp .gt 18, 3)], [(18, .iload_n 3, 1), (19, .ifCond .lt 14, 3), (22, .iload_n 3, 1), (23, .ldc 144, 2), (25, .if_icmp .gt 8, 3), (28, .iload 4, 2), (30, .ifCond .ge 13, 3)], [(33, .new 53, 3), (36, .dup, 1), (37, .ldc 145, 2), (39, .invokespecial 57, 3), (43, .aload 5, 2), (45, .iload_n 2, 1), (46, .putfield 147, 3)], [(49, .aload 5, 2), (51, .iload_n 3, 1), (52, .putfield 150, 3), (55, .aload 5, 2), (57, .iload 4, 2), (59, .putfield 153, 3), (62, .return_, 1)]], 6, none, false)
def yTY_size : AY := (82, 7, [[(0, .iload_n 1, 1), (1, .ifCond .lt 10, 3), (4, .iload_n 1, 1), (5, .sipush 10240, 3), (8, .if_icmp .le 13, 3), (11, .new 53, 3), (14, .dup, 1), (15, .ldc 202, 2)], [(17, .invokespecial 57, 3), (21, .aload_n 0, 1), (22, .getfield 12, 3), (25, .getfield 185, 3), (28, .iload_n 1, 1), (29, .invokevirtual 68, 3)], [(32, .return_, 1)]], 2, none, false)
def yTY_total : AY := (83, 7, [[(0, .iload_n 1, 1), (1, .tableswitch 54 0 2 #[27, 35, 46], 27)], [(28, .aload_n 0, 1), (29, .getfield 42, 3)], [(32, .getfield 81, 3), (35, .ireturn, 1), (36, .aload_n 0, 1), (37, .getfield 12, 3), (40, .getfield 185, 3), (43, .getfield 106, 3), (46, .ireturn, 1), (47, .aload_n 0, 1)], [(48, .getfield 42, 3), (51, .invokevirtual 211, 3), (54, .ireturn, 1), (55, .new 53, 3), (58, .dup, 1), (59, .ldc 214, 2), (61, .invokespecial 57, 3)]], 2, some .int, false)
def yTY_write : AY := (84, 7, [[(0, .aload_n 0, 1), (1, .getfield 21, 3), (4, .aload_n 0, 1), (5, .getfield 42, 3), (8, .invokevirtual 166, 3), (11, .istore_n 1, 1), (12, .iload_n 1, 1), (13, .iconst (-1), 1), (14, .if_icmp .ne 13, 3)], [(17, .new 170, 3), (20, .dup, 1), (21, .ldc 172, 2), (23, .invokespecial 174, 3), (27, .aload_n 0, 1), (28, .getfield 21, 3), (31, .aload_n 0, 1)], [(32, .getfield 42, 3), (35, .iload_n 1, 1), (36, .invokevirtual 175, 3), (39, .iload_n 1, 1), (40, .ireturn, 1)]], 2, some .int, false)
def yMd_init : AY := (85, 8, [[(0, .aload_n 0, 1), (1, .invokespecial 1, 3), (4, .aload_n 0, 1), (5, .bipush 60, 2), (7, .newarray .int, 2), (9, .putfield 7, 3), (12, .aload_n 0, 1), (13, .bipush 60, 2), (15, .newarray .int, 2)], [(17, .putfield 13, 3), (20, .aload_n 0, 1), (21, .bipush 60, 2), (23, .newarray .int, 2), (25, .putfield 16, 3), (28, .aload_n 0, 1), (29, .bipush 60, 2), (31, .newarray .int, 2)], [(33, .putfield 19, 3), (36, .aload_n 0, 1), (37, .bipush 60, 2), (39, .newarray .int, 2), (41, .putfield 22, 3), (44, .aload_n 0, 1), (45, .bipush 60, 2), (47, .newarray .int, 2)], [(49, .putfield 25, 3), (52, .aload_n 0, 1), (53, .bipush 60, 2), (55, .newarray .int, 2), (57, .putfield 28, 3), (60, .aload_n 0, 1), (61, .bipush 60, 2), (63, .newarray .int, 2)], [(65, .putfield 31, 3), (68, .aload_n 0, 1), (69, .iconst 2, 1), (70, .newarray .int, 2), (72, .dup, 1), (73, .iconst 0, 1), (74, .iconst 1, 1), (75, .iastore, 1), (76, .dup, 1), (77, .iconst 1, 1), (78, .iconst 1, 1), (79, .iastore, 1)], [(80, .putfield 34, 3), (83, .aload_n 0, 1), (84, .sipush 6000, 3), (87, .newarray .byte, 2), (89, .putfield 37, 3), (92, .aload_n 0, 1), (93, .ldc 41, 2), (95, .newarray .byte, 2)], [(97, .putfield 42, 3), (100, .aload_n 0, 1), (101, .sipush 10240, 3), (104, .newarray .byte, 2), (106, .putfield 45, 3), (109, .aload_n 0, 1), (110, .iconst (-1), 1), (111, .putfield 48, 3)], [(114, .aload_n 0, 1), (115, .sipush 3200, 3), (118, .newarray .byte, 2), (120, .putfield 52, 3), (123, .aload_n 0, 1), (124, .bipush 30, 2), (126, .newarray .int, 2)], [(128, .putfield 55, 3), (131, .aload_n 0, 1), (132, .bipush 100, 2), (134, .newarray .byte, 2), (136, .putfield 58, 3), (139, .aload_n 0, 1), (140, .bipush 30, 2), (142, .newarray .int, 2)], [(144, .putfield 61, 3), (147, .aload_n 0, 1), (148, .bipush 30, 2), (150, .newarray .int, 2), (152, .putfield 64, 3), (155, .aload_n 0, 1), (156, .bipush 31, 2), (158, .newarray .int, 2)], [(160, .putfield 67, 3), (163, .aload_n 0, 1), (164, .bipush 31, 2), (166, .newarray .int, 2), (168, .putfield 70, 3), (171, .aload_n 0, 1), (172, .bipush 30, 2), (174, .newarray .int, 2)], [(176, .putfield 73, 3), (179, .aload_n 0, 1), (180, .iconst 0, 1), (181, .invokevirtual 76, 3), (184, .return_, 1)]], 1, none, true)
def yMd_add : AY := (86, 8, [[(0, .iload_n 1, 1), (1, .aload_n 0, 1), (2, .getfield 34, 3), (5, .iload_n 1, 1), (6, .bipush 30, 2), (8, .idiv, 1), (9, .iaload, 1), (10, .iadd, 1), (11, .istore 7, 2), (13, .aload_n 0, 1), (14, .getfield 34, 3)], [(17, .iload_n 1, 1), (18, .bipush 30, 2), (20, .idiv, 1), (21, .dup2, 1), (22, .iaload, 1), (23, .iconst 1, 1), (24, .iadd, 1), (25, .iastore, 1), (26, .aload_n 0, 1), (27, .getfield 7, 3), (30, .iload 7, 2)], [(32, .iload_n 3, 1), (33, .iastore, 1), (34, .aload_n 0, 1), (35, .getfield 13, 3), (38, .iload 7, 2), (40, .iload_n 2, 1), (41, .iastore, 1), (42, .aload_n 0, 1), (43, .getfield 16, 3), (46, .iload 7, 2)], [(48, .iload 6, 2), (50, .iastore, 1), (51, .iconst 0, 1), (52, .istore 8, 2), (54, .iload 8, 2), (56, .iload 6, 2), (58, .if_icmp .ge 30, 3), (61, .aload_n 0, 1), (62, .getfield 37, 3)], [(65, .bipush 100, 2), (67, .iload 7, 2), (69, .imul, 1), (70, .iload 8, 2), (72, .iadd, 1), (73, .aload 4, 2), (75, .iload 5, 2), (77, .iload 8, 2), (79, .iadd, 1)], [(80, .baload, 1), (81, .bastore, 1), (82, .iinc 8 1, 3), (85, .goto (-31), 3), (88, .aload_n 0, 1), (89, .getfield 19, 3), (92, .iload 7, 2), (94, .iconst 0, 1), (95, .iastore, 1)], [(96, .aload_n 0, 1), (97, .getfield 22, 3), (100, .iload 7, 2), (102, .iconst 0, 1), (103, .iastore, 1), (104, .aload_n 0, 1), (105, .getfield 25, 3), (108, .iload 7, 2), (110, .iconst 0, 1), (111, .iastore, 1)], [(112, .aload_n 0, 1), (113, .getfield 28, 3), (116, .iload 7, 2), (118, .iconst 0, 1), (119, .iastore, 1), (120, .aload_n 0, 1), (121, .getfield 31, 3), (124, .iload 7, 2), (126, .iconst (-1), 1), (127, .iastore, 1)], [(128, .return_, 1)]], 9, none, false)
def yMd_alter : AY := (87, 8, [[(0, .aload_n 0, 1), (1, .iload_n 1, 1), (2, .iconst 0, 1), (3, .aload_n 0, 1), (4, .getfield 155, 3), (7, .iconst 1, 1), (8, .isub, 1), (9, .invokestatic 103, 3), (12, .ifCond .eq 14, 3), (15, .iload_n 2, 1)], [(16, .iconst 0, 1), (17, .sipush 255, 3), (20, .invokestatic 103, 3), (23, .ifCond .ne 7, 3), (26, .iconst 1, 1), (27, .goto 4, 3), (30, .iconst 0, 1), (31, .iconst 1, 1)], [(32, .invokevirtual 122, 3), (35, .ifCond .eq 5, 3), (38, .iconst 0, 1), (39, .ireturn, 1), (40, .aload_n 0, 1), (41, .getfield 45, 3), (44, .iload_n 1, 1), (45, .baload, 1), (46, .sipush 255, 3)], [(49, .iand, 1), (50, .istore_n 3, 1), (51, .aload_n 0, 1), (52, .getfield 45, 3), (55, .iload_n 1, 1), (56, .iload_n 2, 1), (57, .i2b, 1), (58, .bastore, 1), (59, .iload_n 3, 1), (60, .ireturn, 1)]], 4, some .int, false)
def yMd_arrange : AY := (88, 8, [[(0, .iconst 0, 1), (1, .istore_n 1, 1), (2, .iconst 0, 1), (3, .istore_n 2, 1), (4, .iconst 0, 1), (5, .istore_n 3, 1), (6, .aload_n 0, 1), (7, .getfield 67, 3), (10, .iconst 0, 1), (11, .iconst 0, 1), (12, .iastore, 1), (13, .aload_n 0, 1), (14, .getfield 70, 3)], [(17, .iconst 0, 1), (18, .iconst (-1), 1), (19, .iastore, 1), (20, .iload_n 3, 1), (21, .ifCond .lt 118, 3), (24, .aload_n 0, 1), (25, .aload_n 0, 1), (26, .getfield 67, 3), (29, .iload_n 3, 1), (30, .iaload, 1), (31, .aload_n 0, 1)], [(32, .getfield 70, 3), (35, .iload_n 3, 1), (36, .iaload, 1), (37, .invokevirtual 139, 3), (40, .istore 4, 2), (42, .iload 4, 2), (44, .iconst (-1), 1), (45, .if_icmp .ne 9, 3)], [(48, .iinc 3 (-1), 3), (51, .goto (-31), 3), (54, .aload_n 0, 1), (55, .getfield 70, 3), (58, .iload_n 3, 1), (59, .iload 4, 2), (61, .iastore, 1), (62, .aload_n 0, 1), (63, .getfield 7, 3)], [(66, .aload_n 0, 1), (67, .getfield 83, 3), (70, .iload 4, 2), (72, .iadd, 1), (73, .iaload, 1), (74, .iconst 3, 1), (75, .if_icmp .ne 17, 3), (78, .aload_n 0, 1), (79, .getfield 64, 3)], [(82, .iload_n 2, 1), (83, .iload 4, 2), (85, .iastore, 1), (86, .iinc 2 1, 3), (89, .goto 14, 3), (92, .aload_n 0, 1), (93, .getfield 61, 3)], [(96, .iload_n 1, 1), (97, .iload 4, 2), (99, .iastore, 1), (100, .iinc 1 1, 3), (103, .aload_n 0, 1), (104, .getfield 7, 3), (107, .aload_n 0, 1), (108, .getfield 83, 3), (111, .iload 4, 2)], [(113, .iadd, 1), (114, .iaload, 1), (115, .ifCond .ne 21, 3), (118, .iinc 3 1, 3), (121, .aload_n 0, 1), (122, .getfield 67, 3), (125, .iload_n 3, 1), (126, .iload 4, 2)], [(128, .iastore, 1), (129, .aload_n 0, 1), (130, .getfield 70, 3), (133, .iload_n 3, 1), (134, .iconst (-1), 1), (135, .iastore, 1), (136, .goto (-116), 3), (139, .iconst 0, 1), (140, .istore 4, 2), (142, .iload 4, 2)], [(144, .iload_n 2, 1), (145, .if_icmp .ge 25, 3), (148, .aload_n 0, 1), (149, .getfield 61, 3), (152, .iload_n 1, 1), (153, .iload 4, 2), (155, .iadd, 1), (156, .aload_n 0, 1), (157, .getfield 64, 3)], [(160, .iload 4, 2), (162, .iaload, 1), (163, .iastore, 1), (164, .iinc 4 1, 3), (167, .goto (-25), 3), (170, .return_, 1)]], 5, none, false)
def yMd_blocksOf : AY := (89, 8, [[(0, .aload_n 0, 1), (1, .getfield 7, 3), (4, .iload_n 1, 1), (5, .iaload, 1), (6, .iconst 1, 1), (7, .if_icmp .ne 22, 3), (10, .aload_n 0, 1), (11, .getfield 28, 3), (14, .iload_n 1, 1), (15, .iaload, 1)], [(16, .sipush 512, 3), (19, .iadd, 1), (20, .iconst 1, 1), (21, .isub, 1), (22, .sipush 512, 3), (25, .idiv, 1), (26, .goto 4, 3), (29, .iconst 0, 1), (30, .ireturn, 1)]], 2, some .int, false)
def yMd_check : AY := (90, 8, [[(0, .aload_n 0, 1), (1, .iload_n 1, 1), (2, .ifCond .lt 15, 3), (5, .iload_n 1, 1), (6, .aload_n 0, 1), (7, .getfield 155, 3), (10, .sipush 512, 3), (13, .idiv, 1), (14, .if_icmp .lt 7, 3)], [(17, .iconst 1, 1), (18, .goto 4, 3), (21, .iconst 0, 1), (22, .iconst 1, 1), (23, .invokevirtual 122, 3), (26, .ifCond .eq 5, 3), (29, .iconst 0, 1), (30, .ireturn, 1), (31, .aload_n 0, 1)], [(32, .sipush 512, 3), (35, .iload_n 1, 1), (36, .imul, 1), (37, .invokevirtual 172, 3), (40, .istore_n 2, 1), (41, .aload_n 0, 1), (42, .sipush 512, 3), (45, .iload_n 1, 1), (46, .imul, 1), (47, .sipush 148, 3)], [(50, .iadd, 1), (51, .bipush 6, 2), (53, .iload_n 2, 1), (54, .i2l, 1), (55, .invokevirtual 165, 3), (58, .aload_n 0, 1), (59, .getfield 45, 3), (62, .sipush 512, 3)], [(65, .iload_n 1, 1), (66, .imul, 1), (67, .sipush 155, 3), (70, .iadd, 1), (71, .bipush 32, 2), (73, .bastore, 1), (74, .iload_n 2, 1), (75, .ireturn, 1)]], 3, some .int, false)
def yMd_clear : AY := (91, 8, [[(0, .aload_n 0, 1), (1, .getfield 34, 3), (4, .iload_n 1, 1), (5, .bipush 30, 2), (7, .idiv, 1), (8, .iconst 1, 1), (9, .iastore, 1), (10, .aload_n 0, 1), (11, .getfield 7, 3), (14, .iload_n 1, 1), (15, .iconst 0, 1)], [(16, .iastore, 1), (17, .aload_n 0, 1), (18, .getfield 13, 3), (21, .iload_n 1, 1), (22, .iconst (-1), 1), (23, .iastore, 1), (24, .aload_n 0, 1), (25, .getfield 16, 3), (28, .iload_n 1, 1), (29, .iconst 0, 1), (30, .iastore, 1), (31, .aload_n 0, 1)], [(32, .getfield 19, 3), (35, .iload_n 1, 1), (36, .iconst 0, 1), (37, .iastore, 1), (38, .aload_n 0, 1), (39, .getfield 22, 3), (42, .iload_n 1, 1), (43, .iconst 0, 1), (44, .iastore, 1), (45, .aload_n 0, 1), (46, .getfield 25, 3)], [(49, .iload_n 1, 1), (50, .iconst 0, 1), (51, .iastore, 1), (52, .aload_n 0, 1), (53, .getfield 28, 3), (56, .iload_n 1, 1), (57, .iconst 0, 1), (58, .iastore, 1), (59, .aload_n 0, 1), (60, .getfield 31, 3), (63, .iload_n 1, 1)], [(64, .iconst (-1), 1), (65, .iastore, 1), (66, .return_, 1)]], 2, none, false)
def yMd_compare : AY := (92, 8, [[(0, .iconst 0, 1), (1, .istore_n 3, 1), (2, .iload_n 3, 1), (3, .aload_n 0, 1), (4, .getfield 16, 3), (7, .iload_n 1, 1), (8, .iaload, 1), (9, .if_icmp .ge 44, 3), (12, .iload_n 3, 1), (13, .aload_n 0, 1), (14, .getfield 16, 3)], [(17, .iload_n 2, 1), (18, .iaload, 1), (19, .if_icmp .ge 34, 3), (22, .aload_n 0, 1), (23, .getfield 37, 3), (26, .bipush 100, 2), (28, .iload_n 1, 1), (29, .imul, 1), (30, .iload_n 3, 1), (31, .iadd, 1)], [(32, .baload, 1), (33, .aload_n 0, 1), (34, .getfield 37, 3), (37, .bipush 100, 2), (39, .iload_n 2, 1), (40, .imul, 1), (41, .iload_n 3, 1), (42, .iadd, 1), (43, .baload, 1), (44, .if_icmp .ne 9, 3), (47, .iinc 3 1, 3)], [(50, .goto (-48), 3), (53, .iload_n 3, 1), (54, .aload_n 0, 1), (55, .getfield 16, 3), (58, .iload_n 1, 1), (59, .iaload, 1), (60, .if_icmp .eq 13, 3), (63, .iload_n 3, 1)], [(64, .aload_n 0, 1), (65, .getfield 16, 3), (68, .iload_n 2, 1), (69, .iaload, 1), (70, .if_icmp .ne 17, 3), (73, .aload_n 0, 1), (74, .getfield 16, 3), (77, .iload_n 1, 1), (78, .iaload, 1), (79, .aload_n 0, 1)], [(80, .getfield 16, 3), (83, .iload_n 2, 1), (84, .iaload, 1), (85, .isub, 1), (86, .ireturn, 1), (87, .aload_n 0, 1), (88, .getfield 37, 3), (91, .bipush 100, 2), (93, .iload_n 1, 1), (94, .imul, 1), (95, .iload_n 3, 1)], [(96, .iadd, 1), (97, .baload, 1), (98, .aload_n 0, 1), (99, .getfield 37, 3), (102, .bipush 100, 2), (104, .iload_n 2, 1), (105, .imul, 1), (106, .iload_n 3, 1), (107, .iadd, 1), (108, .baload, 1), (109, .isub, 1), (110, .ireturn, 1)]], 4, some .int, false)
def yMd_contents : AY := (93, 8, [[(0, .aload_n 0, 1), (1, .aload_n 0, 1), (2, .iload_n 1, 1), (3, .invokevirtual 107, 3), (6, .ifCond .eq 40, 3), (9, .aload_n 0, 1), (10, .getfield 7, 3), (13, .aload_n 0, 1), (14, .getfield 83, 3)], [(17, .iload_n 1, 1), (18, .iadd, 1), (19, .iaload, 1), (20, .iconst 1, 1), (21, .if_icmp .ne 25, 3), (24, .iload_n 2, 1), (25, .iconst 0, 1), (26, .sipush 2000, 3), (29, .invokestatic 103, 3)], [(32, .ifCond .eq 14, 3), (35, .iload_n 3, 1), (36, .iconst 0, 1), (37, .sipush 255, 3), (40, .invokestatic 103, 3), (43, .ifCond .ne 7, 3), (46, .iconst 1, 1), (47, .goto 4, 3)], [(50, .iconst 0, 1), (51, .iconst 1, 1), (52, .invokevirtual 122, 3), (55, .ifCond .eq 4, 3), (58, .return_, 1), (59, .aload_n 0, 1), (60, .getfield 83, 3), (63, .iload_n 1, 1)], [(64, .iadd, 1), (65, .istore 4, 2), (67, .aload_n 0, 1), (68, .getfield 28, 3), (71, .iload 4, 2), (73, .iload_n 2, 1), (74, .iastore, 1), (75, .iconst 0, 1), (76, .istore 5, 2), (78, .iload 5, 2)], [(80, .iload_n 2, 1), (81, .if_icmp .ge 31, 3), (84, .aload_n 0, 1), (85, .getfield 42, 3), (88, .sipush 2000, 3), (91, .iload 4, 2), (93, .imul, 1), (94, .iload 5, 2)], [(96, .iadd, 1), (97, .iload_n 3, 1), (98, .bipush 31, 2), (100, .iload 5, 2), (102, .imul, 1), (103, .iadd, 1), (104, .i2b, 1), (105, .bastore, 1), (106, .iinc 5 1, 3), (109, .goto (-31), 3)], [(112, .return_, 1)]], 6, none, false)
def yMd_copyIn : AY := (94, 8, [[(0, .iconst 0, 1), (1, .istore_n 3, 1), (2, .iload_n 3, 1), (3, .iload_n 2, 1), (4, .if_icmp .ge 36, 3), (7, .aload_n 0, 1), (8, .getfield 52, 3), (11, .aload_n 0, 1), (12, .getfield 100, 3), (15, .aload_n 0, 1)], [(16, .getfield 45, 3), (19, .iload_n 1, 1), (20, .iload_n 3, 1), (21, .iadd, 1), (22, .baload, 1), (23, .bastore, 1), (24, .aload_n 0, 1), (25, .dup, 1), (26, .getfield 100, 3), (29, .iconst 1, 1), (30, .iadd, 1), (31, .putfield 100, 3)], [(34, .iinc 3 1, 3), (37, .goto (-35), 3), (40, .return_, 1)]], 4, none, false)
def yMd_count : AY := (95, 8, [[(0, .aload_n 0, 1), (1, .getfield 34, 3), (4, .aload_n 0, 1), (5, .getfield 83, 3), (8, .bipush 30, 2), (10, .idiv, 1), (11, .iaload, 1), (12, .ireturn, 1)]], 1, some .int, false)
def yMd_cutOf : AY := (96, 8, [[(0, .aload_n 0, 1), (1, .getfield 100, 3), (4, .bipush 100, 2), (6, .if_icmp .gt 5, 3), (9, .iconst 0, 1), (10, .ireturn, 1), (11, .iconst 0, 1), (12, .istore_n 1, 1), (13, .iload_n 1, 1), (14, .aload_n 0, 1), (15, .getfield 100, 3)], [(18, .if_icmp .ge 33, 3), (21, .aload_n 0, 1), (22, .getfield 52, 3), (25, .iload_n 1, 1), (26, .baload, 1), (27, .bipush 47, 2), (29, .if_icmp .ne 16, 3)], [(32, .aload_n 0, 1), (33, .getfield 100, 3), (36, .iload_n 1, 1), (37, .isub, 1), (38, .iconst 1, 1), (39, .isub, 1), (40, .bipush 100, 2), (42, .if_icmp .le 9, 3), (45, .iinc 1 1, 3)], [(48, .goto (-35), 3), (51, .iload_n 1, 1), (52, .sipush 155, 3), (55, .if_icmp .gt 13, 3), (58, .iload_n 1, 1), (59, .aload_n 0, 1), (60, .getfield 100, 3), (63, .iconst 1, 1)], [(64, .isub, 1), (65, .if_icmp .lt 7, 3), (68, .iconst (-1), 1), (69, .goto 4, 3), (72, .iload_n 1, 1), (73, .ireturn, 1)]], 2, some .int, false)
def yMd_entry : AY := (97, 8, [[(0, .aload_n 0, 1), (1, .iload_n 1, 1), (2, .invokevirtual 195, 3), (5, .istore_n 3, 1), (6, .iload_n 3, 1), (7, .ifCond .le 5, 3), (10, .iload_n 3, 1), (11, .ireturn, 1), (12, .aload_n 0, 1), (13, .getfield 45, 3)], [(16, .iload_n 1, 1), (17, .sipush 156, 3), (20, .iadd, 1), (21, .baload, 1), (22, .istore 4, 2), (24, .iload 4, 2), (26, .bipush 53, 2), (28, .if_icmp .ne 7, 3), (31, .iconst 1, 1)], [(32, .goto 4, 3), (35, .iconst 0, 1), (36, .istore 5, 2), (38, .aload_n 0, 1), (39, .iload_n 1, 1), (40, .sipush 345, 3), (43, .iadd, 1), (44, .sipush 155, 3), (47, .invokevirtual 198, 3)], [(50, .istore 6, 2), (52, .aload_n 0, 1), (53, .iload_n 1, 1), (54, .bipush 100, 2), (56, .invokevirtual 198, 3), (59, .istore 7, 2), (61, .iload 6, 2), (63, .iconst (-1), 1)], [(64, .if_icmp .eq 9, 3), (67, .iload 7, 2), (69, .iconst (-1), 1), (70, .if_icmp .ne 6, 3), (73, .bipush 7, 2), (75, .ireturn, 1), (76, .aload_n 0, 1), (77, .iconst 0, 1), (78, .putfield 100, 3)], [(81, .iload 6, 2), (83, .ifCond .le 35, 3), (86, .aload_n 0, 1), (87, .iload_n 1, 1), (88, .sipush 345, 3), (91, .iadd, 1), (92, .iload 6, 2), (94, .invokevirtual 201, 3)], [(97, .aload_n 0, 1), (98, .getfield 52, 3), (101, .aload_n 0, 1), (102, .getfield 100, 3), (105, .bipush 47, 2), (107, .bastore, 1), (108, .aload_n 0, 1), (109, .dup, 1), (110, .getfield 100, 3)], [(113, .iconst 1, 1), (114, .iadd, 1), (115, .putfield 100, 3), (118, .aload_n 0, 1), (119, .iload_n 1, 1), (120, .iload 7, 2), (122, .invokevirtual 201, 3), (125, .aload_n 0, 1), (126, .getfield 100, 3)], [(129, .ifCond .le 23, 3), (132, .aload_n 0, 1), (133, .getfield 52, 3), (136, .aload_n 0, 1), (137, .getfield 100, 3), (140, .iconst 1, 1), (141, .isub, 1), (142, .baload, 1), (143, .bipush 47, 2)], [(145, .if_icmp .ne 7, 3), (148, .iconst 1, 1), (149, .goto 4, 3), (152, .iconst 0, 1), (153, .istore 8, 2), (155, .aload_n 0, 1), (156, .getfield 100, 3), (159, .ifCond .eq 10, 3)], [(162, .iload 8, 2), (164, .iload 5, 2), (166, .if_icmp .eq 6, 3), (169, .bipush 7, 2), (171, .ireturn, 1), (172, .aload_n 0, 1), (173, .iload_n 2, 1), (174, .iload 5, 2)], [(176, .invokevirtual 204, 3), (179, .istore 9, 2), (181, .iload 9, 2), (183, .iconst (-1), 1), (184, .if_icmp .eq 26, 3), (187, .aload_n 0, 1), (188, .iload_n 2, 1), (189, .iload 9, 2), (191, .aload_n 0, 1)], [(192, .getfield 52, 3), (195, .aload_n 0, 1), (196, .getfield 181, 3), (199, .aload_n 0, 1), (200, .getfield 184, 3), (203, .invokevirtual 118, 3), (206, .iconst (-1), 1), (207, .if_icmp .eq 6, 3)], [(210, .bipush 7, 2), (212, .ireturn, 1), (213, .aload_n 0, 1), (214, .getfield 181, 3), (217, .istore 10, 2), (219, .aload_n 0, 1), (220, .getfield 184, 3), (223, .istore 11, 2)], [(225, .aload_n 0, 1), (226, .iload_n 1, 1), (227, .sipush 157, 3), (230, .iadd, 1), (231, .bipush 100, 2), (233, .invokevirtual 198, 3), (236, .istore 12, 2), (238, .iload 12, 2)], [(240, .iconst (-1), 1), (241, .if_icmp .eq 20, 3), (244, .iload 12, 2), (246, .ifCond .le 18, 3), (249, .iload 4, 2), (251, .bipush 48, 2), (253, .if_icmp .eq 8, 3)], [(256, .iload 5, 2), (258, .ifCond .eq 6, 3), (261, .bipush 8, 2), (263, .ireturn, 1), (264, .iconst 0, 1), (265, .istore 13, 2), (267, .iload 13, 2), (269, .iload 12, 2), (271, .if_icmp .ge 42, 3)], [(274, .iload 4, 2), (276, .bipush 50, 2), (278, .if_icmp .ne 35, 3), (281, .aload_n 0, 1), (282, .getfield 45, 3), (285, .iload_n 1, 1), (286, .sipush 157, 3)], [(289, .iadd, 1), (290, .iload 13, 2), (292, .iadd, 1), (293, .baload, 1), (294, .bipush 33, 2), (296, .bipush 126, 2), (298, .invokestatic 103, 3), (301, .ifCond .ne 6, 3)], [(304, .bipush 8, 2), (306, .ireturn, 1), (307, .iinc 13 1, 3), (310, .goto (-43), 3), (313, .iconst (-1), 1), (314, .istore 13, 2), (316, .iload 4, 2), (318, .bipush 49, 2)], [(320, .if_icmp .ne 113, 3), (323, .iconst 0, 1), (324, .istore 14, 2), (326, .iload 14, 2), (328, .iload 11, 2), (330, .if_icmp .ge 26, 3), (333, .aload_n 0, 1), (334, .getfield 58, 3)], [(337, .iload 14, 2), (339, .aload_n 0, 1), (340, .getfield 52, 3), (343, .iload 10, 2), (345, .iload 14, 2), (347, .iadd, 1), (348, .baload, 1), (349, .bastore, 1), (350, .iinc 14 1, 3)], [(353, .goto (-27), 3), (356, .aload_n 0, 1), (357, .iconst 0, 1), (358, .putfield 100, 3), (361, .aload_n 0, 1), (362, .iload_n 1, 1), (363, .sipush 157, 3), (366, .iadd, 1), (367, .iload 12, 2)], [(369, .invokevirtual 201, 3), (372, .aload_n 0, 1), (373, .iload_n 2, 1), (374, .iconst 0, 1), (375, .invokevirtual 204, 3), (378, .istore 14, 2), (380, .iload 14, 2), (382, .iconst (-1), 1), (383, .if_icmp .ne 7, 3)], [(386, .iconst (-1), 1), (387, .goto 22, 3), (390, .aload_n 0, 1), (391, .iload_n 2, 1), (392, .iload 14, 2), (394, .aload_n 0, 1), (395, .getfield 52, 3), (398, .aload_n 0, 1), (399, .getfield 181, 3)], [(402, .aload_n 0, 1), (403, .getfield 184, 3), (406, .invokevirtual 118, 3), (409, .istore 13, 2), (411, .iload 13, 2), (413, .iconst (-1), 1), (414, .if_icmp .eq 16, 3)], [(417, .aload_n 0, 1), (418, .getfield 7, 3), (421, .iload_n 2, 1), (422, .iload 13, 2), (424, .iadd, 1), (425, .iaload, 1), (426, .iconst 1, 1), (427, .if_icmp .eq 6, 3), (430, .bipush 8, 2)], [(432, .ireturn, 1), (433, .aload_n 0, 1), (434, .iload_n 1, 1), (435, .bipush 124, 2), (437, .iadd, 1), (438, .bipush 11, 2), (440, .invokevirtual 187, 3), (443, .lstore 14, 2), (445, .aload_n 0, 1), (446, .getfield 34, 3)], [(449, .iload_n 2, 1), (450, .bipush 30, 2), (452, .idiv, 1), (453, .iaload, 1), (454, .bipush 30, 2), (456, .if_icmp .eq 12, 3), (459, .lload 14, 2), (461, .ldc2_w 208, 3)], [(464, .lcmp, 1), (465, .ifCond .le 6, 3), (468, .bipush 9, 2), (470, .ireturn, 1), (471, .lload 14, 2), (473, .l2i, 1), (474, .istore 16, 2), (476, .iload 16, 2), (478, .sipush 512, 3)], [(481, .iadd, 1), (482, .iconst 1, 1), (483, .isub, 1), (484, .sipush 512, 3), (487, .idiv, 1), (488, .istore 17, 2), (490, .iload_n 1, 1), (491, .sipush 512, 3), (494, .iconst 1, 1), (495, .iload 17, 2)], [(497, .iadd, 1), (498, .imul, 1), (499, .iadd, 1), (500, .aload_n 0, 1), (501, .getfield 155, 3), (504, .if_icmp .le 6, 3), (507, .bipush 10, 2), (509, .ireturn, 1), (510, .aload_n 0, 1), (511, .iload_n 1, 1)], [(512, .sipush 512, 3), (515, .iadd, 1), (516, .iload 16, 2), (518, .iadd, 1), (519, .iload_n 1, 1), (520, .sipush 512, 3), (523, .iconst 1, 1), (524, .iload 17, 2), (526, .iadd, 1), (527, .imul, 1)], [(528, .iadd, 1), (529, .invokevirtual 177, 3), (532, .ifCond .ne 6, 3), (535, .bipush 11, 2), (537, .ireturn, 1), (538, .iload_n 2, 1), (539, .aload_n 0, 1), (540, .getfield 34, 3), (543, .iload_n 2, 1)], [(544, .bipush 30, 2), (546, .idiv, 1), (547, .iaload, 1), (548, .iadd, 1), (549, .istore 18, 2), (551, .iload 5, 2), (553, .ifCond .eq 7, 3), (556, .iconst 0, 1), (557, .goto 26, 3)], [(560, .iload 4, 2), (562, .bipush 48, 2), (564, .if_icmp .ne 7, 3), (567, .iconst 1, 1), (568, .goto 15, 3), (571, .iload 4, 2), (573, .bipush 50, 2), (575, .if_icmp .ne 7, 3)], [(578, .iconst 2, 1), (579, .goto 4, 3), (582, .iconst 3, 1), (583, .istore 19, 2), (585, .iload 19, 2), (587, .iconst 3, 1), (588, .if_icmp .ne 22, 3), (591, .aload_n 0, 1)], [(592, .iload_n 2, 1), (593, .iload 9, 2), (595, .iload 19, 2), (597, .aload_n 0, 1), (598, .getfield 58, 3), (601, .iconst 0, 1), (602, .iload 11, 2), (604, .invokevirtual 126, 3), (607, .goto 20, 3)], [(610, .aload_n 0, 1), (611, .iload_n 2, 1), (612, .iload 9, 2), (614, .iload 19, 2), (616, .aload_n 0, 1), (617, .getfield 52, 3), (620, .iload 10, 2), (622, .iload 11, 2)], [(624, .invokevirtual 126, 3), (627, .aload_n 0, 1), (628, .getfield 19, 3), (631, .iload 18, 2), (633, .aload_n 0, 1), (634, .iload_n 1, 1), (635, .bipush 100, 2), (637, .iadd, 1), (638, .bipush 7, 2)], [(640, .invokevirtual 187, 3), (643, .l2i, 1), (644, .iastore, 1), (645, .aload_n 0, 1), (646, .getfield 22, 3), (649, .iload 18, 2), (651, .aload_n 0, 1), (652, .iload_n 1, 1), (653, .bipush 108, 2), (655, .iadd, 1)], [(656, .bipush 7, 2), (658, .invokevirtual 187, 3), (661, .l2i, 1), (662, .iastore, 1), (663, .aload_n 0, 1), (664, .getfield 25, 3), (667, .iload 18, 2), (669, .aload_n 0, 1), (670, .iload_n 1, 1), (671, .sipush 136, 3)], [(674, .iadd, 1), (675, .bipush 11, 2), (677, .invokevirtual 187, 3), (680, .l2i, 1), (681, .iastore, 1), (682, .aload_n 0, 1), (683, .getfield 31, 3), (686, .iload 18, 2)], [(688, .iload 13, 2), (690, .iastore, 1), (691, .aload_n 0, 1), (692, .getfield 28, 3), (695, .iload 18, 2), (697, .iload 19, 2), (699, .iconst 1, 1), (700, .if_icmp .ne 8, 3), (703, .iload 16, 2)], [(705, .goto 15, 3), (708, .iload 19, 2), (710, .iconst 2, 1), (711, .if_icmp .ne 8, 3), (714, .iload 12, 2), (716, .goto 4, 3), (719, .iconst 0, 1)], [(720, .iastore, 1), (721, .iconst 0, 1), (722, .istore 20, 2), (724, .iload 20, 2), (726, .aload_n 0, 1), (727, .getfield 28, 3), (730, .iload 18, 2), (732, .iaload, 1), (733, .if_icmp .ge 50, 3)], [(736, .aload_n 0, 1), (737, .getfield 42, 3), (740, .sipush 2000, 3), (743, .iload 18, 2), (745, .imul, 1), (746, .iload 20, 2), (748, .iadd, 1), (749, .aload_n 0, 1), (750, .getfield 45, 3)], [(753, .iload 19, 2), (755, .iconst 1, 1), (756, .if_icmp .ne 11, 3), (759, .iload_n 1, 1), (760, .sipush 512, 3), (763, .iadd, 1), (764, .goto 8, 3), (767, .iload_n 1, 1)], [(768, .sipush 157, 3), (771, .iadd, 1), (772, .iload 20, 2), (774, .iadd, 1), (775, .baload, 1), (776, .bastore, 1), (777, .iinc 20 1, 3), (780, .goto (-56), 3), (783, .iconst 0, 1)], [(784, .ireturn, 1)]], 21, some .int, false)
def yMd_fails : AY := (98, 8, [[(0, .aload_n 0, 1), (1, .iload_n 1, 1), (2, .ifCond .eq 7, 3), (5, .iload_n 2, 1), (6, .goto 4, 3), (9, .iconst 0, 1), (10, .putfield 80, 3), (13, .iload_n 1, 1), (14, .ireturn, 1)]], 3, some .boolean, false)
def yMd_fill : AY := (99, 8, [[(0, .aload_n 0, 1), (1, .iload_n 1, 1), (2, .invokevirtual 107, 3), (5, .ifCond .eq 48, 3), (8, .aload_n 0, 1), (9, .getfield 7, 3), (12, .aload_n 0, 1), (13, .getfield 83, 3)], [(16, .iload_n 1, 1), (17, .iadd, 1), (18, .iaload, 1), (19, .iconst 1, 1), (20, .if_icmp .eq 18, 3), (23, .aload_n 0, 1), (24, .getfield 7, 3), (27, .aload_n 0, 1), (28, .getfield 83, 3), (31, .iload_n 1, 1)], [(32, .iadd, 1), (33, .iaload, 1), (34, .iconst 2, 1), (35, .if_icmp .ne 18, 3), (38, .iload 4, 2), (40, .iconst 0, 1), (41, .bipush 8, 2), (43, .invokestatic 103, 3), (46, .ifCond .eq 7, 3)], [(49, .iconst 1, 1), (50, .goto 4, 3), (53, .iconst 0, 1), (54, .istore 5, 2), (56, .iload 5, 2), (58, .ifCond .eq 22, 3), (61, .aload_n 0, 1), (62, .getfield 7, 3)], [(65, .aload_n 0, 1), (66, .getfield 83, 3), (69, .iload_n 1, 1), (70, .iadd, 1), (71, .iaload, 1), (72, .iconst 2, 1), (73, .if_icmp .ne 7, 3), (76, .iconst 1, 1), (77, .goto 4, 3)], [(80, .iconst 0, 1), (81, .istore 6, 2), (83, .iconst 0, 1), (84, .istore 7, 2), (86, .iload 7, 2), (88, .iload 4, 2), (90, .if_icmp .ge 40, 3), (93, .iload 6, 2), (95, .ifCond .eq 35, 3)], [(98, .iload 5, 2), (100, .ifCond .eq 30, 3), (103, .lload_n 2, 1), (104, .bipush 8, 2), (106, .iload 7, 2), (108, .imul, 1), (109, .lshr, 1), (110, .ldc2_w 98, 3)], [(113, .land, 1), (114, .l2i, 1), (115, .bipush 33, 2), (117, .bipush 126, 2), (119, .invokestatic 103, 3), (122, .istore 5, 2), (124, .iinc 7 1, 3), (127, .goto (-41), 3)], [(130, .aload_n 0, 1), (131, .iload 5, 2), (133, .ifCond .ne 7, 3), (136, .iconst 1, 1), (137, .goto 4, 3), (140, .iconst 0, 1), (141, .iconst 1, 1), (142, .invokevirtual 122, 3)], [(145, .ifCond .eq 5, 3), (148, .iconst 0, 1), (149, .ireturn, 1), (150, .aload_n 0, 1), (151, .getfield 83, 3), (154, .iload_n 1, 1), (155, .iadd, 1), (156, .istore 7, 2), (158, .aload_n 0, 1), (159, .aload_n 0, 1)], [(160, .getfield 28, 3), (163, .iload 7, 2), (165, .iaload, 1), (166, .iload 4, 2), (168, .iadd, 1), (169, .iload 6, 2), (171, .ifCond .eq 8, 3), (174, .bipush 100, 2)], [(176, .goto 6, 3), (179, .sipush 2000, 3), (182, .if_icmp .le 7, 3), (185, .iconst 1, 1), (186, .goto 4, 3), (189, .iconst 0, 1), (190, .iconst 2, 1), (191, .invokevirtual 122, 3)], [(194, .ifCond .eq 5, 3), (197, .iconst 0, 1), (198, .ireturn, 1), (199, .iconst 0, 1), (200, .istore 8, 2), (202, .iload 8, 2), (204, .iload 4, 2), (206, .if_icmp .ge 40, 3)], [(209, .aload_n 0, 1), (210, .getfield 42, 3), (213, .sipush 2000, 3), (216, .iload 7, 2), (218, .imul, 1), (219, .aload_n 0, 1), (220, .getfield 28, 3), (223, .iload 7, 2)], [(225, .iaload, 1), (226, .iadd, 1), (227, .iload 8, 2), (229, .iadd, 1), (230, .lload_n 2, 1), (231, .bipush 8, 2), (233, .iload 8, 2), (235, .imul, 1), (236, .lshr, 1), (237, .l2i, 1), (238, .i2b, 1), (239, .bastore, 1)], [(240, .iinc 8 1, 3), (243, .goto (-41), 3), (246, .aload_n 0, 1), (247, .getfield 28, 3), (250, .iload 7, 2), (252, .dup2, 1), (253, .iaload, 1), (254, .iload 4, 2)], [(256, .iadd, 1), (257, .iastore, 1), (258, .aload_n 0, 1), (259, .getfield 28, 3), (262, .iload 7, 2), (264, .iaload, 1), (265, .ireturn, 1)]], 9, some .int, false)
def yMd_find : AY := (100, 8, [[(0, .iconst (-1), 1), (1, .istore 6, 2), (3, .iconst 1, 1), (4, .istore 7, 2), (6, .iload 7, 2), (8, .aload_n 0, 1), (9, .getfield 34, 3), (12, .iload_n 1, 1), (13, .bipush 30, 2), (15, .idiv, 1)], [(16, .iaload, 1), (17, .if_icmp .ge 42, 3), (20, .aload_n 0, 1), (21, .getfield 13, 3), (24, .iload_n 1, 1), (25, .iload 7, 2), (27, .iadd, 1), (28, .iaload, 1), (29, .iload_n 2, 1), (30, .if_icmp .ne 23, 3)], [(33, .aload_n 0, 1), (34, .iload_n 1, 1), (35, .iload 7, 2), (37, .iadd, 1), (38, .aload_n 3, 1), (39, .iload 4, 2), (41, .iload 5, 2), (43, .invokevirtual 94, 3), (46, .ifCond .eq 7, 3)], [(49, .iload 7, 2), (51, .istore 6, 2), (53, .iinc 7 1, 3), (56, .goto (-50), 3), (59, .iload 6, 2), (61, .ireturn, 1)]], 8, some .int, false)
def yMd_firstFault : AY := (101, 8, [[(0, .aload_n 0, 1), (1, .getfield 45, 3), (4, .iload_n 1, 1), (5, .sipush 154, 3), (8, .iadd, 1), (9, .baload, 1), (10, .ifCond .ne 18, 3), (13, .aload_n 0, 1), (14, .getfield 45, 3)], [(17, .iload_n 1, 1), (18, .sipush 155, 3), (21, .iadd, 1), (22, .baload, 1), (23, .bipush 32, 2), (25, .if_icmp .eq 5, 3), (28, .iconst 3, 1), (29, .ireturn, 1), (30, .sipush 148, 3)], [(33, .istore_n 2, 1), (34, .iload_n 2, 1), (35, .sipush 154, 3), (38, .if_icmp .ge 29, 3), (41, .aload_n 0, 1), (42, .getfield 45, 3), (45, .iload_n 1, 1), (46, .iload_n 2, 1), (47, .iadd, 1)], [(48, .baload, 1), (49, .bipush 48, 2), (51, .bipush 55, 2), (53, .invokestatic 103, 3), (56, .ifCond .ne 5, 3), (59, .iconst 3, 1), (60, .ireturn, 1), (61, .iinc 2 1, 3)], [(64, .goto (-30), 3), (67, .iconst 0, 1), (68, .istore_n 2, 1), (69, .sipush 148, 3), (72, .istore_n 3, 1), (73, .iload_n 3, 1), (74, .sipush 154, 3), (77, .if_icmp .ge 26, 3)], [(80, .bipush 8, 2), (82, .iload_n 2, 1), (83, .imul, 1), (84, .aload_n 0, 1), (85, .getfield 45, 3), (88, .iload_n 1, 1), (89, .iload_n 3, 1), (90, .iadd, 1), (91, .baload, 1), (92, .iadd, 1), (93, .bipush 48, 2), (95, .isub, 1)], [(96, .istore_n 2, 1), (97, .iinc 3 1, 3), (100, .goto (-27), 3), (103, .iload_n 2, 1), (104, .aload_n 0, 1), (105, .iload_n 1, 1), (106, .invokevirtual 172, 3), (109, .if_icmp .eq 5, 3)], [(112, .iconst 3, 1), (113, .ireturn, 1), (114, .iconst 0, 1), (115, .istore_n 3, 1), (116, .iload_n 3, 1), (117, .bipush 8, 2), (119, .if_icmp .ge 30, 3), (122, .aload_n 0, 1), (123, .getfield 45, 3), (126, .iload_n 1, 1), (127, .sipush 257, 3)], [(130, .iadd, 1), (131, .iload_n 3, 1), (132, .iadd, 1), (133, .baload, 1), (134, .iload_n 3, 1), (135, .invokestatic 169, 3), (138, .if_icmp .eq 5, 3), (141, .iconst 4, 1), (142, .ireturn, 1), (143, .iinc 3 1, 3)], [(146, .goto (-30), 3), (149, .aload_n 0, 1), (150, .iload_n 1, 1), (151, .sipush 265, 3), (154, .iadd, 1), (155, .iload_n 1, 1), (156, .sipush 329, 3), (159, .iadd, 1)], [(160, .invokevirtual 177, 3), (163, .ifCond .eq 20, 3), (166, .aload_n 0, 1), (167, .iload_n 1, 1), (168, .sipush 500, 3), (171, .iadd, 1), (172, .iload_n 1, 1), (173, .sipush 512, 3)], [(176, .iadd, 1), (177, .invokevirtual 177, 3), (180, .ifCond .ne 5, 3), (183, .iconst 4, 1), (184, .ireturn, 1), (185, .aload_n 0, 1), (186, .iload_n 1, 1), (187, .bipush 100, 2), (189, .iadd, 1), (190, .bipush 7, 2)], [(192, .invokevirtual 187, 3), (195, .lstore_n 3, 1), (196, .aload_n 0, 1), (197, .iload_n 1, 1), (198, .sipush 136, 3), (201, .iadd, 1), (202, .bipush 11, 2), (204, .invokevirtual 187, 3), (207, .lstore 5, 2)], [(209, .lload_n 3, 1), (210, .lconst 0, 1), (211, .lcmp, 1), (212, .ifCond .lt 104, 3), (215, .lload_n 3, 1), (216, .ldc2_w 191, 3), (219, .lcmp, 1), (220, .ifCond .gt 96, 3), (223, .aload_n 0, 1)], [(224, .iload_n 1, 1), (225, .bipush 108, 2), (227, .iadd, 1), (228, .bipush 7, 2), (230, .invokevirtual 187, 3), (233, .lconst 0, 1), (234, .lcmp, 1), (235, .ifCond .lt 81, 3), (238, .aload_n 0, 1), (239, .iload_n 1, 1)], [(240, .bipush 116, 2), (242, .iadd, 1), (243, .bipush 7, 2), (245, .invokevirtual 187, 3), (248, .lconst 0, 1), (249, .lcmp, 1), (250, .ifCond .lt 66, 3), (253, .aload_n 0, 1), (254, .iload_n 1, 1), (255, .bipush 124, 2)], [(257, .iadd, 1), (258, .bipush 11, 2), (260, .invokevirtual 187, 3), (263, .lconst 0, 1), (264, .lcmp, 1), (265, .ifCond .lt 51, 3), (268, .lload 5, 2), (270, .lconst 0, 1), (271, .lcmp, 1)], [(272, .ifCond .lt 44, 3), (275, .lload 5, 2), (277, .ldc2_w 193, 3), (280, .lcmp, 1), (281, .ifCond .gt 35, 3), (284, .aload_n 0, 1), (285, .iload_n 1, 1), (286, .sipush 329, 3)], [(289, .iadd, 1), (290, .bipush 7, 2), (292, .invokevirtual 187, 3), (295, .lconst 0, 1), (296, .lcmp, 1), (297, .ifCond .lt 19, 3), (300, .aload_n 0, 1), (301, .iload_n 1, 1), (302, .sipush 337, 3)], [(305, .iadd, 1), (306, .bipush 7, 2), (308, .invokevirtual 187, 3), (311, .lconst 0, 1), (312, .lcmp, 1), (313, .ifCond .ge 5, 3), (316, .iconst 5, 1), (317, .ireturn, 1), (318, .aload_n 0, 1), (319, .getfield 45, 3)], [(322, .iload_n 1, 1), (323, .sipush 156, 3), (326, .iadd, 1), (327, .baload, 1), (328, .istore 7, 2), (330, .iload 7, 2), (332, .bipush 48, 2), (334, .if_icmp .eq 27, 3)], [(337, .iload 7, 2), (339, .bipush 49, 2), (341, .if_icmp .eq 20, 3), (344, .iload 7, 2), (346, .bipush 50, 2), (348, .if_icmp .eq 13, 3), (351, .iload 7, 2)], [(353, .bipush 53, 2), (355, .if_icmp .eq 6, 3), (358, .bipush 6, 2), (360, .ireturn, 1), (361, .iload 7, 2), (363, .bipush 48, 2), (365, .if_icmp .eq 23, 3)], [(368, .aload_n 0, 1), (369, .iload_n 1, 1), (370, .bipush 124, 2), (372, .iadd, 1), (373, .bipush 11, 2), (375, .invokevirtual 187, 3), (378, .lconst 0, 1), (379, .lcmp, 1), (380, .ifCond .le 8, 3), (383, .bipush 6, 2)], [(385, .goto 4, 3), (388, .iconst 0, 1), (389, .ireturn, 1)]], 8, some .int, false)
def yMd_hand : AY := (102, 8, [[(0, .aload_n 0, 1), (1, .iconst 0, 1), (2, .putfield 80, 3), (5, .iload_n 1, 1), (6, .ifCond .lt 24, 3), (9, .iload_n 1, 1), (10, .aload_n 0, 1), (11, .getfield 155, 3), (14, .if_icmp .ge 16, 3)], [(17, .aload_n 0, 1), (18, .getfield 45, 3), (21, .iload_n 1, 1), (22, .baload, 1), (23, .sipush 255, 3), (26, .iand, 1), (27, .goto 4, 3), (30, .iconst (-1), 1), (31, .ireturn, 1)]], 2, some .int, false)
def yMd_head : AY := (103, 8, [[(0, .aload_n 0, 1), (1, .iload_n 2, 1), (2, .aload_n 0, 1), (3, .getfield 83, 3), (6, .isub, 1), (7, .invokevirtual 149, 3), (10, .aload_n 0, 1), (11, .invokevirtual 152, 3), (14, .istore_n 3, 1), (15, .iload_n 3, 1)], [(16, .ifCond .le 9, 3), (19, .iload_n 3, 1), (20, .iconst 1, 1), (21, .iadd, 1), (22, .goto 4, 3), (25, .iconst 0, 1), (26, .istore 4, 2), (28, .iload 4, 2), (30, .istore 5, 2)], [(32, .iload 5, 2), (34, .aload_n 0, 1), (35, .getfield 100, 3), (38, .if_icmp .ge 28, 3), (41, .aload_n 0, 1), (42, .getfield 45, 3), (45, .iload_n 1, 1), (46, .iload 5, 2)], [(48, .iadd, 1), (49, .iload 4, 2), (51, .isub, 1), (52, .aload_n 0, 1), (53, .getfield 52, 3), (56, .iload 5, 2), (58, .baload, 1), (59, .bastore, 1), (60, .iinc 5 1, 3), (63, .goto (-31), 3)], [(66, .iconst 0, 1), (67, .istore 5, 2), (69, .iload 5, 2), (71, .iload_n 3, 1), (72, .if_icmp .ge 29, 3), (75, .aload_n 0, 1), (76, .getfield 45, 3), (79, .iload_n 1, 1)], [(80, .sipush 345, 3), (83, .iadd, 1), (84, .iload 5, 2), (86, .iadd, 1), (87, .aload_n 0, 1), (88, .getfield 52, 3), (91, .iload 5, 2), (93, .baload, 1), (94, .bastore, 1), (95, .iinc 5 1, 3)], [(98, .goto (-29), 3), (101, .aload_n 0, 1), (102, .iload_n 1, 1), (103, .bipush 100, 2), (105, .iadd, 1), (106, .bipush 7, 2), (108, .aload_n 0, 1), (109, .getfield 19, 3)], [(112, .iload_n 2, 1), (113, .iaload, 1), (114, .i2l, 1), (115, .invokevirtual 165, 3), (118, .aload_n 0, 1), (119, .iload_n 1, 1), (120, .bipush 108, 2), (122, .iadd, 1), (123, .bipush 7, 2), (125, .aload_n 0, 1), (126, .getfield 22, 3)], [(129, .iload_n 2, 1), (130, .iaload, 1), (131, .i2l, 1), (132, .invokevirtual 165, 3), (135, .aload_n 0, 1), (136, .iload_n 1, 1), (137, .bipush 116, 2), (139, .iadd, 1), (140, .bipush 7, 2), (142, .lconst 0, 1), (143, .invokevirtual 165, 3)], [(146, .aload_n 0, 1), (147, .iload_n 1, 1), (148, .bipush 124, 2), (150, .iadd, 1), (151, .bipush 11, 2), (153, .aload_n 0, 1), (154, .getfield 7, 3), (157, .iload_n 2, 1), (158, .iaload, 1), (159, .iconst 1, 1)], [(160, .if_icmp .ne 13, 3), (163, .aload_n 0, 1), (164, .getfield 28, 3), (167, .iload_n 2, 1), (168, .iaload, 1), (169, .i2l, 1), (170, .goto 4, 3), (173, .lconst 0, 1), (174, .invokevirtual 165, 3)], [(177, .aload_n 0, 1), (178, .iload_n 1, 1), (179, .sipush 136, 3), (182, .iadd, 1), (183, .bipush 11, 2), (185, .aload_n 0, 1), (186, .getfield 25, 3), (189, .iload_n 2, 1), (190, .iaload, 1), (191, .i2l, 1)], [(192, .invokevirtual 165, 3), (195, .aload_n 0, 1), (196, .getfield 45, 3), (199, .iload_n 1, 1), (200, .sipush 156, 3), (203, .iadd, 1), (204, .aload_n 0, 1), (205, .getfield 7, 3)], [(208, .iload_n 2, 1), (209, .iaload, 1), (210, .ifCond .ne 8, 3), (213, .bipush 53, 2), (215, .goto 35, 3), (218, .aload_n 0, 1), (219, .getfield 7, 3), (222, .iload_n 2, 1), (223, .iaload, 1)], [(224, .iconst 1, 1), (225, .if_icmp .ne 8, 3), (228, .bipush 48, 2), (230, .goto 20, 3), (233, .aload_n 0, 1), (234, .getfield 7, 3), (237, .iload_n 2, 1), (238, .iaload, 1), (239, .iconst 2, 1)], [(240, .if_icmp .ne 8, 3), (243, .bipush 50, 2), (245, .goto 5, 3), (248, .bipush 49, 2), (250, .i2b, 1), (251, .bastore, 1), (252, .aload_n 0, 1), (253, .getfield 7, 3)], [(256, .iload_n 2, 1), (257, .iaload, 1), (258, .iconst 2, 1), (259, .if_icmp .ne 52, 3), (262, .iconst 0, 1), (263, .istore 5, 2), (265, .iload 5, 2), (267, .aload_n 0, 1), (268, .getfield 28, 3), (271, .iload_n 2, 1)], [(272, .iaload, 1), (273, .if_icmp .ge 35, 3), (276, .aload_n 0, 1), (277, .getfield 45, 3), (280, .iload_n 1, 1), (281, .sipush 157, 3), (284, .iadd, 1), (285, .iload 5, 2), (287, .iadd, 1)], [(288, .aload_n 0, 1), (289, .getfield 42, 3), (292, .sipush 2000, 3), (295, .iload_n 2, 1), (296, .imul, 1), (297, .iload 5, 2), (299, .iadd, 1), (300, .baload, 1), (301, .bastore, 1), (302, .iinc 5 1, 3)], [(305, .goto (-40), 3), (308, .goto 61, 3), (311, .aload_n 0, 1), (312, .getfield 7, 3), (315, .iload_n 2, 1), (316, .iaload, 1), (317, .iconst 3, 1), (318, .if_icmp .ne 51, 3)], [(321, .aload_n 0, 1), (322, .aload_n 0, 1), (323, .getfield 31, 3), (326, .iload_n 2, 1), (327, .iaload, 1), (328, .invokevirtual 149, 3), (331, .iconst 0, 1), (332, .istore 5, 2), (334, .iload 5, 2)], [(336, .aload_n 0, 1), (337, .getfield 100, 3), (340, .if_icmp .ge 29, 3), (343, .aload_n 0, 1), (344, .getfield 45, 3), (347, .iload_n 1, 1), (348, .sipush 157, 3), (351, .iadd, 1)], [(352, .iload 5, 2), (354, .iadd, 1), (355, .aload_n 0, 1), (356, .getfield 52, 3), (359, .iload 5, 2), (361, .baload, 1), (362, .bastore, 1), (363, .iinc 5 1, 3), (366, .goto (-32), 3)], [(369, .iconst 0, 1), (370, .istore 5, 2), (372, .iload 5, 2), (374, .bipush 8, 2), (376, .if_icmp .ge 28, 3), (379, .aload_n 0, 1), (380, .getfield 45, 3), (383, .iload_n 1, 1)], [(384, .sipush 257, 3), (387, .iadd, 1), (388, .iload 5, 2), (390, .iadd, 1), (391, .iload 5, 2), (393, .invokestatic 169, 3), (396, .i2b, 1), (397, .bastore, 1), (398, .iinc 5 1, 3)], [(401, .goto (-29), 3), (404, .aload_n 0, 1), (405, .iload_n 1, 1), (406, .sipush 329, 3), (409, .iadd, 1), (410, .bipush 7, 2), (412, .lconst 0, 1), (413, .invokevirtual 165, 3)], [(416, .aload_n 0, 1), (417, .iload_n 1, 1), (418, .sipush 337, 3), (421, .iadd, 1), (422, .bipush 7, 2), (424, .lconst 0, 1), (425, .invokevirtual 165, 3), (428, .aload_n 0, 1), (429, .iload_n 1, 1), (430, .sipush 148, 3)], [(433, .iadd, 1), (434, .bipush 6, 2), (436, .aload_n 0, 1), (437, .iload_n 1, 1), (438, .invokevirtual 172, 3), (441, .i2l, 1), (442, .invokevirtual 165, 3), (445, .aload_n 0, 1), (446, .getfield 45, 3)], [(449, .iload_n 1, 1), (450, .sipush 155, 3), (453, .iadd, 1), (454, .bipush 32, 2), (456, .bastore, 1), (457, .return_, 1)]], 6, none, false)
def yMd_isCalled : AY := (104, 8, [[(0, .aload_n 0, 1), (1, .getfield 16, 3), (4, .iload_n 1, 1), (5, .iaload, 1), (6, .iload 4, 2), (8, .if_icmp .ne 7, 3), (11, .iconst 1, 1), (12, .goto 4, 3), (15, .iconst 0, 1)], [(16, .istore 5, 2), (18, .iconst 0, 1), (19, .istore 6, 2), (21, .iload 6, 2), (23, .iload 4, 2), (25, .if_icmp .ge 42, 3), (28, .iload 5, 2), (30, .ifCond .eq 37, 3)], [(33, .aload_n 0, 1), (34, .getfield 37, 3), (37, .bipush 100, 2), (39, .iload_n 1, 1), (40, .imul, 1), (41, .iload 6, 2), (43, .iadd, 1), (44, .baload, 1), (45, .aload_n 2, 1), (46, .iload_n 3, 1), (47, .iload 6, 2)], [(49, .iadd, 1), (50, .baload, 1), (51, .if_icmp .ne 7, 3), (54, .iconst 1, 1), (55, .goto 4, 3), (58, .iconst 0, 1), (59, .istore 5, 2), (61, .iinc 6 1, 3)], [(64, .goto (-43), 3), (67, .iload 5, 2), (69, .ireturn, 1)]], 7, some .boolean, false)
def yMd_isLetter : AY := (105, 8, [[(0, .iload_n 0, 1), (1, .bipush 33, 2), (3, .if_icmp .lt 19, 3), (6, .iload_n 0, 1), (7, .bipush 126, 2), (9, .if_icmp .gt 13, 3), (12, .iload_n 0, 1), (13, .bipush 47, 2), (15, .if_icmp .eq 7, 3)], [(18, .iconst 1, 1), (19, .goto 4, 3), (22, .iconst 0, 1), (23, .ireturn, 1)]], 1, some .boolean, false)
def yMd_isName : AY := (106, 8, [[(0, .iload_n 2, 1), (1, .iconst 1, 1), (2, .if_icmp .lt 13, 3), (5, .iload_n 2, 1), (6, .bipush 100, 2), (8, .if_icmp .gt 7, 3), (11, .iconst 1, 1), (12, .goto 4, 3), (15, .iconst 0, 1)], [(16, .istore_n 3, 1), (17, .iconst 0, 1), (18, .istore 4, 2), (20, .iload 4, 2), (22, .iload_n 2, 1), (23, .if_icmp .ge 23, 3), (26, .iload_n 3, 1), (27, .ifCond .eq 19, 3), (30, .aload_n 0, 1), (31, .iload_n 1, 1)], [(32, .iload 4, 2), (34, .iadd, 1), (35, .baload, 1), (36, .invokestatic 90, 3), (39, .istore_n 3, 1), (40, .iinc 4 1, 3), (43, .goto (-23), 3), (46, .iload_n 3, 1), (47, .ifCond .eq 12, 3)], [(50, .iload_n 2, 1), (51, .iconst 3, 1), (52, .if_icmp .ge 7, 3), (55, .iconst 1, 1), (56, .goto 4, 3), (59, .iconst 0, 1), (60, .istore 4, 2), (62, .iconst 0, 1), (63, .istore 5, 2)], [(65, .iload 5, 2), (67, .iload_n 2, 1), (68, .if_icmp .ge 32, 3), (71, .iload 4, 2), (73, .ifCond .eq 27, 3), (76, .aload_n 0, 1), (77, .iload_n 1, 1), (78, .iload 5, 2)], [(80, .iadd, 1), (81, .baload, 1), (82, .bipush 46, 2), (84, .if_icmp .ne 7, 3), (87, .iconst 1, 1), (88, .goto 4, 3), (91, .iconst 0, 1), (92, .istore 4, 2), (94, .iinc 5 1, 3)], [(97, .goto (-32), 3), (100, .iload_n 3, 1), (101, .ifCond .eq 12, 3), (104, .iload 4, 2), (106, .ifCond .ne 7, 3), (109, .iconst 1, 1), (110, .goto 4, 3)], [(113, .iconst 0, 1), (114, .ireturn, 1)]], 6, some .boolean, false)
def yMd_isNode : AY := (107, 8, [[(0, .iload_n 1, 1), (1, .ifCond .lt 15, 3), (4, .iload_n 1, 1), (5, .aload_n 0, 1), (6, .invokevirtual 86, 3), (9, .if_icmp .ge 7, 3), (12, .iconst 1, 1), (13, .goto 4, 3)], [(16, .iconst 0, 1), (17, .ireturn, 1)]], 2, some .boolean, false)
def yMd_isZero : AY := (108, 8, [[(0, .iconst 1, 1), (1, .istore_n 3, 1), (2, .iload_n 1, 1), (3, .istore 4, 2), (5, .iload 4, 2), (7, .iload_n 2, 1), (8, .if_icmp .ge 29, 3), (11, .iload_n 3, 1), (12, .ifCond .eq 25, 3), (15, .aload_n 0, 1)], [(16, .getfield 45, 3), (19, .iload 4, 2), (21, .baload, 1), (22, .ifCond .ne 7, 3), (25, .iconst 1, 1), (26, .goto 4, 3), (29, .iconst 0, 1), (30, .istore_n 3, 1), (31, .iinc 4 1, 3)], [(34, .goto (-29), 3), (37, .iload_n 3, 1), (38, .ireturn, 1)]], 5, some .boolean, false)
def yMd_make : AY := (109, 8, [[(0, .iload_n 2, 1), (1, .iconst 0, 1), (2, .iconst 3, 1), (3, .invokestatic 103, 3), (6, .ifCond .eq 40, 3), (9, .aload_n 0, 1), (10, .iload_n 1, 1), (11, .invokevirtual 107, 3), (14, .ifCond .eq 32, 3)], [(17, .aload_n 0, 1), (18, .getfield 7, 3), (21, .aload_n 0, 1), (22, .getfield 83, 3), (25, .iload_n 1, 1), (26, .iadd, 1), (27, .iaload, 1), (28, .ifCond .ne 18, 3), (31, .iload 5, 2)], [(33, .iconst 1, 1), (34, .bipush 8, 2), (36, .invokestatic 103, 3), (39, .ifCond .eq 7, 3), (42, .iconst 1, 1), (43, .goto 4, 3), (46, .iconst 0, 1), (47, .istore 7, 2)], [(49, .aload_n 0, 1), (50, .iconst 0, 1), (51, .putfield 100, 3), (54, .iload 7, 2), (56, .ifCond .eq 50, 3), (59, .aload_n 0, 1), (60, .lload_n 3, 1), (61, .iload 5, 2), (63, .invokevirtual 110, 3)], [(66, .ifCond .eq 40, 3), (69, .aload_n 0, 1), (70, .getfield 52, 3), (73, .iconst 0, 1), (74, .iload 5, 2), (76, .invokestatic 114, 3), (79, .ifCond .eq 27, 3)], [(82, .aload_n 0, 1), (83, .aload_n 0, 1), (84, .getfield 83, 3), (87, .iload_n 1, 1), (88, .aload_n 0, 1), (89, .getfield 52, 3), (92, .iconst 0, 1), (93, .iload 5, 2), (95, .invokevirtual 118, 3)], [(98, .iconst (-1), 1), (99, .if_icmp .ne 7, 3), (102, .iconst 1, 1), (103, .goto 4, 3), (106, .iconst 0, 1), (107, .istore 7, 2), (109, .iload 7, 2), (111, .ifCond .eq 37, 3)], [(114, .iload_n 2, 1), (115, .iconst 3, 1), (116, .if_icmp .ne 28, 3), (119, .aload_n 0, 1), (120, .iload 6, 2), (122, .invokevirtual 107, 3), (125, .ifCond .eq 23, 3)], [(128, .aload_n 0, 1), (129, .getfield 7, 3), (132, .aload_n 0, 1), (133, .getfield 83, 3), (136, .iload 6, 2), (138, .iadd, 1), (139, .iaload, 1), (140, .iconst 1, 1), (141, .if_icmp .ne 7, 3)], [(144, .iconst 1, 1), (145, .goto 4, 3), (148, .iconst 0, 1), (149, .istore 7, 2), (151, .aload_n 0, 1), (152, .iload 7, 2), (154, .ifCond .ne 7, 3), (157, .iconst 1, 1), (158, .goto 4, 3)], [(161, .iconst 0, 1), (162, .iconst 1, 1), (163, .invokevirtual 122, 3), (166, .ifCond .ne 25, 3), (169, .aload_n 0, 1), (170, .aload_n 0, 1), (171, .invokevirtual 86, 3), (174, .bipush 30, 2)], [(176, .if_icmp .ne 7, 3), (179, .iconst 1, 1), (180, .goto 4, 3), (183, .iconst 0, 1), (184, .iconst 2, 1), (185, .invokevirtual 122, 3), (188, .ifCond .eq 5, 3), (191, .iconst 0, 1)], [(192, .ireturn, 1), (193, .aload_n 0, 1), (194, .invokevirtual 86, 3), (197, .istore 8, 2), (199, .aload_n 0, 1), (200, .aload_n 0, 1), (201, .getfield 83, 3), (204, .iload_n 1, 1), (205, .iload_n 2, 1), (206, .aload_n 0, 1), (207, .getfield 52, 3)], [(210, .iconst 0, 1), (211, .iload 5, 2), (213, .invokevirtual 126, 3), (216, .aload_n 0, 1), (217, .getfield 31, 3), (220, .aload_n 0, 1), (221, .getfield 83, 3)], [(224, .iload 8, 2), (226, .iadd, 1), (227, .iload_n 2, 1), (228, .iconst 3, 1), (229, .if_icmp .ne 8, 3), (232, .iload 6, 2), (234, .goto 4, 3), (237, .iconst (-1), 1), (238, .iastore, 1), (239, .iload 8, 2)], [(241, .ireturn, 1)]], 9, some .int, false)
def yMd_markOf : AY := (110, 8, [[(0, .iload_n 0, 1), (1, .ifCond .ne 8, 3), (4, .bipush 117, 2), (6, .goto 54, 3), (9, .iload_n 0, 1), (10, .iconst 1, 1), (11, .if_icmp .ne 8, 3), (14, .bipush 115, 2)], [(16, .goto 44, 3), (19, .iload_n 0, 1), (20, .iconst 2, 1), (21, .if_icmp .ne 8, 3), (24, .bipush 116, 2), (26, .goto 34, 3), (29, .iload_n 0, 1), (30, .iconst 3, 1), (31, .if_icmp .ne 8, 3)], [(34, .bipush 97, 2), (36, .goto 24, 3), (39, .iload_n 0, 1), (40, .iconst 4, 1), (41, .if_icmp .ne 8, 3), (44, .bipush 114, 2), (46, .goto 14, 3)], [(49, .iload_n 0, 1), (50, .iconst 5, 1), (51, .if_icmp .ne 7, 3), (54, .iconst 0, 1), (55, .goto 5, 3), (58, .bipush 48, 2), (60, .ireturn, 1)]], 1, some .int, false)
def yMd_move : AY := (111, 8, [[(0, .aload_n 0, 1), (1, .getfield 7, 3), (4, .iload_n 2, 1), (5, .aload_n 0, 1), (6, .getfield 7, 3), (9, .iload_n 1, 1), (10, .iaload, 1), (11, .iastore, 1), (12, .aload_n 0, 1), (13, .getfield 13, 3)], [(16, .iload_n 2, 1), (17, .aload_n 0, 1), (18, .getfield 13, 3), (21, .iload_n 1, 1), (22, .iaload, 1), (23, .iconst (-1), 1), (24, .if_icmp .ne 7, 3), (27, .iconst (-1), 1), (28, .goto 14, 3), (31, .aload_n 0, 1)], [(32, .getfield 73, 3), (35, .aload_n 0, 1), (36, .getfield 13, 3), (39, .iload_n 1, 1), (40, .iaload, 1), (41, .iaload, 1), (42, .iastore, 1), (43, .aload_n 0, 1), (44, .getfield 16, 3), (47, .iload_n 2, 1)], [(48, .aload_n 0, 1), (49, .getfield 16, 3), (52, .iload_n 1, 1), (53, .iaload, 1), (54, .iastore, 1), (55, .aload_n 0, 1), (56, .getfield 19, 3), (59, .iload_n 2, 1), (60, .aload_n 0, 1), (61, .getfield 19, 3)], [(64, .iload_n 1, 1), (65, .iaload, 1), (66, .iastore, 1), (67, .aload_n 0, 1), (68, .getfield 22, 3), (71, .iload_n 2, 1), (72, .aload_n 0, 1), (73, .getfield 22, 3), (76, .iload_n 1, 1), (77, .iaload, 1), (78, .iastore, 1), (79, .aload_n 0, 1)], [(80, .getfield 25, 3), (83, .iload_n 2, 1), (84, .aload_n 0, 1), (85, .getfield 25, 3), (88, .iload_n 1, 1), (89, .iaload, 1), (90, .iastore, 1), (91, .aload_n 0, 1), (92, .getfield 28, 3), (95, .iload_n 2, 1)], [(96, .aload_n 0, 1), (97, .getfield 28, 3), (100, .iload_n 1, 1), (101, .iaload, 1), (102, .iastore, 1), (103, .aload_n 0, 1), (104, .getfield 31, 3), (107, .iload_n 2, 1), (108, .aload_n 0, 1), (109, .getfield 31, 3)], [(112, .iload_n 1, 1), (113, .iaload, 1), (114, .iconst (-1), 1), (115, .if_icmp .ne 7, 3), (118, .iconst (-1), 1), (119, .goto 14, 3), (122, .aload_n 0, 1), (123, .getfield 73, 3), (126, .aload_n 0, 1), (127, .getfield 31, 3)], [(130, .iload_n 1, 1), (131, .iaload, 1), (132, .iaload, 1), (133, .iastore, 1), (134, .iconst 0, 1), (135, .istore_n 3, 1), (136, .iload_n 3, 1), (137, .aload_n 0, 1), (138, .getfield 16, 3), (141, .iload_n 1, 1), (142, .iaload, 1), (143, .if_icmp .ge 31, 3)], [(146, .aload_n 0, 1), (147, .getfield 37, 3), (150, .bipush 100, 2), (152, .iload_n 2, 1), (153, .imul, 1), (154, .iload_n 3, 1), (155, .iadd, 1), (156, .aload_n 0, 1), (157, .getfield 37, 3)], [(160, .bipush 100, 2), (162, .iload_n 1, 1), (163, .imul, 1), (164, .iload_n 3, 1), (165, .iadd, 1), (166, .baload, 1), (167, .bastore, 1), (168, .iinc 3 1, 3), (171, .goto (-35), 3), (174, .iconst 0, 1), (175, .istore_n 3, 1)], [(176, .iload_n 3, 1), (177, .aload_n 0, 1), (178, .getfield 28, 3), (181, .iload_n 1, 1), (182, .iaload, 1), (183, .if_icmp .ge 33, 3), (186, .aload_n 0, 1), (187, .getfield 42, 3), (190, .sipush 2000, 3)], [(193, .iload_n 2, 1), (194, .imul, 1), (195, .iload_n 3, 1), (196, .iadd, 1), (197, .aload_n 0, 1), (198, .getfield 42, 3), (201, .sipush 2000, 3), (204, .iload_n 1, 1), (205, .imul, 1), (206, .iload_n 3, 1), (207, .iadd, 1)], [(208, .baload, 1), (209, .bastore, 1), (210, .iinc 3 1, 3), (213, .goto (-37), 3), (216, .return_, 1)]], 4, none, false)
def yMd_next : AY := (112, 8, [[(0, .iconst (-1), 1), (1, .istore_n 3, 1), (2, .iconst 1, 1), (3, .istore 4, 2), (5, .iload 4, 2), (7, .aload_n 0, 1), (8, .invokevirtual 86, 3), (11, .if_icmp .ge 81, 3), (14, .aload_n 0, 1), (15, .getfield 13, 3)], [(18, .aload_n 0, 1), (19, .getfield 83, 3), (22, .iload 4, 2), (24, .iadd, 1), (25, .iaload, 1), (26, .iload_n 1, 1), (27, .if_icmp .ne 59, 3), (30, .iload_n 2, 1), (31, .iconst (-1), 1)], [(32, .if_icmp .eq 26, 3), (35, .aload_n 0, 1), (36, .aload_n 0, 1), (37, .getfield 83, 3), (40, .iload 4, 2), (42, .iadd, 1), (43, .aload_n 0, 1), (44, .getfield 83, 3), (47, .iload_n 2, 1)], [(48, .iadd, 1), (49, .invokevirtual 135, 3), (52, .ifCond .gt 6, 3), (55, .goto 31, 3), (58, .iload_n 3, 1), (59, .iconst (-1), 1), (60, .if_icmp .eq 23, 3), (63, .aload_n 0, 1)], [(64, .aload_n 0, 1), (65, .getfield 83, 3), (68, .iload 4, 2), (70, .iadd, 1), (71, .aload_n 0, 1), (72, .getfield 83, 3), (75, .iload_n 3, 1), (76, .iadd, 1), (77, .invokevirtual 135, 3)], [(80, .ifCond .ge 6, 3), (83, .iload 4, 2), (85, .istore_n 3, 1), (86, .iinc 4 1, 3), (89, .goto (-84), 3), (92, .iload_n 3, 1), (93, .ireturn, 1)]], 5, some .int, false)
def yMd_node : AY := (113, 8, [[(0, .aload_n 0, 1), (1, .aload_n 0, 1), (2, .iload_n 1, 1), (3, .invokevirtual 107, 3), (6, .ifCond .eq 13, 3), (9, .iload_n 2, 1), (10, .iconst 0, 1), (11, .bipush 7, 2), (13, .invokestatic 103, 3)], [(16, .ifCond .ne 7, 3), (19, .iconst 1, 1), (20, .goto 4, 3), (23, .iconst 0, 1), (24, .iconst 1, 1), (25, .invokevirtual 122, 3), (28, .ifCond .eq 5, 3), (31, .iconst 0, 1)], [(32, .ireturn, 1), (33, .aload_n 0, 1), (34, .getfield 83, 3), (37, .iload_n 1, 1), (38, .iadd, 1), (39, .istore_n 3, 1), (40, .iload_n 2, 1), (41, .tableswitch 92 0 6 #[43, 50, 57, 64, 71, 78, 85], 43)], [], [], [(84, .aload_n 0, 1), (85, .getfield 7, 3), (88, .iload_n 3, 1), (89, .iaload, 1), (90, .ireturn, 1), (91, .aload_n 0, 1), (92, .getfield 13, 3), (95, .iload_n 3, 1)], [(96, .iaload, 1), (97, .ireturn, 1), (98, .aload_n 0, 1), (99, .getfield 16, 3), (102, .iload_n 3, 1), (103, .iaload, 1), (104, .ireturn, 1), (105, .aload_n 0, 1), (106, .getfield 19, 3), (109, .iload_n 3, 1), (110, .iaload, 1), (111, .ireturn, 1)], [(112, .aload_n 0, 1), (113, .getfield 22, 3), (116, .iload_n 3, 1), (117, .iaload, 1), (118, .ireturn, 1), (119, .aload_n 0, 1), (120, .getfield 25, 3), (123, .iload_n 3, 1), (124, .iaload, 1), (125, .ireturn, 1), (126, .aload_n 0, 1), (127, .getfield 28, 3)], [(130, .iload_n 3, 1), (131, .iaload, 1), (132, .ireturn, 1), (133, .aload_n 0, 1), (134, .getfield 31, 3), (137, .iload_n 3, 1), (138, .iaload, 1), (139, .ireturn, 1)]], 4, some .int, false)
def yMd_number : AY := (114, 8, [[(0, .lconst 0, 1), (1, .lstore_n 3, 1), (2, .aload_n 0, 1), (3, .getfield 45, 3), (6, .iload_n 1, 1), (7, .iload_n 2, 1), (8, .iadd, 1), (9, .baload, 1), (10, .ifCond .ne 7, 3), (13, .iconst 1, 1), (14, .goto 4, 3)], [(17, .iconst 0, 1), (18, .istore 5, 2), (20, .iconst 0, 1), (21, .istore 6, 2), (23, .iload 6, 2), (25, .iload_n 2, 1), (26, .if_icmp .ge 53, 3), (29, .iload 5, 2), (31, .ifCond .eq 48, 3)], [(34, .aload_n 0, 1), (35, .getfield 45, 3), (38, .iload_n 1, 1), (39, .iload 6, 2), (41, .iadd, 1), (42, .baload, 1), (43, .bipush 48, 2), (45, .bipush 55, 2), (47, .invokestatic 103, 3)], [(50, .istore 5, 2), (52, .ldc2_w 163, 3), (55, .lload_n 3, 1), (56, .lmul, 1), (57, .aload_n 0, 1), (58, .getfield 45, 3), (61, .iload_n 1, 1), (62, .iload 6, 2)], [(64, .iadd, 1), (65, .baload, 1), (66, .i2l, 1), (67, .ladd, 1), (68, .ldc2_w 161, 3), (71, .lsub, 1), (72, .lstore_n 3, 1), (73, .iinc 6 1, 3), (76, .goto (-53), 3), (79, .iload 5, 2)], [(81, .ifCond .eq 7, 3), (84, .lload_n 3, 1), (85, .goto 6, 3), (88, .ldc2_w 175, 3), (91, .lreturn, 1)]], 7, some .long, false)
def yMd_octal : AY := (115, 8, [[(0, .lload_n 3, 1), (1, .lstore 5, 2), (3, .iload_n 2, 1), (4, .iconst 1, 1), (5, .isub, 1), (6, .istore 7, 2), (8, .iload 7, 2), (10, .ifCond .lt 38, 3), (13, .aload_n 0, 1), (14, .getfield 45, 3)], [(17, .iload_n 1, 1), (18, .iload 7, 2), (20, .iadd, 1), (21, .ldc2_w 161, 3), (24, .lload 5, 2), (26, .ldc2_w 163, 3), (29, .lrem, 1), (30, .ladd, 1), (31, .l2i, 1)], [(32, .i2b, 1), (33, .bastore, 1), (34, .lload 5, 2), (36, .ldc2_w 163, 3), (39, .ldiv, 1), (40, .lstore 5, 2), (42, .iinc 7 (-1), 3), (45, .goto (-37), 3)], [(48, .aload_n 0, 1), (49, .getfield 45, 3), (52, .iload_n 1, 1), (53, .iload_n 2, 1), (54, .iadd, 1), (55, .iconst 0, 1), (56, .bastore, 1), (57, .return_, 1)]], 8, none, false)
def yMd_part : AY := (116, 8, [[(0, .aload_n 0, 1), (1, .aload_n 0, 1), (2, .iload_n 1, 1), (3, .invokevirtual 107, 3), (6, .ifCond .eq 12, 3), (9, .iload_n 2, 1), (10, .iconst 0, 1), (11, .iconst 1, 1), (12, .invokestatic 103, 3), (15, .ifCond .ne 7, 3)], [(18, .iconst 1, 1), (19, .goto 4, 3), (22, .iconst 0, 1), (23, .iconst 1, 1), (24, .invokevirtual 122, 3), (27, .ifCond .eq 5, 3), (30, .iconst 0, 1), (31, .ireturn, 1)], [(32, .aload_n 0, 1), (33, .getfield 83, 3), (36, .iload_n 1, 1), (37, .iadd, 1), (38, .istore 4, 2), (40, .iload_n 2, 1), (41, .ifCond .ne 35, 3), (44, .iload_n 3, 1), (45, .ifCond .lt 29, 3)], [(48, .iload_n 3, 1), (49, .aload_n 0, 1), (50, .getfield 16, 3), (53, .iload 4, 2), (55, .iaload, 1), (56, .if_icmp .ge 18, 3), (59, .aload_n 0, 1), (60, .getfield 37, 3), (63, .bipush 100, 2)], [(65, .iload 4, 2), (67, .imul, 1), (68, .iload_n 3, 1), (69, .iadd, 1), (70, .baload, 1), (71, .goto 4, 3), (74, .iconst (-1), 1), (75, .ireturn, 1), (76, .iload_n 3, 1), (77, .ifCond .lt 34, 3)], [(80, .iload_n 3, 1), (81, .aload_n 0, 1), (82, .getfield 28, 3), (85, .iload 4, 2), (87, .iaload, 1), (88, .if_icmp .ge 23, 3), (91, .aload_n 0, 1), (92, .getfield 42, 3), (95, .sipush 2000, 3)], [(98, .iload 4, 2), (100, .imul, 1), (101, .iload_n 3, 1), (102, .iadd, 1), (103, .baload, 1), (104, .sipush 255, 3), (107, .iand, 1), (108, .goto 4, 3), (111, .iconst (-1), 1)], [(112, .ireturn, 1)]], 5, some .int, false)
def yMd_place : AY := (117, 8, [[(0, .aload_n 0, 1), (1, .iconst 0, 1), (2, .putfield 80, 3), (5, .aload_n 0, 1), (6, .getfield 48, 3), (9, .ireturn, 1)]], 1, some .int, false)
def yMd_read : AY := (118, 8, [[(0, .aload_n 0, 1), (1, .iconst 0, 1), (2, .putfield 80, 3), (5, .aload_n 0, 1), (6, .getfield 83, 3), (9, .ifCond .ne 8, 3), (12, .bipush 30, 2), (14, .goto 4, 3)], [(17, .iconst 0, 1), (18, .istore_n 1, 1), (19, .aload_n 0, 1), (20, .iload_n 1, 1), (21, .invokevirtual 76, 3), (24, .iconst 0, 1), (25, .istore_n 2, 1), (26, .iconst 0, 1), (27, .istore_n 3, 1), (28, .iconst 0, 1), (29, .istore 4, 2), (31, .aload_n 0, 1)], [(32, .iconst (-1), 1), (33, .putfield 48, 3), (36, .iload_n 3, 1), (37, .ifCond .ne 132, 3), (40, .iload 4, 2), (42, .ifCond .ne 127, 3), (45, .iload_n 2, 1), (46, .sipush 512, 3)], [(49, .iadd, 1), (50, .aload_n 0, 1), (51, .getfield 155, 3), (54, .if_icmp .le 8, 3), (57, .iconst 1, 1), (58, .istore_n 3, 1), (59, .goto (-23), 3), (62, .aload_n 0, 1), (63, .iload_n 2, 1)], [(64, .iload_n 2, 1), (65, .sipush 512, 3), (68, .iadd, 1), (69, .invokevirtual 177, 3), (72, .ifCond .eq 53, 3), (75, .iload_n 2, 1), (76, .sipush 1024, 3), (79, .iadd, 1)], [(80, .aload_n 0, 1), (81, .getfield 155, 3), (84, .if_icmp .gt 24, 3), (87, .aload_n 0, 1), (88, .iload_n 2, 1), (89, .sipush 512, 3), (92, .iadd, 1), (93, .iload_n 2, 1), (94, .sipush 1024, 3)], [(97, .iadd, 1), (98, .invokevirtual 177, 3), (101, .ifCond .eq 7, 3), (104, .iconst 1, 1), (105, .goto 4, 3), (108, .iconst 0, 1), (109, .istore 4, 2), (111, .iload 4, 2)], [(113, .ifCond .eq 7, 3), (116, .iconst 0, 1), (117, .goto 4, 3), (120, .iconst 2, 1), (121, .istore_n 3, 1), (122, .goto (-86), 3), (125, .aload_n 0, 1), (126, .iload_n 2, 1), (127, .iload_n 1, 1)], [(128, .invokevirtual 210, 3), (131, .istore_n 3, 1), (132, .iload_n 3, 1), (133, .ifCond .ne (-97), 3), (136, .iload_n 1, 1), (137, .aload_n 0, 1), (138, .getfield 34, 3), (141, .iload_n 1, 1), (142, .bipush 30, 2)], [(144, .idiv, 1), (145, .iaload, 1), (146, .iadd, 1), (147, .iconst 1, 1), (148, .isub, 1), (149, .istore 5, 2), (151, .iload_n 2, 1), (152, .sipush 512, 3), (155, .iconst 1, 1), (156, .aload_n 0, 1), (157, .iload 5, 2), (159, .invokevirtual 145, 3)], [(162, .iadd, 1), (163, .imul, 1), (164, .iadd, 1), (165, .istore_n 2, 1), (166, .goto (-130), 3), (169, .iload_n 3, 1), (170, .ifCond .le 15, 3), (173, .aload_n 0, 1), (174, .iload_n 2, 1), (175, .sipush 512, 3)], [(178, .idiv, 1), (179, .putfield 48, 3), (182, .iload_n 3, 1), (183, .ineg, 1), (184, .ireturn, 1), (185, .aload_n 0, 1), (186, .iload_n 1, 1), (187, .putfield 83, 3), (190, .aload_n 0, 1), (191, .invokevirtual 86, 3)], [(194, .ireturn, 1)]], 6, some .int, false)
def yMd_remove : AY := (119, 8, [[(0, .aload_n 0, 1), (1, .aload_n 0, 1), (2, .iload_n 1, 1), (3, .invokevirtual 107, 3), (6, .ifCond .eq 7, 3), (9, .iload_n 1, 1), (10, .ifCond .ne 7, 3), (13, .iconst 1, 1), (14, .goto 4, 3)], [(17, .iconst 0, 1), (18, .iconst 1, 1), (19, .invokevirtual 122, 3), (22, .ifCond .eq 5, 3), (25, .iconst 0, 1), (26, .ireturn, 1), (27, .aload_n 0, 1), (28, .invokevirtual 86, 3), (31, .istore_n 2, 1)], [(32, .iconst 0, 1), (33, .istore_n 3, 1), (34, .iload_n 3, 1), (35, .iload_n 2, 1), (36, .if_icmp .ge 25, 3), (39, .aload_n 0, 1), (40, .getfield 73, 3), (43, .iload_n 3, 1), (44, .iload_n 3, 1), (45, .iload_n 1, 1), (46, .if_icmp .ne 7, 3)], [(49, .iconst (-1), 1), (50, .goto 4, 3), (53, .iload_n 3, 1), (54, .iastore, 1), (55, .iinc 3 1, 3), (58, .goto (-24), 3), (61, .iconst 1, 1), (62, .istore_n 3, 1), (63, .iload_n 3, 1)], [(64, .ifCond .eq 114, 3), (67, .iconst 0, 1), (68, .istore_n 3, 1), (69, .iconst 1, 1), (70, .istore 4, 2), (72, .iload 4, 2), (74, .iload_n 2, 1), (75, .if_icmp .ge 100, 3), (78, .aload_n 0, 1), (79, .getfield 73, 3)], [(82, .aload_n 0, 1), (83, .getfield 13, 3), (86, .aload_n 0, 1), (87, .getfield 83, 3), (90, .iload 4, 2), (92, .iadd, 1), (93, .iaload, 1), (94, .iaload, 1), (95, .iconst (-1), 1)], [(96, .if_icmp .eq 40, 3), (99, .aload_n 0, 1), (100, .getfield 7, 3), (103, .aload_n 0, 1), (104, .getfield 83, 3), (107, .iload 4, 2), (109, .iadd, 1), (110, .iaload, 1), (111, .iconst 3, 1)], [(112, .if_icmp .ne 28, 3), (115, .aload_n 0, 1), (116, .getfield 73, 3), (119, .aload_n 0, 1), (120, .getfield 31, 3), (123, .aload_n 0, 1), (124, .getfield 83, 3), (127, .iload 4, 2)], [(129, .iadd, 1), (130, .iaload, 1), (131, .iaload, 1), (132, .iconst (-1), 1), (133, .if_icmp .ne 7, 3), (136, .iconst 1, 1), (137, .goto 4, 3), (140, .iconst 0, 1), (141, .istore 5, 2), (143, .aload_n 0, 1)], [(144, .getfield 73, 3), (147, .iload 4, 2), (149, .iaload, 1), (150, .iconst (-1), 1), (151, .if_icmp .eq 18, 3), (154, .iload 5, 2), (156, .ifCond .eq 13, 3), (159, .aload_n 0, 1)], [(160, .getfield 73, 3), (163, .iload 4, 2), (165, .iconst (-1), 1), (166, .iastore, 1), (167, .iconst 1, 1), (168, .istore_n 3, 1), (169, .iinc 4 1, 3), (172, .goto (-100), 3), (175, .goto (-112), 3)], [(178, .iconst 0, 1), (179, .istore 4, 2), (181, .iconst 0, 1), (182, .istore 5, 2), (184, .iload 5, 2), (186, .iload_n 2, 1), (187, .if_icmp .ge 32, 3), (190, .aload_n 0, 1), (191, .getfield 73, 3)], [(194, .iload 5, 2), (196, .iaload, 1), (197, .iconst (-1), 1), (198, .if_icmp .eq 15, 3), (201, .aload_n 0, 1), (202, .getfield 73, 3), (205, .iload 5, 2), (207, .iload 4, 2)], [(209, .iastore, 1), (210, .iinc 4 1, 3), (213, .iinc 5 1, 3), (216, .goto (-32), 3), (219, .iconst 0, 1), (220, .istore 5, 2), (222, .iload 5, 2)], [(224, .iload_n 2, 1), (225, .if_icmp .ge 43, 3), (228, .aload_n 0, 1), (229, .getfield 73, 3), (232, .iload 5, 2), (234, .iaload, 1), (235, .iconst (-1), 1), (236, .if_icmp .eq 26, 3), (239, .aload_n 0, 1)], [(240, .aload_n 0, 1), (241, .getfield 83, 3), (244, .iload 5, 2), (246, .iadd, 1), (247, .aload_n 0, 1), (248, .getfield 83, 3), (251, .aload_n 0, 1), (252, .getfield 73, 3), (255, .iload 5, 2)], [(257, .iaload, 1), (258, .iadd, 1), (259, .invokevirtual 131, 3), (262, .iinc 5 1, 3), (265, .goto (-43), 3), (268, .aload_n 0, 1), (269, .getfield 34, 3)], [(272, .aload_n 0, 1), (273, .getfield 83, 3), (276, .bipush 30, 2), (278, .idiv, 1), (279, .iload 4, 2), (281, .iastore, 1), (282, .iload_n 2, 1), (283, .iload 4, 2), (285, .isub, 1), (286, .ireturn, 1)]], 6, some .int, false)
def yMd_rename : AY := (120, 8, [[(0, .aload_n 0, 1), (1, .iload_n 1, 1), (2, .invokevirtual 107, 3), (5, .ifCond .eq 22, 3), (8, .iload_n 1, 1), (9, .ifCond .le 18, 3), (12, .iload 4, 2), (14, .iconst 1, 1), (15, .bipush 8, 2)], [(17, .invokestatic 103, 3), (20, .ifCond .eq 7, 3), (23, .iconst 1, 1), (24, .goto 4, 3), (27, .iconst 0, 1), (28, .istore 5, 2), (30, .aload_n 0, 1), (31, .iload 5, 2)], [(33, .ifCond .ne 7, 3), (36, .iconst 1, 1), (37, .goto 4, 3), (40, .iconst 0, 1), (41, .iconst 1, 1), (42, .invokevirtual 122, 3), (45, .ifCond .eq 5, 3)], [(48, .iconst 0, 1), (49, .ireturn, 1), (50, .aload_n 0, 1), (51, .getfield 83, 3), (54, .iload_n 1, 1), (55, .iadd, 1), (56, .istore 6, 2), (58, .aload_n 0, 1), (59, .iconst 0, 1), (60, .putfield 100, 3), (63, .iconst 0, 1)], [(64, .istore 7, 2), (66, .iload 7, 2), (68, .aload_n 0, 1), (69, .getfield 16, 3), (72, .iload 6, 2), (74, .iaload, 1), (75, .if_icmp .ge 41, 3), (78, .aload_n 0, 1), (79, .getfield 52, 3)], [(82, .aload_n 0, 1), (83, .getfield 100, 3), (86, .aload_n 0, 1), (87, .getfield 37, 3), (90, .bipush 100, 2), (92, .iload 6, 2), (94, .imul, 1), (95, .iload 7, 2)], [(97, .iadd, 1), (98, .baload, 1), (99, .bastore, 1), (100, .aload_n 0, 1), (101, .dup, 1), (102, .getfield 100, 3), (105, .iconst 1, 1), (106, .iadd, 1), (107, .putfield 100, 3), (110, .iinc 7 1, 3)], [(113, .goto (-47), 3), (116, .aload_n 0, 1), (117, .lload_n 2, 1), (118, .iload 4, 2), (120, .invokevirtual 110, 3), (123, .istore 5, 2), (125, .aload_n 0, 1), (126, .getfield 100, 3)], [(129, .bipush 100, 2), (131, .if_icmp .le 7, 3), (134, .iconst 1, 1), (135, .goto 4, 3), (138, .iconst 0, 1), (139, .istore 7, 2), (141, .iload 5, 2), (143, .ifCond .eq 55, 3)], [(146, .iload 7, 2), (148, .ifCond .ne 46, 3), (151, .aload_n 0, 1), (152, .getfield 52, 3), (155, .iconst 0, 1), (156, .aload_n 0, 1), (157, .getfield 100, 3)], [(160, .invokestatic 114, 3), (163, .ifCond .eq 35, 3), (166, .aload_n 0, 1), (167, .aload_n 0, 1), (168, .getfield 83, 3), (171, .aload_n 0, 1), (172, .getfield 13, 3), (175, .iload 6, 2)], [(177, .iaload, 1), (178, .aload_n 0, 1), (179, .getfield 52, 3), (182, .iconst 0, 1), (183, .aload_n 0, 1), (184, .getfield 100, 3), (187, .invokevirtual 118, 3), (190, .iconst (-1), 1), (191, .if_icmp .ne 7, 3)], [(194, .iconst 1, 1), (195, .goto 4, 3), (198, .iconst 0, 1), (199, .istore 5, 2), (201, .aload_n 0, 1), (202, .iload 5, 2), (204, .ifCond .ne 7, 3), (207, .iconst 1, 1)], [(208, .goto 4, 3), (211, .iconst 0, 1), (212, .iconst 1, 1), (213, .invokevirtual 122, 3), (216, .ifCond .ne 13, 3), (219, .aload_n 0, 1), (220, .iload 7, 2), (222, .iconst 2, 1), (223, .invokevirtual 122, 3)], [(226, .ifCond .eq 5, 3), (229, .iconst 0, 1), (230, .ireturn, 1), (231, .aload_n 0, 1), (232, .getfield 16, 3), (235, .iload 6, 2), (237, .iaload, 1), (238, .istore 8, 2)], [(240, .iload 8, 2), (242, .aload_n 0, 1), (243, .getfield 100, 3), (246, .if_icmp .ge 29, 3), (249, .aload_n 0, 1), (250, .getfield 37, 3), (253, .bipush 100, 2), (255, .iload 6, 2)], [(257, .imul, 1), (258, .iload 8, 2), (260, .iadd, 1), (261, .aload_n 0, 1), (262, .getfield 52, 3), (265, .iload 8, 2), (267, .baload, 1), (268, .bastore, 1), (269, .iinc 8 1, 3)], [(272, .goto (-32), 3), (275, .aload_n 0, 1), (276, .getfield 16, 3), (279, .iload 6, 2), (281, .aload_n 0, 1), (282, .getfield 100, 3), (285, .iastore, 1), (286, .aload_n 0, 1), (287, .getfield 100, 3)], [(290, .ireturn, 1)]], 9, some .int, false)
def yMd_set : AY := (121, 8, [[(0, .aload_n 0, 1), (1, .aload_n 0, 1), (2, .iload_n 1, 1), (3, .invokevirtual 107, 3), (6, .ifCond .eq 29, 3), (9, .iload_n 2, 1), (10, .iconst 0, 1), (11, .sipush 4095, 3), (14, .invokestatic 103, 3)], [(17, .ifCond .eq 18, 3), (20, .iload_n 3, 1), (21, .iconst 0, 1), (22, .ldc 130, 2), (24, .invokestatic 103, 3), (27, .ifCond .eq 8, 3), (30, .iload 4, 2)], [(32, .ifCond .ge 7, 3), (35, .iconst 1, 1), (36, .goto 4, 3), (39, .iconst 0, 1), (40, .iconst 1, 1), (41, .invokevirtual 122, 3), (44, .ifCond .eq 4, 3), (47, .return_, 1)], [(48, .aload_n 0, 1), (49, .getfield 19, 3), (52, .aload_n 0, 1), (53, .getfield 83, 3), (56, .iload_n 1, 1), (57, .iadd, 1), (58, .iload_n 2, 1), (59, .iastore, 1), (60, .aload_n 0, 1), (61, .getfield 22, 3)], [(64, .aload_n 0, 1), (65, .getfield 83, 3), (68, .iload_n 1, 1), (69, .iadd, 1), (70, .iload_n 3, 1), (71, .iastore, 1), (72, .aload_n 0, 1), (73, .getfield 25, 3), (76, .aload_n 0, 1), (77, .getfield 83, 3)], [(80, .iload_n 1, 1), (81, .iadd, 1), (82, .iload 4, 2), (84, .iastore, 1), (85, .return_, 1)]], 5, none, false)
def yMd_size : AY := (122, 8, [[(0, .aload_n 0, 1), (1, .iload_n 1, 1), (2, .iconst 0, 1), (3, .sipush 10240, 3), (6, .invokestatic 103, 3), (9, .ifCond .ne 7, 3), (12, .iconst 1, 1), (13, .goto 4, 3)], [(16, .iconst 0, 1), (17, .iconst 1, 1), (18, .invokevirtual 122, 3), (21, .ifCond .eq 4, 3), (24, .return_, 1), (25, .aload_n 0, 1), (26, .getfield 155, 3), (29, .istore_n 2, 1), (30, .iload_n 2, 1), (31, .iload_n 1, 1)], [(32, .if_icmp .ge 16, 3), (35, .aload_n 0, 1), (36, .getfield 45, 3), (39, .iload_n 2, 1), (40, .iconst 0, 1), (41, .bastore, 1), (42, .iinc 2 1, 3), (45, .goto (-15), 3)], [(48, .aload_n 0, 1), (49, .iload_n 1, 1), (50, .putfield 155, 3), (53, .return_, 1)]], 3, none, false)
def yMd_spell : AY := (123, 8, [[(0, .iconst 1, 1), (1, .istore 4, 2), (3, .iconst 0, 1), (4, .istore 5, 2), (6, .iload 5, 2), (8, .iload_n 3, 1), (9, .if_icmp .ge 65, 3), (12, .lload_n 1, 1), (13, .bipush 8, 2), (15, .iload 5, 2)], [(17, .imul, 1), (18, .lshr, 1), (19, .ldc2_w 98, 3), (22, .land, 1), (23, .l2i, 1), (24, .istore 6, 2), (26, .iload 4, 2), (28, .ifCond .eq 15, 3), (31, .iload 6, 2)], [(33, .invokestatic 90, 3), (36, .ifCond .eq 7, 3), (39, .iconst 1, 1), (40, .goto 4, 3), (43, .iconst 0, 1), (44, .istore 4, 2), (46, .aload_n 0, 1), (47, .getfield 52, 3)], [(50, .aload_n 0, 1), (51, .getfield 100, 3), (54, .iload 6, 2), (56, .i2b, 1), (57, .bastore, 1), (58, .aload_n 0, 1), (59, .dup, 1), (60, .getfield 100, 3), (63, .iconst 1, 1)], [(64, .iadd, 1), (65, .putfield 100, 3), (68, .iinc 5 1, 3), (71, .goto (-65), 3), (74, .iload 4, 2), (76, .ireturn, 1)]], 7, some .boolean, false)
def yMd_sum : AY := (124, 8, [[(0, .iconst 0, 1), (1, .istore_n 2, 1), (2, .iconst 0, 1), (3, .istore_n 3, 1), (4, .iload_n 3, 1), (5, .sipush 512, 3), (8, .if_icmp .ge 43, 3), (11, .iload_n 2, 1), (12, .iload_n 3, 1), (13, .sipush 147, 3)], [(16, .if_icmp .le 15, 3), (19, .iload_n 3, 1), (20, .sipush 156, 3), (23, .if_icmp .ge 8, 3), (26, .bipush 32, 2), (28, .goto 15, 3), (31, .aload_n 0, 1)], [(32, .getfield 45, 3), (35, .iload_n 1, 1), (36, .iload_n 3, 1), (37, .iadd, 1), (38, .baload, 1), (39, .sipush 255, 3), (42, .iand, 1), (43, .iadd, 1), (44, .istore_n 2, 1), (45, .iinc 3 1, 3)], [(48, .goto (-44), 3), (51, .iload_n 2, 1), (52, .ireturn, 1)]], 4, some .int, false)
def yMd_tell : AY := (125, 8, [[(0, .iconst 0, 1), (1, .istore_n 2, 1), (2, .iload_n 1, 1), (3, .istore_n 3, 1), (4, .iload_n 3, 1), (5, .ifCond .le 28, 3), (8, .aload_n 0, 1), (9, .getfield 55, 3), (12, .iload_n 2, 1), (13, .iload_n 3, 1), (14, .iastore, 1), (15, .iinc 2 1, 3)], [(18, .aload_n 0, 1), (19, .getfield 13, 3), (22, .aload_n 0, 1), (23, .getfield 83, 3), (26, .iload_n 3, 1), (27, .iadd, 1), (28, .iaload, 1), (29, .istore_n 3, 1), (30, .goto (-26), 3)], [(33, .aload_n 0, 1), (34, .iconst 0, 1), (35, .putfield 100, 3), (38, .iload_n 2, 1), (39, .iconst 1, 1), (40, .isub, 1), (41, .istore 4, 2), (43, .iload 4, 2), (45, .ifCond .lt 112, 3)], [(48, .aload_n 0, 1), (49, .getfield 83, 3), (52, .aload_n 0, 1), (53, .getfield 55, 3), (56, .iload 4, 2), (58, .iaload, 1), (59, .iadd, 1), (60, .istore 5, 2), (62, .iconst 0, 1), (63, .istore 6, 2)], [(65, .iload 6, 2), (67, .aload_n 0, 1), (68, .getfield 16, 3), (71, .iload 5, 2), (73, .iaload, 1), (74, .if_icmp .ge 41, 3), (77, .aload_n 0, 1), (78, .getfield 52, 3)], [(81, .aload_n 0, 1), (82, .getfield 100, 3), (85, .aload_n 0, 1), (86, .getfield 37, 3), (89, .bipush 100, 2), (91, .iload 5, 2), (93, .imul, 1), (94, .iload 6, 2)], [(96, .iadd, 1), (97, .baload, 1), (98, .bastore, 1), (99, .aload_n 0, 1), (100, .dup, 1), (101, .getfield 100, 3), (104, .iconst 1, 1), (105, .iadd, 1), (106, .putfield 100, 3), (109, .iinc 6 1, 3)], [(112, .goto (-47), 3), (115, .iload 4, 2), (117, .ifCond .gt 13, 3), (120, .aload_n 0, 1), (121, .getfield 7, 3), (124, .iload 5, 2), (126, .iaload, 1), (127, .ifCond .ne 24, 3)], [(130, .aload_n 0, 1), (131, .getfield 52, 3), (134, .aload_n 0, 1), (135, .getfield 100, 3), (138, .bipush 47, 2), (140, .bastore, 1), (141, .aload_n 0, 1), (142, .dup, 1), (143, .getfield 100, 3)], [(146, .iconst 1, 1), (147, .iadd, 1), (148, .putfield 100, 3), (151, .iinc 4 (-1), 3), (154, .goto (-111), 3), (157, .return_, 1)]], 7, none, false)
def yMd_textOf : AY := (126, 8, [[(0, .iconst 0, 1), (1, .istore_n 3, 1), (2, .iload_n 3, 1), (3, .iload_n 2, 1), (4, .if_icmp .ge 20, 3), (7, .aload_n 0, 1), (8, .getfield 45, 3), (11, .iload_n 1, 1), (12, .iload_n 3, 1), (13, .iadd, 1), (14, .baload, 1), (15, .ifCond .eq 9, 3)], [(18, .iinc 3 1, 3), (21, .goto (-19), 3), (24, .aload_n 0, 1), (25, .iload_n 1, 1), (26, .iload_n 3, 1), (27, .iadd, 1), (28, .iload_n 1, 1), (29, .iload_n 2, 1), (30, .iadd, 1), (31, .invokevirtual 177, 3)], [(34, .ifCond .eq 7, 3), (37, .iload_n 3, 1), (38, .goto 4, 3), (41, .iconst (-1), 1), (42, .ireturn, 1)]], 4, some .int, false)
def yMd_thrown : AY := (127, 8, [[(0, .aload_n 0, 1), (1, .getfield 80, 3), (4, .ireturn, 1)]], 1, some .int, false)
def yMd_total : AY := (128, 8, [[(0, .aload_n 0, 1), (1, .iload_n 1, 1), (2, .iconst 0, 1), (3, .iconst 2, 1), (4, .invokestatic 103, 3), (7, .ifCond .ne 7, 3), (10, .iconst 1, 1), (11, .goto 4, 3), (14, .iconst 0, 1), (15, .iconst 1, 1)], [(16, .invokevirtual 122, 3), (19, .ifCond .eq 5, 3), (22, .iconst 0, 1), (23, .ireturn, 1), (24, .iload_n 1, 1), (25, .ifCond .ne 8, 3), (28, .aload_n 0, 1), (29, .invokevirtual 86, 3)], [(32, .ireturn, 1), (33, .iload_n 1, 1), (34, .iconst 1, 1), (35, .if_icmp .ne 8, 3), (38, .aload_n 0, 1), (39, .getfield 155, 3), (42, .ireturn, 1), (43, .iconst 0, 1), (44, .istore_n 2, 1), (45, .iconst 1, 1), (46, .istore_n 3, 1), (47, .iload_n 3, 1)], [(48, .aload_n 0, 1), (49, .invokevirtual 86, 3), (52, .if_icmp .ge 31, 3), (55, .aload_n 0, 1), (56, .iload_n 3, 1), (57, .invokevirtual 149, 3), (60, .aload_n 0, 1), (61, .getfield 100, 3)], [(64, .iload_n 2, 1), (65, .if_icmp .le 10, 3), (68, .aload_n 0, 1), (69, .getfield 100, 3), (72, .goto 4, 3), (75, .iload_n 2, 1), (76, .istore_n 2, 1), (77, .iinc 3 1, 3)], [(80, .goto (-33), 3), (83, .iload_n 2, 1), (84, .ireturn, 1)]], 4, some .int, false)
def yMd_walk : AY := (129, 8, [[(0, .aload_n 0, 1), (1, .getfield 100, 3), (4, .iload_n 2, 1), (5, .ifCond .eq 7, 3), (8, .iconst 1, 1), (9, .goto 4, 3), (12, .iconst 0, 1), (13, .isub, 1), (14, .istore_n 3, 1), (15, .iconst 0, 1)], [(16, .istore 4, 2), (18, .iconst 0, 1), (19, .istore 5, 2), (21, .iconst 0, 1), (22, .istore 6, 2), (24, .iload 6, 2), (26, .iload_n 3, 1), (27, .if_icmp .ge 98, 3), (30, .aload_n 0, 1), (31, .getfield 52, 3)], [(34, .iload 6, 2), (36, .baload, 1), (37, .bipush 47, 2), (39, .if_icmp .eq 6, 3), (42, .goto 77, 3), (45, .iload 4, 2), (47, .iconst (-1), 1)], [(48, .if_icmp .eq 44, 3), (51, .aload_n 0, 1), (52, .getfield 52, 3), (55, .iload 5, 2), (57, .iload 6, 2), (59, .iload 5, 2), (61, .isub, 1), (62, .invokestatic 114, 3)], [(65, .ifCond .eq 24, 3), (68, .aload_n 0, 1), (69, .iload_n 1, 1), (70, .iload 4, 2), (72, .aload_n 0, 1), (73, .getfield 52, 3), (76, .iload 5, 2), (78, .iload 6, 2)], [(80, .iload 5, 2), (82, .isub, 1), (83, .invokevirtual 118, 3), (86, .goto 4, 3), (89, .iconst (-1), 1), (90, .istore 4, 2), (92, .iload 4, 2), (94, .iconst (-1), 1), (95, .if_icmp .eq 18, 3)], [(98, .aload_n 0, 1), (99, .getfield 7, 3), (102, .iload_n 1, 1), (103, .iload 4, 2), (105, .iadd, 1), (106, .iaload, 1), (107, .ifCond .eq 6, 3), (110, .iconst (-1), 1), (111, .istore 4, 2)], [(113, .iload 6, 2), (115, .iconst 1, 1), (116, .iadd, 1), (117, .istore 5, 2), (119, .iinc 6 1, 3), (122, .goto (-98), 3), (125, .aload_n 0, 1), (126, .iload 5, 2)], [(128, .putfield 181, 3), (131, .aload_n 0, 1), (132, .iload_n 3, 1), (133, .iload 5, 2), (135, .isub, 1), (136, .putfield 184, 3), (139, .iload 4, 2), (141, .iconst (-1), 1), (142, .if_icmp .eq 24, 3)], [(145, .aload_n 0, 1), (146, .getfield 52, 3), (149, .iload 5, 2), (151, .iload_n 3, 1), (152, .iload 5, 2), (154, .isub, 1), (155, .invokestatic 114, 3), (158, .ifCond .eq 8, 3)], [(161, .iload 4, 2), (163, .goto 4, 3), (166, .iconst (-1), 1), (167, .ireturn, 1)]], 7, some .int, false)
def yMd_within : AY := (130, 8, [[(0, .iload_n 0, 1), (1, .iload_n 1, 1), (2, .if_icmp .lt 12, 3), (5, .iload_n 0, 1), (6, .iload_n 2, 1), (7, .if_icmp .gt 7, 3), (10, .iconst 1, 1), (11, .goto 4, 3), (14, .iconst 0, 1), (15, .ireturn, 1)]], 3, some .boolean, false)
def yMd_write : AY := (131, 8, [[(0, .aload_n 0, 1), (1, .invokevirtual 142, 3), (4, .iconst 2, 1), (5, .istore_n 1, 1), (6, .iconst 1, 1), (7, .istore_n 2, 1), (8, .iconst 0, 1), (9, .istore_n 3, 1), (10, .iload_n 3, 1), (11, .aload_n 0, 1), (12, .invokevirtual 86, 3), (15, .iconst 1, 1)], [(16, .isub, 1), (17, .if_icmp .ge 108, 3), (20, .iload_n 2, 1), (21, .ifCond .eq 104, 3), (24, .aload_n 0, 1), (25, .getfield 61, 3), (28, .iload_n 3, 1), (29, .iaload, 1), (30, .istore 4, 2)], [(32, .iload_n 1, 1), (33, .iconst 1, 1), (34, .aload_n 0, 1), (35, .aload_n 0, 1), (36, .getfield 83, 3), (39, .iload 4, 2), (41, .iadd, 1), (42, .invokevirtual 145, 3), (45, .iadd, 1), (46, .iadd, 1), (47, .istore_n 1, 1)], [(48, .aload_n 0, 1), (49, .iload 4, 2), (51, .invokevirtual 149, 3), (54, .aload_n 0, 1), (55, .invokevirtual 152, 3), (58, .iconst (-1), 1), (59, .if_icmp .eq 7, 3), (62, .iconst 1, 1), (63, .goto 4, 3)], [(66, .iconst 0, 1), (67, .istore_n 2, 1), (68, .iload_n 2, 1), (69, .ifCond .eq 50, 3), (72, .aload_n 0, 1), (73, .getfield 7, 3), (76, .aload_n 0, 1), (77, .getfield 83, 3)], [(80, .iload 4, 2), (82, .iadd, 1), (83, .iaload, 1), (84, .iconst 3, 1), (85, .if_icmp .ne 34, 3), (88, .aload_n 0, 1), (89, .aload_n 0, 1), (90, .getfield 31, 3), (93, .aload_n 0, 1), (94, .getfield 83, 3)], [(97, .iload 4, 2), (99, .iadd, 1), (100, .iaload, 1), (101, .invokevirtual 149, 3), (104, .aload_n 0, 1), (105, .getfield 100, 3), (108, .bipush 100, 2), (110, .if_icmp .gt 7, 3)], [(113, .iconst 1, 1), (114, .goto 4, 3), (117, .iconst 0, 1), (118, .istore_n 2, 1), (119, .iinc 3 1, 3), (122, .goto (-112), 3), (125, .aload_n 0, 1), (126, .iload_n 2, 1), (127, .ifCond .eq 14, 3)], [(130, .sipush 512, 3), (133, .iload_n 1, 1), (134, .imul, 1), (135, .sipush 10240, 3), (138, .if_icmp .le 7, 3), (141, .iconst 1, 1), (142, .goto 4, 3)], [(145, .iconst 0, 1), (146, .iconst 1, 1), (147, .invokevirtual 122, 3), (150, .ifCond .eq 5, 3), (153, .iconst 0, 1), (154, .ireturn, 1), (155, .aload_n 0, 1), (156, .sipush 512, 3), (159, .iload_n 1, 1)], [(160, .imul, 1), (161, .putfield 155, 3), (164, .iconst 0, 1), (165, .istore_n 3, 1), (166, .iload_n 3, 1), (167, .aload_n 0, 1), (168, .getfield 155, 3), (171, .if_icmp .ge 16, 3), (174, .aload_n 0, 1), (175, .getfield 45, 3)], [(178, .iload_n 3, 1), (179, .iconst 0, 1), (180, .bastore, 1), (181, .iinc 3 1, 3), (184, .goto (-18), 3), (187, .iconst 0, 1), (188, .istore_n 3, 1), (189, .iconst 0, 1), (190, .istore 4, 2)], [(192, .iload 4, 2), (194, .aload_n 0, 1), (195, .invokevirtual 86, 3), (198, .iconst 1, 1), (199, .isub, 1), (200, .if_icmp .ge 104, 3), (203, .aload_n 0, 1), (204, .getfield 83, 3), (207, .aload_n 0, 1)], [(208, .getfield 61, 3), (211, .iload 4, 2), (213, .iaload, 1), (214, .iadd, 1), (215, .istore 5, 2), (217, .aload_n 0, 1), (218, .iload_n 3, 1), (219, .iload 5, 2), (221, .invokevirtual 158, 3)], [(224, .iinc 3 512, 6), (230, .iconst 0, 1), (231, .istore 6, 2), (233, .iload 6, 2), (235, .aload_n 0, 1), (236, .getfield 28, 3), (239, .iload 5, 2)], [(241, .iaload, 1), (242, .if_icmp .ge 43, 3), (245, .aload_n 0, 1), (246, .getfield 7, 3), (249, .iload 5, 2), (251, .iaload, 1), (252, .iconst 1, 1), (253, .if_icmp .ne 32, 3)], [(256, .aload_n 0, 1), (257, .getfield 45, 3), (260, .iload_n 3, 1), (261, .iload 6, 2), (263, .iadd, 1), (264, .aload_n 0, 1), (265, .getfield 42, 3), (268, .sipush 2000, 3), (271, .iload 5, 2)], [(273, .imul, 1), (274, .iload 6, 2), (276, .iadd, 1), (277, .baload, 1), (278, .bastore, 1), (279, .iinc 6 1, 3), (282, .goto (-49), 3), (285, .iload_n 3, 1), (286, .sipush 512, 3)], [(289, .aload_n 0, 1), (290, .iload 5, 2), (292, .invokevirtual 145, 3), (295, .imul, 1), (296, .iadd, 1), (297, .istore_n 3, 1), (298, .iinc 4 1, 3), (301, .goto (-109), 3)], [(304, .iload_n 1, 1), (305, .ireturn, 1)]], 7, some .int, false)
def yLw_alter : AY := (132, 9, [[(0, .aload_n 3, 1), (1, .iconst 0, 1), (2, .aload_n 0, 1), (3, .iload_n 1, 1), (4, .iload_n 2, 1), (5, .invokevirtual 42, 3), (8, .i2l, 1), (9, .lastore, 1), (10, .goto 7, 3), (13, .astore 4, 2), (15, .iconst 1, 1)], [(16, .ireturn, 1), (17, .iconst 0, 1), (18, .ireturn, 1)]], 5, some .int, false)
def yLw_check : AY := (133, 9, [[(0, .aload_n 2, 1), (1, .iconst 0, 1), (2, .aload_n 0, 1), (3, .iload_n 1, 1), (4, .invokevirtual 46, 3), (7, .i2l, 1), (8, .lastore, 1), (9, .goto 6, 3), (12, .astore_n 3, 1), (13, .iconst 1, 1), (14, .ireturn, 1), (15, .iconst 0, 1)], [(16, .ireturn, 1)]], 4, some .int, false)
def yLw_contents : AY := (134, 9, [[(0, .aload_n 0, 1), (1, .iload_n 1, 1), (2, .iload_n 2, 1), (3, .iload_n 3, 1), (4, .invokevirtual 24, 3), (7, .goto 7, 3), (10, .astore 4, 2), (12, .iconst 1, 1), (13, .ireturn, 1), (14, .iconst 0, 1), (15, .ireturn, 1)]], 5, some .int, false)
def yLw_fill : AY := (135, 9, [[(0, .aload 5, 2), (2, .iconst 0, 1), (3, .aload_n 0, 1), (4, .iload_n 1, 1), (5, .lload_n 2, 1), (6, .iload 4, 2), (8, .invokevirtual 21, 3), (11, .i2l, 1), (12, .lastore, 1), (13, .goto 11, 3)], [(16, .astore 6, 2), (18, .iconst 1, 1), (19, .ireturn, 1), (20, .astore 6, 2), (22, .iconst 2, 1), (23, .ireturn, 1), (24, .iconst 0, 1), (25, .ireturn, 1)]], 7, some .int, false)
def yLw_law : AY := (136, 9, [[(0, .new 8, 3), (3, .dup, 1), (4, .invokespecial 63, 3), (7, .astore_n 1, 1), (8, .new 64, 3), (11, .dup, 1), (12, .invokespecial 66, 3), (15, .astore_n 2, 1)], [(16, .iconst 1, 1), (17, .newarray .long, 2), (19, .astore_n 3, 1), (20, .iconst 0, 1), (21, .istore 4, 2), (23, .iload 4, 2), (25, .aload_n 0, 1), (26, .arraylength, 1), (27, .bipush 7, 2), (29, .isub, 1), (30, .if_icmp .gt 1105, 3)], [(33, .aload_n 0, 1), (34, .iload 4, 2), (36, .iaload, 1), (37, .bipush 15, 2), (39, .iand, 1), (40, .tableswitch 1089 0 15 #[80, 218, 330, 442, 502, 574, 630, 674, 687, 700, 768, 824, 860, 885, 953, 1033], 80)], [], [], [], [], [(120, .aload_n 1, 1), (121, .aload_n 0, 1), (122, .iload 4, 2), (124, .iconst 1, 1), (125, .iadd, 1), (126, .iaload, 1), (127, .aload_n 0, 1)], [(128, .iload 4, 2), (130, .iconst 2, 1), (131, .iadd, 1), (132, .iaload, 1), (133, .aload_n 0, 1), (134, .iload 4, 2), (136, .iconst 3, 1), (137, .iadd, 1), (138, .iaload, 1), (139, .i2l, 1), (140, .bipush 32, 2), (142, .lshl, 1), (143, .aload_n 0, 1)], [(144, .iload 4, 2), (146, .iconst 4, 1), (147, .iadd, 1), (148, .iaload, 1), (149, .i2l, 1), (150, .ldc2_w 67, 3), (153, .land, 1), (154, .lor, 1), (155, .aload_n 0, 1), (156, .iload 4, 2), (158, .iconst 5, 1), (159, .iadd, 1)], [(160, .iaload, 1), (161, .aload_n 0, 1), (162, .iload 4, 2), (164, .bipush 6, 2), (166, .iadd, 1), (167, .iaload, 1), (168, .aload_n 3, 1), (169, .invokestatic 69, 3), (172, .istore 5, 2), (174, .aload_n 2, 1), (175, .aload_n 0, 1)], [(176, .iload 4, 2), (178, .iconst 1, 1), (179, .iadd, 1), (180, .iaload, 1), (181, .aload_n 0, 1), (182, .iload 4, 2), (184, .iconst 2, 1), (185, .iadd, 1), (186, .iaload, 1), (187, .aload_n 0, 1), (188, .iload 4, 2), (190, .iconst 3, 1), (191, .iadd, 1)], [(192, .iaload, 1), (193, .i2l, 1), (194, .bipush 32, 2), (196, .lshl, 1), (197, .aload_n 0, 1), (198, .iload 4, 2), (200, .iconst 4, 1), (201, .iadd, 1), (202, .iaload, 1), (203, .i2l, 1), (204, .ldc2_w 67, 3), (207, .land, 1)], [(208, .lor, 1), (209, .aload_n 0, 1), (210, .iload 4, 2), (212, .iconst 5, 1), (213, .iadd, 1), (214, .iaload, 1), (215, .aload_n 0, 1), (216, .iload 4, 2), (218, .bipush 6, 2), (220, .iadd, 1), (221, .iaload, 1), (222, .invokevirtual 74, 3)], [(225, .istore 6, 2), (227, .aload_n 2, 1), (228, .invokevirtual 75, 3), (231, .iload 5, 2), (233, .if_icmp .eq 5, 3), (236, .iconst 0, 1), (237, .ireturn, 1), (238, .iload 5, 2)], [(240, .ifCond .ne 15, 3), (243, .aload_n 3, 1), (244, .iconst 0, 1), (245, .laload, 1), (246, .iload 6, 2), (248, .i2l, 1), (249, .lcmp, 1), (250, .ifCond .eq 5, 3), (253, .iconst 0, 1), (254, .ireturn, 1), (255, .goto 874, 3)], [(258, .aload_n 1, 1), (259, .aload_n 0, 1), (260, .iload 4, 2), (262, .iconst 1, 1), (263, .iadd, 1), (264, .iaload, 1), (265, .aload_n 0, 1), (266, .iload 4, 2), (268, .iconst 2, 1), (269, .iadd, 1), (270, .iaload, 1), (271, .i2l, 1)], [(272, .bipush 32, 2), (274, .lshl, 1), (275, .aload_n 0, 1), (276, .iload 4, 2), (278, .iconst 3, 1), (279, .iadd, 1), (280, .iaload, 1), (281, .i2l, 1), (282, .ldc2_w 67, 3), (285, .land, 1), (286, .lor, 1), (287, .aload_n 0, 1)], [(288, .iload 4, 2), (290, .iconst 4, 1), (291, .iadd, 1), (292, .iaload, 1), (293, .aload_n 3, 1), (294, .invokestatic 78, 3), (297, .istore 5, 2), (299, .aload_n 2, 1), (300, .aload_n 0, 1), (301, .iload 4, 2), (303, .iconst 1, 1)], [(304, .iadd, 1), (305, .iaload, 1), (306, .aload_n 0, 1), (307, .iload 4, 2), (309, .iconst 2, 1), (310, .iadd, 1), (311, .iaload, 1), (312, .i2l, 1), (313, .bipush 32, 2), (315, .lshl, 1), (316, .aload_n 0, 1), (317, .iload 4, 2), (319, .iconst 3, 1)], [(320, .iadd, 1), (321, .iaload, 1), (322, .i2l, 1), (323, .ldc2_w 67, 3), (326, .land, 1), (327, .lor, 1), (328, .aload_n 0, 1), (329, .iload 4, 2), (331, .iconst 4, 1), (332, .iadd, 1), (333, .iaload, 1), (334, .invokevirtual 81, 3)], [(337, .istore 6, 2), (339, .aload_n 2, 1), (340, .invokevirtual 75, 3), (343, .iload 5, 2), (345, .if_icmp .eq 5, 3), (348, .iconst 0, 1), (349, .ireturn, 1), (350, .iload 5, 2)], [(352, .ifCond .ne 15, 3), (355, .aload_n 3, 1), (356, .iconst 0, 1), (357, .laload, 1), (358, .iload 6, 2), (360, .i2l, 1), (361, .lcmp, 1), (362, .ifCond .eq 5, 3), (365, .iconst 0, 1), (366, .ireturn, 1), (367, .goto 762, 3)], [(370, .aload_n 1, 1), (371, .aload_n 0, 1), (372, .iload 4, 2), (374, .iconst 1, 1), (375, .iadd, 1), (376, .iaload, 1), (377, .aload_n 0, 1), (378, .iload 4, 2), (380, .iconst 2, 1), (381, .iadd, 1), (382, .iaload, 1), (383, .i2l, 1)], [(384, .bipush 32, 2), (386, .lshl, 1), (387, .aload_n 0, 1), (388, .iload 4, 2), (390, .iconst 3, 1), (391, .iadd, 1), (392, .iaload, 1), (393, .i2l, 1), (394, .ldc2_w 67, 3), (397, .land, 1), (398, .lor, 1), (399, .aload_n 0, 1)], [(400, .iload 4, 2), (402, .iconst 4, 1), (403, .iadd, 1), (404, .iaload, 1), (405, .aload_n 3, 1), (406, .invokestatic 82, 3), (409, .istore 5, 2), (411, .aload_n 2, 1), (412, .aload_n 0, 1), (413, .iload 4, 2), (415, .iconst 1, 1)], [(416, .iadd, 1), (417, .iaload, 1), (418, .aload_n 0, 1), (419, .iload 4, 2), (421, .iconst 2, 1), (422, .iadd, 1), (423, .iaload, 1), (424, .i2l, 1), (425, .bipush 32, 2), (427, .lshl, 1), (428, .aload_n 0, 1), (429, .iload 4, 2), (431, .iconst 3, 1)], [(432, .iadd, 1), (433, .iaload, 1), (434, .i2l, 1), (435, .ldc2_w 67, 3), (438, .land, 1), (439, .lor, 1), (440, .aload_n 0, 1), (441, .iload 4, 2), (443, .iconst 4, 1), (444, .iadd, 1), (445, .iaload, 1), (446, .invokevirtual 84, 3)], [(449, .istore 6, 2), (451, .aload_n 2, 1), (452, .invokevirtual 75, 3), (455, .iload 5, 2), (457, .if_icmp .eq 5, 3), (460, .iconst 0, 1), (461, .ireturn, 1), (462, .iload 5, 2)], [(464, .ifCond .ne 15, 3), (467, .aload_n 3, 1), (468, .iconst 0, 1), (469, .laload, 1), (470, .iload 6, 2), (472, .i2l, 1), (473, .lcmp, 1), (474, .ifCond .eq 5, 3), (477, .iconst 0, 1), (478, .ireturn, 1), (479, .goto 650, 3)], [(482, .aload_n 1, 1), (483, .aload_n 0, 1), (484, .iload 4, 2), (486, .iconst 1, 1), (487, .iadd, 1), (488, .iaload, 1), (489, .aload_n 0, 1), (490, .iload 4, 2), (492, .iconst 2, 1), (493, .iadd, 1), (494, .iaload, 1), (495, .aload_n 0, 1)], [(496, .iload 4, 2), (498, .iconst 3, 1), (499, .iadd, 1), (500, .iaload, 1), (501, .invokestatic 85, 3), (504, .istore 5, 2), (506, .aload_n 2, 1), (507, .aload_n 0, 1), (508, .iload 4, 2), (510, .iconst 1, 1), (511, .iadd, 1)], [(512, .iaload, 1), (513, .aload_n 0, 1), (514, .iload 4, 2), (516, .iconst 2, 1), (517, .iadd, 1), (518, .iaload, 1), (519, .aload_n 0, 1), (520, .iload 4, 2), (522, .iconst 3, 1), (523, .iadd, 1), (524, .iaload, 1), (525, .invokevirtual 88, 3)], [(528, .aload_n 2, 1), (529, .invokevirtual 75, 3), (532, .iload 5, 2), (534, .if_icmp .eq 5, 3), (537, .iconst 0, 1), (538, .ireturn, 1), (539, .goto 590, 3), (542, .aload_n 1, 1), (543, .aload_n 0, 1)], [(544, .iload 4, 2), (546, .iconst 1, 1), (547, .iadd, 1), (548, .iaload, 1), (549, .aload_n 0, 1), (550, .iload 4, 2), (552, .iconst 2, 1), (553, .iadd, 1), (554, .iaload, 1), (555, .aload_n 0, 1), (556, .iload 4, 2), (558, .iconst 3, 1), (559, .iadd, 1)], [(560, .iaload, 1), (561, .aload_n 0, 1), (562, .iload 4, 2), (564, .iconst 4, 1), (565, .iadd, 1), (566, .iaload, 1), (567, .invokestatic 89, 3), (570, .istore 5, 2), (572, .aload_n 2, 1), (573, .aload_n 0, 1), (574, .iload 4, 2)], [(576, .iconst 1, 1), (577, .iadd, 1), (578, .iaload, 1), (579, .aload_n 0, 1), (580, .iload 4, 2), (582, .iconst 2, 1), (583, .iadd, 1), (584, .iaload, 1), (585, .aload_n 0, 1), (586, .iload 4, 2), (588, .iconst 3, 1), (589, .iadd, 1), (590, .iaload, 1), (591, .aload_n 0, 1)], [(592, .iload 4, 2), (594, .iconst 4, 1), (595, .iadd, 1), (596, .iaload, 1), (597, .invokevirtual 92, 3), (600, .aload_n 2, 1), (601, .invokevirtual 75, 3), (604, .iload 5, 2), (606, .if_icmp .eq 5, 3)], [(609, .iconst 0, 1), (610, .ireturn, 1), (611, .goto 518, 3), (614, .aload_n 1, 1), (615, .aload_n 0, 1), (616, .iload 4, 2), (618, .iconst 1, 1), (619, .iadd, 1), (620, .iaload, 1), (621, .aload_n 3, 1), (622, .invokestatic 93, 3)], [(625, .istore 5, 2), (627, .aload_n 2, 1), (628, .aload_n 0, 1), (629, .iload 4, 2), (631, .iconst 1, 1), (632, .iadd, 1), (633, .iaload, 1), (634, .invokevirtual 96, 3), (637, .istore 6, 2), (639, .aload_n 2, 1)], [(640, .invokevirtual 75, 3), (643, .iload 5, 2), (645, .if_icmp .eq 5, 3), (648, .iconst 0, 1), (649, .ireturn, 1), (650, .iload 5, 2), (652, .ifCond .ne 15, 3), (655, .aload_n 3, 1)], [(656, .iconst 0, 1), (657, .laload, 1), (658, .iload 6, 2), (660, .i2l, 1), (661, .lcmp, 1), (662, .ifCond .eq 5, 3), (665, .iconst 0, 1), (666, .ireturn, 1), (667, .goto 462, 3), (670, .aload_n 1, 1), (671, .aload_n 3, 1)], [(672, .invokestatic 97, 3), (675, .istore 5, 2), (677, .aload_n 2, 1), (678, .invokevirtual 100, 3), (681, .istore 6, 2), (683, .aload_n 2, 1), (684, .invokevirtual 75, 3), (687, .iload 5, 2)], [(689, .if_icmp .eq 5, 3), (692, .iconst 0, 1), (693, .ireturn, 1), (694, .iload 5, 2), (696, .ifCond .ne 15, 3), (699, .aload_n 3, 1), (700, .iconst 0, 1), (701, .laload, 1), (702, .iload 6, 2)], [(704, .i2l, 1), (705, .lcmp, 1), (706, .ifCond .eq 5, 3), (709, .iconst 0, 1), (710, .ireturn, 1), (711, .goto 418, 3), (714, .aload_n 1, 1), (715, .invokevirtual 101, 3), (718, .aload_n 2, 1), (719, .invokevirtual 104, 3)], [(722, .if_icmp .eq 407, 3), (725, .iconst 0, 1), (726, .ireturn, 1), (727, .aload_n 1, 1), (728, .invokevirtual 105, 3), (731, .aload_n 2, 1), (732, .invokevirtual 108, 3), (735, .if_icmp .eq 394, 3)], [(738, .iconst 0, 1), (739, .ireturn, 1), (740, .aload_n 1, 1), (741, .aload_n 0, 1), (742, .iload 4, 2), (744, .iconst 1, 1), (745, .iadd, 1), (746, .iaload, 1), (747, .aload_n 0, 1), (748, .iload 4, 2), (750, .iconst 2, 1), (751, .iadd, 1)], [(752, .iaload, 1), (753, .aload_n 3, 1), (754, .invokestatic 109, 3), (757, .istore 5, 2), (759, .aload_n 2, 1), (760, .aload_n 0, 1), (761, .iload 4, 2), (763, .iconst 1, 1), (764, .iadd, 1), (765, .iaload, 1), (766, .aload_n 0, 1), (767, .iload 4, 2)], [(769, .iconst 2, 1), (770, .iadd, 1), (771, .iaload, 1), (772, .invokevirtual 112, 3), (775, .istore 6, 2), (777, .aload_n 2, 1), (778, .invokevirtual 75, 3), (781, .iload 5, 2), (783, .if_icmp .eq 5, 3)], [(786, .iconst 0, 1), (787, .ireturn, 1), (788, .iload 5, 2), (790, .ifCond .ne 15, 3), (793, .aload_n 3, 1), (794, .iconst 0, 1), (795, .laload, 1), (796, .iload 6, 2), (798, .i2l, 1), (799, .lcmp, 1)], [(800, .ifCond .eq 5, 3), (803, .iconst 0, 1), (804, .ireturn, 1), (805, .goto 324, 3), (808, .aload_n 1, 1), (809, .aload_n 0, 1), (810, .iload 4, 2), (812, .iconst 1, 1), (813, .iadd, 1), (814, .iaload, 1), (815, .aload_n 3, 1)], [(816, .invokestatic 113, 3), (819, .istore 5, 2), (821, .aload_n 2, 1), (822, .aload_n 0, 1), (823, .iload 4, 2), (825, .iconst 1, 1), (826, .iadd, 1), (827, .iaload, 1), (828, .invokevirtual 115, 3), (831, .istore 6, 2)], [(833, .aload_n 2, 1), (834, .invokevirtual 75, 3), (837, .iload 5, 2), (839, .if_icmp .eq 5, 3), (842, .iconst 0, 1), (843, .ireturn, 1), (844, .iload 5, 2), (846, .ifCond .ne 15, 3)], [(849, .aload_n 3, 1), (850, .iconst 0, 1), (851, .laload, 1), (852, .iload 6, 2), (854, .i2l, 1), (855, .lcmp, 1), (856, .ifCond .eq 5, 3), (859, .iconst 0, 1), (860, .ireturn, 1), (861, .goto 268, 3)], [(864, .aload_n 1, 1), (865, .aload_n 0, 1), (866, .iload 4, 2), (868, .iconst 1, 1), (869, .iadd, 1), (870, .iaload, 1), (871, .invokestatic 116, 3), (874, .istore 5, 2), (876, .aload_n 2, 1), (877, .aload_n 0, 1), (878, .iload 4, 2)], [(880, .iconst 1, 1), (881, .iadd, 1), (882, .iaload, 1), (883, .invokevirtual 119, 3), (886, .aload_n 2, 1), (887, .invokevirtual 75, 3), (890, .iload 5, 2), (892, .if_icmp .eq 5, 3), (895, .iconst 0, 1)], [(896, .ireturn, 1), (897, .goto 232, 3), (900, .aload_n 1, 1), (901, .aload_n 0, 1), (902, .iload 4, 2), (904, .iconst 1, 1), (905, .iadd, 1), (906, .iaload, 1), (907, .invokevirtual 120, 3), (910, .aload_n 2, 1), (911, .aload_n 0, 1)], [(912, .iload 4, 2), (914, .iconst 1, 1), (915, .iadd, 1), (916, .iaload, 1), (917, .invokevirtual 123, 3), (920, .if_icmp .eq 209, 3), (923, .iconst 0, 1), (924, .ireturn, 1), (925, .aload_n 1, 1), (926, .aload_n 0, 1), (927, .iload 4, 2)], [(929, .iconst 1, 1), (930, .iadd, 1), (931, .iaload, 1), (932, .aload_n 0, 1), (933, .iload 4, 2), (935, .iconst 2, 1), (936, .iadd, 1), (937, .iaload, 1), (938, .aload_n 3, 1), (939, .invokestatic 124, 3), (942, .istore 5, 2)], [(944, .aload_n 2, 1), (945, .aload_n 0, 1), (946, .iload 4, 2), (948, .iconst 1, 1), (949, .iadd, 1), (950, .iaload, 1), (951, .aload_n 0, 1), (952, .iload 4, 2), (954, .iconst 2, 1), (955, .iadd, 1), (956, .iaload, 1), (957, .invokevirtual 126, 3)], [(960, .istore 6, 2), (962, .aload_n 2, 1), (963, .invokevirtual 75, 3), (966, .iload 5, 2), (968, .if_icmp .eq 5, 3), (971, .iconst 0, 1), (972, .ireturn, 1), (973, .iload 5, 2), (975, .ifCond .ne 15, 3)], [(978, .aload_n 3, 1), (979, .iconst 0, 1), (980, .laload, 1), (981, .iload 6, 2), (983, .i2l, 1), (984, .lcmp, 1), (985, .ifCond .eq 5, 3), (988, .iconst 0, 1), (989, .ireturn, 1), (990, .goto 139, 3)], [(993, .aload_n 1, 1), (994, .aload_n 0, 1), (995, .iload 4, 2), (997, .iconst 1, 1), (998, .iadd, 1), (999, .iaload, 1), (1000, .aload_n 0, 1), (1001, .iload 4, 2), (1003, .iconst 2, 1), (1004, .iadd, 1), (1005, .iaload, 1), (1006, .aload_n 0, 1), (1007, .iload 4, 2)], [(1009, .iconst 3, 1), (1010, .iadd, 1), (1011, .iaload, 1), (1012, .aload_n 3, 1), (1013, .invokestatic 127, 3), (1016, .istore 5, 2), (1018, .aload_n 2, 1), (1019, .aload_n 0, 1), (1020, .iload 4, 2), (1022, .iconst 1, 1), (1023, .iadd, 1)], [(1024, .iaload, 1), (1025, .aload_n 0, 1), (1026, .iload 4, 2), (1028, .iconst 2, 1), (1029, .iadd, 1), (1030, .iaload, 1), (1031, .aload_n 0, 1), (1032, .iload 4, 2), (1034, .iconst 3, 1), (1035, .iadd, 1), (1036, .iaload, 1), (1037, .invokevirtual 130, 3)], [(1040, .istore 6, 2), (1042, .aload_n 2, 1), (1043, .invokevirtual 75, 3), (1046, .iload 5, 2), (1048, .if_icmp .eq 5, 3), (1051, .iconst 0, 1), (1052, .ireturn, 1), (1053, .iload 5, 2), (1055, .ifCond .ne 15, 3)], [(1058, .aload_n 3, 1), (1059, .iconst 0, 1), (1060, .laload, 1), (1061, .iload 6, 2), (1063, .i2l, 1), (1064, .lcmp, 1), (1065, .ifCond .eq 5, 3), (1068, .iconst 0, 1), (1069, .ireturn, 1), (1070, .goto 59, 3)], [(1073, .aload_n 1, 1), (1074, .aload_n 0, 1), (1075, .iload 4, 2), (1077, .iconst 1, 1), (1078, .iadd, 1), (1079, .iaload, 1), (1080, .aload_n 3, 1), (1081, .invokestatic 131, 3), (1084, .istore 5, 2), (1086, .aload_n 2, 1), (1087, .aload_n 0, 1)], [(1088, .iload 4, 2), (1090, .iconst 1, 1), (1091, .iadd, 1), (1092, .iaload, 1), (1093, .invokevirtual 133, 3), (1096, .istore 6, 2), (1098, .aload_n 2, 1), (1099, .invokevirtual 75, 3), (1102, .iload 5, 2)], [(1104, .if_icmp .eq 5, 3), (1107, .iconst 0, 1), (1108, .ireturn, 1), (1109, .iload 5, 2), (1111, .ifCond .ne 15, 3), (1114, .aload_n 3, 1), (1115, .iconst 0, 1), (1116, .laload, 1), (1117, .iload 6, 2), (1119, .i2l, 1)], [(1120, .lcmp, 1), (1121, .ifCond .eq 5, 3), (1124, .iconst 0, 1), (1125, .ireturn, 1), (1126, .goto 3, 3), (1129, .iinc 4 7, 3), (1132, .goto (-1109), 3), (1135, .iconst 1, 1)], [(1136, .ireturn, 1)]], 7, some .boolean, false)
def yLw_make : AY := (137, 9, [[(0, .aload 7, 2), (2, .iconst 0, 1), (3, .aload_n 0, 1), (4, .iload_n 1, 1), (5, .iload_n 2, 1), (6, .lload_n 3, 1), (7, .iload 5, 2), (9, .iload 6, 2), (11, .invokevirtual 7, 3), (14, .i2l, 1), (15, .lastore, 1)], [(16, .goto 11, 3), (19, .astore 8, 2), (21, .iconst 1, 1), (22, .ireturn, 1), (23, .astore 8, 2), (25, .iconst 2, 1), (26, .ireturn, 1), (27, .iconst 0, 1), (28, .ireturn, 1)]], 9, some .int, false)
def yLw_node : AY := (138, 9, [[(0, .aload_n 3, 1), (1, .iconst 0, 1), (2, .aload_n 0, 1), (3, .iload_n 1, 1), (4, .iload_n 2, 1), (5, .invokevirtual 53, 3), (8, .i2l, 1), (9, .lastore, 1), (10, .goto 7, 3), (13, .astore 4, 2), (15, .iconst 1, 1)], [(16, .ireturn, 1), (17, .iconst 0, 1), (18, .ireturn, 1)]], 5, some .int, false)
def yLw_part : AY := (139, 9, [[(0, .aload 4, 2), (2, .iconst 0, 1), (3, .aload_n 0, 1), (4, .iload_n 1, 1), (5, .iload_n 2, 1), (6, .iload_n 3, 1), (7, .invokevirtual 56, 3), (10, .i2l, 1), (11, .lastore, 1), (12, .goto 7, 3), (15, .astore 5, 2)], [(17, .iconst 1, 1), (18, .ireturn, 1), (19, .iconst 0, 1), (20, .ireturn, 1)]], 6, some .int, false)
def yLw_remove : AY := (140, 9, [[(0, .aload_n 2, 1), (1, .iconst 0, 1), (2, .aload_n 0, 1), (3, .iload_n 1, 1), (4, .invokevirtual 32, 3), (7, .i2l, 1), (8, .lastore, 1), (9, .goto 6, 3), (12, .astore_n 3, 1), (13, .iconst 1, 1), (14, .ireturn, 1), (15, .iconst 0, 1)], [(16, .ireturn, 1)]], 4, some .int, false)
def yLw_rename : AY := (141, 9, [[(0, .aload 5, 2), (2, .iconst 0, 1), (3, .aload_n 0, 1), (4, .iload_n 1, 1), (5, .lload_n 2, 1), (6, .iload 4, 2), (8, .invokevirtual 17, 3), (11, .i2l, 1), (12, .lastore, 1), (13, .goto 11, 3)], [(16, .astore 6, 2), (18, .iconst 1, 1), (19, .ireturn, 1), (20, .astore 6, 2), (22, .iconst 2, 1), (23, .ireturn, 1), (24, .iconst 0, 1), (25, .ireturn, 1)]], 7, some .int, false)
def yLw_set : AY := (142, 9, [[(0, .aload_n 0, 1), (1, .iload_n 1, 1), (2, .iload_n 2, 1), (3, .iload_n 3, 1), (4, .iload 4, 2), (6, .invokevirtual 28, 3), (9, .goto 7, 3), (12, .astore 5, 2), (14, .iconst 1, 1), (15, .ireturn, 1)], [(16, .iconst 0, 1), (17, .ireturn, 1)]], 6, some .int, false)
def yLw_size : AY := (143, 9, [[(0, .aload_n 0, 1), (1, .iload_n 1, 1), (2, .invokevirtual 49, 3), (5, .goto 6, 3), (8, .astore_n 2, 1), (9, .iconst 1, 1), (10, .ireturn, 1), (11, .iconst 0, 1), (12, .ireturn, 1)]], 3, some .int, false)
def yLw_total : AY := (144, 9, [[(0, .aload_n 2, 1), (1, .iconst 0, 1), (2, .aload_n 0, 1), (3, .iload_n 1, 1), (4, .invokevirtual 60, 3), (7, .i2l, 1), (8, .lastore, 1), (9, .goto 6, 3), (12, .astore_n 3, 1), (13, .iconst 1, 1), (14, .ireturn, 1), (15, .iconst 0, 1)], [(16, .ireturn, 1)]], 4, some .int, false)
def yLw_write : AY := (145, 9, [[(0, .aload_n 1, 1), (1, .iconst 0, 1), (2, .aload_n 0, 1), (3, .invokevirtual 36, 3), (6, .i2l, 1), (7, .lastore, 1), (8, .goto 6, 3), (11, .astore_n 2, 1), (12, .iconst 1, 1), (13, .ireturn, 1), (14, .iconst 0, 1), (15, .ireturn, 1)]], 3, some .int, false)
def yAr_copyOf : AY := (146, 10, [[(0, .iload_n 1, 1), (1, .aload_n 0, 1), (2, .arraylength, 1), (3, .if_icmp .ne 11, 3), (6, .aload_n 0, 1), (7, .invokevirtual 310, 3), (13, .areturn, 1), (14, .iload_n 1, 1), (15, .newarray .byte, 2)], [(17, .astore_n 2, 1), (18, .aload_n 0, 1), (19, .iconst 0, 1), (20, .aload_n 2, 1), (21, .iconst 0, 1), (22, .aload_n 0, 1), (23, .arraylength, 1), (24, .iload_n 1, 1), (25, .invokestatic 304, 3), (28, .invokestatic 150, 3), (31, .aload_n 2, 1)], [(32, .areturn, 1)]], 3, some (.array .byte), false)
def tThr : Nat := 6
def tQ (r : Option FieldType) : Bool := match r with
  | some (.object _) => true
  | some (.array _) => true
  | _ => false
def tFl : List (List (Nat × Nat × Nat × Nat × Bool)) := [[(12, 0, 0, 2, true), (18, 0, 1, 2, true), (21, 0, 2, 0, false), (25, 0, 3, 0, false), (28, 0, 4, 0, false), (31, 0, 5, 0, false), (34, 0, 6, 0, false), (37, 0, 7, 0, false), (44, 2, 1, 0, false)], [(12, 1, 1, 2, true), (18, 1, 2, 2, true), (21, 1, 3, 0, false), (25, 1, 4, 0, false), (28, 1, 5, 1, false), (32, 1, 6, 1, false), (35, 1, 7, 1, false), (38, 1, 8, 1, false), (41, 1, 9, 0, false), (44, 1, 10, 0, false), (47, 1, 11, 0, false), (50, 1, 12, 0, false), (53, 1, 13, 0, false), (56, 1, 0, 2, true), (71, 4, 1, 0, false), (129, 3, 0, 2, true), (148, 2, 1, 0, false), (190, 4, 0, 2, true), (194, 0, 5, 0, false), (198, 0, 6, 0, false), (200, 0, 7, 0, false), (202, 0, 1, 2, true)], [(11, 2, 0, 2, false), (15, 2, 1, 0, false)], [(12, 3, 0, 2, true), (18, 2, 1, 0, false)], [(11, 4, 0, 2, true), (17, 4, 1, 0, false), (21, 4, 2, 2, true), (30, 0, 2, 0, false), (33, 0, 3, 0, false), (36, 0, 0, 2, true), (62, 0, 4, 0, false), (78, 2, 1, 0, false)], [], [(12, 6, 1, 2, true), (18, 6, 2, 0, false), (22, 6, 0, 2, true), (26, 4, 1, 0, false), (35, 4, 0, 2, true), (61, 0, 4, 0, false), (64, 2, 1, 0, false), (76, 3, 0, 2, true), (109, 0, 5, 0, false), (116, 0, 6, 0, false), (119, 0, 7, 0, false), (122, 0, 2, 0, false), (134, 0, 1, 2, true)], [(12, 7, 0, 2, true), (21, 7, 1, 2, true), (28, 7, 2, 2, true), (35, 7, 3, 2, true), (42, 7, 4, 2, false), (46, 7, 5, 2, false), (49, 7, 6, 0, false), (81, 4, 1, 0, false), (101, 0, 0, 2, true), (106, 2, 1, 0, false), (113, 0, 3, 0, false), (118, 0, 2, 0, false), (131, 0, 1, 2, true), (147, 0, 5, 0, false), (150, 0, 6, 0, false), (153, 0, 7, 0, false), (182, 1, 3, 0, false), (185, 3, 0, 2, true), (204, 0, 4, 0, false), (218, 4, 0, 2, true)], [(7, 8, 0, 2, true), (13, 8, 1, 2, true), (16, 8, 2, 2, true), (19, 8, 3, 2, true), (22, 8, 4, 2, true), (25, 8, 5, 2, true), (28, 8, 6, 2, true), (31, 8, 7, 2, true), (34, 8, 8, 2, true), (37, 8, 9, 2, true), (42, 8, 10, 2, true), (45, 8, 12, 2, true), (48, 8, 14, 0, false), (52, 8, 15, 2, true), (55, 8, 19, 2, true), (58, 8, 20, 2, true), (61, 8, 21, 2, true), (64, 8, 22, 2, true), (67, 8, 23, 2, true), (70, 8, 24, 2, true), (73, 8, 25, 2, true), (80, 8, 26, 0, false), (83, 8, 11, 0, false), (100, 8, 16, 0, false), (155, 8, 13, 0, false), (181, 8, 17, 0, false), (184, 8, 18, 0, false)], [], []]
def tF (c i : Nat) : Option (Nat × Nat × Nat × Bool) := (tFl.getD c []).lookup i
def tCl : List (List (Nat × Nat)) := [[(9, 2)], [(9, 2)], [], [(9, 2)], [(9, 0)], [], [(9, 2)], [(9, 3), (16, 6), (25, 1), (32, 2), (39, 4)], [], [(8, 7), (64, 8)], []]
def tC (c i : Nat) : Option Nat := (tCl.getD c []).lookup i
def tMl : List (List (Nat × Nat × Nat × AY)) := [[(11, 1, 0, yRw_init), (40, 0, 1, yRw_resize)], [(11, 1, 0, yRw_init), (60, 0, 0, yTr_clear), (65, 0, 1, yTp_isBlockOfZeros), (74, 0, 1, yRd_faultOfEntry), (78, 0, 1, yRd_takeEntry), (82, 0, 0, yTp_wholeBlocks), (86, 0, 1, yTp_hasCheck), (89, 0, 0, yRd_isMarked), (93, 0, 0, yRd_takeNumbers), (96, 0, 0, yRd_takeKind), (99, 0, 1, yRd_takePath), (103, 0, 1, yRd_takeTarget), (108, 0, 1, yRd_faultOfContents), (112, 0, 1, yTp_hasMark), (115, 0, 2, yTp_isZeros), (119, 0, 2, yTp_octal), (132, 0, 1, yRw_at), (135, 2, 1, yTt_kindOf), (140, 0, 1, yRw_resize), (144, 0, 3, yRd_addText), (152, 0, 2, yRw_addLetters), (156, 0, 1, yRw_lastSlash), (159, 0, 2, yTr_lookUp), (163, 0, 2, yRw_isNameOfAnyLength), (166, 0, 2, yTr_isOfKind), (169, 0, 4, yTr_childNamed), (173, 0, 0, yRw_isTarget), (176, 0, 2, yRw_put), (180, 2, 1, yTp_blocksOf), (183, 0, 6, yTr_add), (187, 0, 1, yTr_has), (205, 0, 3, yRw_copySlice)], [(28, 2, 2, yAr_copyOf), (34, 0, 1, yRw_resize), (38, 0, 2, yRw_put), (42, 0, 1, yRw_at)], [(11, 1, 0, yRw_init), (22, 0, 1, yRw_at), (26, 0, 0, yTp_wholeBlocks), (30, 0, 2, yTp_isZeros), (34, 0, 2, yRw_put), (46, 0, 1, yTp_sum), (49, 0, 3, yTp_putOctal), (53, 0, 2, yTp_octal)], [(25, 1, 0, yNd_init), (26, 0, 3, yNd_begin), (40, 0, 3, yRw_isSlice), (46, 0, 1, yRw_at), (50, 0, 4, yTr_childNamed), (54, 0, 3, yRw_copySlice), (58, 0, 1, yTr_isGone), (65, 0, 1, yTr_newNumber), (68, 0, 0, yTr_closeGaps), (71, 0, 1, yTr_has), (74, 0, 2, yTr_isOfKind), (81, 0, 1, yTr_pathLength), (90, 0, 1, yRw_resize), (94, 0, 2, yRw_put), (98, 0, 2, yRw_putAll), (102, 0, 2, yTr_nextChild), (105, 0, 2, yTr_comesBehind), (108, 0, 1, yRw_order)], [], [(11, 1, 0, yRw_init), (31, 0, 2, yWr_isTellable), (39, 0, 0, yNd_contentsLength), (45, 2, 1, yTp_blocksOf), (51, 0, 1, yTr_pathLength), (54, 0, 2, yTr_spellPath), (58, 0, 0, yWr_cutOfPath), (73, 0, 1, yRw_at), (79, 0, 1, yRw_resize), (83, 0, 2, yWr_putEntries), (87, 0, 1, yTr_follower), (90, 0, 1, yTr_has), (94, 0, 2, yTr_isOfKind), (98, 0, 2, yWr_putHeader), (102, 0, 1, yWr_putContents), (106, 0, 1, yWr_putPath), (112, 0, 3, yTp_putOctal), (125, 2, 1, yTt_typeOf), (130, 0, 2, yRw_put), (137, 0, 2, yRw_putAll), (140, 0, 1, yTp_putMark), (143, 0, 1, yTp_putCheck)], [(11, 1, 0, yTp_init), (18, 1, 1, yWr_init), (27, 1, 1, yRd_init), (34, 1, 0, yRw_init), (41, 1, 0, yTr_init), (60, 0, 2, yTr_isOfKind), (68, 0, 1, yRw_resize), (72, 0, 2, yRw_addLetters), (76, 0, 1, yTY_refuseName), (89, 0, 6, yTr_add), (93, 0, 1, yTY_known), (109, 0, 3, yRw_copySlice), (125, 0, 0, yRw_isTarget), (140, 0, 2, yRw_put), (156, 0, 1, yTr_has), (162, 0, 1, yTr_drop), (166, 0, 1, yWr_blocksFor), (175, 0, 2, yWr_putTree), (179, 0, 1, yRd_takeTree), (188, 0, 1, yRw_at), (193, 0, 0, yTp_wholeBlocks), (199, 0, 1, yTp_putCheck), (211, 0, 0, yTr_longestPath), (222, 0, 2, yRw_isNameOfAnyLength), (227, 0, 4, yTr_childNamed)], [(76, 0, 1, yMd_clear), (86, 0, 0, yMd_count), (90, 2, 1, yMd_isLetter), (94, 0, 4, yMd_isCalled), (103, 2, 3, yMd_within), (107, 0, 1, yMd_isNode), (110, 0, 2, yMd_spell), (114, 2, 3, yMd_isName), (118, 0, 5, yMd_find), (122, 0, 2, yMd_fails), (126, 0, 6, yMd_add), (131, 0, 2, yMd_move), (135, 0, 2, yMd_compare), (139, 0, 2, yMd_next), (142, 0, 0, yMd_arrange), (145, 0, 1, yMd_blocksOf), (149, 0, 1, yMd_tell), (152, 0, 0, yMd_cutOf), (158, 0, 2, yMd_head), (165, 0, 3, yMd_octal), (169, 2, 1, yMd_markOf), (172, 0, 1, yMd_sum), (177, 0, 2, yMd_isZero), (187, 0, 2, yMd_number), (195, 0, 1, yMd_firstFault), (198, 0, 2, yMd_textOf), (201, 0, 2, yMd_copyIn), (204, 0, 2, yMd_walk), (210, 0, 2, yMd_entry)], [(7, 0, 5, yTY_make), (17, 0, 3, yTY_rename), (21, 0, 3, yTY_fill), (24, 0, 3, yTY_contents), (28, 0, 4, yTY_set), (32, 0, 1, yTY_remove), (36, 0, 0, yTY_write), (42, 0, 2, yTY_alter), (46, 0, 1, yTY_check), (49, 0, 1, yTY_size), (53, 0, 2, yTY_node), (56, 0, 3, yTY_part), (60, 0, 1, yTY_total), (63, 1, 0, yTY_init), (66, 1, 0, yMd_init), (69, 2, 7, yLw_make), (74, 0, 5, yMd_make), (75, 0, 0, yMd_thrown), (78, 2, 5, yLw_rename), (81, 0, 3, yMd_rename), (82, 2, 5, yLw_fill), (84, 0, 3, yMd_fill), (85, 2, 4, yLw_contents), (88, 0, 3, yMd_contents), (89, 2, 5, yLw_set), (92, 0, 4, yMd_set), (93, 2, 3, yLw_remove), (96, 0, 1, yMd_remove), (97, 2, 2, yLw_write), (100, 0, 0, yMd_write), (101, 0, 0, yTY_read), (104, 0, 0, yMd_read), (105, 0, 0, yTY_place), (108, 0, 0, yMd_place), (109, 2, 4, yLw_alter), (112, 0, 2, yMd_alter), (113, 2, 3, yLw_check), (115, 0, 1, yMd_check), (116, 2, 2, yLw_size), (119, 0, 1, yMd_size), (120, 0, 1, yTY_hand), (123, 0, 1, yMd_hand), (124, 2, 4, yLw_node), (126, 0, 2, yMd_node), (127, 2, 5, yLw_part), (130, 0, 3, yMd_part), (131, 2, 3, yLw_total), (133, 0, 1, yMd_total)], []]
def tM (c i : Nat) : Option (Nat × Nat × AY) := (tMl.getD c []).lookup i
def tBl : List (List (Nat × Nat)) := [[(3, 0)], [(3, 0)], [(3, 0), (19, 2), (25, 1)], [(3, 0)], [(3, 0), (84, 1)], [], [(3, 0), (67, 1)], [(3, 0)], [(1, 0)], [], [(150, 3), (304, 2)]]
def tB (c i : Nat) : Option Nat := (tBl.getD c []).lookup i
def tIl : List (List (Nat × Int)) := [[], [], [], [], [], [], [], [(144, 2097151)], [(41, 120000), (130, 2097151)], [], []]
def tI (c i : Nat) : Option Int := (tIl.getD c []).lookup i
def tJl : List (List (Nat × Int)) := [[], [(106, 2000), (123, (-1)), (125, 4095), (127, 2147483647), (150, 47)], [], [(38, (-1)), (40, 8)], [], [], [], [], [(98, 255), (161, 48), (163, 8), (175, (-1)), (191, 4095), (193, 2147483647), (208, 2000)], [(67, 4294967295)], []]
def tJ (c i : Nat) : Option Int := (tJl.getD c []).lookup i
def tS (c i : Nat) : Bool := c == 3 && i == 42
def tXl : List (Nat × Nat) := [(67028, 0), (68015, 0), (69016, 0), (69048, 0), (70025, 0), (70047, 0), (70094, 0), (70135, 1), (72011, 0), (73009, 0), (73031, 0), (73054, 0), (73105, 0), (73127, 1), (74098, 0), (75016, 0), (78018, 0), (78052, 0), (79015, 0), (80011, 0), (80034, 0), (80096, 1), (81033, 0), (82011, 0), (83055, 0), (84017, 2)]
def tX (y pc : Nat) : Option Nat := if pc < 1000 then tXl.lookup (1000 * y + pc) else none
def tHl : List (Nat × Nat) := [(1320, 13), (1330, 12), (1340, 10), (1350, 16), (1351, 20), (1370, 19), (1371, 23), (1380, 13), (1390, 15), (1400, 12), (1410, 16), (1411, 20), (1420, 12), (1430, 8), (1440, 12), (1452, 11)]
def tH (y k : Nat) : Option Nat := if k < 10 then tHl.lookup (10 * y + k) else none
def tDl : List (List (Option (Int ⊕ (Int ⊕ Option Nat)))) := [[some (.inr (.inr none)), some (.inr (.inr none)), some (.inl 0), some (.inl 0), some (.inl 0), some (.inl 0), some (.inl 0), some (.inl 0)], [some (.inr (.inr none)), some (.inr (.inr none)), some (.inr (.inr none)), some (.inl 0), some (.inl 0), some (.inr (.inl 0)), some (.inr (.inl 0)), some (.inr (.inl 0)), some (.inr (.inl 0)), some (.inl 0), some (.inl 0), some (.inl 0), some (.inl 0), some (.inl 0)], [some (.inr (.inr none)), some (.inl 0)], [some (.inr (.inr none))], [some (.inr (.inr none)), some (.inl 0), some (.inr (.inr none))], [], [some (.inr (.inr none)), some (.inr (.inr none)), some (.inl 0)], [some (.inr (.inr none)), some (.inr (.inr none)), some (.inr (.inr none)), some (.inr (.inr none)), some (.inr (.inr none)), some (.inr (.inr none)), some (.inl 0)], [some (.inr (.inr none)), some (.inr (.inr none)), some (.inr (.inr none)), some (.inr (.inr none)), some (.inr (.inr none)), some (.inr (.inr none)), some (.inr (.inr none)), some (.inr (.inr none)), some (.inr (.inr none)), some (.inr (.inr none)), some (.inr (.inr none)), some (.inl 0), some (.inr (.inr none)), some (.inl 0), some (.inl 0), some (.inr (.inr none)), some (.inl 0), some (.inl 0), some (.inl 0), some (.inr (.inr none)), some (.inr (.inr none)), some (.inr (.inr none)), some (.inr (.inr none)), some (.inr (.inr none)), some (.inr (.inr none)), some (.inr (.inr none)), some (.inl 0)]]
def tD (ci : Nat) : List (Option (Int ⊕ (Int ⊕ Option Nat))) := tDl.getD ci []
end
section
/-! Facts of the tables, written by wip/gen/facts.py: the code of each method is what my tables say; where the words of each method, field, call and constant stand in lw_tbl. -/
def allY : List AY := [yNd_init, yNd_begin, yNd_contentsLength, yRd_init, yRd_addText, yRd_faultOfContents, yRd_faultOfEntry, yRd_isMarked, yRd_takeEntry, yRd_takeKind, yRd_takeNumbers, yRd_takePath, yRd_takeTarget, yRd_takeTree, yRw_init, yRw_addLetters, yRw_at, yRw_copySlice, yRw_isNameOfAnyLength, yRw_isSlice, yRw_isTarget, yRw_lastSlash, yRw_order, yRw_put, yRw_putAll, yRw_resize, yTp_init, yTp_blocksOf, yTp_hasCheck, yTp_hasMark, yTp_isBlockOfZeros, yTp_isZeros, yTp_octal, yTp_putCheck, yTp_putMark, yTp_putOctal, yTp_sum, yTp_wholeBlocks, yTr_init, yTr_add, yTr_childNamed, yTr_clear, yTr_closeGaps, yTr_comesBehind, yTr_drop, yTr_follower, yTr_has, yTr_isGone, yTr_isOfKind, yTr_longestPath, yTr_lookUp, yTr_newNumber, yTr_nextChild, yTr_pathLength, yTr_spellPath, yTt_kindOf, yTt_typeOf, yWr_init, yWr_blocksFor, yWr_cutOfPath, yWr_isTellable, yWr_putContents, yWr_putEntries, yWr_putHeader, yWr_putPath, yWr_putTree, yTY_init, yTY_alter, yTY_check, yTY_contents, yTY_fill, yTY_hand, yTY_known, yTY_make, yTY_node, yTY_part, yTY_place, yTY_read, yTY_refuseName, yTY_remove, yTY_rename, yTY_set, yTY_size, yTY_total, yTY_write, yMd_init, yMd_add, yMd_alter, yMd_arrange, yMd_blocksOf, yMd_check, yMd_clear, yMd_compare, yMd_contents, yMd_copyIn, yMd_count, yMd_cutOf, yMd_entry, yMd_fails, yMd_fill, yMd_find, yMd_firstFault, yMd_hand, yMd_head, yMd_isCalled, yMd_isLetter, yMd_isName, yMd_isNode, yMd_isZero, yMd_make, yMd_markOf, yMd_move, yMd_next, yMd_node, yMd_number, yMd_octal, yMd_part, yMd_place, yMd_read, yMd_remove, yMd_rename, yMd_set, yMd_size, yMd_spell, yMd_sum, yMd_tell, yMd_textOf, yMd_thrown, yMd_total, yMd_walk, yMd_within, yMd_write, yLw_alter, yLw_check, yLw_contents, yLw_fill, yLw_law, yLw_make, yLw_node, yLw_part, yLw_remove, yLw_rename, yLw_set, yLw_size, yLw_total, yLw_write, yAr_copyOf]
def btl : List ByteArray := [prog_2_method_1_code, prog_2_method_2_code, prog_2_method_3_code, prog_3_method_1_code, prog_3_method_9_code, prog_3_method_10_code, prog_3_method_3_code, prog_3_method_4_code, prog_3_method_11_code, prog_3_method_6_code, prog_3_method_5_code, prog_3_method_7_code, prog_3_method_8_code, prog_3_method_2_code, prog_4_method_1_code, prog_4_method_5_code, prog_4_method_2_code, prog_4_method_6_code, prog_4_method_11_code, prog_4_method_8_code, prog_4_method_10_code, prog_4_method_12_code, prog_4_method_9_code, prog_4_method_3_code, prog_4_method_7_code, prog_4_method_4_code, prog_5_method_1_code, prog_5_method_3_code, prog_5_method_12_code, prog_5_method_9_code, prog_5_method_5_code, prog_5_method_4_code, prog_5_method_7_code, prog_5_method_11_code, prog_5_method_8_code, prog_5_method_6_code, prog_5_method_10_code, prog_5_method_2_code, prog_6_method_1_code, prog_6_method_7_code, prog_6_method_5_code, prog_6_method_2_code, prog_6_method_11_code, prog_6_method_17_code, prog_6_method_8_code, prog_6_method_15_code, prog_6_method_3_code, prog_6_method_9_code, prog_6_method_4_code, prog_6_method_13_code, prog_6_method_6_code, prog_6_method_10_code, prog_6_method_16_code, prog_6_method_12_code, prog_6_method_14_code, prog_7_method_3_code, prog_7_method_2_code, prog_8_method_1_code, prog_8_method_2_code, prog_8_method_4_code, prog_8_method_3_code, prog_8_method_9_code, prog_8_method_6_code, prog_8_method_7_code, prog_8_method_8_code, prog_8_method_5_code, prog_1_method_1_code, prog_1_method_11_code, prog_1_method_12_code, prog_1_method_5_code, prog_1_method_4_code, prog_1_method_14_code, prog_1_method_18_code, prog_1_method_2_code, prog_1_method_15_code, prog_1_method_16_code, prog_1_method_10_code, prog_1_method_9_code, prog_1_method_19_code, prog_1_method_7_code, prog_1_method_3_code, prog_1_method_6_code, prog_1_method_13_code, prog_1_method_17_code, prog_1_method_8_code, prog_10_method_1_code, prog_10_method_15_code, prog_10_method_41_code, prog_10_method_24_code, prog_10_method_26_code, prog_10_method_42_code, prog_10_method_4_code, prog_10_method_12_code, prog_10_method_18_code, prog_10_method_36_code, prog_10_method_5_code, prog_10_method_25_code, prog_10_method_38_code, prog_10_method_3_code, prog_10_method_17_code, prog_10_method_11_code, prog_10_method_37_code, prog_10_method_44_code, prog_10_method_29_code, prog_10_method_10_code, prog_10_method_8_code, prog_10_method_9_code, prog_10_method_6_code, prog_10_method_32_code, prog_10_method_14_code, prog_10_method_30_code, prog_10_method_21_code, prog_10_method_23_code, prog_10_method_45_code, prog_10_method_33_code, prog_10_method_28_code, prog_10_method_46_code, prog_10_method_40_code, prog_10_method_39_code, prog_10_method_20_code, prog_10_method_16_code, prog_10_method_19_code, prog_10_method_43_code, prog_10_method_13_code, prog_10_method_31_code, prog_10_method_22_code, prog_10_method_34_code, prog_10_method_2_code, prog_10_method_47_code, prog_10_method_35_code, prog_10_method_7_code, prog_10_method_27_code, method_10_code, method_11_code, method_6_code, method_5_code, code, method_3_code, method_13_code, method_14_code, method_8_code, method_4_code, method_7_code, method_12_code, method_15_code, method_9_code, prog_21_method_121_code]
def bt (y : AY) : ByteArray := btl.getD y.1 ⟨#[]⟩
def nml : List MethodName := [⟨"TarYard$Node", "<init>", "()V"⟩, ⟨"TarYard$Node", "begin", "(III)V"⟩, ⟨"TarYard$Node", "contentsLength", "()I"⟩, ⟨"TarYard$Reader", "<init>", "(LTarYard$Tape;)V"⟩, ⟨"TarYard$Reader", "addText", "(LTarYard$Row;II)Z"⟩, ⟨"TarYard$Reader", "faultOfContents", "(I)I"⟩, ⟨"TarYard$Reader", "faultOfEntry", "(LTarYard$Tree;)I"⟩, ⟨"TarYard$Reader", "isMarked", "()Z"⟩, ⟨"TarYard$Reader", "takeEntry", "(LTarYard$Tree;)V"⟩, ⟨"TarYard$Reader", "takeKind", "()Z"⟩, ⟨"TarYard$Reader", "takeNumbers", "()Z"⟩, ⟨"TarYard$Reader", "takePath", "(LTarYard$Tree;)Z"⟩, ⟨"TarYard$Reader", "takeTarget", "(LTarYard$Tree;)Z"⟩, ⟨"TarYard$Reader", "takeTree", "(LTarYard$Tree;)I"⟩, ⟨"TarYard$Row", "<init>", "()V"⟩, ⟨"TarYard$Row", "addLetters", "(JI)V"⟩, ⟨"TarYard$Row", "at", "(I)I"⟩, ⟨"TarYard$Row", "copySlice", "(LTarYard$Row;II)V"⟩, ⟨"TarYard$Row", "isNameOfAnyLength", "(II)Z"⟩, ⟨"TarYard$Row", "isSlice", "(LTarYard$Row;II)Z"⟩, ⟨"TarYard$Row", "isTarget", "()Z"⟩, ⟨"TarYard$Row", "lastSlash", "(I)I"⟩, ⟨"TarYard$Row", "order", "(LTarYard$Row;)I"⟩, ⟨"TarYard$Row", "put", "(II)V"⟩, ⟨"TarYard$Row", "putAll", "(ILTarYard$Row;)V"⟩, ⟨"TarYard$Row", "resize", "(I)V"⟩, ⟨"TarYard$Tape", "<init>", "()V"⟩, ⟨"TarYard$Tape", "blocksOf", "(I)I"⟩, ⟨"TarYard$Tape", "hasCheck", "(I)Z"⟩, ⟨"TarYard$Tape", "hasMark", "(I)Z"⟩, ⟨"TarYard$Tape", "isBlockOfZeros", "(I)Z"⟩, ⟨"TarYard$Tape", "isZeros", "(II)Z"⟩, ⟨"TarYard$Tape", "octal", "(II)J"⟩, ⟨"TarYard$Tape", "putCheck", "(I)I"⟩, ⟨"TarYard$Tape", "putMark", "(I)V"⟩, ⟨"TarYard$Tape", "putOctal", "(III)V"⟩, ⟨"TarYard$Tape", "sum", "(I)I"⟩, ⟨"TarYard$Tape", "wholeBlocks", "()I"⟩, ⟨"TarYard$Tree", "<init>", "()V"⟩, ⟨"TarYard$Tree", "add", "(IIILTarYard$Row;II)I"⟩, ⟨"TarYard$Tree", "childNamed", "(ILTarYard$Row;II)I"⟩, ⟨"TarYard$Tree", "clear", "()V"⟩, ⟨"TarYard$Tree", "closeGaps", "()V"⟩, ⟨"TarYard$Tree", "comesBehind", "(II)Z"⟩, ⟨"TarYard$Tree", "drop", "(I)I"⟩, ⟨"TarYard$Tree", "follower", "(I)I"⟩, ⟨"TarYard$Tree", "has", "(I)Z"⟩, ⟨"TarYard$Tree", "isGone", "(I)Z"⟩, ⟨"TarYard$Tree", "isOfKind", "(II)Z"⟩, ⟨"TarYard$Tree", "longestPath", "()I"⟩, ⟨"TarYard$Tree", "lookUp", "(LTarYard$Row;I)I"⟩, ⟨"TarYard$Tree", "newNumber", "(I)I"⟩, ⟨"TarYard$Tree", "nextChild", "(II)I"⟩, ⟨"TarYard$Tree", "pathLength", "(I)I"⟩, ⟨"TarYard$Tree", "spellPath", "(ILTarYard$Row;)V"⟩, ⟨"TarYard$Types", "kindOf", "(I)I"⟩, ⟨"TarYard$Types", "typeOf", "(I)I"⟩, ⟨"TarYard$Writer", "<init>", "(LTarYard$Tape;)V"⟩, ⟨"TarYard$Writer", "blocksFor", "(LTarYard$Tree;)I"⟩, ⟨"TarYard$Writer", "cutOfPath", "()I"⟩, ⟨"TarYard$Writer", "isTellable", "(LTarYard$Tree;I)Z"⟩, ⟨"TarYard$Writer", "putContents", "(LTarYard$Node;)V"⟩, ⟨"TarYard$Writer", "putEntries", "(LTarYard$Tree;Z)V"⟩, ⟨"TarYard$Writer", "putHeader", "(LTarYard$Tree;I)V"⟩, ⟨"TarYard$Writer", "putPath", "(I)V"⟩, ⟨"TarYard$Writer", "putTree", "(LTarYard$Tree;I)V"⟩, ⟨"TarYard", "<init>", "()V"⟩, ⟨"TarYard", "alter", "(II)I"⟩, ⟨"TarYard", "check", "(I)I"⟩, ⟨"TarYard", "contents", "(III)V"⟩, ⟨"TarYard", "fill", "(IJI)I"⟩, ⟨"TarYard", "hand", "(I)I"⟩, ⟨"TarYard", "known", "(I)LTarYard$Node;"⟩, ⟨"TarYard", "make", "(IIJII)I"⟩, ⟨"TarYard", "node", "(II)I"⟩, ⟨"TarYard", "part", "(III)I"⟩, ⟨"TarYard", "place", "()I"⟩, ⟨"TarYard", "read", "()I"⟩, ⟨"TarYard", "refuseName", "(I)V"⟩, ⟨"TarYard", "remove", "(I)I"⟩, ⟨"TarYard", "rename", "(IJI)I"⟩, ⟨"TarYard", "set", "(IIII)V"⟩, ⟨"TarYard", "size", "(I)V"⟩, ⟨"TarYard", "total", "(I)I"⟩, ⟨"TarYard", "write", "()I"⟩, ⟨"TarYardModel", "<init>", "()V"⟩, ⟨"TarYardModel", "add", "(III[BII)V"⟩, ⟨"TarYardModel", "alter", "(II)I"⟩, ⟨"TarYardModel", "arrange", "()V"⟩, ⟨"TarYardModel", "blocksOf", "(I)I"⟩, ⟨"TarYardModel", "check", "(I)I"⟩, ⟨"TarYardModel", "clear", "(I)V"⟩, ⟨"TarYardModel", "compare", "(II)I"⟩, ⟨"TarYardModel", "contents", "(III)V"⟩, ⟨"TarYardModel", "copyIn", "(II)V"⟩, ⟨"TarYardModel", "count", "()I"⟩, ⟨"TarYardModel", "cutOf", "()I"⟩, ⟨"TarYardModel", "entry", "(II)I"⟩, ⟨"TarYardModel", "fails", "(ZI)Z"⟩, ⟨"TarYardModel", "fill", "(IJI)I"⟩, ⟨"TarYardModel", "find", "(II[BII)I"⟩, ⟨"TarYardModel", "firstFault", "(I)I"⟩, ⟨"TarYardModel", "hand", "(I)I"⟩, ⟨"TarYardModel", "head", "(II)V"⟩, ⟨"TarYardModel", "isCalled", "(I[BII)Z"⟩, ⟨"TarYardModel", "isLetter", "(I)Z"⟩, ⟨"TarYardModel", "isName", "([BII)Z"⟩, ⟨"TarYardModel", "isNode", "(I)Z"⟩, ⟨"TarYardModel", "isZero", "(II)Z"⟩, ⟨"TarYardModel", "make", "(IIJII)I"⟩, ⟨"TarYardModel", "markOf", "(I)I"⟩, ⟨"TarYardModel", "move", "(II)V"⟩, ⟨"TarYardModel", "next", "(II)I"⟩, ⟨"TarYardModel", "node", "(II)I"⟩, ⟨"TarYardModel", "number", "(II)J"⟩, ⟨"TarYardModel", "octal", "(IIJ)V"⟩, ⟨"TarYardModel", "part", "(III)I"⟩, ⟨"TarYardModel", "place", "()I"⟩, ⟨"TarYardModel", "read", "()I"⟩, ⟨"TarYardModel", "remove", "(I)I"⟩, ⟨"TarYardModel", "rename", "(IJI)I"⟩, ⟨"TarYardModel", "set", "(IIII)V"⟩, ⟨"TarYardModel", "size", "(I)V"⟩, ⟨"TarYardModel", "spell", "(JI)Z"⟩, ⟨"TarYardModel", "sum", "(I)I"⟩, ⟨"TarYardModel", "tell", "(I)V"⟩, ⟨"TarYardModel", "textOf", "(II)I"⟩, ⟨"TarYardModel", "thrown", "()I"⟩, ⟨"TarYardModel", "total", "(I)I"⟩, ⟨"TarYardModel", "walk", "(IZ)I"⟩, ⟨"TarYardModel", "within", "(III)Z"⟩, ⟨"TarYardModel", "write", "()I"⟩, ⟨"TarYardLaw", "alter", "(LTarYard;II[J)I"⟩, ⟨"TarYardLaw", "check", "(LTarYard;I[J)I"⟩, ⟨"TarYardLaw", "contents", "(LTarYard;III)I"⟩, ⟨"TarYardLaw", "fill", "(LTarYard;IJI[J)I"⟩, ⟨"TarYardLaw", "law", "([I)Z"⟩, ⟨"TarYardLaw", "make", "(LTarYard;IIJII[J)I"⟩, ⟨"TarYardLaw", "node", "(LTarYard;II[J)I"⟩, ⟨"TarYardLaw", "part", "(LTarYard;III[J)I"⟩, ⟨"TarYardLaw", "remove", "(LTarYard;I[J)I"⟩, ⟨"TarYardLaw", "rename", "(LTarYard;IJI[J)I"⟩, ⟨"TarYardLaw", "set", "(LTarYard;IIII)I"⟩, ⟨"TarYardLaw", "size", "(LTarYard;I)I"⟩, ⟨"TarYardLaw", "total", "(LTarYard;I[J)I"⟩, ⟨"TarYardLaw", "write", "(LTarYard;[J)I"⟩, ⟨"java/util/Arrays", "copyOf", "([BI)[B"⟩]
def nm (y : AY) : MethodName := nml.getD y.1 ⟨"", "", ""⟩
def cNml : List String := ["TarYard$Node", "TarYard$Reader", "TarYard$Row", "TarYard$Tape", "TarYard$Tree", "TarYard$Types", "TarYard$Writer", "TarYard", "TarYardModel", "TarYardLaw", "java/util/Arrays"]
def cNm (c : Nat) : String := cNml.getD c ""
theorem grp {α : Type} {l : List (List α)} {P : α → Prop} (G : Nat) (h : ∀ g, g < G → ∀ q ∈ ((l.drop (8 * g)).take 8).flatten, P q) (hG : l.length ≤ 8 * G) : ∀ q ∈ l.flatten, P q := by
  intro q hq
  obtain ⟨c, hc, hqc⟩ := List.mem_flatten.mp hq
  obtain ⟨k, hk⟩ := List.getElem?_of_mem hc
  have hlt : k < l.length := (List.getElem?_eq_some_iff.mp hk).1
  refine h (k / 8) (by omega) q (List.mem_flatten.mpr ⟨c, ?_, hqc⟩)
  refine List.mem_of_getElem? (i := k % 8) ?_
  rw [List.getElem?_take, if_pos (by omega), List.getElem?_drop, show 8 * (k / 8) + k % 8 = k by omega]
  exact hk
theorem dc_0 : ∀ q ∈ yNd_init.2.2.1.flatten, decode prog_2_method_1_code q.1 = .ok q.2 := by decide +kernel
theorem dc_1 : ∀ q ∈ yNd_begin.2.2.1.flatten, decode prog_2_method_2_code q.1 = .ok q.2 := by decide +kernel
theorem dc_2 : ∀ q ∈ yNd_contentsLength.2.2.1.flatten, decode prog_2_method_3_code q.1 = .ok q.2 := by decide +kernel
theorem dc_3 : ∀ q ∈ yRd_init.2.2.1.flatten, decode prog_3_method_1_code q.1 = .ok q.2 := by decide +kernel
theorem dc_4 : ∀ q ∈ yRd_addText.2.2.1.flatten, decode prog_3_method_9_code q.1 = .ok q.2 := by decide +kernel
theorem dc_5 : ∀ q ∈ yRd_faultOfContents.2.2.1.flatten, decode prog_3_method_10_code q.1 = .ok q.2 := by decide +kernel
theorem dc_6_0 : ∀ q ∈ ((yRd_faultOfEntry.2.2.1.drop (8 * 0)).take 8).flatten, decode prog_3_method_3_code q.1 = .ok q.2 := by decide +kernel
theorem dc_6_1 : ∀ q ∈ ((yRd_faultOfEntry.2.2.1.drop (8 * 1)).take 8).flatten, decode prog_3_method_3_code q.1 = .ok q.2 := by decide +kernel
theorem dc_6 : ∀ q ∈ yRd_faultOfEntry.2.2.1.flatten, decode prog_3_method_3_code q.1 = .ok q.2 := by
  refine grp 2 (fun g hg => ?_) (by decide +kernel)
  match g, hg with
  | 0, _ => exact dc_6_0
  | 1, _ => exact dc_6_1
  | g + 2, hg => exact absurd hg (by omega)
theorem dc_7 : ∀ q ∈ yRd_isMarked.2.2.1.flatten, decode prog_3_method_4_code q.1 = .ok q.2 := by decide +kernel
theorem dc_8_0 : ∀ q ∈ ((yRd_takeEntry.2.2.1.drop (8 * 0)).take 8).flatten, decode prog_3_method_11_code q.1 = .ok q.2 := by decide +kernel
theorem dc_8_1 : ∀ q ∈ ((yRd_takeEntry.2.2.1.drop (8 * 1)).take 8).flatten, decode prog_3_method_11_code q.1 = .ok q.2 := by decide +kernel
theorem dc_8 : ∀ q ∈ yRd_takeEntry.2.2.1.flatten, decode prog_3_method_11_code q.1 = .ok q.2 := by
  refine grp 2 (fun g hg => ?_) (by decide +kernel)
  match g, hg with
  | 0, _ => exact dc_8_0
  | 1, _ => exact dc_8_1
  | g + 2, hg => exact absurd hg (by omega)
theorem dc_9 : ∀ q ∈ yRd_takeKind.2.2.1.flatten, decode prog_3_method_6_code q.1 = .ok q.2 := by decide +kernel
theorem dc_10_0 : ∀ q ∈ ((yRd_takeNumbers.2.2.1.drop (8 * 0)).take 8).flatten, decode prog_3_method_5_code q.1 = .ok q.2 := by decide +kernel
theorem dc_10_1 : ∀ q ∈ ((yRd_takeNumbers.2.2.1.drop (8 * 1)).take 8).flatten, decode prog_3_method_5_code q.1 = .ok q.2 := by decide +kernel
theorem dc_10 : ∀ q ∈ yRd_takeNumbers.2.2.1.flatten, decode prog_3_method_5_code q.1 = .ok q.2 := by
  refine grp 2 (fun g hg => ?_) (by decide +kernel)
  match g, hg with
  | 0, _ => exact dc_10_0
  | 1, _ => exact dc_10_1
  | g + 2, hg => exact absurd hg (by omega)
theorem dc_11_0 : ∀ q ∈ ((yRd_takePath.2.2.1.drop (8 * 0)).take 8).flatten, decode prog_3_method_7_code q.1 = .ok q.2 := by decide +kernel
theorem dc_11_1 : ∀ q ∈ ((yRd_takePath.2.2.1.drop (8 * 1)).take 8).flatten, decode prog_3_method_7_code q.1 = .ok q.2 := by decide +kernel
theorem dc_11_2 : ∀ q ∈ ((yRd_takePath.2.2.1.drop (8 * 2)).take 8).flatten, decode prog_3_method_7_code q.1 = .ok q.2 := by decide +kernel
theorem dc_11 : ∀ q ∈ yRd_takePath.2.2.1.flatten, decode prog_3_method_7_code q.1 = .ok q.2 := by
  refine grp 3 (fun g hg => ?_) (by decide +kernel)
  match g, hg with
  | 0, _ => exact dc_11_0
  | 1, _ => exact dc_11_1
  | 2, _ => exact dc_11_2
  | g + 3, hg => exact absurd hg (by omega)
theorem dc_12 : ∀ q ∈ yRd_takeTarget.2.2.1.flatten, decode prog_3_method_8_code q.1 = .ok q.2 := by decide +kernel
theorem dc_13 : ∀ q ∈ yRd_takeTree.2.2.1.flatten, decode prog_3_method_2_code q.1 = .ok q.2 := by decide +kernel
theorem dc_14 : ∀ q ∈ yRw_init.2.2.1.flatten, decode prog_4_method_1_code q.1 = .ok q.2 := by decide +kernel
theorem dc_15 : ∀ q ∈ yRw_addLetters.2.2.1.flatten, decode prog_4_method_5_code q.1 = .ok q.2 := by decide +kernel
theorem dc_16 : ∀ q ∈ yRw_at.2.2.1.flatten, decode prog_4_method_2_code q.1 = .ok q.2 := by decide +kernel
theorem dc_17 : ∀ q ∈ yRw_copySlice.2.2.1.flatten, decode prog_4_method_6_code q.1 = .ok q.2 := by decide +kernel
theorem dc_18 : ∀ q ∈ yRw_isNameOfAnyLength.2.2.1.flatten, decode prog_4_method_11_code q.1 = .ok q.2 := by decide +kernel
theorem dc_19 : ∀ q ∈ yRw_isSlice.2.2.1.flatten, decode prog_4_method_8_code q.1 = .ok q.2 := by decide +kernel
theorem dc_20 : ∀ q ∈ yRw_isTarget.2.2.1.flatten, decode prog_4_method_10_code q.1 = .ok q.2 := by decide +kernel
theorem dc_21 : ∀ q ∈ yRw_lastSlash.2.2.1.flatten, decode prog_4_method_12_code q.1 = .ok q.2 := by decide +kernel
theorem dc_22 : ∀ q ∈ yRw_order.2.2.1.flatten, decode prog_4_method_9_code q.1 = .ok q.2 := by decide +kernel
theorem dc_23 : ∀ q ∈ yRw_put.2.2.1.flatten, decode prog_4_method_3_code q.1 = .ok q.2 := by decide +kernel
theorem dc_24 : ∀ q ∈ yRw_putAll.2.2.1.flatten, decode prog_4_method_7_code q.1 = .ok q.2 := by decide +kernel
theorem dc_25 : ∀ q ∈ yRw_resize.2.2.1.flatten, decode prog_4_method_4_code q.1 = .ok q.2 := by decide +kernel
theorem dc_26 : ∀ q ∈ yTp_init.2.2.1.flatten, decode prog_5_method_1_code q.1 = .ok q.2 := by decide +kernel
theorem dc_27 : ∀ q ∈ yTp_blocksOf.2.2.1.flatten, decode prog_5_method_3_code q.1 = .ok q.2 := by decide +kernel
theorem dc_28 : ∀ q ∈ yTp_hasCheck.2.2.1.flatten, decode prog_5_method_12_code q.1 = .ok q.2 := by decide +kernel
theorem dc_29 : ∀ q ∈ yTp_hasMark.2.2.1.flatten, decode prog_5_method_9_code q.1 = .ok q.2 := by decide +kernel
theorem dc_30 : ∀ q ∈ yTp_isBlockOfZeros.2.2.1.flatten, decode prog_5_method_5_code q.1 = .ok q.2 := by decide +kernel
theorem dc_31 : ∀ q ∈ yTp_isZeros.2.2.1.flatten, decode prog_5_method_4_code q.1 = .ok q.2 := by decide +kernel
theorem dc_32 : ∀ q ∈ yTp_octal.2.2.1.flatten, decode prog_5_method_7_code q.1 = .ok q.2 := by decide +kernel
theorem dc_33 : ∀ q ∈ yTp_putCheck.2.2.1.flatten, decode prog_5_method_11_code q.1 = .ok q.2 := by decide +kernel
theorem dc_34 : ∀ q ∈ yTp_putMark.2.2.1.flatten, decode prog_5_method_8_code q.1 = .ok q.2 := by decide +kernel
theorem dc_35 : ∀ q ∈ yTp_putOctal.2.2.1.flatten, decode prog_5_method_6_code q.1 = .ok q.2 := by decide +kernel
theorem dc_36 : ∀ q ∈ yTp_sum.2.2.1.flatten, decode prog_5_method_10_code q.1 = .ok q.2 := by decide +kernel
theorem dc_37 : ∀ q ∈ yTp_wholeBlocks.2.2.1.flatten, decode prog_5_method_2_code q.1 = .ok q.2 := by decide +kernel
theorem dc_38 : ∀ q ∈ yTr_init.2.2.1.flatten, decode prog_6_method_1_code q.1 = .ok q.2 := by decide +kernel
theorem dc_39 : ∀ q ∈ yTr_add.2.2.1.flatten, decode prog_6_method_7_code q.1 = .ok q.2 := by decide +kernel
theorem dc_40 : ∀ q ∈ yTr_childNamed.2.2.1.flatten, decode prog_6_method_5_code q.1 = .ok q.2 := by decide +kernel
theorem dc_41 : ∀ q ∈ yTr_clear.2.2.1.flatten, decode prog_6_method_2_code q.1 = .ok q.2 := by decide +kernel
theorem dc_42 : ∀ q ∈ yTr_closeGaps.2.2.1.flatten, decode prog_6_method_11_code q.1 = .ok q.2 := by decide +kernel
theorem dc_43 : ∀ q ∈ yTr_comesBehind.2.2.1.flatten, decode prog_6_method_17_code q.1 = .ok q.2 := by decide +kernel
theorem dc_44_0 : ∀ q ∈ ((yTr_drop.2.2.1.drop (8 * 0)).take 8).flatten, decode prog_6_method_8_code q.1 = .ok q.2 := by decide +kernel
theorem dc_44_1 : ∀ q ∈ ((yTr_drop.2.2.1.drop (8 * 1)).take 8).flatten, decode prog_6_method_8_code q.1 = .ok q.2 := by decide +kernel
theorem dc_44 : ∀ q ∈ yTr_drop.2.2.1.flatten, decode prog_6_method_8_code q.1 = .ok q.2 := by
  refine grp 2 (fun g hg => ?_) (by decide +kernel)
  match g, hg with
  | 0, _ => exact dc_44_0
  | 1, _ => exact dc_44_1
  | g + 2, hg => exact absurd hg (by omega)
theorem dc_45 : ∀ q ∈ yTr_follower.2.2.1.flatten, decode prog_6_method_15_code q.1 = .ok q.2 := by decide +kernel
theorem dc_46 : ∀ q ∈ yTr_has.2.2.1.flatten, decode prog_6_method_3_code q.1 = .ok q.2 := by decide +kernel
theorem dc_47 : ∀ q ∈ yTr_isGone.2.2.1.flatten, decode prog_6_method_9_code q.1 = .ok q.2 := by decide +kernel
theorem dc_48 : ∀ q ∈ yTr_isOfKind.2.2.1.flatten, decode prog_6_method_4_code q.1 = .ok q.2 := by decide +kernel
theorem dc_49 : ∀ q ∈ yTr_longestPath.2.2.1.flatten, decode prog_6_method_13_code q.1 = .ok q.2 := by decide +kernel
theorem dc_50 : ∀ q ∈ yTr_lookUp.2.2.1.flatten, decode prog_6_method_6_code q.1 = .ok q.2 := by decide +kernel
theorem dc_51 : ∀ q ∈ yTr_newNumber.2.2.1.flatten, decode prog_6_method_10_code q.1 = .ok q.2 := by decide +kernel
theorem dc_52 : ∀ q ∈ yTr_nextChild.2.2.1.flatten, decode prog_6_method_16_code q.1 = .ok q.2 := by decide +kernel
theorem dc_53 : ∀ q ∈ yTr_pathLength.2.2.1.flatten, decode prog_6_method_12_code q.1 = .ok q.2 := by decide +kernel
theorem dc_54 : ∀ q ∈ yTr_spellPath.2.2.1.flatten, decode prog_6_method_14_code q.1 = .ok q.2 := by decide +kernel
theorem dc_55 : ∀ q ∈ yTt_kindOf.2.2.1.flatten, decode prog_7_method_3_code q.1 = .ok q.2 := by decide +kernel
theorem dc_56 : ∀ q ∈ yTt_typeOf.2.2.1.flatten, decode prog_7_method_2_code q.1 = .ok q.2 := by decide +kernel
theorem dc_57 : ∀ q ∈ yWr_init.2.2.1.flatten, decode prog_8_method_1_code q.1 = .ok q.2 := by decide +kernel
theorem dc_58 : ∀ q ∈ yWr_blocksFor.2.2.1.flatten, decode prog_8_method_2_code q.1 = .ok q.2 := by decide +kernel
theorem dc_59 : ∀ q ∈ yWr_cutOfPath.2.2.1.flatten, decode prog_8_method_4_code q.1 = .ok q.2 := by decide +kernel
theorem dc_60 : ∀ q ∈ yWr_isTellable.2.2.1.flatten, decode prog_8_method_3_code q.1 = .ok q.2 := by decide +kernel
theorem dc_61 : ∀ q ∈ yWr_putContents.2.2.1.flatten, decode prog_8_method_9_code q.1 = .ok q.2 := by decide +kernel
theorem dc_62 : ∀ q ∈ yWr_putEntries.2.2.1.flatten, decode prog_8_method_6_code q.1 = .ok q.2 := by decide +kernel
theorem dc_63_0 : ∀ q ∈ ((yWr_putHeader.2.2.1.drop (8 * 0)).take 8).flatten, decode prog_8_method_7_code q.1 = .ok q.2 := by decide +kernel
theorem dc_63_1 : ∀ q ∈ ((yWr_putHeader.2.2.1.drop (8 * 1)).take 8).flatten, decode prog_8_method_7_code q.1 = .ok q.2 := by decide +kernel
theorem dc_63_2 : ∀ q ∈ ((yWr_putHeader.2.2.1.drop (8 * 2)).take 8).flatten, decode prog_8_method_7_code q.1 = .ok q.2 := by decide +kernel
theorem dc_63 : ∀ q ∈ yWr_putHeader.2.2.1.flatten, decode prog_8_method_7_code q.1 = .ok q.2 := by
  refine grp 3 (fun g hg => ?_) (by decide +kernel)
  match g, hg with
  | 0, _ => exact dc_63_0
  | 1, _ => exact dc_63_1
  | 2, _ => exact dc_63_2
  | g + 3, hg => exact absurd hg (by omega)
theorem dc_64 : ∀ q ∈ yWr_putPath.2.2.1.flatten, decode prog_8_method_8_code q.1 = .ok q.2 := by decide +kernel
theorem dc_65 : ∀ q ∈ yWr_putTree.2.2.1.flatten, decode prog_8_method_5_code q.1 = .ok q.2 := by decide +kernel
theorem dc_66 : ∀ q ∈ yTY_init.2.2.1.flatten, decode prog_1_method_1_code q.1 = .ok q.2 := by decide +kernel
theorem dc_67 : ∀ q ∈ yTY_alter.2.2.1.flatten, decode prog_1_method_11_code q.1 = .ok q.2 := by decide +kernel
theorem dc_68 : ∀ q ∈ yTY_check.2.2.1.flatten, decode prog_1_method_12_code q.1 = .ok q.2 := by decide +kernel
theorem dc_69 : ∀ q ∈ yTY_contents.2.2.1.flatten, decode prog_1_method_5_code q.1 = .ok q.2 := by decide +kernel
theorem dc_70_0 : ∀ q ∈ ((yTY_fill.2.2.1.drop (8 * 0)).take 8).flatten, decode prog_1_method_4_code q.1 = .ok q.2 := by decide +kernel
theorem dc_70_1 : ∀ q ∈ ((yTY_fill.2.2.1.drop (8 * 1)).take 8).flatten, decode prog_1_method_4_code q.1 = .ok q.2 := by decide +kernel
theorem dc_70 : ∀ q ∈ yTY_fill.2.2.1.flatten, decode prog_1_method_4_code q.1 = .ok q.2 := by
  refine grp 2 (fun g hg => ?_) (by decide +kernel)
  match g, hg with
  | 0, _ => exact dc_70_0
  | 1, _ => exact dc_70_1
  | g + 2, hg => exact absurd hg (by omega)
theorem dc_71 : ∀ q ∈ yTY_hand.2.2.1.flatten, decode prog_1_method_14_code q.1 = .ok q.2 := by decide +kernel
theorem dc_72 : ∀ q ∈ yTY_known.2.2.1.flatten, decode prog_1_method_18_code q.1 = .ok q.2 := by decide +kernel
theorem dc_73_0 : ∀ q ∈ ((yTY_make.2.2.1.drop (8 * 0)).take 8).flatten, decode prog_1_method_2_code q.1 = .ok q.2 := by decide +kernel
theorem dc_73_1 : ∀ q ∈ ((yTY_make.2.2.1.drop (8 * 1)).take 8).flatten, decode prog_1_method_2_code q.1 = .ok q.2 := by decide +kernel
theorem dc_73 : ∀ q ∈ yTY_make.2.2.1.flatten, decode prog_1_method_2_code q.1 = .ok q.2 := by
  refine grp 2 (fun g hg => ?_) (by decide +kernel)
  match g, hg with
  | 0, _ => exact dc_73_0
  | 1, _ => exact dc_73_1
  | g + 2, hg => exact absurd hg (by omega)
theorem dc_74 : ∀ q ∈ yTY_node.2.2.1.flatten, decode prog_1_method_15_code q.1 = .ok q.2 := by decide +kernel
theorem dc_75 : ∀ q ∈ yTY_part.2.2.1.flatten, decode prog_1_method_16_code q.1 = .ok q.2 := by decide +kernel
theorem dc_76 : ∀ q ∈ yTY_place.2.2.1.flatten, decode prog_1_method_10_code q.1 = .ok q.2 := by decide +kernel
theorem dc_77 : ∀ q ∈ yTY_read.2.2.1.flatten, decode prog_1_method_9_code q.1 = .ok q.2 := by decide +kernel
theorem dc_78 : ∀ q ∈ yTY_refuseName.2.2.1.flatten, decode prog_1_method_19_code q.1 = .ok q.2 := by decide +kernel
theorem dc_79 : ∀ q ∈ yTY_remove.2.2.1.flatten, decode prog_1_method_7_code q.1 = .ok q.2 := by decide +kernel
theorem dc_80 : ∀ q ∈ yTY_rename.2.2.1.flatten, decode prog_1_method_3_code q.1 = .ok q.2 := by decide +kernel
theorem dc_81 : ∀ q ∈ yTY_set.2.2.1.flatten, decode prog_1_method_6_code q.1 = .ok q.2 := by decide +kernel
theorem dc_82 : ∀ q ∈ yTY_size.2.2.1.flatten, decode prog_1_method_13_code q.1 = .ok q.2 := by decide +kernel
theorem dc_83 : ∀ q ∈ yTY_total.2.2.1.flatten, decode prog_1_method_17_code q.1 = .ok q.2 := by decide +kernel
theorem dc_84 : ∀ q ∈ yTY_write.2.2.1.flatten, decode prog_1_method_8_code q.1 = .ok q.2 := by decide +kernel
theorem dc_85_0 : ∀ q ∈ ((yMd_init.2.2.1.drop (8 * 0)).take 8).flatten, decode prog_10_method_1_code q.1 = .ok q.2 := by decide +kernel
theorem dc_85_1 : ∀ q ∈ ((yMd_init.2.2.1.drop (8 * 1)).take 8).flatten, decode prog_10_method_1_code q.1 = .ok q.2 := by decide +kernel
theorem dc_85 : ∀ q ∈ yMd_init.2.2.1.flatten, decode prog_10_method_1_code q.1 = .ok q.2 := by
  refine grp 2 (fun g hg => ?_) (by decide +kernel)
  match g, hg with
  | 0, _ => exact dc_85_0
  | 1, _ => exact dc_85_1
  | g + 2, hg => exact absurd hg (by omega)
theorem dc_86_0 : ∀ q ∈ ((yMd_add.2.2.1.drop (8 * 0)).take 8).flatten, decode prog_10_method_15_code q.1 = .ok q.2 := by decide +kernel
theorem dc_86_1 : ∀ q ∈ ((yMd_add.2.2.1.drop (8 * 1)).take 8).flatten, decode prog_10_method_15_code q.1 = .ok q.2 := by decide +kernel
theorem dc_86 : ∀ q ∈ yMd_add.2.2.1.flatten, decode prog_10_method_15_code q.1 = .ok q.2 := by
  refine grp 2 (fun g hg => ?_) (by decide +kernel)
  match g, hg with
  | 0, _ => exact dc_86_0
  | 1, _ => exact dc_86_1
  | g + 2, hg => exact absurd hg (by omega)
theorem dc_87 : ∀ q ∈ yMd_alter.2.2.1.flatten, decode prog_10_method_41_code q.1 = .ok q.2 := by decide +kernel
theorem dc_88_0 : ∀ q ∈ ((yMd_arrange.2.2.1.drop (8 * 0)).take 8).flatten, decode prog_10_method_24_code q.1 = .ok q.2 := by decide +kernel
theorem dc_88_1 : ∀ q ∈ ((yMd_arrange.2.2.1.drop (8 * 1)).take 8).flatten, decode prog_10_method_24_code q.1 = .ok q.2 := by decide +kernel
theorem dc_88 : ∀ q ∈ yMd_arrange.2.2.1.flatten, decode prog_10_method_24_code q.1 = .ok q.2 := by
  refine grp 2 (fun g hg => ?_) (by decide +kernel)
  match g, hg with
  | 0, _ => exact dc_88_0
  | 1, _ => exact dc_88_1
  | g + 2, hg => exact absurd hg (by omega)
theorem dc_89 : ∀ q ∈ yMd_blocksOf.2.2.1.flatten, decode prog_10_method_26_code q.1 = .ok q.2 := by decide +kernel
theorem dc_90 : ∀ q ∈ yMd_check.2.2.1.flatten, decode prog_10_method_42_code q.1 = .ok q.2 := by decide +kernel
theorem dc_91 : ∀ q ∈ yMd_clear.2.2.1.flatten, decode prog_10_method_4_code q.1 = .ok q.2 := by decide +kernel
theorem dc_92 : ∀ q ∈ yMd_compare.2.2.1.flatten, decode prog_10_method_12_code q.1 = .ok q.2 := by decide +kernel
theorem dc_93 : ∀ q ∈ yMd_contents.2.2.1.flatten, decode prog_10_method_18_code q.1 = .ok q.2 := by decide +kernel
theorem dc_94 : ∀ q ∈ yMd_copyIn.2.2.1.flatten, decode prog_10_method_36_code q.1 = .ok q.2 := by decide +kernel
theorem dc_95 : ∀ q ∈ yMd_count.2.2.1.flatten, decode prog_10_method_5_code q.1 = .ok q.2 := by decide +kernel
theorem dc_96 : ∀ q ∈ yMd_cutOf.2.2.1.flatten, decode prog_10_method_25_code q.1 = .ok q.2 := by decide +kernel
theorem dc_97_0 : ∀ q ∈ ((yMd_entry.2.2.1.drop (8 * 0)).take 8).flatten, decode prog_10_method_38_code q.1 = .ok q.2 := by decide +kernel
theorem dc_97_1 : ∀ q ∈ ((yMd_entry.2.2.1.drop (8 * 1)).take 8).flatten, decode prog_10_method_38_code q.1 = .ok q.2 := by decide +kernel
theorem dc_97_2 : ∀ q ∈ ((yMd_entry.2.2.1.drop (8 * 2)).take 8).flatten, decode prog_10_method_38_code q.1 = .ok q.2 := by decide +kernel
theorem dc_97_3 : ∀ q ∈ ((yMd_entry.2.2.1.drop (8 * 3)).take 8).flatten, decode prog_10_method_38_code q.1 = .ok q.2 := by decide +kernel
theorem dc_97_4 : ∀ q ∈ ((yMd_entry.2.2.1.drop (8 * 4)).take 8).flatten, decode prog_10_method_38_code q.1 = .ok q.2 := by decide +kernel
theorem dc_97_5 : ∀ q ∈ ((yMd_entry.2.2.1.drop (8 * 5)).take 8).flatten, decode prog_10_method_38_code q.1 = .ok q.2 := by decide +kernel
theorem dc_97_6 : ∀ q ∈ ((yMd_entry.2.2.1.drop (8 * 6)).take 8).flatten, decode prog_10_method_38_code q.1 = .ok q.2 := by decide +kernel
theorem dc_97 : ∀ q ∈ yMd_entry.2.2.1.flatten, decode prog_10_method_38_code q.1 = .ok q.2 := by
  refine grp 7 (fun g hg => ?_) (by decide +kernel)
  match g, hg with
  | 0, _ => exact dc_97_0
  | 1, _ => exact dc_97_1
  | 2, _ => exact dc_97_2
  | 3, _ => exact dc_97_3
  | 4, _ => exact dc_97_4
  | 5, _ => exact dc_97_5
  | 6, _ => exact dc_97_6
  | g + 7, hg => exact absurd hg (by omega)
theorem dc_98 : ∀ q ∈ yMd_fails.2.2.1.flatten, decode prog_10_method_3_code q.1 = .ok q.2 := by decide +kernel
theorem dc_99_0 : ∀ q ∈ ((yMd_fill.2.2.1.drop (8 * 0)).take 8).flatten, decode prog_10_method_17_code q.1 = .ok q.2 := by decide +kernel
theorem dc_99_1 : ∀ q ∈ ((yMd_fill.2.2.1.drop (8 * 1)).take 8).flatten, decode prog_10_method_17_code q.1 = .ok q.2 := by decide +kernel
theorem dc_99_2 : ∀ q ∈ ((yMd_fill.2.2.1.drop (8 * 2)).take 8).flatten, decode prog_10_method_17_code q.1 = .ok q.2 := by decide +kernel
theorem dc_99 : ∀ q ∈ yMd_fill.2.2.1.flatten, decode prog_10_method_17_code q.1 = .ok q.2 := by
  refine grp 3 (fun g hg => ?_) (by decide +kernel)
  match g, hg with
  | 0, _ => exact dc_99_0
  | 1, _ => exact dc_99_1
  | 2, _ => exact dc_99_2
  | g + 3, hg => exact absurd hg (by omega)
theorem dc_100 : ∀ q ∈ yMd_find.2.2.1.flatten, decode prog_10_method_11_code q.1 = .ok q.2 := by decide +kernel
theorem dc_101_0 : ∀ q ∈ ((yMd_firstFault.2.2.1.drop (8 * 0)).take 8).flatten, decode prog_10_method_37_code q.1 = .ok q.2 := by decide +kernel
theorem dc_101_1 : ∀ q ∈ ((yMd_firstFault.2.2.1.drop (8 * 1)).take 8).flatten, decode prog_10_method_37_code q.1 = .ok q.2 := by decide +kernel
theorem dc_101_2 : ∀ q ∈ ((yMd_firstFault.2.2.1.drop (8 * 2)).take 8).flatten, decode prog_10_method_37_code q.1 = .ok q.2 := by decide +kernel
theorem dc_101_3 : ∀ q ∈ ((yMd_firstFault.2.2.1.drop (8 * 3)).take 8).flatten, decode prog_10_method_37_code q.1 = .ok q.2 := by decide +kernel
theorem dc_101 : ∀ q ∈ yMd_firstFault.2.2.1.flatten, decode prog_10_method_37_code q.1 = .ok q.2 := by
  refine grp 4 (fun g hg => ?_) (by decide +kernel)
  match g, hg with
  | 0, _ => exact dc_101_0
  | 1, _ => exact dc_101_1
  | 2, _ => exact dc_101_2
  | 3, _ => exact dc_101_3
  | g + 4, hg => exact absurd hg (by omega)
theorem dc_102 : ∀ q ∈ yMd_hand.2.2.1.flatten, decode prog_10_method_44_code q.1 = .ok q.2 := by decide +kernel
theorem dc_103_0 : ∀ q ∈ ((yMd_head.2.2.1.drop (8 * 0)).take 8).flatten, decode prog_10_method_29_code q.1 = .ok q.2 := by decide +kernel
theorem dc_103_1 : ∀ q ∈ ((yMd_head.2.2.1.drop (8 * 1)).take 8).flatten, decode prog_10_method_29_code q.1 = .ok q.2 := by decide +kernel
theorem dc_103_2 : ∀ q ∈ ((yMd_head.2.2.1.drop (8 * 2)).take 8).flatten, decode prog_10_method_29_code q.1 = .ok q.2 := by decide +kernel
theorem dc_103_3 : ∀ q ∈ ((yMd_head.2.2.1.drop (8 * 3)).take 8).flatten, decode prog_10_method_29_code q.1 = .ok q.2 := by decide +kernel
theorem dc_103 : ∀ q ∈ yMd_head.2.2.1.flatten, decode prog_10_method_29_code q.1 = .ok q.2 := by
  refine grp 4 (fun g hg => ?_) (by decide +kernel)
  match g, hg with
  | 0, _ => exact dc_103_0
  | 1, _ => exact dc_103_1
  | 2, _ => exact dc_103_2
  | 3, _ => exact dc_103_3
  | g + 4, hg => exact absurd hg (by omega)
theorem dc_104 : ∀ q ∈ yMd_isCalled.2.2.1.flatten, decode prog_10_method_10_code q.1 = .ok q.2 := by decide +kernel
theorem dc_105 : ∀ q ∈ yMd_isLetter.2.2.1.flatten, decode prog_10_method_8_code q.1 = .ok q.2 := by decide +kernel
theorem dc_106 : ∀ q ∈ yMd_isName.2.2.1.flatten, decode prog_10_method_9_code q.1 = .ok q.2 := by decide +kernel
theorem dc_107 : ∀ q ∈ yMd_isNode.2.2.1.flatten, decode prog_10_method_6_code q.1 = .ok q.2 := by decide +kernel
theorem dc_108 : ∀ q ∈ yMd_isZero.2.2.1.flatten, decode prog_10_method_32_code q.1 = .ok q.2 := by decide +kernel
theorem dc_109_0 : ∀ q ∈ ((yMd_make.2.2.1.drop (8 * 0)).take 8).flatten, decode prog_10_method_14_code q.1 = .ok q.2 := by decide +kernel
theorem dc_109_1 : ∀ q ∈ ((yMd_make.2.2.1.drop (8 * 1)).take 8).flatten, decode prog_10_method_14_code q.1 = .ok q.2 := by decide +kernel
theorem dc_109 : ∀ q ∈ yMd_make.2.2.1.flatten, decode prog_10_method_14_code q.1 = .ok q.2 := by
  refine grp 2 (fun g hg => ?_) (by decide +kernel)
  match g, hg with
  | 0, _ => exact dc_109_0
  | 1, _ => exact dc_109_1
  | g + 2, hg => exact absurd hg (by omega)
theorem dc_110 : ∀ q ∈ yMd_markOf.2.2.1.flatten, decode prog_10_method_30_code q.1 = .ok q.2 := by decide +kernel
theorem dc_111_0 : ∀ q ∈ ((yMd_move.2.2.1.drop (8 * 0)).take 8).flatten, decode prog_10_method_21_code q.1 = .ok q.2 := by decide +kernel
theorem dc_111_1 : ∀ q ∈ ((yMd_move.2.2.1.drop (8 * 1)).take 8).flatten, decode prog_10_method_21_code q.1 = .ok q.2 := by decide +kernel
theorem dc_111 : ∀ q ∈ yMd_move.2.2.1.flatten, decode prog_10_method_21_code q.1 = .ok q.2 := by
  refine grp 2 (fun g hg => ?_) (by decide +kernel)
  match g, hg with
  | 0, _ => exact dc_111_0
  | 1, _ => exact dc_111_1
  | g + 2, hg => exact absurd hg (by omega)
theorem dc_112 : ∀ q ∈ yMd_next.2.2.1.flatten, decode prog_10_method_23_code q.1 = .ok q.2 := by decide +kernel
theorem dc_113_0 : ∀ q ∈ ((yMd_node.2.2.1.drop (8 * 0)).take 8).flatten, decode prog_10_method_45_code q.1 = .ok q.2 := by decide +kernel
theorem dc_113_1 : ∀ q ∈ ((yMd_node.2.2.1.drop (8 * 1)).take 8).flatten, decode prog_10_method_45_code q.1 = .ok q.2 := by decide +kernel
theorem dc_113 : ∀ q ∈ yMd_node.2.2.1.flatten, decode prog_10_method_45_code q.1 = .ok q.2 := by
  refine grp 2 (fun g hg => ?_) (by decide +kernel)
  match g, hg with
  | 0, _ => exact dc_113_0
  | 1, _ => exact dc_113_1
  | g + 2, hg => exact absurd hg (by omega)
theorem dc_114 : ∀ q ∈ yMd_number.2.2.1.flatten, decode prog_10_method_33_code q.1 = .ok q.2 := by decide +kernel
theorem dc_115 : ∀ q ∈ yMd_octal.2.2.1.flatten, decode prog_10_method_28_code q.1 = .ok q.2 := by decide +kernel
theorem dc_116 : ∀ q ∈ yMd_part.2.2.1.flatten, decode prog_10_method_46_code q.1 = .ok q.2 := by decide +kernel
theorem dc_117 : ∀ q ∈ yMd_place.2.2.1.flatten, decode prog_10_method_40_code q.1 = .ok q.2 := by decide +kernel
theorem dc_118_0 : ∀ q ∈ ((yMd_read.2.2.1.drop (8 * 0)).take 8).flatten, decode prog_10_method_39_code q.1 = .ok q.2 := by decide +kernel
theorem dc_118_1 : ∀ q ∈ ((yMd_read.2.2.1.drop (8 * 1)).take 8).flatten, decode prog_10_method_39_code q.1 = .ok q.2 := by decide +kernel
theorem dc_118 : ∀ q ∈ yMd_read.2.2.1.flatten, decode prog_10_method_39_code q.1 = .ok q.2 := by
  refine grp 2 (fun g hg => ?_) (by decide +kernel)
  match g, hg with
  | 0, _ => exact dc_118_0
  | 1, _ => exact dc_118_1
  | g + 2, hg => exact absurd hg (by omega)
theorem dc_119_0 : ∀ q ∈ ((yMd_remove.2.2.1.drop (8 * 0)).take 8).flatten, decode prog_10_method_20_code q.1 = .ok q.2 := by decide +kernel
theorem dc_119_1 : ∀ q ∈ ((yMd_remove.2.2.1.drop (8 * 1)).take 8).flatten, decode prog_10_method_20_code q.1 = .ok q.2 := by decide +kernel
theorem dc_119_2 : ∀ q ∈ ((yMd_remove.2.2.1.drop (8 * 2)).take 8).flatten, decode prog_10_method_20_code q.1 = .ok q.2 := by decide +kernel
theorem dc_119 : ∀ q ∈ yMd_remove.2.2.1.flatten, decode prog_10_method_20_code q.1 = .ok q.2 := by
  refine grp 3 (fun g hg => ?_) (by decide +kernel)
  match g, hg with
  | 0, _ => exact dc_119_0
  | 1, _ => exact dc_119_1
  | 2, _ => exact dc_119_2
  | g + 3, hg => exact absurd hg (by omega)
theorem dc_120_0 : ∀ q ∈ ((yMd_rename.2.2.1.drop (8 * 0)).take 8).flatten, decode prog_10_method_16_code q.1 = .ok q.2 := by decide +kernel
theorem dc_120_1 : ∀ q ∈ ((yMd_rename.2.2.1.drop (8 * 1)).take 8).flatten, decode prog_10_method_16_code q.1 = .ok q.2 := by decide +kernel
theorem dc_120_2 : ∀ q ∈ ((yMd_rename.2.2.1.drop (8 * 2)).take 8).flatten, decode prog_10_method_16_code q.1 = .ok q.2 := by decide +kernel
theorem dc_120 : ∀ q ∈ yMd_rename.2.2.1.flatten, decode prog_10_method_16_code q.1 = .ok q.2 := by
  refine grp 3 (fun g hg => ?_) (by decide +kernel)
  match g, hg with
  | 0, _ => exact dc_120_0
  | 1, _ => exact dc_120_1
  | 2, _ => exact dc_120_2
  | g + 3, hg => exact absurd hg (by omega)
theorem dc_121 : ∀ q ∈ yMd_set.2.2.1.flatten, decode prog_10_method_19_code q.1 = .ok q.2 := by decide +kernel
theorem dc_122 : ∀ q ∈ yMd_size.2.2.1.flatten, decode prog_10_method_43_code q.1 = .ok q.2 := by decide +kernel
theorem dc_123 : ∀ q ∈ yMd_spell.2.2.1.flatten, decode prog_10_method_13_code q.1 = .ok q.2 := by decide +kernel
theorem dc_124 : ∀ q ∈ yMd_sum.2.2.1.flatten, decode prog_10_method_31_code q.1 = .ok q.2 := by decide +kernel
theorem dc_125_0 : ∀ q ∈ ((yMd_tell.2.2.1.drop (8 * 0)).take 8).flatten, decode prog_10_method_22_code q.1 = .ok q.2 := by decide +kernel
theorem dc_125_1 : ∀ q ∈ ((yMd_tell.2.2.1.drop (8 * 1)).take 8).flatten, decode prog_10_method_22_code q.1 = .ok q.2 := by decide +kernel
theorem dc_125 : ∀ q ∈ yMd_tell.2.2.1.flatten, decode prog_10_method_22_code q.1 = .ok q.2 := by
  refine grp 2 (fun g hg => ?_) (by decide +kernel)
  match g, hg with
  | 0, _ => exact dc_125_0
  | 1, _ => exact dc_125_1
  | g + 2, hg => exact absurd hg (by omega)
theorem dc_126 : ∀ q ∈ yMd_textOf.2.2.1.flatten, decode prog_10_method_34_code q.1 = .ok q.2 := by decide +kernel
theorem dc_127 : ∀ q ∈ yMd_thrown.2.2.1.flatten, decode prog_10_method_2_code q.1 = .ok q.2 := by decide +kernel
theorem dc_128 : ∀ q ∈ yMd_total.2.2.1.flatten, decode prog_10_method_47_code q.1 = .ok q.2 := by decide +kernel
theorem dc_129_0 : ∀ q ∈ ((yMd_walk.2.2.1.drop (8 * 0)).take 8).flatten, decode prog_10_method_35_code q.1 = .ok q.2 := by decide +kernel
theorem dc_129_1 : ∀ q ∈ ((yMd_walk.2.2.1.drop (8 * 1)).take 8).flatten, decode prog_10_method_35_code q.1 = .ok q.2 := by decide +kernel
theorem dc_129 : ∀ q ∈ yMd_walk.2.2.1.flatten, decode prog_10_method_35_code q.1 = .ok q.2 := by
  refine grp 2 (fun g hg => ?_) (by decide +kernel)
  match g, hg with
  | 0, _ => exact dc_129_0
  | 1, _ => exact dc_129_1
  | g + 2, hg => exact absurd hg (by omega)
theorem dc_130 : ∀ q ∈ yMd_within.2.2.1.flatten, decode prog_10_method_7_code q.1 = .ok q.2 := by decide +kernel
theorem dc_131_0 : ∀ q ∈ ((yMd_write.2.2.1.drop (8 * 0)).take 8).flatten, decode prog_10_method_27_code q.1 = .ok q.2 := by decide +kernel
theorem dc_131_1 : ∀ q ∈ ((yMd_write.2.2.1.drop (8 * 1)).take 8).flatten, decode prog_10_method_27_code q.1 = .ok q.2 := by decide +kernel
theorem dc_131_2 : ∀ q ∈ ((yMd_write.2.2.1.drop (8 * 2)).take 8).flatten, decode prog_10_method_27_code q.1 = .ok q.2 := by decide +kernel
theorem dc_131 : ∀ q ∈ yMd_write.2.2.1.flatten, decode prog_10_method_27_code q.1 = .ok q.2 := by
  refine grp 3 (fun g hg => ?_) (by decide +kernel)
  match g, hg with
  | 0, _ => exact dc_131_0
  | 1, _ => exact dc_131_1
  | 2, _ => exact dc_131_2
  | g + 3, hg => exact absurd hg (by omega)
theorem dc_132 : ∀ q ∈ yLw_alter.2.2.1.flatten, decode method_10_code q.1 = .ok q.2 := by decide +kernel
theorem dc_133 : ∀ q ∈ yLw_check.2.2.1.flatten, decode method_11_code q.1 = .ok q.2 := by decide +kernel
theorem dc_134 : ∀ q ∈ yLw_contents.2.2.1.flatten, decode method_6_code q.1 = .ok q.2 := by decide +kernel
theorem dc_135 : ∀ q ∈ yLw_fill.2.2.1.flatten, decode method_5_code q.1 = .ok q.2 := by decide +kernel
theorem dc_136_0 : ∀ q ∈ ((yLw_law.2.2.1.drop (8 * 0)).take 8).flatten, decode code q.1 = .ok q.2 := by decide +kernel
theorem dc_136_1 : ∀ q ∈ ((yLw_law.2.2.1.drop (8 * 1)).take 8).flatten, decode code q.1 = .ok q.2 := by decide +kernel
theorem dc_136_2 : ∀ q ∈ ((yLw_law.2.2.1.drop (8 * 2)).take 8).flatten, decode code q.1 = .ok q.2 := by decide +kernel
theorem dc_136_3 : ∀ q ∈ ((yLw_law.2.2.1.drop (8 * 3)).take 8).flatten, decode code q.1 = .ok q.2 := by decide +kernel
theorem dc_136_4 : ∀ q ∈ ((yLw_law.2.2.1.drop (8 * 4)).take 8).flatten, decode code q.1 = .ok q.2 := by decide +kernel
theorem dc_136_5 : ∀ q ∈ ((yLw_law.2.2.1.drop (8 * 5)).take 8).flatten, decode code q.1 = .ok q.2 := by decide +kernel
theorem dc_136_6 : ∀ q ∈ ((yLw_law.2.2.1.drop (8 * 6)).take 8).flatten, decode code q.1 = .ok q.2 := by decide +kernel
theorem dc_136_7 : ∀ q ∈ ((yLw_law.2.2.1.drop (8 * 7)).take 8).flatten, decode code q.1 = .ok q.2 := by decide +kernel
theorem dc_136_8 : ∀ q ∈ ((yLw_law.2.2.1.drop (8 * 8)).take 8).flatten, decode code q.1 = .ok q.2 := by decide +kernel
theorem dc_136 : ∀ q ∈ yLw_law.2.2.1.flatten, decode code q.1 = .ok q.2 := by
  refine grp 9 (fun g hg => ?_) (by decide +kernel)
  match g, hg with
  | 0, _ => exact dc_136_0
  | 1, _ => exact dc_136_1
  | 2, _ => exact dc_136_2
  | 3, _ => exact dc_136_3
  | 4, _ => exact dc_136_4
  | 5, _ => exact dc_136_5
  | 6, _ => exact dc_136_6
  | 7, _ => exact dc_136_7
  | 8, _ => exact dc_136_8
  | g + 9, hg => exact absurd hg (by omega)
theorem dc_137 : ∀ q ∈ yLw_make.2.2.1.flatten, decode method_3_code q.1 = .ok q.2 := by decide +kernel
theorem dc_138 : ∀ q ∈ yLw_node.2.2.1.flatten, decode method_13_code q.1 = .ok q.2 := by decide +kernel
theorem dc_139 : ∀ q ∈ yLw_part.2.2.1.flatten, decode method_14_code q.1 = .ok q.2 := by decide +kernel
theorem dc_140 : ∀ q ∈ yLw_remove.2.2.1.flatten, decode method_8_code q.1 = .ok q.2 := by decide +kernel
theorem dc_141 : ∀ q ∈ yLw_rename.2.2.1.flatten, decode method_4_code q.1 = .ok q.2 := by decide +kernel
theorem dc_142 : ∀ q ∈ yLw_set.2.2.1.flatten, decode method_7_code q.1 = .ok q.2 := by decide +kernel
theorem dc_143 : ∀ q ∈ yLw_size.2.2.1.flatten, decode method_12_code q.1 = .ok q.2 := by decide +kernel
theorem dc_144 : ∀ q ∈ yLw_total.2.2.1.flatten, decode method_15_code q.1 = .ok q.2 := by decide +kernel
theorem dc_145 : ∀ q ∈ yLw_write.2.2.1.flatten, decode method_9_code q.1 = .ok q.2 := by decide +kernel
theorem dc_146 : ∀ q ∈ yAr_copyOf.2.2.1.flatten, decode prog_21_method_121_code q.1 = .ok q.2 := by decide +kernel
def dcP (y : AY) : Prop := ∀ q ∈ y.2.2.1.flatten, decode (bt y) q.1 = .ok q.2
theorem dcq_0 : ∀ y ∈ [yNd_init, yNd_begin, yNd_contentsLength, yRd_init, yRd_addText, yRd_faultOfContents, yRd_faultOfEntry, yRd_isMarked, yRd_takeEntry, yRd_takeKind, yRd_takeNumbers, yRd_takePath, yRd_takeTarget, yRd_takeTree, yRw_init, yRw_addLetters, yRw_at, yRw_copySlice, yRw_isNameOfAnyLength, yRw_isSlice, yRw_isTarget], dcP y := List.forall_mem_cons.mpr ⟨dc_0, List.forall_mem_cons.mpr ⟨dc_1, List.forall_mem_cons.mpr ⟨dc_2, List.forall_mem_cons.mpr ⟨dc_3, List.forall_mem_cons.mpr ⟨dc_4, List.forall_mem_cons.mpr ⟨dc_5, List.forall_mem_cons.mpr ⟨dc_6, List.forall_mem_cons.mpr ⟨dc_7, List.forall_mem_cons.mpr ⟨dc_8, List.forall_mem_cons.mpr ⟨dc_9, List.forall_mem_cons.mpr ⟨dc_10, List.forall_mem_cons.mpr ⟨dc_11, List.forall_mem_cons.mpr ⟨dc_12, List.forall_mem_cons.mpr ⟨dc_13, List.forall_mem_cons.mpr ⟨dc_14, List.forall_mem_cons.mpr ⟨dc_15, List.forall_mem_cons.mpr ⟨dc_16, List.forall_mem_cons.mpr ⟨dc_17, List.forall_mem_cons.mpr ⟨dc_18, List.forall_mem_cons.mpr ⟨dc_19, List.forall_mem_cons.mpr ⟨dc_20, fun _ h => absurd h List.not_mem_nil⟩⟩⟩⟩⟩⟩⟩⟩⟩⟩⟩⟩⟩⟩⟩⟩⟩⟩⟩⟩⟩
theorem dcq_1 : ∀ y ∈ [yRw_lastSlash, yRw_order, yRw_put, yRw_putAll, yRw_resize, yTp_init, yTp_blocksOf, yTp_hasCheck, yTp_hasMark, yTp_isBlockOfZeros, yTp_isZeros, yTp_octal, yTp_putCheck, yTp_putMark, yTp_putOctal, yTp_sum, yTp_wholeBlocks, yTr_init, yTr_add, yTr_childNamed, yTr_clear], dcP y := List.forall_mem_cons.mpr ⟨dc_21, List.forall_mem_cons.mpr ⟨dc_22, List.forall_mem_cons.mpr ⟨dc_23, List.forall_mem_cons.mpr ⟨dc_24, List.forall_mem_cons.mpr ⟨dc_25, List.forall_mem_cons.mpr ⟨dc_26, List.forall_mem_cons.mpr ⟨dc_27, List.forall_mem_cons.mpr ⟨dc_28, List.forall_mem_cons.mpr ⟨dc_29, List.forall_mem_cons.mpr ⟨dc_30, List.forall_mem_cons.mpr ⟨dc_31, List.forall_mem_cons.mpr ⟨dc_32, List.forall_mem_cons.mpr ⟨dc_33, List.forall_mem_cons.mpr ⟨dc_34, List.forall_mem_cons.mpr ⟨dc_35, List.forall_mem_cons.mpr ⟨dc_36, List.forall_mem_cons.mpr ⟨dc_37, List.forall_mem_cons.mpr ⟨dc_38, List.forall_mem_cons.mpr ⟨dc_39, List.forall_mem_cons.mpr ⟨dc_40, List.forall_mem_cons.mpr ⟨dc_41, fun _ h => absurd h List.not_mem_nil⟩⟩⟩⟩⟩⟩⟩⟩⟩⟩⟩⟩⟩⟩⟩⟩⟩⟩⟩⟩⟩
theorem dcq_2 : ∀ y ∈ [yTr_closeGaps, yTr_comesBehind, yTr_drop, yTr_follower, yTr_has, yTr_isGone, yTr_isOfKind, yTr_longestPath, yTr_lookUp, yTr_newNumber, yTr_nextChild, yTr_pathLength, yTr_spellPath, yTt_kindOf, yTt_typeOf, yWr_init, yWr_blocksFor, yWr_cutOfPath, yWr_isTellable, yWr_putContents, yWr_putEntries], dcP y := List.forall_mem_cons.mpr ⟨dc_42, List.forall_mem_cons.mpr ⟨dc_43, List.forall_mem_cons.mpr ⟨dc_44, List.forall_mem_cons.mpr ⟨dc_45, List.forall_mem_cons.mpr ⟨dc_46, List.forall_mem_cons.mpr ⟨dc_47, List.forall_mem_cons.mpr ⟨dc_48, List.forall_mem_cons.mpr ⟨dc_49, List.forall_mem_cons.mpr ⟨dc_50, List.forall_mem_cons.mpr ⟨dc_51, List.forall_mem_cons.mpr ⟨dc_52, List.forall_mem_cons.mpr ⟨dc_53, List.forall_mem_cons.mpr ⟨dc_54, List.forall_mem_cons.mpr ⟨dc_55, List.forall_mem_cons.mpr ⟨dc_56, List.forall_mem_cons.mpr ⟨dc_57, List.forall_mem_cons.mpr ⟨dc_58, List.forall_mem_cons.mpr ⟨dc_59, List.forall_mem_cons.mpr ⟨dc_60, List.forall_mem_cons.mpr ⟨dc_61, List.forall_mem_cons.mpr ⟨dc_62, fun _ h => absurd h List.not_mem_nil⟩⟩⟩⟩⟩⟩⟩⟩⟩⟩⟩⟩⟩⟩⟩⟩⟩⟩⟩⟩⟩
theorem dcq_3 : ∀ y ∈ [yWr_putHeader, yWr_putPath, yWr_putTree, yTY_init, yTY_alter, yTY_check, yTY_contents, yTY_fill, yTY_hand, yTY_known, yTY_make, yTY_node, yTY_part, yTY_place, yTY_read, yTY_refuseName, yTY_remove, yTY_rename, yTY_set, yTY_size, yTY_total], dcP y := List.forall_mem_cons.mpr ⟨dc_63, List.forall_mem_cons.mpr ⟨dc_64, List.forall_mem_cons.mpr ⟨dc_65, List.forall_mem_cons.mpr ⟨dc_66, List.forall_mem_cons.mpr ⟨dc_67, List.forall_mem_cons.mpr ⟨dc_68, List.forall_mem_cons.mpr ⟨dc_69, List.forall_mem_cons.mpr ⟨dc_70, List.forall_mem_cons.mpr ⟨dc_71, List.forall_mem_cons.mpr ⟨dc_72, List.forall_mem_cons.mpr ⟨dc_73, List.forall_mem_cons.mpr ⟨dc_74, List.forall_mem_cons.mpr ⟨dc_75, List.forall_mem_cons.mpr ⟨dc_76, List.forall_mem_cons.mpr ⟨dc_77, List.forall_mem_cons.mpr ⟨dc_78, List.forall_mem_cons.mpr ⟨dc_79, List.forall_mem_cons.mpr ⟨dc_80, List.forall_mem_cons.mpr ⟨dc_81, List.forall_mem_cons.mpr ⟨dc_82, List.forall_mem_cons.mpr ⟨dc_83, fun _ h => absurd h List.not_mem_nil⟩⟩⟩⟩⟩⟩⟩⟩⟩⟩⟩⟩⟩⟩⟩⟩⟩⟩⟩⟩⟩
theorem dcq_4 : ∀ y ∈ [yTY_write, yMd_init, yMd_add, yMd_alter, yMd_arrange, yMd_blocksOf, yMd_check, yMd_clear, yMd_compare, yMd_contents, yMd_copyIn, yMd_count, yMd_cutOf, yMd_entry, yMd_fails, yMd_fill, yMd_find, yMd_firstFault, yMd_hand, yMd_head, yMd_isCalled], dcP y := List.forall_mem_cons.mpr ⟨dc_84, List.forall_mem_cons.mpr ⟨dc_85, List.forall_mem_cons.mpr ⟨dc_86, List.forall_mem_cons.mpr ⟨dc_87, List.forall_mem_cons.mpr ⟨dc_88, List.forall_mem_cons.mpr ⟨dc_89, List.forall_mem_cons.mpr ⟨dc_90, List.forall_mem_cons.mpr ⟨dc_91, List.forall_mem_cons.mpr ⟨dc_92, List.forall_mem_cons.mpr ⟨dc_93, List.forall_mem_cons.mpr ⟨dc_94, List.forall_mem_cons.mpr ⟨dc_95, List.forall_mem_cons.mpr ⟨dc_96, List.forall_mem_cons.mpr ⟨dc_97, List.forall_mem_cons.mpr ⟨dc_98, List.forall_mem_cons.mpr ⟨dc_99, List.forall_mem_cons.mpr ⟨dc_100, List.forall_mem_cons.mpr ⟨dc_101, List.forall_mem_cons.mpr ⟨dc_102, List.forall_mem_cons.mpr ⟨dc_103, List.forall_mem_cons.mpr ⟨dc_104, fun _ h => absurd h List.not_mem_nil⟩⟩⟩⟩⟩⟩⟩⟩⟩⟩⟩⟩⟩⟩⟩⟩⟩⟩⟩⟩⟩
theorem dcq_5 : ∀ y ∈ [yMd_isLetter, yMd_isName, yMd_isNode, yMd_isZero, yMd_make, yMd_markOf, yMd_move, yMd_next, yMd_node, yMd_number, yMd_octal, yMd_part, yMd_place, yMd_read, yMd_remove, yMd_rename, yMd_set, yMd_size, yMd_spell, yMd_sum, yMd_tell], dcP y := List.forall_mem_cons.mpr ⟨dc_105, List.forall_mem_cons.mpr ⟨dc_106, List.forall_mem_cons.mpr ⟨dc_107, List.forall_mem_cons.mpr ⟨dc_108, List.forall_mem_cons.mpr ⟨dc_109, List.forall_mem_cons.mpr ⟨dc_110, List.forall_mem_cons.mpr ⟨dc_111, List.forall_mem_cons.mpr ⟨dc_112, List.forall_mem_cons.mpr ⟨dc_113, List.forall_mem_cons.mpr ⟨dc_114, List.forall_mem_cons.mpr ⟨dc_115, List.forall_mem_cons.mpr ⟨dc_116, List.forall_mem_cons.mpr ⟨dc_117, List.forall_mem_cons.mpr ⟨dc_118, List.forall_mem_cons.mpr ⟨dc_119, List.forall_mem_cons.mpr ⟨dc_120, List.forall_mem_cons.mpr ⟨dc_121, List.forall_mem_cons.mpr ⟨dc_122, List.forall_mem_cons.mpr ⟨dc_123, List.forall_mem_cons.mpr ⟨dc_124, List.forall_mem_cons.mpr ⟨dc_125, fun _ h => absurd h List.not_mem_nil⟩⟩⟩⟩⟩⟩⟩⟩⟩⟩⟩⟩⟩⟩⟩⟩⟩⟩⟩⟩⟩
theorem dcq_6 : ∀ y ∈ [yMd_textOf, yMd_thrown, yMd_total, yMd_walk, yMd_within, yMd_write, yLw_alter, yLw_check, yLw_contents, yLw_fill, yLw_law, yLw_make, yLw_node, yLw_part, yLw_remove, yLw_rename, yLw_set, yLw_size, yLw_total, yLw_write, yAr_copyOf], dcP y := List.forall_mem_cons.mpr ⟨dc_126, List.forall_mem_cons.mpr ⟨dc_127, List.forall_mem_cons.mpr ⟨dc_128, List.forall_mem_cons.mpr ⟨dc_129, List.forall_mem_cons.mpr ⟨dc_130, List.forall_mem_cons.mpr ⟨dc_131, List.forall_mem_cons.mpr ⟨dc_132, List.forall_mem_cons.mpr ⟨dc_133, List.forall_mem_cons.mpr ⟨dc_134, List.forall_mem_cons.mpr ⟨dc_135, List.forall_mem_cons.mpr ⟨dc_136, List.forall_mem_cons.mpr ⟨dc_137, List.forall_mem_cons.mpr ⟨dc_138, List.forall_mem_cons.mpr ⟨dc_139, List.forall_mem_cons.mpr ⟨dc_140, List.forall_mem_cons.mpr ⟨dc_141, List.forall_mem_cons.mpr ⟨dc_142, List.forall_mem_cons.mpr ⟨dc_143, List.forall_mem_cons.mpr ⟨dc_144, List.forall_mem_cons.mpr ⟨dc_145, List.forall_mem_cons.mpr ⟨dc_146, fun _ h => absurd h List.not_mem_nil⟩⟩⟩⟩⟩⟩⟩⟩⟩⟩⟩⟩⟩⟩⟩⟩⟩⟩⟩⟩⟩
theorem dc_all : ∀ y ∈ allY, dcP y := by
  show ∀ y ∈ [yNd_init, yNd_begin, yNd_contentsLength, yRd_init, yRd_addText, yRd_faultOfContents, yRd_faultOfEntry, yRd_isMarked, yRd_takeEntry, yRd_takeKind, yRd_takeNumbers, yRd_takePath, yRd_takeTarget, yRd_takeTree, yRw_init, yRw_addLetters, yRw_at, yRw_copySlice, yRw_isNameOfAnyLength, yRw_isSlice, yRw_isTarget] ++ ([yRw_lastSlash, yRw_order, yRw_put, yRw_putAll, yRw_resize, yTp_init, yTp_blocksOf, yTp_hasCheck, yTp_hasMark, yTp_isBlockOfZeros, yTp_isZeros, yTp_octal, yTp_putCheck, yTp_putMark, yTp_putOctal, yTp_sum, yTp_wholeBlocks, yTr_init, yTr_add, yTr_childNamed, yTr_clear] ++ ([yTr_closeGaps, yTr_comesBehind, yTr_drop, yTr_follower, yTr_has, yTr_isGone, yTr_isOfKind, yTr_longestPath, yTr_lookUp, yTr_newNumber, yTr_nextChild, yTr_pathLength, yTr_spellPath, yTt_kindOf, yTt_typeOf, yWr_init, yWr_blocksFor, yWr_cutOfPath, yWr_isTellable, yWr_putContents, yWr_putEntries] ++ ([yWr_putHeader, yWr_putPath, yWr_putTree, yTY_init, yTY_alter, yTY_check, yTY_contents, yTY_fill, yTY_hand, yTY_known, yTY_make, yTY_node, yTY_part, yTY_place, yTY_read, yTY_refuseName, yTY_remove, yTY_rename, yTY_set, yTY_size, yTY_total] ++ ([yTY_write, yMd_init, yMd_add, yMd_alter, yMd_arrange, yMd_blocksOf, yMd_check, yMd_clear, yMd_compare, yMd_contents, yMd_copyIn, yMd_count, yMd_cutOf, yMd_entry, yMd_fails, yMd_fill, yMd_find, yMd_firstFault, yMd_hand, yMd_head, yMd_isCalled] ++ ([yMd_isLetter, yMd_isName, yMd_isNode, yMd_isZero, yMd_make, yMd_markOf, yMd_move, yMd_next, yMd_node, yMd_number, yMd_octal, yMd_part, yMd_place, yMd_read, yMd_remove, yMd_rename, yMd_set, yMd_size, yMd_spell, yMd_sum, yMd_tell] ++ ([yMd_textOf, yMd_thrown, yMd_total, yMd_walk, yMd_within, yMd_write, yLw_alter, yLw_check, yLw_contents, yLw_fill, yLw_law, yLw_make, yLw_node, yLw_part, yLw_remove, yLw_rename, yLw_set, yLw_size, yLw_total, yLw_write, yAr_copyOf])))))), dcP y
  exact List.forall_mem_append.mpr ⟨dcq_0, List.forall_mem_append.mpr ⟨dcq_1, List.forall_mem_append.mpr ⟨dcq_2, List.forall_mem_append.mpr ⟨dcq_3, List.forall_mem_append.mpr ⟨dcq_4, List.forall_mem_append.mpr ⟨dcq_5, dcq_6⟩⟩⟩⟩⟩⟩
end
section
/-! Facts of the tables, 2: the places of the words of each method. -/
/-- of each method: 0 virtual, 1 constructor, 2 static, 3 the law, 4 static with handlers; the places of code, of static or instanceMethod, of selects, of initialized; parameters -/
def mfl : List (Nat × Nat × Nat × Nat × Nat × Nat) := [(1, 191, 190, 0, 55, 0), (0, 296, 294, 295, 55, 3), (0, 693, 691, 692, 55, 0), (1, 130, 129, 0, 53, 1), (0, 391, 390, 5, 53, 3), (0, 442, 441, 7, 53, 1), (0, 340, 339, 0, 53, 1), (0, 359, 358, 1, 53, 0), (0, 449, 448, 8, 53, 1), (0, 378, 377, 3, 53, 0), (0, 370, 369, 2, 53, 0), (0, 386, 385, 4, 53, 1), (0, 433, 432, 6, 53, 1), (0, 288, 286, 287, 53, 1), (1, 85, 84, 0, 51, 0), (0, 400, 398, 399, 51, 2), (0, 336, 334, 335, 51, 1), (0, 457, 455, 456, 51, 3), (0, 424, 422, 423, 51, 2), (0, 420, 418, 419, 51, 3), (0, 437, 435, 436, 51, 0), (0, 406, 404, 405, 51, 1), (0, 735, 733, 734, 51, 1), (0, 395, 393, 394, 51, 2), (0, 683, 681, 682, 51, 2), (0, 300, 298, 299, 51, 1), (1, 79, 78, 0, 50, 0), (2, 445, 444, 0, 50, 1), (0, 345, 343, 344, 50, 1), (0, 363, 361, 362, 50, 1), (0, 324, 322, 323, 50, 1), (0, 332, 330, 331, 50, 2), (0, 349, 347, 348, 50, 2), (0, 763, 761, 762, 50, 1), (0, 759, 757, 758, 50, 1), (0, 750, 748, 749, 50, 3), (0, 355, 353, 354, 50, 1), (0, 328, 326, 327, 50, 0), (1, 184, 183, 0, 54, 0), (0, 453, 451, 452, 54, 6), (0, 416, 414, 415, 54, 4), (0, 292, 290, 291, 54, 0), (0, 651, 650, 14, 54, 0), (0, 731, 730, 19, 54, 2), (0, 638, 636, 637, 54, 1), (0, 723, 721, 722, 54, 1), (0, 461, 459, 460, 54, 1), (0, 642, 641, 12, 54, 1), (0, 428, 426, 427, 54, 2), (0, 821, 819, 820, 54, 0), (0, 411, 409, 410, 54, 2), (0, 647, 646, 13, 54, 1), (0, 727, 726, 18, 54, 2), (0, 671, 669, 670, 54, 1), (0, 676, 674, 675, 54, 2), (2, 382, 381, 0, 66, 1), (2, 754, 753, 0, 66, 1), (1, 112, 111, 0, 52, 1), (0, 663, 661, 662, 52, 1), (0, 687, 686, 16, 52, 0), (0, 667, 666, 15, 52, 2), (0, 768, 767, 22, 52, 1), (0, 719, 718, 17, 52, 2), (0, 741, 740, 20, 52, 2), (0, 745, 744, 21, 52, 1), (0, 714, 712, 713, 52, 2), (1, 71, 70, 0, 49, 0), (0, 775, 773, 774, 49, 2), (0, 783, 781, 782, 49, 1), (0, 614, 612, 613, 49, 3), (0, 602, 600, 601, 49, 3), (0, 470, 468, 469, 49, 1), (0, 589, 588, 11, 49, 1), (0, 480, 478, 479, 49, 5), (0, 801, 799, 800, 49, 2), (0, 809, 807, 808, 49, 3), (0, 466, 464, 465, 49, 0), (0, 284, 282, 283, 49, 0), (0, 556, 555, 10, 49, 1), (0, 633, 631, 632, 49, 1), (0, 585, 583, 584, 49, 3), (0, 624, 622, 623, 49, 4), (0, 793, 791, 792, 49, 1), (0, 817, 815, 816, 49, 1), (0, 659, 657, 658, 49, 0), (1, 828, 827, 0, 56, 0), (0, 962, 961, 30, 56, 6), (0, 1076, 1074, 1075, 56, 2), (0, 995, 994, 32, 56, 0), (0, 1007, 1006, 35, 56, 1), (0, 1080, 1078, 1079, 56, 1), (0, 834, 833, 23, 56, 1), (0, 1003, 1002, 34, 56, 2), (0, 974, 972, 973, 56, 3), (0, 1063, 1062, 46, 56, 2), (0, 935, 934, 25, 56, 0), (0, 1015, 1014, 37, 56, 0), (0, 1044, 1043, 42, 56, 2), (0, 958, 957, 29, 56, 2), (0, 970, 968, 969, 56, 3), (0, 950, 949, 27, 56, 5), (0, 1048, 1047, 43, 56, 1), (0, 1088, 1086, 1087, 56, 1), (0, 1019, 1018, 38, 56, 2), (0, 954, 953, 28, 56, 4), (2, 943, 942, 0, 56, 1), (2, 946, 945, 0, 56, 3), (0, 931, 930, 24, 56, 1), (0, 1040, 1039, 41, 56, 2), (0, 924, 922, 923, 56, 5), (2, 1028, 1027, 0, 56, 1), (0, 987, 986, 31, 56, 2), (0, 999, 998, 33, 56, 2), (0, 1092, 1090, 1091, 56, 2), (0, 1052, 1051, 44, 56, 2), (0, 1023, 1022, 39, 56, 3), (0, 1096, 1094, 1095, 56, 3), (0, 1072, 1070, 1071, 56, 0), (0, 1036, 1034, 1035, 56, 0), (0, 983, 981, 982, 56, 1), (0, 966, 964, 965, 56, 3), (0, 978, 976, 977, 56, 4), (0, 1084, 1082, 1083, 56, 1), (0, 939, 938, 26, 56, 2), (0, 1032, 1031, 40, 56, 1), (0, 1011, 1010, 36, 56, 1), (0, 1059, 1058, 45, 56, 2), (0, 920, 918, 919, 56, 0), (0, 1100, 1098, 1099, 56, 1), (0, 1067, 1066, 47, 56, 2), (2, 927, 926, 0, 56, 3), (0, 991, 989, 990, 56, 0), (4, 771, 770, 0, 48, 4), (4, 779, 778, 0, 48, 3), (4, 610, 609, 0, 48, 4), (4, 598, 597, 0, 48, 5), (3, 0, 0, 0, 0, 1), (4, 474, 473, 0, 48, 7), (4, 797, 796, 0, 48, 4), (4, 805, 804, 0, 48, 5), (4, 629, 628, 0, 48, 3), (4, 581, 580, 0, 48, 5), (4, 620, 619, 0, 48, 5), (4, 789, 788, 0, 48, 2), (4, 813, 812, 0, 48, 3), (4, 654, 653, 0, 48, 2), (2, 309, 308, 0, 62, 2)]
def mf (y : AY) : Nat × Nat × Nat × Nat × Nat × Nat := mfl.getD y.1 (9, 0, 0, 0, 0, 0)
def mfP (y : AY) : Prop := (nm y).cls = cNm y.2.1 ∧ plainName (nm y).cls = true ∧ ((nm y).cls ≠ "java/lang/invoke/MethodHandle" ∧ (nm y).cls ≠ "java/lang/invoke/VarHandle") ∧ (parseMethodDescriptor (nm y).desc).map (fun d => d.parameters.length) = some (mf y).2.2.2.2.2 ∧ ((nm y).name = "<init>" ↔ y.2.2.2.2.2 = true) ∧ (parseMethodDescriptor (nm y).desc).map (fun d => d.returnType) = some y.2.2.2.2.1 ∧
  ((mf y).1 = 0 ∨ (mf y).1 = 1 ∨ (mf y).1 = 2 → lw_tbl[(mf y).2.1]? = some (.code (nm y) (bt y) y.2.2.2.1 y.2.2.2.2.1)) ∧
  ((mf y).1 = 0 ∨ (mf y).1 = 1 → lw_tbl[(mf y).2.2.1]? = some (.instanceMethod (nm y))) ∧ ((mf y).1 = 2 ∨ (mf y).1 = 4 → lw_tbl[(mf y).2.2.1]? = some (.static (nm y))) ∧
  ((mf y).1 = 0 → lw_tbl[(mf y).2.2.2.1]? = some (.selects (nm y).cls (nm y) (nm y))) ∧ ((mf y).1 ≠ 3 → lw_tbl[(mf y).2.2.2.2.1]? = some (.initialized (nm y).cls))
set_option maxRecDepth 100000 in
theorem mf_0 : mfP yNd_init := ⟨rfl, by decide +kernel, by decide +kernel, by decide +kernel, by decide +kernel, by decide +kernel, (fun _ => rfl), (fun _ => rfl), (fun h => absurd h (by decide)), (fun h => absurd h (by decide)), (fun _ => rfl)⟩
set_option maxRecDepth 100000 in
theorem mf_1 : mfP yNd_begin := ⟨rfl, by decide +kernel, by decide +kernel, by decide +kernel, by decide +kernel, by decide +kernel, (fun _ => rfl), (fun _ => rfl), (fun h => absurd h (by decide)), (fun _ => rfl), (fun _ => rfl)⟩
set_option maxRecDepth 100000 in
theorem mf_2 : mfP yNd_contentsLength := ⟨rfl, by decide +kernel, by decide +kernel, by decide +kernel, by decide +kernel, by decide +kernel, (fun _ => rfl), (fun _ => rfl), (fun h => absurd h (by decide)), (fun _ => rfl), (fun _ => rfl)⟩
set_option maxRecDepth 100000 in
theorem mf_3 : mfP yRd_init := ⟨rfl, by decide +kernel, by decide +kernel, by decide +kernel, by decide +kernel, by decide +kernel, (fun _ => rfl), (fun _ => rfl), (fun h => absurd h (by decide)), (fun h => absurd h (by decide)), (fun _ => rfl)⟩
set_option maxRecDepth 100000 in
theorem mf_4 : mfP yRd_addText := ⟨rfl, by decide +kernel, by decide +kernel, by decide +kernel, by decide +kernel, by decide +kernel, (fun _ => rfl), (fun _ => rfl), (fun h => absurd h (by decide)), (fun _ => rfl), (fun _ => rfl)⟩
set_option maxRecDepth 100000 in
theorem mf_5 : mfP yRd_faultOfContents := ⟨rfl, by decide +kernel, by decide +kernel, by decide +kernel, by decide +kernel, by decide +kernel, (fun _ => rfl), (fun _ => rfl), (fun h => absurd h (by decide)), (fun _ => rfl), (fun _ => rfl)⟩
set_option maxRecDepth 100000 in
theorem mf_6 : mfP yRd_faultOfEntry := ⟨rfl, by decide +kernel, by decide +kernel, by decide +kernel, by decide +kernel, by decide +kernel, (fun _ => rfl), (fun _ => rfl), (fun h => absurd h (by decide)), (fun _ => rfl), (fun _ => rfl)⟩
set_option maxRecDepth 100000 in
theorem mf_7 : mfP yRd_isMarked := ⟨rfl, by decide +kernel, by decide +kernel, by decide +kernel, by decide +kernel, by decide +kernel, (fun _ => rfl), (fun _ => rfl), (fun h => absurd h (by decide)), (fun _ => rfl), (fun _ => rfl)⟩
set_option maxRecDepth 100000 in
theorem mf_8 : mfP yRd_takeEntry := ⟨rfl, by decide +kernel, by decide +kernel, by decide +kernel, by decide +kernel, by decide +kernel, (fun _ => rfl), (fun _ => rfl), (fun h => absurd h (by decide)), (fun _ => rfl), (fun _ => rfl)⟩
set_option maxRecDepth 100000 in
theorem mf_9 : mfP yRd_takeKind := ⟨rfl, by decide +kernel, by decide +kernel, by decide +kernel, by decide +kernel, by decide +kernel, (fun _ => rfl), (fun _ => rfl), (fun h => absurd h (by decide)), (fun _ => rfl), (fun _ => rfl)⟩
set_option maxRecDepth 100000 in
theorem mf_10 : mfP yRd_takeNumbers := ⟨rfl, by decide +kernel, by decide +kernel, by decide +kernel, by decide +kernel, by decide +kernel, (fun _ => rfl), (fun _ => rfl), (fun h => absurd h (by decide)), (fun _ => rfl), (fun _ => rfl)⟩
set_option maxRecDepth 100000 in
theorem mf_11 : mfP yRd_takePath := ⟨rfl, by decide +kernel, by decide +kernel, by decide +kernel, by decide +kernel, by decide +kernel, (fun _ => rfl), (fun _ => rfl), (fun h => absurd h (by decide)), (fun _ => rfl), (fun _ => rfl)⟩
set_option maxRecDepth 100000 in
theorem mf_12 : mfP yRd_takeTarget := ⟨rfl, by decide +kernel, by decide +kernel, by decide +kernel, by decide +kernel, by decide +kernel, (fun _ => rfl), (fun _ => rfl), (fun h => absurd h (by decide)), (fun _ => rfl), (fun _ => rfl)⟩
set_option maxRecDepth 100000 in
theorem mf_13 : mfP yRd_takeTree := ⟨rfl, by decide +kernel, by decide +kernel, by decide +kernel, by decide +kernel, by decide +kernel, (fun _ => rfl), (fun _ => rfl), (fun h => absurd h (by decide)), (fun _ => rfl), (fun _ => rfl)⟩
set_option maxRecDepth 100000 in
theorem mf_14 : mfP yRw_init := ⟨rfl, by decide +kernel, by decide +kernel, by decide +kernel, by decide +kernel, by decide +kernel, (fun _ => rfl), (fun _ => rfl), (fun h => absurd h (by decide)), (fun h => absurd h (by decide)), (fun _ => rfl)⟩
set_option maxRecDepth 100000 in
theorem mf_15 : mfP yRw_addLetters := ⟨rfl, by decide +kernel, by decide +kernel, by decide +kernel, by decide +kernel, by decide +kernel, (fun _ => rfl), (fun _ => rfl), (fun h => absurd h (by decide)), (fun _ => rfl), (fun _ => rfl)⟩
set_option maxRecDepth 100000 in
theorem mf_16 : mfP yRw_at := ⟨rfl, by decide +kernel, by decide +kernel, by decide +kernel, by decide +kernel, by decide +kernel, (fun _ => rfl), (fun _ => rfl), (fun h => absurd h (by decide)), (fun _ => rfl), (fun _ => rfl)⟩
set_option maxRecDepth 100000 in
theorem mf_17 : mfP yRw_copySlice := ⟨rfl, by decide +kernel, by decide +kernel, by decide +kernel, by decide +kernel, by decide +kernel, (fun _ => rfl), (fun _ => rfl), (fun h => absurd h (by decide)), (fun _ => rfl), (fun _ => rfl)⟩
set_option maxRecDepth 100000 in
theorem mf_18 : mfP yRw_isNameOfAnyLength := ⟨rfl, by decide +kernel, by decide +kernel, by decide +kernel, by decide +kernel, by decide +kernel, (fun _ => rfl), (fun _ => rfl), (fun h => absurd h (by decide)), (fun _ => rfl), (fun _ => rfl)⟩
set_option maxRecDepth 100000 in
theorem mf_19 : mfP yRw_isSlice := ⟨rfl, by decide +kernel, by decide +kernel, by decide +kernel, by decide +kernel, by decide +kernel, (fun _ => rfl), (fun _ => rfl), (fun h => absurd h (by decide)), (fun _ => rfl), (fun _ => rfl)⟩
set_option maxRecDepth 100000 in
theorem mf_20 : mfP yRw_isTarget := ⟨rfl, by decide +kernel, by decide +kernel, by decide +kernel, by decide +kernel, by decide +kernel, (fun _ => rfl), (fun _ => rfl), (fun h => absurd h (by decide)), (fun _ => rfl), (fun _ => rfl)⟩
set_option maxRecDepth 100000 in
theorem mf_21 : mfP yRw_lastSlash := ⟨rfl, by decide +kernel, by decide +kernel, by decide +kernel, by decide +kernel, by decide +kernel, (fun _ => rfl), (fun _ => rfl), (fun h => absurd h (by decide)), (fun _ => rfl), (fun _ => rfl)⟩
set_option maxRecDepth 100000 in
theorem mf_22 : mfP yRw_order := ⟨rfl, by decide +kernel, by decide +kernel, by decide +kernel, by decide +kernel, by decide +kernel, (fun _ => rfl), (fun _ => rfl), (fun h => absurd h (by decide)), (fun _ => rfl), (fun _ => rfl)⟩
set_option maxRecDepth 100000 in
theorem mf_23 : mfP yRw_put := ⟨rfl, by decide +kernel, by decide +kernel, by decide +kernel, by decide +kernel, by decide +kernel, (fun _ => rfl), (fun _ => rfl), (fun h => absurd h (by decide)), (fun _ => rfl), (fun _ => rfl)⟩
set_option maxRecDepth 100000 in
theorem mf_24 : mfP yRw_putAll := ⟨rfl, by decide +kernel, by decide +kernel, by decide +kernel, by decide +kernel, by decide +kernel, (fun _ => rfl), (fun _ => rfl), (fun h => absurd h (by decide)), (fun _ => rfl), (fun _ => rfl)⟩
set_option maxRecDepth 100000 in
theorem mf_25 : mfP yRw_resize := ⟨rfl, by decide +kernel, by decide +kernel, by decide +kernel, by decide +kernel, by decide +kernel, (fun _ => rfl), (fun _ => rfl), (fun h => absurd h (by decide)), (fun _ => rfl), (fun _ => rfl)⟩
set_option maxRecDepth 100000 in
theorem mf_26 : mfP yTp_init := ⟨rfl, by decide +kernel, by decide +kernel, by decide +kernel, by decide +kernel, by decide +kernel, (fun _ => rfl), (fun _ => rfl), (fun h => absurd h (by decide)), (fun h => absurd h (by decide)), (fun _ => rfl)⟩
set_option maxRecDepth 100000 in
theorem mf_27 : mfP yTp_blocksOf := ⟨rfl, by decide +kernel, by decide +kernel, by decide +kernel, by decide +kernel, by decide +kernel, (fun _ => rfl), (fun h => absurd h (by decide)), (fun _ => rfl), (fun h => absurd h (by decide)), (fun _ => rfl)⟩
set_option maxRecDepth 100000 in
theorem mf_28 : mfP yTp_hasCheck := ⟨rfl, by decide +kernel, by decide +kernel, by decide +kernel, by decide +kernel, by decide +kernel, (fun _ => rfl), (fun _ => rfl), (fun h => absurd h (by decide)), (fun _ => rfl), (fun _ => rfl)⟩
set_option maxRecDepth 100000 in
theorem mf_29 : mfP yTp_hasMark := ⟨rfl, by decide +kernel, by decide +kernel, by decide +kernel, by decide +kernel, by decide +kernel, (fun _ => rfl), (fun _ => rfl), (fun h => absurd h (by decide)), (fun _ => rfl), (fun _ => rfl)⟩
set_option maxRecDepth 100000 in
theorem mf_30 : mfP yTp_isBlockOfZeros := ⟨rfl, by decide +kernel, by decide +kernel, by decide +kernel, by decide +kernel, by decide +kernel, (fun _ => rfl), (fun _ => rfl), (fun h => absurd h (by decide)), (fun _ => rfl), (fun _ => rfl)⟩
set_option maxRecDepth 100000 in
theorem mf_31 : mfP yTp_isZeros := ⟨rfl, by decide +kernel, by decide +kernel, by decide +kernel, by decide +kernel, by decide +kernel, (fun _ => rfl), (fun _ => rfl), (fun h => absurd h (by decide)), (fun _ => rfl), (fun _ => rfl)⟩
set_option maxRecDepth 100000 in
theorem mf_32 : mfP yTp_octal := ⟨rfl, by decide +kernel, by decide +kernel, by decide +kernel, by decide +kernel, by decide +kernel, (fun _ => rfl), (fun _ => rfl), (fun h => absurd h (by decide)), (fun _ => rfl), (fun _ => rfl)⟩
set_option maxRecDepth 100000 in
theorem mf_33 : mfP yTp_putCheck := ⟨rfl, by decide +kernel, by decide +kernel, by decide +kernel, by decide +kernel, by decide +kernel, (fun _ => rfl), (fun _ => rfl), (fun h => absurd h (by decide)), (fun _ => rfl), (fun _ => rfl)⟩
set_option maxRecDepth 100000 in
theorem mf_34 : mfP yTp_putMark := ⟨rfl, by decide +kernel, by decide +kernel, by decide +kernel, by decide +kernel, by decide +kernel, (fun _ => rfl), (fun _ => rfl), (fun h => absurd h (by decide)), (fun _ => rfl), (fun _ => rfl)⟩
set_option maxRecDepth 100000 in
theorem mf_35 : mfP yTp_putOctal := ⟨rfl, by decide +kernel, by decide +kernel, by decide +kernel, by decide +kernel, by decide +kernel, (fun _ => rfl), (fun _ => rfl), (fun h => absurd h (by decide)), (fun _ => rfl), (fun _ => rfl)⟩
set_option maxRecDepth 100000 in
theorem mf_36 : mfP yTp_sum := ⟨rfl, by decide +kernel, by decide +kernel, by decide +kernel, by decide +kernel, by decide +kernel, (fun _ => rfl), (fun _ => rfl), (fun h => absurd h (by decide)), (fun _ => rfl), (fun _ => rfl)⟩
set_option maxRecDepth 100000 in
theorem mf_37 : mfP yTp_wholeBlocks := ⟨rfl, by decide +kernel, by decide +kernel, by decide +kernel, by decide +kernel, by decide +kernel, (fun _ => rfl), (fun _ => rfl), (fun h => absurd h (by decide)), (fun _ => rfl), (fun _ => rfl)⟩
set_option maxRecDepth 100000 in
theorem mf_38 : mfP yTr_init := ⟨rfl, by decide +kernel, by decide +kernel, by decide +kernel, by decide +kernel, by decide +kernel, (fun _ => rfl), (fun _ => rfl), (fun h => absurd h (by decide)), (fun h => absurd h (by decide)), (fun _ => rfl)⟩
set_option maxRecDepth 100000 in
theorem mf_39 : mfP yTr_add := ⟨rfl, by decide +kernel, by decide +kernel, by decide +kernel, by decide +kernel, by decide +kernel, (fun _ => rfl), (fun _ => rfl), (fun h => absurd h (by decide)), (fun _ => rfl), (fun _ => rfl)⟩
set_option maxRecDepth 100000 in
theorem mf_40 : mfP yTr_childNamed := ⟨rfl, by decide +kernel, by decide +kernel, by decide +kernel, by decide +kernel, by decide +kernel, (fun _ => rfl), (fun _ => rfl), (fun h => absurd h (by decide)), (fun _ => rfl), (fun _ => rfl)⟩
set_option maxRecDepth 100000 in
theorem mf_41 : mfP yTr_clear := ⟨rfl, by decide +kernel, by decide +kernel, by decide +kernel, by decide +kernel, by decide +kernel, (fun _ => rfl), (fun _ => rfl), (fun h => absurd h (by decide)), (fun _ => rfl), (fun _ => rfl)⟩
set_option maxRecDepth 100000 in
theorem mf_42 : mfP yTr_closeGaps := ⟨rfl, by decide +kernel, by decide +kernel, by decide +kernel, by decide +kernel, by decide +kernel, (fun _ => rfl), (fun _ => rfl), (fun h => absurd h (by decide)), (fun _ => rfl), (fun _ => rfl)⟩
set_option maxRecDepth 100000 in
theorem mf_43 : mfP yTr_comesBehind := ⟨rfl, by decide +kernel, by decide +kernel, by decide +kernel, by decide +kernel, by decide +kernel, (fun _ => rfl), (fun _ => rfl), (fun h => absurd h (by decide)), (fun _ => rfl), (fun _ => rfl)⟩
set_option maxRecDepth 100000 in
theorem mf_44 : mfP yTr_drop := ⟨rfl, by decide +kernel, by decide +kernel, by decide +kernel, by decide +kernel, by decide +kernel, (fun _ => rfl), (fun _ => rfl), (fun h => absurd h (by decide)), (fun _ => rfl), (fun _ => rfl)⟩
set_option maxRecDepth 100000 in
theorem mf_45 : mfP yTr_follower := ⟨rfl, by decide +kernel, by decide +kernel, by decide +kernel, by decide +kernel, by decide +kernel, (fun _ => rfl), (fun _ => rfl), (fun h => absurd h (by decide)), (fun _ => rfl), (fun _ => rfl)⟩
set_option maxRecDepth 100000 in
theorem mf_46 : mfP yTr_has := ⟨rfl, by decide +kernel, by decide +kernel, by decide +kernel, by decide +kernel, by decide +kernel, (fun _ => rfl), (fun _ => rfl), (fun h => absurd h (by decide)), (fun _ => rfl), (fun _ => rfl)⟩
set_option maxRecDepth 100000 in
theorem mf_47 : mfP yTr_isGone := ⟨rfl, by decide +kernel, by decide +kernel, by decide +kernel, by decide +kernel, by decide +kernel, (fun _ => rfl), (fun _ => rfl), (fun h => absurd h (by decide)), (fun _ => rfl), (fun _ => rfl)⟩
set_option maxRecDepth 100000 in
theorem mf_48 : mfP yTr_isOfKind := ⟨rfl, by decide +kernel, by decide +kernel, by decide +kernel, by decide +kernel, by decide +kernel, (fun _ => rfl), (fun _ => rfl), (fun h => absurd h (by decide)), (fun _ => rfl), (fun _ => rfl)⟩
set_option maxRecDepth 100000 in
theorem mf_49 : mfP yTr_longestPath := ⟨rfl, by decide +kernel, by decide +kernel, by decide +kernel, by decide +kernel, by decide +kernel, (fun _ => rfl), (fun _ => rfl), (fun h => absurd h (by decide)), (fun _ => rfl), (fun _ => rfl)⟩
set_option maxRecDepth 100000 in
theorem mf_50 : mfP yTr_lookUp := ⟨rfl, by decide +kernel, by decide +kernel, by decide +kernel, by decide +kernel, by decide +kernel, (fun _ => rfl), (fun _ => rfl), (fun h => absurd h (by decide)), (fun _ => rfl), (fun _ => rfl)⟩
set_option maxRecDepth 100000 in
theorem mf_51 : mfP yTr_newNumber := ⟨rfl, by decide +kernel, by decide +kernel, by decide +kernel, by decide +kernel, by decide +kernel, (fun _ => rfl), (fun _ => rfl), (fun h => absurd h (by decide)), (fun _ => rfl), (fun _ => rfl)⟩
set_option maxRecDepth 100000 in
theorem mf_52 : mfP yTr_nextChild := ⟨rfl, by decide +kernel, by decide +kernel, by decide +kernel, by decide +kernel, by decide +kernel, (fun _ => rfl), (fun _ => rfl), (fun h => absurd h (by decide)), (fun _ => rfl), (fun _ => rfl)⟩
set_option maxRecDepth 100000 in
theorem mf_53 : mfP yTr_pathLength := ⟨rfl, by decide +kernel, by decide +kernel, by decide +kernel, by decide +kernel, by decide +kernel, (fun _ => rfl), (fun _ => rfl), (fun h => absurd h (by decide)), (fun _ => rfl), (fun _ => rfl)⟩
set_option maxRecDepth 100000 in
theorem mf_54 : mfP yTr_spellPath := ⟨rfl, by decide +kernel, by decide +kernel, by decide +kernel, by decide +kernel, by decide +kernel, (fun _ => rfl), (fun _ => rfl), (fun h => absurd h (by decide)), (fun _ => rfl), (fun _ => rfl)⟩
set_option maxRecDepth 100000 in
theorem mf_55 : mfP yTt_kindOf := ⟨rfl, by decide +kernel, by decide +kernel, by decide +kernel, by decide +kernel, by decide +kernel, (fun _ => rfl), (fun h => absurd h (by decide)), (fun _ => rfl), (fun h => absurd h (by decide)), (fun _ => rfl)⟩
set_option maxRecDepth 100000 in
theorem mf_56 : mfP yTt_typeOf := ⟨rfl, by decide +kernel, by decide +kernel, by decide +kernel, by decide +kernel, by decide +kernel, (fun _ => rfl), (fun h => absurd h (by decide)), (fun _ => rfl), (fun h => absurd h (by decide)), (fun _ => rfl)⟩
set_option maxRecDepth 100000 in
theorem mf_57 : mfP yWr_init := ⟨rfl, by decide +kernel, by decide +kernel, by decide +kernel, by decide +kernel, by decide +kernel, (fun _ => rfl), (fun _ => rfl), (fun h => absurd h (by decide)), (fun h => absurd h (by decide)), (fun _ => rfl)⟩
set_option maxRecDepth 100000 in
theorem mf_58 : mfP yWr_blocksFor := ⟨rfl, by decide +kernel, by decide +kernel, by decide +kernel, by decide +kernel, by decide +kernel, (fun _ => rfl), (fun _ => rfl), (fun h => absurd h (by decide)), (fun _ => rfl), (fun _ => rfl)⟩
set_option maxRecDepth 100000 in
theorem mf_59 : mfP yWr_cutOfPath := ⟨rfl, by decide +kernel, by decide +kernel, by decide +kernel, by decide +kernel, by decide +kernel, (fun _ => rfl), (fun _ => rfl), (fun h => absurd h (by decide)), (fun _ => rfl), (fun _ => rfl)⟩
set_option maxRecDepth 100000 in
theorem mf_60 : mfP yWr_isTellable := ⟨rfl, by decide +kernel, by decide +kernel, by decide +kernel, by decide +kernel, by decide +kernel, (fun _ => rfl), (fun _ => rfl), (fun h => absurd h (by decide)), (fun _ => rfl), (fun _ => rfl)⟩
set_option maxRecDepth 100000 in
theorem mf_61 : mfP yWr_putContents := ⟨rfl, by decide +kernel, by decide +kernel, by decide +kernel, by decide +kernel, by decide +kernel, (fun _ => rfl), (fun _ => rfl), (fun h => absurd h (by decide)), (fun _ => rfl), (fun _ => rfl)⟩
set_option maxRecDepth 100000 in
theorem mf_62 : mfP yWr_putEntries := ⟨rfl, by decide +kernel, by decide +kernel, by decide +kernel, by decide +kernel, by decide +kernel, (fun _ => rfl), (fun _ => rfl), (fun h => absurd h (by decide)), (fun _ => rfl), (fun _ => rfl)⟩
set_option maxRecDepth 100000 in
theorem mf_63 : mfP yWr_putHeader := ⟨rfl, by decide +kernel, by decide +kernel, by decide +kernel, by decide +kernel, by decide +kernel, (fun _ => rfl), (fun _ => rfl), (fun h => absurd h (by decide)), (fun _ => rfl), (fun _ => rfl)⟩
set_option maxRecDepth 100000 in
theorem mf_64 : mfP yWr_putPath := ⟨rfl, by decide +kernel, by decide +kernel, by decide +kernel, by decide +kernel, by decide +kernel, (fun _ => rfl), (fun _ => rfl), (fun h => absurd h (by decide)), (fun _ => rfl), (fun _ => rfl)⟩
set_option maxRecDepth 100000 in
theorem mf_65 : mfP yWr_putTree := ⟨rfl, by decide +kernel, by decide +kernel, by decide +kernel, by decide +kernel, by decide +kernel, (fun _ => rfl), (fun _ => rfl), (fun h => absurd h (by decide)), (fun _ => rfl), (fun _ => rfl)⟩
set_option maxRecDepth 100000 in
theorem mf_66 : mfP yTY_init := ⟨rfl, by decide +kernel, by decide +kernel, by decide +kernel, by decide +kernel, by decide +kernel, (fun _ => rfl), (fun _ => rfl), (fun h => absurd h (by decide)), (fun h => absurd h (by decide)), (fun _ => rfl)⟩
set_option maxRecDepth 100000 in
theorem mf_67 : mfP yTY_alter := ⟨rfl, by decide +kernel, by decide +kernel, by decide +kernel, by decide +kernel, by decide +kernel, (fun _ => rfl), (fun _ => rfl), (fun h => absurd h (by decide)), (fun _ => rfl), (fun _ => rfl)⟩
set_option maxRecDepth 100000 in
theorem mf_68 : mfP yTY_check := ⟨rfl, by decide +kernel, by decide +kernel, by decide +kernel, by decide +kernel, by decide +kernel, (fun _ => rfl), (fun _ => rfl), (fun h => absurd h (by decide)), (fun _ => rfl), (fun _ => rfl)⟩
set_option maxRecDepth 100000 in
theorem mf_69 : mfP yTY_contents := ⟨rfl, by decide +kernel, by decide +kernel, by decide +kernel, by decide +kernel, by decide +kernel, (fun _ => rfl), (fun _ => rfl), (fun h => absurd h (by decide)), (fun _ => rfl), (fun _ => rfl)⟩
set_option maxRecDepth 100000 in
theorem mf_70 : mfP yTY_fill := ⟨rfl, by decide +kernel, by decide +kernel, by decide +kernel, by decide +kernel, by decide +kernel, (fun _ => rfl), (fun _ => rfl), (fun h => absurd h (by decide)), (fun _ => rfl), (fun _ => rfl)⟩
set_option maxRecDepth 100000 in
theorem mf_71 : mfP yTY_hand := ⟨rfl, by decide +kernel, by decide +kernel, by decide +kernel, by decide +kernel, by decide +kernel, (fun _ => rfl), (fun _ => rfl), (fun h => absurd h (by decide)), (fun _ => rfl), (fun _ => rfl)⟩
set_option maxRecDepth 100000 in
theorem mf_72 : mfP yTY_known := ⟨rfl, by decide +kernel, by decide +kernel, by decide +kernel, by decide +kernel, by decide +kernel, (fun _ => rfl), (fun _ => rfl), (fun h => absurd h (by decide)), (fun _ => rfl), (fun _ => rfl)⟩
set_option maxRecDepth 100000 in
theorem mf_73 : mfP yTY_make := ⟨rfl, by decide +kernel, by decide +kernel, by decide +kernel, by decide +kernel, by decide +kernel, (fun _ => rfl), (fun _ => rfl), (fun h => absurd h (by decide)), (fun _ => rfl), (fun _ => rfl)⟩
set_option maxRecDepth 100000 in
theorem mf_74 : mfP yTY_node := ⟨rfl, by decide +kernel, by decide +kernel, by decide +kernel, by decide +kernel, by decide +kernel, (fun _ => rfl), (fun _ => rfl), (fun h => absurd h (by decide)), (fun _ => rfl), (fun _ => rfl)⟩
set_option maxRecDepth 100000 in
theorem mf_75 : mfP yTY_part := ⟨rfl, by decide +kernel, by decide +kernel, by decide +kernel, by decide +kernel, by decide +kernel, (fun _ => rfl), (fun _ => rfl), (fun h => absurd h (by decide)), (fun _ => rfl), (fun _ => rfl)⟩
set_option maxRecDepth 100000 in
theorem mf_76 : mfP yTY_place := ⟨rfl, by decide +kernel, by decide +kernel, by decide +kernel, by decide +kernel, by decide +kernel, (fun _ => rfl), (fun _ => rfl), (fun h => absurd h (by decide)), (fun _ => rfl), (fun _ => rfl)⟩
set_option maxRecDepth 100000 in
theorem mf_77 : mfP yTY_read := ⟨rfl, by decide +kernel, by decide +kernel, by decide +kernel, by decide +kernel, by decide +kernel, (fun _ => rfl), (fun _ => rfl), (fun h => absurd h (by decide)), (fun _ => rfl), (fun _ => rfl)⟩
set_option maxRecDepth 100000 in
theorem mf_78 : mfP yTY_refuseName := ⟨rfl, by decide +kernel, by decide +kernel, by decide +kernel, by decide +kernel, by decide +kernel, (fun _ => rfl), (fun _ => rfl), (fun h => absurd h (by decide)), (fun _ => rfl), (fun _ => rfl)⟩
set_option maxRecDepth 100000 in
theorem mf_79 : mfP yTY_remove := ⟨rfl, by decide +kernel, by decide +kernel, by decide +kernel, by decide +kernel, by decide +kernel, (fun _ => rfl), (fun _ => rfl), (fun h => absurd h (by decide)), (fun _ => rfl), (fun _ => rfl)⟩
set_option maxRecDepth 100000 in
theorem mf_80 : mfP yTY_rename := ⟨rfl, by decide +kernel, by decide +kernel, by decide +kernel, by decide +kernel, by decide +kernel, (fun _ => rfl), (fun _ => rfl), (fun h => absurd h (by decide)), (fun _ => rfl), (fun _ => rfl)⟩
set_option maxRecDepth 100000 in
theorem mf_81 : mfP yTY_set := ⟨rfl, by decide +kernel, by decide +kernel, by decide +kernel, by decide +kernel, by decide +kernel, (fun _ => rfl), (fun _ => rfl), (fun h => absurd h (by decide)), (fun _ => rfl), (fun _ => rfl)⟩
set_option maxRecDepth 100000 in
theorem mf_82 : mfP yTY_size := ⟨rfl, by decide +kernel, by decide +kernel, by decide +kernel, by decide +kernel, by decide +kernel, (fun _ => rfl), (fun _ => rfl), (fun h => absurd h (by decide)), (fun _ => rfl), (fun _ => rfl)⟩
set_option maxRecDepth 100000 in
theorem mf_83 : mfP yTY_total := ⟨rfl, by decide +kernel, by decide +kernel, by decide +kernel, by decide +kernel, by decide +kernel, (fun _ => rfl), (fun _ => rfl), (fun h => absurd h (by decide)), (fun _ => rfl), (fun _ => rfl)⟩
set_option maxRecDepth 100000 in
theorem mf_84 : mfP yTY_write := ⟨rfl, by decide +kernel, by decide +kernel, by decide +kernel, by decide +kernel, by decide +kernel, (fun _ => rfl), (fun _ => rfl), (fun h => absurd h (by decide)), (fun _ => rfl), (fun _ => rfl)⟩
set_option maxRecDepth 100000 in
theorem mf_85 : mfP yMd_init := ⟨rfl, by decide +kernel, by decide +kernel, by decide +kernel, by decide +kernel, by decide +kernel, (fun _ => rfl), (fun _ => rfl), (fun h => absurd h (by decide)), (fun h => absurd h (by decide)), (fun _ => rfl)⟩
set_option maxRecDepth 100000 in
theorem mf_86 : mfP yMd_add := ⟨rfl, by decide +kernel, by decide +kernel, by decide +kernel, by decide +kernel, by decide +kernel, (fun _ => rfl), (fun _ => rfl), (fun h => absurd h (by decide)), (fun _ => rfl), (fun _ => rfl)⟩
set_option maxRecDepth 100000 in
theorem mf_87 : mfP yMd_alter := ⟨rfl, by decide +kernel, by decide +kernel, by decide +kernel, by decide +kernel, by decide +kernel, (fun _ => rfl), (fun _ => rfl), (fun h => absurd h (by decide)), (fun _ => rfl), (fun _ => rfl)⟩
set_option maxRecDepth 100000 in
theorem mf_88 : mfP yMd_arrange := ⟨rfl, by decide +kernel, by decide +kernel, by decide +kernel, by decide +kernel, by decide +kernel, (fun _ => rfl), (fun _ => rfl), (fun h => absurd h (by decide)), (fun _ => rfl), (fun _ => rfl)⟩
set_option maxRecDepth 100000 in
theorem mf_89 : mfP yMd_blocksOf := ⟨rfl, by decide +kernel, by decide +kernel, by decide +kernel, by decide +kernel, by decide +kernel, (fun _ => rfl), (fun _ => rfl), (fun h => absurd h (by decide)), (fun _ => rfl), (fun _ => rfl)⟩
set_option maxRecDepth 100000 in
theorem mf_90 : mfP yMd_check := ⟨rfl, by decide +kernel, by decide +kernel, by decide +kernel, by decide +kernel, by decide +kernel, (fun _ => rfl), (fun _ => rfl), (fun h => absurd h (by decide)), (fun _ => rfl), (fun _ => rfl)⟩
set_option maxRecDepth 100000 in
theorem mf_91 : mfP yMd_clear := ⟨rfl, by decide +kernel, by decide +kernel, by decide +kernel, by decide +kernel, by decide +kernel, (fun _ => rfl), (fun _ => rfl), (fun h => absurd h (by decide)), (fun _ => rfl), (fun _ => rfl)⟩
set_option maxRecDepth 100000 in
theorem mf_92 : mfP yMd_compare := ⟨rfl, by decide +kernel, by decide +kernel, by decide +kernel, by decide +kernel, by decide +kernel, (fun _ => rfl), (fun _ => rfl), (fun h => absurd h (by decide)), (fun _ => rfl), (fun _ => rfl)⟩
set_option maxRecDepth 100000 in
theorem mf_93 : mfP yMd_contents := ⟨rfl, by decide +kernel, by decide +kernel, by decide +kernel, by decide +kernel, by decide +kernel, (fun _ => rfl), (fun _ => rfl), (fun h => absurd h (by decide)), (fun _ => rfl), (fun _ => rfl)⟩
set_option maxRecDepth 100000 in
theorem mf_94 : mfP yMd_copyIn := ⟨rfl, by decide +kernel, by decide +kernel, by decide +kernel, by decide +kernel, by decide +kernel, (fun _ => rfl), (fun _ => rfl), (fun h => absurd h (by decide)), (fun _ => rfl), (fun _ => rfl)⟩
set_option maxRecDepth 100000 in
theorem mf_95 : mfP yMd_count := ⟨rfl, by decide +kernel, by decide +kernel, by decide +kernel, by decide +kernel, by decide +kernel, (fun _ => rfl), (fun _ => rfl), (fun h => absurd h (by decide)), (fun _ => rfl), (fun _ => rfl)⟩
set_option maxRecDepth 100000 in
theorem mf_96 : mfP yMd_cutOf := ⟨rfl, by decide +kernel, by decide +kernel, by decide +kernel, by decide +kernel, by decide +kernel, (fun _ => rfl), (fun _ => rfl), (fun h => absurd h (by decide)), (fun _ => rfl), (fun _ => rfl)⟩
set_option maxRecDepth 100000 in
theorem mf_97 : mfP yMd_entry := ⟨rfl, by decide +kernel, by decide +kernel, by decide +kernel, by decide +kernel, by decide +kernel, (fun _ => rfl), (fun _ => rfl), (fun h => absurd h (by decide)), (fun _ => rfl), (fun _ => rfl)⟩
set_option maxRecDepth 100000 in
theorem mf_98 : mfP yMd_fails := ⟨rfl, by decide +kernel, by decide +kernel, by decide +kernel, by decide +kernel, by decide +kernel, (fun _ => rfl), (fun _ => rfl), (fun h => absurd h (by decide)), (fun _ => rfl), (fun _ => rfl)⟩
set_option maxRecDepth 100000 in
theorem mf_99 : mfP yMd_fill := ⟨rfl, by decide +kernel, by decide +kernel, by decide +kernel, by decide +kernel, by decide +kernel, (fun _ => rfl), (fun _ => rfl), (fun h => absurd h (by decide)), (fun _ => rfl), (fun _ => rfl)⟩
set_option maxRecDepth 100000 in
theorem mf_100 : mfP yMd_find := ⟨rfl, by decide +kernel, by decide +kernel, by decide +kernel, by decide +kernel, by decide +kernel, (fun _ => rfl), (fun _ => rfl), (fun h => absurd h (by decide)), (fun _ => rfl), (fun _ => rfl)⟩
set_option maxRecDepth 100000 in
theorem mf_101 : mfP yMd_firstFault := ⟨rfl, by decide +kernel, by decide +kernel, by decide +kernel, by decide +kernel, by decide +kernel, (fun _ => rfl), (fun _ => rfl), (fun h => absurd h (by decide)), (fun _ => rfl), (fun _ => rfl)⟩
set_option maxRecDepth 100000 in
theorem mf_102 : mfP yMd_hand := ⟨rfl, by decide +kernel, by decide +kernel, by decide +kernel, by decide +kernel, by decide +kernel, (fun _ => rfl), (fun _ => rfl), (fun h => absurd h (by decide)), (fun _ => rfl), (fun _ => rfl)⟩
set_option maxRecDepth 100000 in
theorem mf_103 : mfP yMd_head := ⟨rfl, by decide +kernel, by decide +kernel, by decide +kernel, by decide +kernel, by decide +kernel, (fun _ => rfl), (fun _ => rfl), (fun h => absurd h (by decide)), (fun _ => rfl), (fun _ => rfl)⟩
set_option maxRecDepth 100000 in
theorem mf_104 : mfP yMd_isCalled := ⟨rfl, by decide +kernel, by decide +kernel, by decide +kernel, by decide +kernel, by decide +kernel, (fun _ => rfl), (fun _ => rfl), (fun h => absurd h (by decide)), (fun _ => rfl), (fun _ => rfl)⟩
set_option maxRecDepth 100000 in
theorem mf_105 : mfP yMd_isLetter := ⟨rfl, by decide +kernel, by decide +kernel, by decide +kernel, by decide +kernel, by decide +kernel, (fun _ => rfl), (fun h => absurd h (by decide)), (fun _ => rfl), (fun h => absurd h (by decide)), (fun _ => rfl)⟩
set_option maxRecDepth 100000 in
theorem mf_106 : mfP yMd_isName := ⟨rfl, by decide +kernel, by decide +kernel, by decide +kernel, by decide +kernel, by decide +kernel, (fun _ => rfl), (fun h => absurd h (by decide)), (fun _ => rfl), (fun h => absurd h (by decide)), (fun _ => rfl)⟩
set_option maxRecDepth 100000 in
theorem mf_107 : mfP yMd_isNode := ⟨rfl, by decide +kernel, by decide +kernel, by decide +kernel, by decide +kernel, by decide +kernel, (fun _ => rfl), (fun _ => rfl), (fun h => absurd h (by decide)), (fun _ => rfl), (fun _ => rfl)⟩
set_option maxRecDepth 100000 in
theorem mf_108 : mfP yMd_isZero := ⟨rfl, by decide +kernel, by decide +kernel, by decide +kernel, by decide +kernel, by decide +kernel, (fun _ => rfl), (fun _ => rfl), (fun h => absurd h (by decide)), (fun _ => rfl), (fun _ => rfl)⟩
set_option maxRecDepth 100000 in
theorem mf_109 : mfP yMd_make := ⟨rfl, by decide +kernel, by decide +kernel, by decide +kernel, by decide +kernel, by decide +kernel, (fun _ => rfl), (fun _ => rfl), (fun h => absurd h (by decide)), (fun _ => rfl), (fun _ => rfl)⟩
set_option maxRecDepth 100000 in
theorem mf_110 : mfP yMd_markOf := ⟨rfl, by decide +kernel, by decide +kernel, by decide +kernel, by decide +kernel, by decide +kernel, (fun _ => rfl), (fun h => absurd h (by decide)), (fun _ => rfl), (fun h => absurd h (by decide)), (fun _ => rfl)⟩
set_option maxRecDepth 100000 in
theorem mf_111 : mfP yMd_move := ⟨rfl, by decide +kernel, by decide +kernel, by decide +kernel, by decide +kernel, by decide +kernel, (fun _ => rfl), (fun _ => rfl), (fun h => absurd h (by decide)), (fun _ => rfl), (fun _ => rfl)⟩
set_option maxRecDepth 100000 in
theorem mf_112 : mfP yMd_next := ⟨rfl, by decide +kernel, by decide +kernel, by decide +kernel, by decide +kernel, by decide +kernel, (fun _ => rfl), (fun _ => rfl), (fun h => absurd h (by decide)), (fun _ => rfl), (fun _ => rfl)⟩
set_option maxRecDepth 100000 in
theorem mf_113 : mfP yMd_node := ⟨rfl, by decide +kernel, by decide +kernel, by decide +kernel, by decide +kernel, by decide +kernel, (fun _ => rfl), (fun _ => rfl), (fun h => absurd h (by decide)), (fun _ => rfl), (fun _ => rfl)⟩
set_option maxRecDepth 100000 in
theorem mf_114 : mfP yMd_number := ⟨rfl, by decide +kernel, by decide +kernel, by decide +kernel, by decide +kernel, by decide +kernel, (fun _ => rfl), (fun _ => rfl), (fun h => absurd h (by decide)), (fun _ => rfl), (fun _ => rfl)⟩
set_option maxRecDepth 100000 in
theorem mf_115 : mfP yMd_octal := ⟨rfl, by decide +kernel, by decide +kernel, by decide +kernel, by decide +kernel, by decide +kernel, (fun _ => rfl), (fun _ => rfl), (fun h => absurd h (by decide)), (fun _ => rfl), (fun _ => rfl)⟩
set_option maxRecDepth 100000 in
theorem mf_116 : mfP yMd_part := ⟨rfl, by decide +kernel, by decide +kernel, by decide +kernel, by decide +kernel, by decide +kernel, (fun _ => rfl), (fun _ => rfl), (fun h => absurd h (by decide)), (fun _ => rfl), (fun _ => rfl)⟩
set_option maxRecDepth 100000 in
theorem mf_117 : mfP yMd_place := ⟨rfl, by decide +kernel, by decide +kernel, by decide +kernel, by decide +kernel, by decide +kernel, (fun _ => rfl), (fun _ => rfl), (fun h => absurd h (by decide)), (fun _ => rfl), (fun _ => rfl)⟩
set_option maxRecDepth 100000 in
theorem mf_118 : mfP yMd_read := ⟨rfl, by decide +kernel, by decide +kernel, by decide +kernel, by decide +kernel, by decide +kernel, (fun _ => rfl), (fun _ => rfl), (fun h => absurd h (by decide)), (fun _ => rfl), (fun _ => rfl)⟩
set_option maxRecDepth 100000 in
theorem mf_119 : mfP yMd_remove := ⟨rfl, by decide +kernel, by decide +kernel, by decide +kernel, by decide +kernel, by decide +kernel, (fun _ => rfl), (fun _ => rfl), (fun h => absurd h (by decide)), (fun _ => rfl), (fun _ => rfl)⟩
set_option maxRecDepth 100000 in
theorem mf_120 : mfP yMd_rename := ⟨rfl, by decide +kernel, by decide +kernel, by decide +kernel, by decide +kernel, by decide +kernel, (fun _ => rfl), (fun _ => rfl), (fun h => absurd h (by decide)), (fun _ => rfl), (fun _ => rfl)⟩
set_option maxRecDepth 100000 in
theorem mf_121 : mfP yMd_set := ⟨rfl, by decide +kernel, by decide +kernel, by decide +kernel, by decide +kernel, by decide +kernel, (fun _ => rfl), (fun _ => rfl), (fun h => absurd h (by decide)), (fun _ => rfl), (fun _ => rfl)⟩
set_option maxRecDepth 100000 in
theorem mf_122 : mfP yMd_size := ⟨rfl, by decide +kernel, by decide +kernel, by decide +kernel, by decide +kernel, by decide +kernel, (fun _ => rfl), (fun _ => rfl), (fun h => absurd h (by decide)), (fun _ => rfl), (fun _ => rfl)⟩
set_option maxRecDepth 100000 in
theorem mf_123 : mfP yMd_spell := ⟨rfl, by decide +kernel, by decide +kernel, by decide +kernel, by decide +kernel, by decide +kernel, (fun _ => rfl), (fun _ => rfl), (fun h => absurd h (by decide)), (fun _ => rfl), (fun _ => rfl)⟩
set_option maxRecDepth 100000 in
theorem mf_124 : mfP yMd_sum := ⟨rfl, by decide +kernel, by decide +kernel, by decide +kernel, by decide +kernel, by decide +kernel, (fun _ => rfl), (fun _ => rfl), (fun h => absurd h (by decide)), (fun _ => rfl), (fun _ => rfl)⟩
set_option maxRecDepth 100000 in
theorem mf_125 : mfP yMd_tell := ⟨rfl, by decide +kernel, by decide +kernel, by decide +kernel, by decide +kernel, by decide +kernel, (fun _ => rfl), (fun _ => rfl), (fun h => absurd h (by decide)), (fun _ => rfl), (fun _ => rfl)⟩
set_option maxRecDepth 100000 in
theorem mf_126 : mfP yMd_textOf := ⟨rfl, by decide +kernel, by decide +kernel, by decide +kernel, by decide +kernel, by decide +kernel, (fun _ => rfl), (fun _ => rfl), (fun h => absurd h (by decide)), (fun _ => rfl), (fun _ => rfl)⟩
set_option maxRecDepth 100000 in
theorem mf_127 : mfP yMd_thrown := ⟨rfl, by decide +kernel, by decide +kernel, by decide +kernel, by decide +kernel, by decide +kernel, (fun _ => rfl), (fun _ => rfl), (fun h => absurd h (by decide)), (fun _ => rfl), (fun _ => rfl)⟩
set_option maxRecDepth 100000 in
theorem mf_128 : mfP yMd_total := ⟨rfl, by decide +kernel, by decide +kernel, by decide +kernel, by decide +kernel, by decide +kernel, (fun _ => rfl), (fun _ => rfl), (fun h => absurd h (by decide)), (fun _ => rfl), (fun _ => rfl)⟩
set_option maxRecDepth 100000 in
theorem mf_129 : mfP yMd_walk := ⟨rfl, by decide +kernel, by decide +kernel, by decide +kernel, by decide +kernel, by decide +kernel, (fun _ => rfl), (fun _ => rfl), (fun h => absurd h (by decide)), (fun _ => rfl), (fun _ => rfl)⟩
set_option maxRecDepth 100000 in
theorem mf_130 : mfP yMd_within := ⟨rfl, by decide +kernel, by decide +kernel, by decide +kernel, by decide +kernel, by decide +kernel, (fun _ => rfl), (fun h => absurd h (by decide)), (fun _ => rfl), (fun h => absurd h (by decide)), (fun _ => rfl)⟩
set_option maxRecDepth 100000 in
theorem mf_131 : mfP yMd_write := ⟨rfl, by decide +kernel, by decide +kernel, by decide +kernel, by decide +kernel, by decide +kernel, (fun _ => rfl), (fun _ => rfl), (fun h => absurd h (by decide)), (fun _ => rfl), (fun _ => rfl)⟩
set_option maxRecDepth 100000 in
theorem mf_132 : mfP yLw_alter := ⟨rfl, by decide +kernel, by decide +kernel, by decide +kernel, by decide +kernel, by decide +kernel, (fun h => absurd h (by decide)), (fun h => absurd h (by decide)), (fun _ => rfl), (fun h => absurd h (by decide)), (fun _ => rfl)⟩
set_option maxRecDepth 100000 in
theorem mf_133 : mfP yLw_check := ⟨rfl, by decide +kernel, by decide +kernel, by decide +kernel, by decide +kernel, by decide +kernel, (fun h => absurd h (by decide)), (fun h => absurd h (by decide)), (fun _ => rfl), (fun h => absurd h (by decide)), (fun _ => rfl)⟩
set_option maxRecDepth 100000 in
theorem mf_134 : mfP yLw_contents := ⟨rfl, by decide +kernel, by decide +kernel, by decide +kernel, by decide +kernel, by decide +kernel, (fun h => absurd h (by decide)), (fun h => absurd h (by decide)), (fun _ => rfl), (fun h => absurd h (by decide)), (fun _ => rfl)⟩
set_option maxRecDepth 100000 in
theorem mf_135 : mfP yLw_fill := ⟨rfl, by decide +kernel, by decide +kernel, by decide +kernel, by decide +kernel, by decide +kernel, (fun h => absurd h (by decide)), (fun h => absurd h (by decide)), (fun _ => rfl), (fun h => absurd h (by decide)), (fun _ => rfl)⟩
set_option maxRecDepth 100000 in
theorem mf_136 : mfP yLw_law := ⟨rfl, by decide +kernel, by decide +kernel, by decide +kernel, by decide +kernel, by decide +kernel, (fun h => absurd h (by decide)), (fun h => absurd h (by decide)), (fun h => absurd h (by decide)), (fun h => absurd h (by decide)), (fun h => absurd rfl h)⟩
set_option maxRecDepth 100000 in
theorem mf_137 : mfP yLw_make := ⟨rfl, by decide +kernel, by decide +kernel, by decide +kernel, by decide +kernel, by decide +kernel, (fun h => absurd h (by decide)), (fun h => absurd h (by decide)), (fun _ => rfl), (fun h => absurd h (by decide)), (fun _ => rfl)⟩
set_option maxRecDepth 100000 in
theorem mf_138 : mfP yLw_node := ⟨rfl, by decide +kernel, by decide +kernel, by decide +kernel, by decide +kernel, by decide +kernel, (fun h => absurd h (by decide)), (fun h => absurd h (by decide)), (fun _ => rfl), (fun h => absurd h (by decide)), (fun _ => rfl)⟩
set_option maxRecDepth 100000 in
theorem mf_139 : mfP yLw_part := ⟨rfl, by decide +kernel, by decide +kernel, by decide +kernel, by decide +kernel, by decide +kernel, (fun h => absurd h (by decide)), (fun h => absurd h (by decide)), (fun _ => rfl), (fun h => absurd h (by decide)), (fun _ => rfl)⟩
set_option maxRecDepth 100000 in
theorem mf_140 : mfP yLw_remove := ⟨rfl, by decide +kernel, by decide +kernel, by decide +kernel, by decide +kernel, by decide +kernel, (fun h => absurd h (by decide)), (fun h => absurd h (by decide)), (fun _ => rfl), (fun h => absurd h (by decide)), (fun _ => rfl)⟩
set_option maxRecDepth 100000 in
theorem mf_141 : mfP yLw_rename := ⟨rfl, by decide +kernel, by decide +kernel, by decide +kernel, by decide +kernel, by decide +kernel, (fun h => absurd h (by decide)), (fun h => absurd h (by decide)), (fun _ => rfl), (fun h => absurd h (by decide)), (fun _ => rfl)⟩
set_option maxRecDepth 100000 in
theorem mf_142 : mfP yLw_set := ⟨rfl, by decide +kernel, by decide +kernel, by decide +kernel, by decide +kernel, by decide +kernel, (fun h => absurd h (by decide)), (fun h => absurd h (by decide)), (fun _ => rfl), (fun h => absurd h (by decide)), (fun _ => rfl)⟩
set_option maxRecDepth 100000 in
theorem mf_143 : mfP yLw_size := ⟨rfl, by decide +kernel, by decide +kernel, by decide +kernel, by decide +kernel, by decide +kernel, (fun h => absurd h (by decide)), (fun h => absurd h (by decide)), (fun _ => rfl), (fun h => absurd h (by decide)), (fun _ => rfl)⟩
set_option maxRecDepth 100000 in
theorem mf_144 : mfP yLw_total := ⟨rfl, by decide +kernel, by decide +kernel, by decide +kernel, by decide +kernel, by decide +kernel, (fun h => absurd h (by decide)), (fun h => absurd h (by decide)), (fun _ => rfl), (fun h => absurd h (by decide)), (fun _ => rfl)⟩
set_option maxRecDepth 100000 in
theorem mf_145 : mfP yLw_write := ⟨rfl, by decide +kernel, by decide +kernel, by decide +kernel, by decide +kernel, by decide +kernel, (fun h => absurd h (by decide)), (fun h => absurd h (by decide)), (fun _ => rfl), (fun h => absurd h (by decide)), (fun _ => rfl)⟩
set_option maxRecDepth 100000 in
theorem mf_146 : mfP yAr_copyOf := ⟨rfl, by decide +kernel, by decide +kernel, by decide +kernel, by decide +kernel, by decide +kernel, (fun _ => rfl), (fun h => absurd h (by decide)), (fun _ => rfl), (fun h => absurd h (by decide)), (fun _ => rfl)⟩
theorem mfq_0 : ∀ y ∈ [yNd_init, yNd_begin, yNd_contentsLength, yRd_init, yRd_addText, yRd_faultOfContents, yRd_faultOfEntry, yRd_isMarked, yRd_takeEntry, yRd_takeKind, yRd_takeNumbers, yRd_takePath, yRd_takeTarget, yRd_takeTree, yRw_init, yRw_addLetters, yRw_at, yRw_copySlice, yRw_isNameOfAnyLength, yRw_isSlice, yRw_isTarget], mfP y := List.forall_mem_cons.mpr ⟨mf_0, List.forall_mem_cons.mpr ⟨mf_1, List.forall_mem_cons.mpr ⟨mf_2, List.forall_mem_cons.mpr ⟨mf_3, List.forall_mem_cons.mpr ⟨mf_4, List.forall_mem_cons.mpr ⟨mf_5, List.forall_mem_cons.mpr ⟨mf_6, List.forall_mem_cons.mpr ⟨mf_7, List.forall_mem_cons.mpr ⟨mf_8, List.forall_mem_cons.mpr ⟨mf_9, List.forall_mem_cons.mpr ⟨mf_10, List.forall_mem_cons.mpr ⟨mf_11, List.forall_mem_cons.mpr ⟨mf_12, List.forall_mem_cons.mpr ⟨mf_13, List.forall_mem_cons.mpr ⟨mf_14, List.forall_mem_cons.mpr ⟨mf_15, List.forall_mem_cons.mpr ⟨mf_16, List.forall_mem_cons.mpr ⟨mf_17, List.forall_mem_cons.mpr ⟨mf_18, List.forall_mem_cons.mpr ⟨mf_19, List.forall_mem_cons.mpr ⟨mf_20, fun _ h => absurd h List.not_mem_nil⟩⟩⟩⟩⟩⟩⟩⟩⟩⟩⟩⟩⟩⟩⟩⟩⟩⟩⟩⟩⟩
theorem mfq_1 : ∀ y ∈ [yRw_lastSlash, yRw_order, yRw_put, yRw_putAll, yRw_resize, yTp_init, yTp_blocksOf, yTp_hasCheck, yTp_hasMark, yTp_isBlockOfZeros, yTp_isZeros, yTp_octal, yTp_putCheck, yTp_putMark, yTp_putOctal, yTp_sum, yTp_wholeBlocks, yTr_init, yTr_add, yTr_childNamed, yTr_clear], mfP y := List.forall_mem_cons.mpr ⟨mf_21, List.forall_mem_cons.mpr ⟨mf_22, List.forall_mem_cons.mpr ⟨mf_23, List.forall_mem_cons.mpr ⟨mf_24, List.forall_mem_cons.mpr ⟨mf_25, List.forall_mem_cons.mpr ⟨mf_26, List.forall_mem_cons.mpr ⟨mf_27, List.forall_mem_cons.mpr ⟨mf_28, List.forall_mem_cons.mpr ⟨mf_29, List.forall_mem_cons.mpr ⟨mf_30, List.forall_mem_cons.mpr ⟨mf_31, List.forall_mem_cons.mpr ⟨mf_32, List.forall_mem_cons.mpr ⟨mf_33, List.forall_mem_cons.mpr ⟨mf_34, List.forall_mem_cons.mpr ⟨mf_35, List.forall_mem_cons.mpr ⟨mf_36, List.forall_mem_cons.mpr ⟨mf_37, List.forall_mem_cons.mpr ⟨mf_38, List.forall_mem_cons.mpr ⟨mf_39, List.forall_mem_cons.mpr ⟨mf_40, List.forall_mem_cons.mpr ⟨mf_41, fun _ h => absurd h List.not_mem_nil⟩⟩⟩⟩⟩⟩⟩⟩⟩⟩⟩⟩⟩⟩⟩⟩⟩⟩⟩⟩⟩
theorem mfq_2 : ∀ y ∈ [yTr_closeGaps, yTr_comesBehind, yTr_drop, yTr_follower, yTr_has, yTr_isGone, yTr_isOfKind, yTr_longestPath, yTr_lookUp, yTr_newNumber, yTr_nextChild, yTr_pathLength, yTr_spellPath, yTt_kindOf, yTt_typeOf, yWr_init, yWr_blocksFor, yWr_cutOfPath, yWr_isTellable, yWr_putContents, yWr_putEntries], mfP y := List.forall_mem_cons.mpr ⟨mf_42, List.forall_mem_cons.mpr ⟨mf_43, List.forall_mem_cons.mpr ⟨mf_44, List.forall_mem_cons.mpr ⟨mf_45, List.forall_mem_cons.mpr ⟨mf_46, List.forall_mem_cons.mpr ⟨mf_47, List.forall_mem_cons.mpr ⟨mf_48, List.forall_mem_cons.mpr ⟨mf_49, List.forall_mem_cons.mpr ⟨mf_50, List.forall_mem_cons.mpr ⟨mf_51, List.forall_mem_cons.mpr ⟨mf_52, List.forall_mem_cons.mpr ⟨mf_53, List.forall_mem_cons.mpr ⟨mf_54, List.forall_mem_cons.mpr ⟨mf_55, List.forall_mem_cons.mpr ⟨mf_56, List.forall_mem_cons.mpr ⟨mf_57, List.forall_mem_cons.mpr ⟨mf_58, List.forall_mem_cons.mpr ⟨mf_59, List.forall_mem_cons.mpr ⟨mf_60, List.forall_mem_cons.mpr ⟨mf_61, List.forall_mem_cons.mpr ⟨mf_62, fun _ h => absurd h List.not_mem_nil⟩⟩⟩⟩⟩⟩⟩⟩⟩⟩⟩⟩⟩⟩⟩⟩⟩⟩⟩⟩⟩
theorem mfq_3 : ∀ y ∈ [yWr_putHeader, yWr_putPath, yWr_putTree, yTY_init, yTY_alter, yTY_check, yTY_contents, yTY_fill, yTY_hand, yTY_known, yTY_make, yTY_node, yTY_part, yTY_place, yTY_read, yTY_refuseName, yTY_remove, yTY_rename, yTY_set, yTY_size, yTY_total], mfP y := List.forall_mem_cons.mpr ⟨mf_63, List.forall_mem_cons.mpr ⟨mf_64, List.forall_mem_cons.mpr ⟨mf_65, List.forall_mem_cons.mpr ⟨mf_66, List.forall_mem_cons.mpr ⟨mf_67, List.forall_mem_cons.mpr ⟨mf_68, List.forall_mem_cons.mpr ⟨mf_69, List.forall_mem_cons.mpr ⟨mf_70, List.forall_mem_cons.mpr ⟨mf_71, List.forall_mem_cons.mpr ⟨mf_72, List.forall_mem_cons.mpr ⟨mf_73, List.forall_mem_cons.mpr ⟨mf_74, List.forall_mem_cons.mpr ⟨mf_75, List.forall_mem_cons.mpr ⟨mf_76, List.forall_mem_cons.mpr ⟨mf_77, List.forall_mem_cons.mpr ⟨mf_78, List.forall_mem_cons.mpr ⟨mf_79, List.forall_mem_cons.mpr ⟨mf_80, List.forall_mem_cons.mpr ⟨mf_81, List.forall_mem_cons.mpr ⟨mf_82, List.forall_mem_cons.mpr ⟨mf_83, fun _ h => absurd h List.not_mem_nil⟩⟩⟩⟩⟩⟩⟩⟩⟩⟩⟩⟩⟩⟩⟩⟩⟩⟩⟩⟩⟩
theorem mfq_4 : ∀ y ∈ [yTY_write, yMd_init, yMd_add, yMd_alter, yMd_arrange, yMd_blocksOf, yMd_check, yMd_clear, yMd_compare, yMd_contents, yMd_copyIn, yMd_count, yMd_cutOf, yMd_entry, yMd_fails, yMd_fill, yMd_find, yMd_firstFault, yMd_hand, yMd_head, yMd_isCalled], mfP y := List.forall_mem_cons.mpr ⟨mf_84, List.forall_mem_cons.mpr ⟨mf_85, List.forall_mem_cons.mpr ⟨mf_86, List.forall_mem_cons.mpr ⟨mf_87, List.forall_mem_cons.mpr ⟨mf_88, List.forall_mem_cons.mpr ⟨mf_89, List.forall_mem_cons.mpr ⟨mf_90, List.forall_mem_cons.mpr ⟨mf_91, List.forall_mem_cons.mpr ⟨mf_92, List.forall_mem_cons.mpr ⟨mf_93, List.forall_mem_cons.mpr ⟨mf_94, List.forall_mem_cons.mpr ⟨mf_95, List.forall_mem_cons.mpr ⟨mf_96, List.forall_mem_cons.mpr ⟨mf_97, List.forall_mem_cons.mpr ⟨mf_98, List.forall_mem_cons.mpr ⟨mf_99, List.forall_mem_cons.mpr ⟨mf_100, List.forall_mem_cons.mpr ⟨mf_101, List.forall_mem_cons.mpr ⟨mf_102, List.forall_mem_cons.mpr ⟨mf_103, List.forall_mem_cons.mpr ⟨mf_104, fun _ h => absurd h List.not_mem_nil⟩⟩⟩⟩⟩⟩⟩⟩⟩⟩⟩⟩⟩⟩⟩⟩⟩⟩⟩⟩⟩
theorem mfq_5 : ∀ y ∈ [yMd_isLetter, yMd_isName, yMd_isNode, yMd_isZero, yMd_make, yMd_markOf, yMd_move, yMd_next, yMd_node, yMd_number, yMd_octal, yMd_part, yMd_place, yMd_read, yMd_remove, yMd_rename, yMd_set, yMd_size, yMd_spell, yMd_sum, yMd_tell], mfP y := List.forall_mem_cons.mpr ⟨mf_105, List.forall_mem_cons.mpr ⟨mf_106, List.forall_mem_cons.mpr ⟨mf_107, List.forall_mem_cons.mpr ⟨mf_108, List.forall_mem_cons.mpr ⟨mf_109, List.forall_mem_cons.mpr ⟨mf_110, List.forall_mem_cons.mpr ⟨mf_111, List.forall_mem_cons.mpr ⟨mf_112, List.forall_mem_cons.mpr ⟨mf_113, List.forall_mem_cons.mpr ⟨mf_114, List.forall_mem_cons.mpr ⟨mf_115, List.forall_mem_cons.mpr ⟨mf_116, List.forall_mem_cons.mpr ⟨mf_117, List.forall_mem_cons.mpr ⟨mf_118, List.forall_mem_cons.mpr ⟨mf_119, List.forall_mem_cons.mpr ⟨mf_120, List.forall_mem_cons.mpr ⟨mf_121, List.forall_mem_cons.mpr ⟨mf_122, List.forall_mem_cons.mpr ⟨mf_123, List.forall_mem_cons.mpr ⟨mf_124, List.forall_mem_cons.mpr ⟨mf_125, fun _ h => absurd h List.not_mem_nil⟩⟩⟩⟩⟩⟩⟩⟩⟩⟩⟩⟩⟩⟩⟩⟩⟩⟩⟩⟩⟩
theorem mfq_6 : ∀ y ∈ [yMd_textOf, yMd_thrown, yMd_total, yMd_walk, yMd_within, yMd_write, yLw_alter, yLw_check, yLw_contents, yLw_fill, yLw_law, yLw_make, yLw_node, yLw_part, yLw_remove, yLw_rename, yLw_set, yLw_size, yLw_total, yLw_write, yAr_copyOf], mfP y := List.forall_mem_cons.mpr ⟨mf_126, List.forall_mem_cons.mpr ⟨mf_127, List.forall_mem_cons.mpr ⟨mf_128, List.forall_mem_cons.mpr ⟨mf_129, List.forall_mem_cons.mpr ⟨mf_130, List.forall_mem_cons.mpr ⟨mf_131, List.forall_mem_cons.mpr ⟨mf_132, List.forall_mem_cons.mpr ⟨mf_133, List.forall_mem_cons.mpr ⟨mf_134, List.forall_mem_cons.mpr ⟨mf_135, List.forall_mem_cons.mpr ⟨mf_136, List.forall_mem_cons.mpr ⟨mf_137, List.forall_mem_cons.mpr ⟨mf_138, List.forall_mem_cons.mpr ⟨mf_139, List.forall_mem_cons.mpr ⟨mf_140, List.forall_mem_cons.mpr ⟨mf_141, List.forall_mem_cons.mpr ⟨mf_142, List.forall_mem_cons.mpr ⟨mf_143, List.forall_mem_cons.mpr ⟨mf_144, List.forall_mem_cons.mpr ⟨mf_145, List.forall_mem_cons.mpr ⟨mf_146, fun _ h => absurd h List.not_mem_nil⟩⟩⟩⟩⟩⟩⟩⟩⟩⟩⟩⟩⟩⟩⟩⟩⟩⟩⟩⟩⟩
theorem mf_all : ∀ y ∈ allY, mfP y := by
  show ∀ y ∈ [yNd_init, yNd_begin, yNd_contentsLength, yRd_init, yRd_addText, yRd_faultOfContents, yRd_faultOfEntry, yRd_isMarked, yRd_takeEntry, yRd_takeKind, yRd_takeNumbers, yRd_takePath, yRd_takeTarget, yRd_takeTree, yRw_init, yRw_addLetters, yRw_at, yRw_copySlice, yRw_isNameOfAnyLength, yRw_isSlice, yRw_isTarget] ++ ([yRw_lastSlash, yRw_order, yRw_put, yRw_putAll, yRw_resize, yTp_init, yTp_blocksOf, yTp_hasCheck, yTp_hasMark, yTp_isBlockOfZeros, yTp_isZeros, yTp_octal, yTp_putCheck, yTp_putMark, yTp_putOctal, yTp_sum, yTp_wholeBlocks, yTr_init, yTr_add, yTr_childNamed, yTr_clear] ++ ([yTr_closeGaps, yTr_comesBehind, yTr_drop, yTr_follower, yTr_has, yTr_isGone, yTr_isOfKind, yTr_longestPath, yTr_lookUp, yTr_newNumber, yTr_nextChild, yTr_pathLength, yTr_spellPath, yTt_kindOf, yTt_typeOf, yWr_init, yWr_blocksFor, yWr_cutOfPath, yWr_isTellable, yWr_putContents, yWr_putEntries] ++ ([yWr_putHeader, yWr_putPath, yWr_putTree, yTY_init, yTY_alter, yTY_check, yTY_contents, yTY_fill, yTY_hand, yTY_known, yTY_make, yTY_node, yTY_part, yTY_place, yTY_read, yTY_refuseName, yTY_remove, yTY_rename, yTY_set, yTY_size, yTY_total] ++ ([yTY_write, yMd_init, yMd_add, yMd_alter, yMd_arrange, yMd_blocksOf, yMd_check, yMd_clear, yMd_compare, yMd_contents, yMd_copyIn, yMd_count, yMd_cutOf, yMd_entry, yMd_fails, yMd_fill, yMd_find, yMd_firstFault, yMd_hand, yMd_head, yMd_isCalled] ++ ([yMd_isLetter, yMd_isName, yMd_isNode, yMd_isZero, yMd_make, yMd_markOf, yMd_move, yMd_next, yMd_node, yMd_number, yMd_octal, yMd_part, yMd_place, yMd_read, yMd_remove, yMd_rename, yMd_set, yMd_size, yMd_spell, yMd_sum, yMd_tell] ++ ([yMd_textOf, yMd_thrown, yMd_total, yMd_walk, yMd_within, yMd_write, yLw_alter, yLw_check, yLw_contents, yLw_fill, yLw_law, yLw_make, yLw_node, yLw_part, yLw_remove, yLw_rename, yLw_set, yLw_size, yLw_total, yLw_write, yAr_copyOf])))))), mfP y
  exact List.forall_mem_append.mpr ⟨mfq_0, List.forall_mem_append.mpr ⟨mfq_1, List.forall_mem_append.mpr ⟨mfq_2, List.forall_mem_append.mpr ⟨mfq_3, List.forall_mem_append.mpr ⟨mfq_4, List.forall_mem_append.mpr ⟨mfq_5, mfq_6⟩⟩⟩⟩⟩⟩
end
section
/-! Values of AM, and what they are on the true machine. -/
abbrev AV : Type := Option (Int ⊕ (Int ⊕ Option Nat))
abbrev aI (x : Int) : AV := some (.inl x)
abbrev aL (x : Int) : AV := some (.inr (.inl x))
abbrev aR (a : Nat) : AV := some (.inr (.inr (some a)))
abbrev aN : AV := some (.inr (.inr none))
def cv (v : AV) : Value := match v with
  | some (.inl x) => .int (Int32.ofInt x)
  | some (.inr (.inl x)) => .long (Int64.ofInt x)
  | some (.inr (.inr (some a))) => .ref a
  | some (.inr (.inr none)) => .null
  | none => .null
def r32 (x : Int) : Prop := -2147483648 ≤ x ∧ x ≤ 2147483647
def r64 (x : Int) : Prop := -9223372036854775808 ≤ x ∧ x ≤ 9223372036854775807
def r8 (x : Int) : Prop := -128 ≤ x ∧ x ≤ 127
end
section
/-! Facts of the tables, 3 (written by wip/gen/cls.py): the classes and their fields; links of fields, calls, classes, constants. -/
def FC0 : u_T := fun k => match k with
  | 0 => ("TarYard$Node", "name", "LTarYard$Row;", true)
  | 1 => ("TarYard$Node", "body", "LTarYard$Row;", true)
  | 2 => ("TarYard$Node", "kind", "I", false)
  | 3 => ("TarYard$Node", "dir", "I", false)
  | 4 => ("TarYard$Node", "file", "I", false)
  | 5 => ("TarYard$Node", "mode", "I", false)
  | 6 => ("TarYard$Node", "owner", "I", false)
  | _ => ("TarYard$Node", "time", "I", false)
def FT0 : Nat → FieldType := fun k => match k with
  | 0 => .object "TarYard$Row"
  | 1 => .object "TarYard$Row"
  | 2 => .int
  | 3 => .int
  | 4 => .int
  | 5 => .int
  | 6 => .int
  | _ => .int
theorem fcI0 : ∀ w ∈ u_ws "TarYard$Node" FC0 8, w ∈ lw_tbl := by
  have e : u_ws "TarYard$Node" FC0 8 = [225, 227, 229, 231, 233, 235, 237, 239].filterMap (fun i => lw_tbl[i]?) := by decide +kernel
  intro w hw
  rw [e] at hw
  obtain ⟨i, -, hi⟩ := List.mem_filterMap.mp hw
  exact List.mem_of_getElem? hi
theorem fcN0 : ∀ a, a < 8 → ∀ b, b < 8 → a ≠ b → (FC0 a).2.1 ≠ (FC0 b).2.1 := by decide +kernel
theorem fcT0 : ∀ k, k < 8 → parseFieldDescriptor (FC0 k).2.2.1 = some (FT0 k) := by decide +kernel
theorem fcD0 : ∀ k, k < 8 → defaultValue (FT0 k) = vp_V ((tD 0).map cv) k := by decide +kernel
def FC1 : u_T := fun k => match k with
  | 0 => ("TarYard$Reader", "tape", "LTarYard$Tape;", true)
  | 1 => ("TarYard$Reader", "path", "LTarYard$Row;", true)
  | 2 => ("TarYard$Reader", "target", "LTarYard$Row;", true)
  | 3 => ("TarYard$Reader", "block", "I", false)
  | 4 => ("TarYard$Reader", "from", "I", false)
  | 5 => ("TarYard$Reader", "mode", "J", false)
  | 6 => ("TarYard$Reader", "owner", "J", false)
  | 7 => ("TarYard$Reader", "time", "J", false)
  | 8 => ("TarYard$Reader", "length", "J", false)
  | 9 => ("TarYard$Reader", "kind", "I", false)
  | 10 => ("TarYard$Reader", "dir", "I", false)
  | 11 => ("TarYard$Reader", "nameFrom", "I", false)
  | 12 => ("TarYard$Reader", "nameTo", "I", false)
  | _ => ("TarYard$Reader", "file", "I", false)
def FT1 : Nat → FieldType := fun k => match k with
  | 0 => .object "TarYard$Tape"
  | 1 => .object "TarYard$Row"
  | 2 => .object "TarYard$Row"
  | 3 => .int
  | 4 => .int
  | 5 => .long
  | 6 => .long
  | 7 => .long
  | 8 => .long
  | 9 => .int
  | 10 => .int
  | 11 => .int
  | 12 => .int
  | _ => .int
theorem fcI1 : ∀ w ∈ u_ws "TarYard$Reader" FC1 14, w ∈ lw_tbl := by
  have e : u_ws "TarYard$Reader" FC1 14 = [149, 151, 153, 155, 157, 159, 161, 163, 165, 167, 169, 171, 173, 175].filterMap (fun i => lw_tbl[i]?) := by decide +kernel
  intro w hw
  rw [e] at hw
  obtain ⟨i, -, hi⟩ := List.mem_filterMap.mp hw
  exact List.mem_of_getElem? hi
theorem fcN1 : ∀ a, a < 14 → ∀ b, b < 14 → a ≠ b → (FC1 a).2.1 ≠ (FC1 b).2.1 := by decide +kernel
theorem fcT1 : ∀ k, k < 14 → parseFieldDescriptor (FC1 k).2.2.1 = some (FT1 k) := by decide +kernel
theorem fcD1 : ∀ k, k < 14 → defaultValue (FT1 k) = vp_V ((tD 1).map cv) k := by decide +kernel
def FC2 : u_T := fun k => match k with
  | 0 => ("TarYard$Row", "bytes", "[B", false)
  | _ => ("TarYard$Row", "length", "I", false)
def FT2 : Nat → FieldType := fun k => match k with
  | 0 => .array .byte
  | _ => .int
theorem fcI2 : ∀ w ∈ u_ws "TarYard$Row" FC2 2, w ∈ lw_tbl := by
  have e : u_ws "TarYard$Row" FC2 2 = [95, 97].filterMap (fun i => lw_tbl[i]?) := by decide +kernel
  intro w hw
  rw [e] at hw
  obtain ⟨i, -, hi⟩ := List.mem_filterMap.mp hw
  exact List.mem_of_getElem? hi
theorem fcN2 : ∀ a, a < 2 → ∀ b, b < 2 → a ≠ b → (FC2 a).2.1 ≠ (FC2 b).2.1 := by decide +kernel
theorem fcT2 : ∀ k, k < 2 → parseFieldDescriptor (FC2 k).2.2.1 = some (FT2 k) := by decide +kernel
theorem fcD2 : ∀ k, k < 2 → defaultValue (FT2 k) = vp_V ((tD 2).map cv) k := by decide +kernel
def FC3 : u_T := fun k => match k with
  | _ => ("TarYard$Tape", "bytes", "LTarYard$Row;", true)
def FT3 : Nat → FieldType := fun k => match k with
  | _ => .object "TarYard$Row"
theorem fcI3 : ∀ w ∈ u_ws "TarYard$Tape" FC3 1, w ∈ lw_tbl := by
  have e : u_ws "TarYard$Tape" FC3 1 = [105].filterMap (fun i => lw_tbl[i]?) := by decide +kernel
  intro w hw
  rw [e] at hw
  obtain ⟨i, -, hi⟩ := List.mem_filterMap.mp hw
  exact List.mem_of_getElem? hi
theorem fcN3 : ∀ a, a < 1 → ∀ b, b < 1 → a ≠ b → (FC3 a).2.1 ≠ (FC3 b).2.1 := by decide +kernel
theorem fcT3 : ∀ k, k < 1 → parseFieldDescriptor (FC3 k).2.2.1 = some (FT3 k) := by decide +kernel
theorem fcD3 : ∀ k, k < 1 → defaultValue (FT3 k) = vp_V ((tD 3).map cv) k := by decide +kernel
def FC4 : u_T := fun k => match k with
  | 0 => ("TarYard$Tree", "nodes", "[LTarYard$Node;", true)
  | 1 => ("TarYard$Tree", "count", "I", false)
  | _ => ("TarYard$Tree", "newNumbers", "[I", true)
def FT4 : Nat → FieldType := fun k => match k with
  | 0 => .array (.object "TarYard$Node")
  | 1 => .int
  | _ => .array .int
theorem fcI4 : ∀ w ∈ u_ws "TarYard$Tree" FC4 3, w ∈ lw_tbl := by
  have e : u_ws "TarYard$Tree" FC4 3 = [252, 254, 256].filterMap (fun i => lw_tbl[i]?) := by decide +kernel
  intro w hw
  rw [e] at hw
  obtain ⟨i, -, hi⟩ := List.mem_filterMap.mp hw
  exact List.mem_of_getElem? hi
theorem fcN4 : ∀ a, a < 3 → ∀ b, b < 3 → a ≠ b → (FC4 a).2.1 ≠ (FC4 b).2.1 := by decide +kernel
theorem fcT4 : ∀ k, k < 3 → parseFieldDescriptor (FC4 k).2.2.1 = some (FT4 k) := by decide +kernel
theorem fcD4 : ∀ k, k < 3 → defaultValue (FT4 k) = vp_V ((tD 4).map cv) k := by decide +kernel
def FC5 : u_T := fun k => match k with
  | _ => ("", "", "", false)
def FT5 : Nat → FieldType := fun k => match k with
  | _ => .int
theorem fcI5 : ∀ w ∈ u_ws "TarYard$Types" FC5 0, w ∈ lw_tbl := fun _ h => absurd h List.not_mem_nil
theorem fcN5 : ∀ a, a < 0 → ∀ b, b < 0 → a ≠ b → (FC5 a).2.1 ≠ (FC5 b).2.1 := by decide +kernel
theorem fcT5 : ∀ k, k < 0 → parseFieldDescriptor (FC5 k).2.2.1 = some (FT5 k) := by decide +kernel
theorem fcD5 : ∀ k, k < 0 → defaultValue (FT5 k) = vp_V ((tD 5).map cv) k := by decide +kernel
def FC6 : u_T := fun k => match k with
  | 0 => ("TarYard$Writer", "tape", "LTarYard$Tape;", true)
  | 1 => ("TarYard$Writer", "path", "LTarYard$Row;", true)
  | _ => ("TarYard$Writer", "block", "I", false)
def FT6 : Nat → FieldType := fun k => match k with
  | 0 => .object "TarYard$Tape"
  | 1 => .object "TarYard$Row"
  | _ => .int
theorem fcI6 : ∀ w ∈ u_ws "TarYard$Writer" FC6 3, w ∈ lw_tbl := by
  have e : u_ws "TarYard$Writer" FC6 3 = [119, 121, 123].filterMap (fun i => lw_tbl[i]?) := by decide +kernel
  intro w hw
  rw [e] at hw
  obtain ⟨i, -, hi⟩ := List.mem_filterMap.mp hw
  exact List.mem_of_getElem? hi
theorem fcN6 : ∀ a, a < 3 → ∀ b, b < 3 → a ≠ b → (FC6 a).2.1 ≠ (FC6 b).2.1 := by decide +kernel
theorem fcT6 : ∀ k, k < 3 → parseFieldDescriptor (FC6 k).2.2.1 = some (FT6 k) := by decide +kernel
theorem fcD6 : ∀ k, k < 3 → defaultValue (FT6 k) = vp_V ((tD 6).map cv) k := by decide +kernel
def FC7 : u_T := fun k => match k with
  | 0 => ("TarYard", "tape", "LTarYard$Tape;", true)
  | 1 => ("TarYard", "writer", "LTarYard$Writer;", true)
  | 2 => ("TarYard", "reader", "LTarYard$Reader;", true)
  | 3 => ("TarYard", "word", "LTarYard$Row;", true)
  | 4 => ("TarYard", "tree", "LTarYard$Tree;", false)
  | 5 => ("TarYard", "spare", "LTarYard$Tree;", false)
  | _ => ("TarYard", "faultPlace", "I", false)
def FT7 : Nat → FieldType := fun k => match k with
  | 0 => .object "TarYard$Tape"
  | 1 => .object "TarYard$Writer"
  | 2 => .object "TarYard$Reader"
  | 3 => .object "TarYard$Row"
  | 4 => .object "TarYard$Tree"
  | 5 => .object "TarYard$Tree"
  | _ => .int
theorem fcI7 : ∀ w ∈ u_ws "TarYard" FC7 7, w ∈ lw_tbl := by
  have e : u_ws "TarYard" FC7 7 = [266, 268, 270, 272, 274, 276, 278].filterMap (fun i => lw_tbl[i]?) := by decide +kernel
  intro w hw
  rw [e] at hw
  obtain ⟨i, -, hi⟩ := List.mem_filterMap.mp hw
  exact List.mem_of_getElem? hi
theorem fcN7 : ∀ a, a < 7 → ∀ b, b < 7 → a ≠ b → (FC7 a).2.1 ≠ (FC7 b).2.1 := by decide +kernel
theorem fcT7 : ∀ k, k < 7 → parseFieldDescriptor (FC7 k).2.2.1 = some (FT7 k) := by decide +kernel
theorem fcD7 : ∀ k, k < 7 → defaultValue (FT7 k) = vp_V ((tD 7).map cv) k := by decide +kernel
def FC8 : u_T := fun k => match k with
  | 0 => ("TarYardModel", "kinds", "[I", true)
  | 1 => ("TarYardModel", "places", "[I", true)
  | 2 => ("TarYardModel", "lengths", "[I", true)
  | 3 => ("TarYardModel", "modes", "[I", true)
  | 4 => ("TarYardModel", "owners", "[I", true)
  | 5 => ("TarYardModel", "times", "[I", true)
  | 6 => ("TarYardModel", "sizes", "[I", true)
  | 7 => ("TarYardModel", "links", "[I", true)
  | 8 => ("TarYardModel", "counts", "[I", true)
  | 9 => ("TarYardModel", "names", "[B", true)
  | 10 => ("TarYardModel", "bytes", "[B", true)
  | 11 => ("TarYardModel", "base", "I", false)
  | 12 => ("TarYardModel", "page", "[B", true)
  | 13 => ("TarYardModel", "pageSize", "I", false)
  | 14 => ("TarYardModel", "fault", "I", false)
  | 15 => ("TarYardModel", "way", "[B", true)
  | 16 => ("TarYardModel", "wayLength", "I", false)
  | 17 => ("TarYardModel", "lastBegin", "I", false)
  | 18 => ("TarYardModel", "lastLength", "I", false)
  | 19 => ("TarYardModel", "chain", "[I", true)
  | 20 => ("TarYardModel", "own", "[B", true)
  | 21 => ("TarYardModel", "order", "[I", true)
  | 22 => ("TarYardModel", "later", "[I", true)
  | 23 => ("TarYardModel", "open", "[I", true)
  | 24 => ("TarYardModel", "latest", "[I", true)
  | 25 => ("TarYardModel", "renumbered", "[I", true)
  | _ => ("TarYardModel", "thrown", "I", false)
def FT8 : Nat → FieldType := fun k => match k with
  | 0 => .array .int
  | 1 => .array .int
  | 2 => .array .int
  | 3 => .array .int
  | 4 => .array .int
  | 5 => .array .int
  | 6 => .array .int
  | 7 => .array .int
  | 8 => .array .int
  | 9 => .array .byte
  | 10 => .array .byte
  | 11 => .int
  | 12 => .array .byte
  | 13 => .int
  | 14 => .int
  | 15 => .array .byte
  | 16 => .int
  | 17 => .int
  | 18 => .int
  | 19 => .array .int
  | 20 => .array .byte
  | 21 => .array .int
  | 22 => .array .int
  | 23 => .array .int
  | 24 => .array .int
  | 25 => .array .int
  | _ => .int
theorem fcI8 : ∀ w ∈ u_ws "TarYardModel" FC8 27, w ∈ lw_tbl := by
  have e : u_ws "TarYardModel" FC8 27 = [862, 864, 866, 868, 870, 872, 874, 876, 878, 880, 882, 884, 886, 888, 890, 892, 894, 896, 898, 900, 902, 904, 906, 908, 910, 912, 914].filterMap (fun i => lw_tbl[i]?) := by decide +kernel
  intro w hw
  rw [e] at hw
  obtain ⟨i, -, hi⟩ := List.mem_filterMap.mp hw
  exact List.mem_of_getElem? hi
theorem fcN8 : ∀ a, a < 27 → ∀ b, b < 27 → a ≠ b → (FC8 a).2.1 ≠ (FC8 b).2.1 := by decide +kernel
theorem fcT8 : ∀ k, k < 27 → parseFieldDescriptor (FC8 k).2.2.1 = some (FT8 k) := by decide +kernel
theorem fcD8 : ∀ k, k < 27 → defaultValue (FT8 k) = vp_V ((tD 8).map cv) k := by decide +kernel
def vcl : List vw_C := [("TarYard$Node", FC0, 8), ("TarYard$Reader", FC1, 14), ("TarYard$Row", FC2, 2), ("TarYard$Tape", FC3, 1), ("TarYard$Tree", FC4, 3), ("TarYard$Tape", FC5, 0), ("TarYard$Writer", FC6, 3), ("TarYard", FC7, 7), ("TarYardModel", FC8, 27)]
def vcP (ci : Nat) (q : vw_C) : Prop := (0 < q.2.2 → q.1 = cNm ci) ∧ (∀ w ∈ u_ws q.1 q.2.1 q.2.2, w ∈ lw_tbl) ∧ (∀ a, a < q.2.2 → ∀ b, b < q.2.2 → a ≠ b → (q.2.1 a).2.1 ≠ (q.2.1 b).2.1) ∧ ∃ ty : Nat → FieldType, (∀ k, k < q.2.2 → parseFieldDescriptor (q.2.1 k).2.2.1 = some (ty k)) ∧ ∀ k, k < q.2.2 → defaultValue (ty k) = vp_V ((tD ci).map cv) k
theorem vcl_all : ∀ (ci : Nat) (q : vw_C), vcl[ci]? = some q → vcP ci q := by
  intro ci q h
  match ci, h with
  | 0, h => cases h; exact ⟨fun _ => rfl, fcI0, fcN0, FT0, fcT0, fcD0⟩
  | 1, h => cases h; exact ⟨fun _ => rfl, fcI1, fcN1, FT1, fcT1, fcD1⟩
  | 2, h => cases h; exact ⟨fun _ => rfl, fcI2, fcN2, FT2, fcT2, fcD2⟩
  | 3, h => cases h; exact ⟨fun _ => rfl, fcI3, fcN3, FT3, fcT3, fcD3⟩
  | 4, h => cases h; exact ⟨fun _ => rfl, fcI4, fcN4, FT4, fcT4, fcD4⟩
  | 5, h => cases h; exact ⟨fun h => absurd h (by decide), fcI5, fcN5, FT5, fcT5, fcD5⟩
  | 6, h => cases h; exact ⟨fun _ => rfl, fcI6, fcN6, FT6, fcT6, fcD6⟩
  | 7, h => cases h; exact ⟨fun _ => rfl, fcI7, fcN7, FT7, fcT7, fcD7⟩
  | 8, h => cases h; exact ⟨fun _ => rfl, fcI8, fcN8, FT8, fcT8, fcD8⟩
  | n + 9, h => simp [vcl] at h
def tagok (tag : Nat) (t : Option FieldType) : Bool := match tag, t with
  | 0, some .int => true
  | 1, some .long => true
  | 2, some (.object _) => true
  | 2, some (.array _) => true
  | _, _ => false
def tfB (c i p : Nat) (r : Nat × Nat × Nat × Bool) : Bool := match vcl[r.1]? with
  | none => false
  | some q => decide (r.2.1 < q.2.2) && (decide ((q.2.1 r.2.1).1 = q.1) && (decide ((q.2.1 r.2.1).2.2.2 = r.2.2.2) && (tagok r.2.2.1 (parseFieldDescriptor (q.2.1 r.2.1).2.2.1) && decide (lw_tbl[p]? = some (.fieldLink (cNm c) i q.1 (q.2.1 r.2.1).2.1 (q.2.1 r.2.1).2.2.1)))))
def tfl0 : List ((Nat × Nat × Nat × Nat × Bool) × Nat) := [((12, 0, 0, 2, true), 195), ((18, 0, 1, 2, true), 198), ((21, 0, 2, 0, false), 202), ((25, 0, 3, 0, false), 206), ((28, 0, 4, 0, false), 209), ((31, 0, 5, 0, false), 213), ((34, 0, 6, 0, false), 217), ((37, 0, 7, 0, false), 221), ((44, 2, 1, 0, false), 90)]
theorem tfe0 : tFl.getD 0 [] = tfl0.map (fun e => e.1) := rfl
theorem tfo0 : ∀ e ∈ tfl0, tfB 0 e.1.1 e.2 e.1.2 = true := by decide +kernel
def tfl1 : List ((Nat × Nat × Nat × Nat × Bool) × Nat) := [((12, 1, 1, 2, true), 135), ((18, 1, 2, 2, true), 136), ((21, 1, 3, 0, false), 137), ((25, 1, 4, 0, false), 139), ((28, 1, 5, 1, false), 140), ((32, 1, 6, 1, false), 141), ((35, 1, 7, 1, false), 142), ((38, 1, 8, 1, false), 143), ((41, 1, 9, 0, false), 144), ((44, 1, 10, 0, false), 145), ((47, 1, 11, 0, false), 146), ((50, 1, 12, 0, false), 147), ((53, 1, 13, 0, false), 148), ((56, 1, 0, 2, true), 134), ((71, 4, 1, 0, false), 249), ((129, 3, 0, 2, true), 103), ((148, 2, 1, 0, false), 93), ((190, 4, 0, 2, true), 245), ((194, 0, 5, 0, false), 216), ((198, 0, 6, 0, false), 220), ((200, 0, 7, 0, false), 224), ((202, 0, 1, 2, true), 201)]
theorem tfe1 : tFl.getD 1 [] = tfl1.map (fun e => e.1) := rfl
theorem tfo1 : ∀ e ∈ tfl1, tfB 1 e.1.1 e.2 e.1.2 = true := by decide +kernel
def tfl2 : List ((Nat × Nat × Nat × Nat × Bool) × Nat) := [((11, 2, 0, 2, false), 87), ((15, 2, 1, 0, false), 88)]
theorem tfe2 : tFl.getD 2 [] = tfl2.map (fun e => e.1) := rfl
theorem tfo2 : ∀ e ∈ tfl2, tfB 2 e.1.1 e.2 e.1.2 = true := by decide +kernel
def tfl3 : List ((Nat × Nat × Nat × Nat × Bool) × Nat) := [((12, 3, 0, 2, true), 101), ((18, 2, 1, 0, false), 89)]
theorem tfe3 : tFl.getD 3 [] = tfl3.map (fun e => e.1) := rfl
theorem tfo3 : ∀ e ∈ tfl3, tfB 3 e.1.1 e.2 e.1.2 = true := by decide +kernel
def tfl4 : List ((Nat × Nat × Nat × Nat × Bool) × Nat) := [((11, 4, 0, 2, true), 243), ((17, 4, 1, 0, false), 247), ((21, 4, 2, 2, true), 251), ((30, 0, 2, 0, false), 204), ((33, 0, 3, 0, false), 208), ((36, 0, 0, 2, true), 197), ((62, 0, 4, 0, false), 211), ((78, 2, 1, 0, false), 94)]
theorem tfe4 : tFl.getD 4 [] = tfl4.map (fun e => e.1) := rfl
theorem tfo4 : ∀ e ∈ tfl4, tfB 4 e.1.1 e.2 e.1.2 = true := by decide +kernel
def tfl5 : List ((Nat × Nat × Nat × Nat × Bool) × Nat) := []
theorem tfe5 : tFl.getD 5 [] = tfl5.map (fun e => e.1) := rfl
theorem tfo5 : ∀ e ∈ tfl5, tfB 5 e.1.1 e.2 e.1.2 = true := by decide +kernel
def tfl6 : List ((Nat × Nat × Nat × Nat × Bool) × Nat) := [((12, 6, 1, 2, true), 117), ((18, 6, 2, 0, false), 118), ((22, 6, 0, 2, true), 116), ((26, 4, 1, 0, false), 248), ((35, 4, 0, 2, true), 244), ((61, 0, 4, 0, false), 210), ((64, 2, 1, 0, false), 92), ((76, 3, 0, 2, true), 102), ((109, 0, 5, 0, false), 215), ((116, 0, 6, 0, false), 219), ((119, 0, 7, 0, false), 223), ((122, 0, 2, 0, false), 205), ((134, 0, 1, 2, true), 200)]
theorem tfe6 : tFl.getD 6 [] = tfl6.map (fun e => e.1) := rfl
theorem tfo6 : ∀ e ∈ tfl6, tfB 6 e.1.1 e.2 e.1.2 = true := by decide +kernel
def tfl7 : List ((Nat × Nat × Nat × Nat × Bool) × Nat) := [((12, 7, 0, 2, true), 259), ((21, 7, 1, 2, true), 260), ((28, 7, 2, 2, true), 261), ((35, 7, 3, 2, true), 262), ((42, 7, 4, 2, false), 263), ((46, 7, 5, 2, false), 264), ((49, 7, 6, 0, false), 265), ((81, 4, 1, 0, false), 250), ((101, 0, 0, 2, true), 196), ((106, 2, 1, 0, false), 91), ((113, 0, 3, 0, false), 207), ((118, 0, 2, 0, false), 203), ((131, 0, 1, 2, true), 199), ((147, 0, 5, 0, false), 214), ((150, 0, 6, 0, false), 218), ((153, 0, 7, 0, false), 222), ((182, 1, 3, 0, false), 138), ((185, 3, 0, 2, true), 104), ((204, 0, 4, 0, false), 212), ((218, 4, 0, 2, true), 246)]
theorem tfe7 : tFl.getD 7 [] = tfl7.map (fun e => e.1) := rfl
theorem tfo7 : ∀ e ∈ tfl7, tfB 7 e.1.1 e.2 e.1.2 = true := by decide +kernel
def tfl8 : List ((Nat × Nat × Nat × Nat × Bool) × Nat) := [((7, 8, 0, 2, true), 835), ((13, 8, 1, 2, true), 836), ((16, 8, 2, 2, true), 837), ((19, 8, 3, 2, true), 838), ((22, 8, 4, 2, true), 839), ((25, 8, 5, 2, true), 840), ((28, 8, 6, 2, true), 841), ((31, 8, 7, 2, true), 842), ((34, 8, 8, 2, true), 843), ((37, 8, 9, 2, true), 844), ((42, 8, 10, 2, true), 845), ((45, 8, 12, 2, true), 847), ((48, 8, 14, 0, false), 849), ((52, 8, 15, 2, true), 850), ((55, 8, 19, 2, true), 854), ((58, 8, 20, 2, true), 855), ((61, 8, 21, 2, true), 856), ((64, 8, 22, 2, true), 857), ((67, 8, 23, 2, true), 858), ((70, 8, 24, 2, true), 859), ((73, 8, 25, 2, true), 860), ((80, 8, 26, 0, false), 861), ((83, 8, 11, 0, false), 846), ((100, 8, 16, 0, false), 851), ((155, 8, 13, 0, false), 848), ((181, 8, 17, 0, false), 852), ((184, 8, 18, 0, false), 853)]
theorem tfe8 : tFl.getD 8 [] = tfl8.map (fun e => e.1) := rfl
theorem tfo8 : ∀ e ∈ tfl8, tfB 8 e.1.1 e.2 e.1.2 = true := by decide +kernel
def tfl9 : List ((Nat × Nat × Nat × Nat × Bool) × Nat) := []
theorem tfe9 : tFl.getD 9 [] = tfl9.map (fun e => e.1) := rfl
theorem tfo9 : ∀ e ∈ tfl9, tfB 9 e.1.1 e.2 e.1.2 = true := by decide +kernel
def tfl10 : List ((Nat × Nat × Nat × Nat × Bool) × Nat) := []
theorem tfe10 : tFl.getD 10 [] = tfl10.map (fun e => e.1) := rfl
theorem tfo10 : ∀ e ∈ tfl10, tfB 10 e.1.1 e.2 e.1.2 = true := by decide +kernel
theorem lookup_mem {α : Type} {l : List (Nat × α)} {k : Nat} {v : α} (h : l.lookup k = some v) : (k, v) ∈ l := by
  induction l with
  | nil => cases h
  | cons q l ih =>
    obtain ⟨a, b⟩ := q
    by_cases hk : k = a
    · subst hk
      simp [List.lookup] at h
      subst h
      exact List.mem_cons_self
    · rw [List.lookup_cons, show (k == a) = false by simpa using hk] at h
      exact List.mem_cons_of_mem _ (ih h)
theorem tF_ok {c i : Nat} {r : Nat × Nat × Nat × Bool} (h : tF c i = some r) : ∃ p, tfB c i p r = true := by
  have h1 := lookup_mem h
  match c, h1 with
  | 0, h1 =>
    rw [tfe0] at h1
    obtain ⟨e, he, hq⟩ := List.mem_map.mp h1
    have h2 := tfo0 e he
    rw [hq] at h2
    exact ⟨_, h2⟩
  | 1, h1 =>
    rw [tfe1] at h1
    obtain ⟨e, he, hq⟩ := List.mem_map.mp h1
    have h2 := tfo1 e he
    rw [hq] at h2
    exact ⟨_, h2⟩
  | 2, h1 =>
    rw [tfe2] at h1
    obtain ⟨e, he, hq⟩ := List.mem_map.mp h1
    have h2 := tfo2 e he
    rw [hq] at h2
    exact ⟨_, h2⟩
  | 3, h1 =>
    rw [tfe3] at h1
    obtain ⟨e, he, hq⟩ := List.mem_map.mp h1
    have h2 := tfo3 e he
    rw [hq] at h2
    exact ⟨_, h2⟩
  | 4, h1 =>
    rw [tfe4] at h1
    obtain ⟨e, he, hq⟩ := List.mem_map.mp h1
    have h2 := tfo4 e he
    rw [hq] at h2
    exact ⟨_, h2⟩
  | 5, h1 =>
    rw [tfe5] at h1
    obtain ⟨e, he, hq⟩ := List.mem_map.mp h1
    have h2 := tfo5 e he
    rw [hq] at h2
    exact ⟨_, h2⟩
  | 6, h1 =>
    rw [tfe6] at h1
    obtain ⟨e, he, hq⟩ := List.mem_map.mp h1
    have h2 := tfo6 e he
    rw [hq] at h2
    exact ⟨_, h2⟩
  | 7, h1 =>
    rw [tfe7] at h1
    obtain ⟨e, he, hq⟩ := List.mem_map.mp h1
    have h2 := tfo7 e he
    rw [hq] at h2
    exact ⟨_, h2⟩
  | 8, h1 =>
    rw [tfe8] at h1
    obtain ⟨e, he, hq⟩ := List.mem_map.mp h1
    have h2 := tfo8 e he
    rw [hq] at h2
    exact ⟨_, h2⟩
  | 9, h1 =>
    rw [tfe9] at h1
    obtain ⟨e, he, hq⟩ := List.mem_map.mp h1
    have h2 := tfo9 e he
    rw [hq] at h2
    exact ⟨_, h2⟩
  | 10, h1 =>
    rw [tfe10] at h1
    obtain ⟨e, he, hq⟩ := List.mem_map.mp h1
    have h2 := tfo10 e he
    rw [hq] at h2
    exact ⟨_, h2⟩
  | n + 11, h1 => exact absurd h1 (by simp [tFl])
theorem in_0 : yNd_init ∈ allY := List.mem_of_getElem? (i := 0) rfl
theorem in_1 : yNd_begin ∈ allY := List.mem_of_getElem? (i := 1) rfl
theorem in_2 : yNd_contentsLength ∈ allY := List.mem_of_getElem? (i := 2) rfl
theorem in_3 : yRd_init ∈ allY := List.mem_of_getElem? (i := 3) rfl
theorem in_4 : yRd_addText ∈ allY := List.mem_of_getElem? (i := 4) rfl
theorem in_5 : yRd_faultOfContents ∈ allY := List.mem_of_getElem? (i := 5) rfl
theorem in_6 : yRd_faultOfEntry ∈ allY := List.mem_of_getElem? (i := 6) rfl
theorem in_7 : yRd_isMarked ∈ allY := List.mem_of_getElem? (i := 7) rfl
theorem in_8 : yRd_takeEntry ∈ allY := List.mem_of_getElem? (i := 8) rfl
theorem in_9 : yRd_takeKind ∈ allY := List.mem_of_getElem? (i := 9) rfl
theorem in_10 : yRd_takeNumbers ∈ allY := List.mem_of_getElem? (i := 10) rfl
theorem in_11 : yRd_takePath ∈ allY := List.mem_of_getElem? (i := 11) rfl
theorem in_12 : yRd_takeTarget ∈ allY := List.mem_of_getElem? (i := 12) rfl
theorem in_13 : yRd_takeTree ∈ allY := List.mem_of_getElem? (i := 13) rfl
theorem in_14 : yRw_init ∈ allY := List.mem_of_getElem? (i := 14) rfl
theorem in_15 : yRw_addLetters ∈ allY := List.mem_of_getElem? (i := 15) rfl
theorem in_16 : yRw_at ∈ allY := List.mem_of_getElem? (i := 16) rfl
theorem in_17 : yRw_copySlice ∈ allY := List.mem_of_getElem? (i := 17) rfl
theorem in_18 : yRw_isNameOfAnyLength ∈ allY := List.mem_of_getElem? (i := 18) rfl
theorem in_19 : yRw_isSlice ∈ allY := List.mem_of_getElem? (i := 19) rfl
theorem in_20 : yRw_isTarget ∈ allY := List.mem_of_getElem? (i := 20) rfl
theorem in_21 : yRw_lastSlash ∈ allY := List.mem_of_getElem? (i := 21) rfl
theorem in_22 : yRw_order ∈ allY := List.mem_of_getElem? (i := 22) rfl
theorem in_23 : yRw_put ∈ allY := List.mem_of_getElem? (i := 23) rfl
theorem in_24 : yRw_putAll ∈ allY := List.mem_of_getElem? (i := 24) rfl
theorem in_25 : yRw_resize ∈ allY := List.mem_of_getElem? (i := 25) rfl
theorem in_26 : yTp_init ∈ allY := List.mem_of_getElem? (i := 26) rfl
theorem in_27 : yTp_blocksOf ∈ allY := List.mem_of_getElem? (i := 27) rfl
theorem in_28 : yTp_hasCheck ∈ allY := List.mem_of_getElem? (i := 28) rfl
theorem in_29 : yTp_hasMark ∈ allY := List.mem_of_getElem? (i := 29) rfl
theorem in_30 : yTp_isBlockOfZeros ∈ allY := List.mem_of_getElem? (i := 30) rfl
theorem in_31 : yTp_isZeros ∈ allY := List.mem_of_getElem? (i := 31) rfl
theorem in_32 : yTp_octal ∈ allY := List.mem_of_getElem? (i := 32) rfl
theorem in_33 : yTp_putCheck ∈ allY := List.mem_of_getElem? (i := 33) rfl
theorem in_34 : yTp_putMark ∈ allY := List.mem_of_getElem? (i := 34) rfl
theorem in_35 : yTp_putOctal ∈ allY := List.mem_of_getElem? (i := 35) rfl
theorem in_36 : yTp_sum ∈ allY := List.mem_of_getElem? (i := 36) rfl
theorem in_37 : yTp_wholeBlocks ∈ allY := List.mem_of_getElem? (i := 37) rfl
theorem in_38 : yTr_init ∈ allY := List.mem_of_getElem? (i := 38) rfl
theorem in_39 : yTr_add ∈ allY := List.mem_of_getElem? (i := 39) rfl
theorem in_40 : yTr_childNamed ∈ allY := List.mem_of_getElem? (i := 40) rfl
theorem in_41 : yTr_clear ∈ allY := List.mem_of_getElem? (i := 41) rfl
theorem in_42 : yTr_closeGaps ∈ allY := List.mem_of_getElem? (i := 42) rfl
theorem in_43 : yTr_comesBehind ∈ allY := List.mem_of_getElem? (i := 43) rfl
theorem in_44 : yTr_drop ∈ allY := List.mem_of_getElem? (i := 44) rfl
theorem in_45 : yTr_follower ∈ allY := List.mem_of_getElem? (i := 45) rfl
theorem in_46 : yTr_has ∈ allY := List.mem_of_getElem? (i := 46) rfl
theorem in_47 : yTr_isGone ∈ allY := List.mem_of_getElem? (i := 47) rfl
theorem in_48 : yTr_isOfKind ∈ allY := List.mem_of_getElem? (i := 48) rfl
theorem in_49 : yTr_longestPath ∈ allY := List.mem_of_getElem? (i := 49) rfl
theorem in_50 : yTr_lookUp ∈ allY := List.mem_of_getElem? (i := 50) rfl
theorem in_51 : yTr_newNumber ∈ allY := List.mem_of_getElem? (i := 51) rfl
theorem in_52 : yTr_nextChild ∈ allY := List.mem_of_getElem? (i := 52) rfl
theorem in_53 : yTr_pathLength ∈ allY := List.mem_of_getElem? (i := 53) rfl
theorem in_54 : yTr_spellPath ∈ allY := List.mem_of_getElem? (i := 54) rfl
theorem in_55 : yTt_kindOf ∈ allY := List.mem_of_getElem? (i := 55) rfl
theorem in_56 : yTt_typeOf ∈ allY := List.mem_of_getElem? (i := 56) rfl
theorem in_57 : yWr_init ∈ allY := List.mem_of_getElem? (i := 57) rfl
theorem in_58 : yWr_blocksFor ∈ allY := List.mem_of_getElem? (i := 58) rfl
theorem in_59 : yWr_cutOfPath ∈ allY := List.mem_of_getElem? (i := 59) rfl
theorem in_60 : yWr_isTellable ∈ allY := List.mem_of_getElem? (i := 60) rfl
theorem in_61 : yWr_putContents ∈ allY := List.mem_of_getElem? (i := 61) rfl
theorem in_62 : yWr_putEntries ∈ allY := List.mem_of_getElem? (i := 62) rfl
theorem in_63 : yWr_putHeader ∈ allY := List.mem_of_getElem? (i := 63) rfl
theorem in_64 : yWr_putPath ∈ allY := List.mem_of_getElem? (i := 64) rfl
theorem in_65 : yWr_putTree ∈ allY := List.mem_of_getElem? (i := 65) rfl
theorem in_66 : yTY_init ∈ allY := List.mem_of_getElem? (i := 66) rfl
theorem in_67 : yTY_alter ∈ allY := List.mem_of_getElem? (i := 67) rfl
theorem in_68 : yTY_check ∈ allY := List.mem_of_getElem? (i := 68) rfl
theorem in_69 : yTY_contents ∈ allY := List.mem_of_getElem? (i := 69) rfl
theorem in_70 : yTY_fill ∈ allY := List.mem_of_getElem? (i := 70) rfl
theorem in_71 : yTY_hand ∈ allY := List.mem_of_getElem? (i := 71) rfl
theorem in_72 : yTY_known ∈ allY := List.mem_of_getElem? (i := 72) rfl
theorem in_73 : yTY_make ∈ allY := List.mem_of_getElem? (i := 73) rfl
theorem in_74 : yTY_node ∈ allY := List.mem_of_getElem? (i := 74) rfl
theorem in_75 : yTY_part ∈ allY := List.mem_of_getElem? (i := 75) rfl
theorem in_76 : yTY_place ∈ allY := List.mem_of_getElem? (i := 76) rfl
theorem in_77 : yTY_read ∈ allY := List.mem_of_getElem? (i := 77) rfl
theorem in_78 : yTY_refuseName ∈ allY := List.mem_of_getElem? (i := 78) rfl
theorem in_79 : yTY_remove ∈ allY := List.mem_of_getElem? (i := 79) rfl
theorem in_80 : yTY_rename ∈ allY := List.mem_of_getElem? (i := 80) rfl
theorem in_81 : yTY_set ∈ allY := List.mem_of_getElem? (i := 81) rfl
theorem in_82 : yTY_size ∈ allY := List.mem_of_getElem? (i := 82) rfl
theorem in_83 : yTY_total ∈ allY := List.mem_of_getElem? (i := 83) rfl
theorem in_84 : yTY_write ∈ allY := List.mem_of_getElem? (i := 84) rfl
theorem in_85 : yMd_init ∈ allY := List.mem_of_getElem? (i := 85) rfl
theorem in_86 : yMd_add ∈ allY := List.mem_of_getElem? (i := 86) rfl
theorem in_87 : yMd_alter ∈ allY := List.mem_of_getElem? (i := 87) rfl
theorem in_88 : yMd_arrange ∈ allY := List.mem_of_getElem? (i := 88) rfl
theorem in_89 : yMd_blocksOf ∈ allY := List.mem_of_getElem? (i := 89) rfl
theorem in_90 : yMd_check ∈ allY := List.mem_of_getElem? (i := 90) rfl
theorem in_91 : yMd_clear ∈ allY := List.mem_of_getElem? (i := 91) rfl
theorem in_92 : yMd_compare ∈ allY := List.mem_of_getElem? (i := 92) rfl
theorem in_93 : yMd_contents ∈ allY := List.mem_of_getElem? (i := 93) rfl
theorem in_94 : yMd_copyIn ∈ allY := List.mem_of_getElem? (i := 94) rfl
theorem in_95 : yMd_count ∈ allY := List.mem_of_getElem? (i := 95) rfl
theorem in_96 : yMd_cutOf ∈ allY := List.mem_of_getElem? (i := 96) rfl
theorem in_97 : yMd_entry ∈ allY := List.mem_of_getElem? (i := 97) rfl
theorem in_98 : yMd_fails ∈ allY := List.mem_of_getElem? (i := 98) rfl
theorem in_99 : yMd_fill ∈ allY := List.mem_of_getElem? (i := 99) rfl
theorem in_100 : yMd_find ∈ allY := List.mem_of_getElem? (i := 100) rfl
theorem in_101 : yMd_firstFault ∈ allY := List.mem_of_getElem? (i := 101) rfl
theorem in_102 : yMd_hand ∈ allY := List.mem_of_getElem? (i := 102) rfl
theorem in_103 : yMd_head ∈ allY := List.mem_of_getElem? (i := 103) rfl
theorem in_104 : yMd_isCalled ∈ allY := List.mem_of_getElem? (i := 104) rfl
theorem in_105 : yMd_isLetter ∈ allY := List.mem_of_getElem? (i := 105) rfl
theorem in_106 : yMd_isName ∈ allY := List.mem_of_getElem? (i := 106) rfl
theorem in_107 : yMd_isNode ∈ allY := List.mem_of_getElem? (i := 107) rfl
theorem in_108 : yMd_isZero ∈ allY := List.mem_of_getElem? (i := 108) rfl
theorem in_109 : yMd_make ∈ allY := List.mem_of_getElem? (i := 109) rfl
theorem in_110 : yMd_markOf ∈ allY := List.mem_of_getElem? (i := 110) rfl
theorem in_111 : yMd_move ∈ allY := List.mem_of_getElem? (i := 111) rfl
theorem in_112 : yMd_next ∈ allY := List.mem_of_getElem? (i := 112) rfl
theorem in_113 : yMd_node ∈ allY := List.mem_of_getElem? (i := 113) rfl
theorem in_114 : yMd_number ∈ allY := List.mem_of_getElem? (i := 114) rfl
theorem in_115 : yMd_octal ∈ allY := List.mem_of_getElem? (i := 115) rfl
theorem in_116 : yMd_part ∈ allY := List.mem_of_getElem? (i := 116) rfl
theorem in_117 : yMd_place ∈ allY := List.mem_of_getElem? (i := 117) rfl
theorem in_118 : yMd_read ∈ allY := List.mem_of_getElem? (i := 118) rfl
theorem in_119 : yMd_remove ∈ allY := List.mem_of_getElem? (i := 119) rfl
theorem in_120 : yMd_rename ∈ allY := List.mem_of_getElem? (i := 120) rfl
theorem in_121 : yMd_set ∈ allY := List.mem_of_getElem? (i := 121) rfl
theorem in_122 : yMd_size ∈ allY := List.mem_of_getElem? (i := 122) rfl
theorem in_123 : yMd_spell ∈ allY := List.mem_of_getElem? (i := 123) rfl
theorem in_124 : yMd_sum ∈ allY := List.mem_of_getElem? (i := 124) rfl
theorem in_125 : yMd_tell ∈ allY := List.mem_of_getElem? (i := 125) rfl
theorem in_126 : yMd_textOf ∈ allY := List.mem_of_getElem? (i := 126) rfl
theorem in_127 : yMd_thrown ∈ allY := List.mem_of_getElem? (i := 127) rfl
theorem in_128 : yMd_total ∈ allY := List.mem_of_getElem? (i := 128) rfl
theorem in_129 : yMd_walk ∈ allY := List.mem_of_getElem? (i := 129) rfl
theorem in_130 : yMd_within ∈ allY := List.mem_of_getElem? (i := 130) rfl
theorem in_131 : yMd_write ∈ allY := List.mem_of_getElem? (i := 131) rfl
theorem in_132 : yLw_alter ∈ allY := List.mem_of_getElem? (i := 132) rfl
theorem in_133 : yLw_check ∈ allY := List.mem_of_getElem? (i := 133) rfl
theorem in_134 : yLw_contents ∈ allY := List.mem_of_getElem? (i := 134) rfl
theorem in_135 : yLw_fill ∈ allY := List.mem_of_getElem? (i := 135) rfl
theorem in_136 : yLw_law ∈ allY := List.mem_of_getElem? (i := 136) rfl
theorem in_137 : yLw_make ∈ allY := List.mem_of_getElem? (i := 137) rfl
theorem in_138 : yLw_node ∈ allY := List.mem_of_getElem? (i := 138) rfl
theorem in_139 : yLw_part ∈ allY := List.mem_of_getElem? (i := 139) rfl
theorem in_140 : yLw_remove ∈ allY := List.mem_of_getElem? (i := 140) rfl
theorem in_141 : yLw_rename ∈ allY := List.mem_of_getElem? (i := 141) rfl
theorem in_142 : yLw_set ∈ allY := List.mem_of_getElem? (i := 142) rfl
theorem in_143 : yLw_size ∈ allY := List.mem_of_getElem? (i := 143) rfl
theorem in_144 : yLw_total ∈ allY := List.mem_of_getElem? (i := 144) rfl
theorem in_145 : yLw_write ∈ allY := List.mem_of_getElem? (i := 145) rfl
theorem in_146 : yAr_copyOf ∈ allY := List.mem_of_getElem? (i := 146) rfl
def tmP (c i : Nat) (r : Nat × Nat × AY) : Prop := r.2.2 ∈ allY ∧ (r.1 = 0 → (mf r.2.2).1 = 0) ∧ (r.1 = 1 → (mf r.2.2).1 = 1) ∧ (r.1 = 2 → (mf r.2.2).1 = 2 ∨ (mf r.2.2).1 = 4) ∧ r.1 ≤ 2 ∧ r.2.1 = (mf r.2.2).2.2.2.2.2 ∧ ∃ p : Nat, lw_tbl[p]? = some (.methodLink (cNm c) i (nm r.2.2)) ∨ (r.1 = 1 ∧ lw_tbl[p]? = some (.methodLinkNest (cNm c) i (nm r.2.2) "TarYard"))
theorem tm_0_11 : tmP 0 11 (1, 0, yRw_init) := ⟨in_14, by decide +kernel, by decide +kernel, by decide +kernel, by decide +kernel, by decide +kernel, 194, Or.inr <| And.intro (by decide +kernel) (by decide +kernel)⟩
theorem tm_0_40 : tmP 0 40 (0, 1, yRw_resize) := ⟨in_25, by decide +kernel, by decide +kernel, by decide +kernel, by decide +kernel, by decide +kernel, 297, Or.inl (by decide +kernel)⟩
theorem tmq_0 : ∀ e ∈ tMl.getD 0 [], tmP 0 e.1 e.2 := List.forall_mem_cons.mpr ⟨tm_0_11, List.forall_mem_cons.mpr ⟨tm_0_40, fun _ h => absurd h List.not_mem_nil⟩⟩
theorem tm_1_11 : tmP 1 11 (1, 0, yRw_init) := ⟨in_14, by decide +kernel, by decide +kernel, by decide +kernel, by decide +kernel, by decide +kernel, 133, Or.inr <| And.intro (by decide +kernel) (by decide +kernel)⟩
theorem tm_1_60 : tmP 1 60 (0, 0, yTr_clear) := ⟨in_41, by decide +kernel, by decide +kernel, by decide +kernel, by decide +kernel, by decide +kernel, 289, Or.inl (by decide +kernel)⟩
theorem tm_1_65 : tmP 1 65 (0, 1, yTp_isBlockOfZeros) := ⟨in_30, by decide +kernel, by decide +kernel, by decide +kernel, by decide +kernel, by decide +kernel, 321, Or.inl (by decide +kernel)⟩
theorem tm_1_74 : tmP 1 74 (0, 1, yRd_faultOfEntry) := ⟨in_6, by decide +kernel, by decide +kernel, by decide +kernel, by decide +kernel, by decide +kernel, 337, Or.inl (by decide +kernel)⟩
theorem tm_1_78 : tmP 1 78 (0, 1, yRd_takeEntry) := ⟨in_8, by decide +kernel, by decide +kernel, by decide +kernel, by decide +kernel, by decide +kernel, 446, Or.inl (by decide +kernel)⟩
theorem tm_1_82 : tmP 1 82 (0, 0, yTp_wholeBlocks) := ⟨in_37, by decide +kernel, by decide +kernel, by decide +kernel, by decide +kernel, by decide +kernel, 341, Or.inl (by decide +kernel)⟩
theorem tm_1_86 : tmP 1 86 (0, 1, yTp_hasCheck) := ⟨in_28, by decide +kernel, by decide +kernel, by decide +kernel, by decide +kernel, by decide +kernel, 342, Or.inl (by decide +kernel)⟩
theorem tm_1_89 : tmP 1 89 (0, 0, yRd_isMarked) := ⟨in_7, by decide +kernel, by decide +kernel, by decide +kernel, by decide +kernel, by decide +kernel, 356, Or.inl (by decide +kernel)⟩
theorem tm_1_93 : tmP 1 93 (0, 0, yRd_takeNumbers) := ⟨in_10, by decide +kernel, by decide +kernel, by decide +kernel, by decide +kernel, by decide +kernel, 367, Or.inl (by decide +kernel)⟩
theorem tm_1_96 : tmP 1 96 (0, 0, yRd_takeKind) := ⟨in_9, by decide +kernel, by decide +kernel, by decide +kernel, by decide +kernel, by decide +kernel, 375, Or.inl (by decide +kernel)⟩
theorem tm_1_99 : tmP 1 99 (0, 1, yRd_takePath) := ⟨in_11, by decide +kernel, by decide +kernel, by decide +kernel, by decide +kernel, by decide +kernel, 383, Or.inl (by decide +kernel)⟩
theorem tm_1_103 : tmP 1 103 (0, 1, yRd_takeTarget) := ⟨in_12, by decide +kernel, by decide +kernel, by decide +kernel, by decide +kernel, by decide +kernel, 430, Or.inl (by decide +kernel)⟩
theorem tm_1_108 : tmP 1 108 (0, 1, yRd_faultOfContents) := ⟨in_5, by decide +kernel, by decide +kernel, by decide +kernel, by decide +kernel, by decide +kernel, 439, Or.inl (by decide +kernel)⟩
theorem tm_1_112 : tmP 1 112 (0, 1, yTp_hasMark) := ⟨in_29, by decide +kernel, by decide +kernel, by decide +kernel, by decide +kernel, by decide +kernel, 360, Or.inl (by decide +kernel)⟩
theorem tm_1_115 : tmP 1 115 (0, 2, yTp_isZeros) := ⟨in_31, by decide +kernel, by decide +kernel, by decide +kernel, by decide +kernel, by decide +kernel, 366, Or.inl (by decide +kernel)⟩
theorem tm_1_119 : tmP 1 119 (0, 2, yTp_octal) := ⟨in_32, by decide +kernel, by decide +kernel, by decide +kernel, by decide +kernel, by decide +kernel, 371, Or.inl (by decide +kernel)⟩
theorem tm_1_132 : tmP 1 132 (0, 1, yRw_at) := ⟨in_16, by decide +kernel, by decide +kernel, by decide +kernel, by decide +kernel, by decide +kernel, 379, Or.inl (by decide +kernel)⟩
theorem tm_1_135 : tmP 1 135 (2, 1, yTt_kindOf) := ⟨in_55, by decide +kernel, by decide +kernel, by decide +kernel, by decide +kernel, by decide +kernel, 380, Or.inl (by decide +kernel)⟩
theorem tm_1_140 : tmP 1 140 (0, 1, yRw_resize) := ⟨in_25, by decide +kernel, by decide +kernel, by decide +kernel, by decide +kernel, by decide +kernel, 387, Or.inl (by decide +kernel)⟩
theorem tm_1_144 : tmP 1 144 (0, 3, yRd_addText) := ⟨in_4, by decide +kernel, by decide +kernel, by decide +kernel, by decide +kernel, by decide +kernel, 388, Or.inl (by decide +kernel)⟩
theorem tm_1_152 : tmP 1 152 (0, 2, yRw_addLetters) := ⟨in_15, by decide +kernel, by decide +kernel, by decide +kernel, by decide +kernel, by decide +kernel, 397, Or.inl (by decide +kernel)⟩
theorem tm_1_156 : tmP 1 156 (0, 1, yRw_lastSlash) := ⟨in_21, by decide +kernel, by decide +kernel, by decide +kernel, by decide +kernel, by decide +kernel, 403, Or.inl (by decide +kernel)⟩
theorem tm_1_159 : tmP 1 159 (0, 2, yTr_lookUp) := ⟨in_50, by decide +kernel, by decide +kernel, by decide +kernel, by decide +kernel, by decide +kernel, 408, Or.inl (by decide +kernel)⟩
theorem tm_1_163 : tmP 1 163 (0, 2, yRw_isNameOfAnyLength) := ⟨in_18, by decide +kernel, by decide +kernel, by decide +kernel, by decide +kernel, by decide +kernel, 421, Or.inl (by decide +kernel)⟩
theorem tm_1_166 : tmP 1 166 (0, 2, yTr_isOfKind) := ⟨in_48, by decide +kernel, by decide +kernel, by decide +kernel, by decide +kernel, by decide +kernel, 425, Or.inl (by decide +kernel)⟩
theorem tm_1_169 : tmP 1 169 (0, 4, yTr_childNamed) := ⟨in_40, by decide +kernel, by decide +kernel, by decide +kernel, by decide +kernel, by decide +kernel, 429, Or.inl (by decide +kernel)⟩
theorem tm_1_173 : tmP 1 173 (0, 0, yRw_isTarget) := ⟨in_20, by decide +kernel, by decide +kernel, by decide +kernel, by decide +kernel, by decide +kernel, 434, Or.inl (by decide +kernel)⟩
theorem tm_1_176 : tmP 1 176 (0, 2, yRw_put) := ⟨in_23, by decide +kernel, by decide +kernel, by decide +kernel, by decide +kernel, by decide +kernel, 392, Or.inl (by decide +kernel)⟩
theorem tm_1_180 : tmP 1 180 (2, 1, yTp_blocksOf) := ⟨in_27, by decide +kernel, by decide +kernel, by decide +kernel, by decide +kernel, by decide +kernel, 443, Or.inl (by decide +kernel)⟩
theorem tm_1_183 : tmP 1 183 (0, 6, yTr_add) := ⟨in_39, by decide +kernel, by decide +kernel, by decide +kernel, by decide +kernel, by decide +kernel, 450, Or.inl (by decide +kernel)⟩
theorem tm_1_187 : tmP 1 187 (0, 1, yTr_has) := ⟨in_46, by decide +kernel, by decide +kernel, by decide +kernel, by decide +kernel, by decide +kernel, 458, Or.inl (by decide +kernel)⟩
theorem tm_1_205 : tmP 1 205 (0, 3, yRw_copySlice) := ⟨in_17, by decide +kernel, by decide +kernel, by decide +kernel, by decide +kernel, by decide +kernel, 462, Or.inl (by decide +kernel)⟩
theorem tmq_1 : ∀ e ∈ tMl.getD 1 [], tmP 1 e.1 e.2 := List.forall_mem_cons.mpr ⟨tm_1_11, List.forall_mem_cons.mpr ⟨tm_1_60, List.forall_mem_cons.mpr ⟨tm_1_65, List.forall_mem_cons.mpr ⟨tm_1_74, List.forall_mem_cons.mpr ⟨tm_1_78, List.forall_mem_cons.mpr ⟨tm_1_82, List.forall_mem_cons.mpr ⟨tm_1_86, List.forall_mem_cons.mpr ⟨tm_1_89, List.forall_mem_cons.mpr ⟨tm_1_93, List.forall_mem_cons.mpr ⟨tm_1_96, List.forall_mem_cons.mpr ⟨tm_1_99, List.forall_mem_cons.mpr ⟨tm_1_103, List.forall_mem_cons.mpr ⟨tm_1_108, List.forall_mem_cons.mpr ⟨tm_1_112, List.forall_mem_cons.mpr ⟨tm_1_115, List.forall_mem_cons.mpr ⟨tm_1_119, List.forall_mem_cons.mpr ⟨tm_1_132, List.forall_mem_cons.mpr ⟨tm_1_135, List.forall_mem_cons.mpr ⟨tm_1_140, List.forall_mem_cons.mpr ⟨tm_1_144, List.forall_mem_cons.mpr ⟨tm_1_152, List.forall_mem_cons.mpr ⟨tm_1_156, List.forall_mem_cons.mpr ⟨tm_1_159, List.forall_mem_cons.mpr ⟨tm_1_163, List.forall_mem_cons.mpr ⟨tm_1_166, List.forall_mem_cons.mpr ⟨tm_1_169, List.forall_mem_cons.mpr ⟨tm_1_173, List.forall_mem_cons.mpr ⟨tm_1_176, List.forall_mem_cons.mpr ⟨tm_1_180, List.forall_mem_cons.mpr ⟨tm_1_183, List.forall_mem_cons.mpr ⟨tm_1_187, List.forall_mem_cons.mpr ⟨tm_1_205, fun _ h => absurd h List.not_mem_nil⟩⟩⟩⟩⟩⟩⟩⟩⟩⟩⟩⟩⟩⟩⟩⟩⟩⟩⟩⟩⟩⟩⟩⟩⟩⟩⟩⟩⟩⟩⟩⟩
theorem tm_2_28 : tmP 2 28 (2, 2, yAr_copyOf) := ⟨in_146, by decide +kernel, by decide +kernel, by decide +kernel, by decide +kernel, by decide +kernel, 307, Or.inl (by decide +kernel)⟩
theorem tm_2_34 : tmP 2 34 (0, 1, yRw_resize) := ⟨in_25, by decide +kernel, by decide +kernel, by decide +kernel, by decide +kernel, by decide +kernel, 401, Or.inl (by decide +kernel)⟩
theorem tm_2_38 : tmP 2 38 (0, 2, yRw_put) := ⟨in_23, by decide +kernel, by decide +kernel, by decide +kernel, by decide +kernel, by decide +kernel, 402, Or.inl (by decide +kernel)⟩
theorem tm_2_42 : tmP 2 42 (0, 1, yRw_at) := ⟨in_16, by decide +kernel, by decide +kernel, by decide +kernel, by decide +kernel, by decide +kernel, 407, Or.inl (by decide +kernel)⟩
theorem tmq_2 : ∀ e ∈ tMl.getD 2 [], tmP 2 e.1 e.2 := List.forall_mem_cons.mpr ⟨tm_2_28, List.forall_mem_cons.mpr ⟨tm_2_34, List.forall_mem_cons.mpr ⟨tm_2_38, List.forall_mem_cons.mpr ⟨tm_2_42, fun _ h => absurd h List.not_mem_nil⟩⟩⟩⟩
theorem tm_3_11 : tmP 3 11 (1, 0, yRw_init) := ⟨in_14, by decide +kernel, by decide +kernel, by decide +kernel, by decide +kernel, by decide +kernel, 83, Or.inr <| And.intro (by decide +kernel) (by decide +kernel)⟩
theorem tm_3_22 : tmP 3 22 (0, 1, yRw_at) := ⟨in_16, by decide +kernel, by decide +kernel, by decide +kernel, by decide +kernel, by decide +kernel, 333, Or.inl (by decide +kernel)⟩
theorem tm_3_26 : tmP 3 26 (0, 0, yTp_wholeBlocks) := ⟨in_37, by decide +kernel, by decide +kernel, by decide +kernel, by decide +kernel, by decide +kernel, 325, Or.inl (by decide +kernel)⟩
theorem tm_3_30 : tmP 3 30 (0, 2, yTp_isZeros) := ⟨in_31, by decide +kernel, by decide +kernel, by decide +kernel, by decide +kernel, by decide +kernel, 329, Or.inl (by decide +kernel)⟩
theorem tm_3_34 : tmP 3 34 (0, 2, yRw_put) := ⟨in_23, by decide +kernel, by decide +kernel, by decide +kernel, by decide +kernel, by decide +kernel, 751, Or.inl (by decide +kernel)⟩
theorem tm_3_46 : tmP 3 46 (0, 1, yTp_sum) := ⟨in_36, by decide +kernel, by decide +kernel, by decide +kernel, by decide +kernel, by decide +kernel, 352, Or.inl (by decide +kernel)⟩
theorem tm_3_49 : tmP 3 49 (0, 3, yTp_putOctal) := ⟨in_35, by decide +kernel, by decide +kernel, by decide +kernel, by decide +kernel, by decide +kernel, 764, Or.inl (by decide +kernel)⟩
theorem tm_3_53 : tmP 3 53 (0, 2, yTp_octal) := ⟨in_32, by decide +kernel, by decide +kernel, by decide +kernel, by decide +kernel, by decide +kernel, 346, Or.inl (by decide +kernel)⟩
theorem tmq_3 : ∀ e ∈ tMl.getD 3 [], tmP 3 e.1 e.2 := List.forall_mem_cons.mpr ⟨tm_3_11, List.forall_mem_cons.mpr ⟨tm_3_22, List.forall_mem_cons.mpr ⟨tm_3_26, List.forall_mem_cons.mpr ⟨tm_3_30, List.forall_mem_cons.mpr ⟨tm_3_34, List.forall_mem_cons.mpr ⟨tm_3_46, List.forall_mem_cons.mpr ⟨tm_3_49, List.forall_mem_cons.mpr ⟨tm_3_53, fun _ h => absurd h List.not_mem_nil⟩⟩⟩⟩⟩⟩⟩⟩
theorem tm_4_25 : tmP 4 25 (1, 0, yNd_init) := ⟨in_0, by decide +kernel, by decide +kernel, by decide +kernel, by decide +kernel, by decide +kernel, 189, Or.inr <| And.intro (by decide +kernel) (by decide +kernel)⟩
theorem tm_4_26 : tmP 4 26 (0, 3, yNd_begin) := ⟨in_1, by decide +kernel, by decide +kernel, by decide +kernel, by decide +kernel, by decide +kernel, 293, Or.inl (by decide +kernel)⟩
theorem tm_4_40 : tmP 4 40 (0, 3, yRw_isSlice) := ⟨in_19, by decide +kernel, by decide +kernel, by decide +kernel, by decide +kernel, by decide +kernel, 417, Or.inl (by decide +kernel)⟩
theorem tm_4_46 : tmP 4 46 (0, 1, yRw_at) := ⟨in_16, by decide +kernel, by decide +kernel, by decide +kernel, by decide +kernel, by decide +kernel, 412, Or.inl (by decide +kernel)⟩
theorem tm_4_50 : tmP 4 50 (0, 4, yTr_childNamed) := ⟨in_40, by decide +kernel, by decide +kernel, by decide +kernel, by decide +kernel, by decide +kernel, 413, Or.inl (by decide +kernel)⟩
theorem tm_4_54 : tmP 4 54 (0, 3, yRw_copySlice) := ⟨in_17, by decide +kernel, by decide +kernel, by decide +kernel, by decide +kernel, by decide +kernel, 454, Or.inl (by decide +kernel)⟩
theorem tm_4_58 : tmP 4 58 (0, 1, yTr_isGone) := ⟨in_47, by decide +kernel, by decide +kernel, by decide +kernel, by decide +kernel, by decide +kernel, 639, Or.inl (by decide +kernel)⟩
theorem tm_4_65 : tmP 4 65 (0, 1, yTr_newNumber) := ⟨in_51, by decide +kernel, by decide +kernel, by decide +kernel, by decide +kernel, by decide +kernel, 644, Or.inl (by decide +kernel)⟩
theorem tm_4_68 : tmP 4 68 (0, 0, yTr_closeGaps) := ⟨in_42, by decide +kernel, by decide +kernel, by decide +kernel, by decide +kernel, by decide +kernel, 648, Or.inl (by decide +kernel)⟩
theorem tm_4_71 : tmP 4 71 (0, 1, yTr_has) := ⟨in_46, by decide +kernel, by decide +kernel, by decide +kernel, by decide +kernel, by decide +kernel, 643, Or.inl (by decide +kernel)⟩
theorem tm_4_74 : tmP 4 74 (0, 2, yTr_isOfKind) := ⟨in_48, by decide +kernel, by decide +kernel, by decide +kernel, by decide +kernel, by decide +kernel, 672, Or.inl (by decide +kernel)⟩
theorem tm_4_81 : tmP 4 81 (0, 1, yTr_pathLength) := ⟨in_53, by decide +kernel, by decide +kernel, by decide +kernel, by decide +kernel, by decide +kernel, 677, Or.inl (by decide +kernel)⟩
theorem tm_4_90 : tmP 4 90 (0, 1, yRw_resize) := ⟨in_25, by decide +kernel, by decide +kernel, by decide +kernel, by decide +kernel, by decide +kernel, 678, Or.inl (by decide +kernel)⟩
theorem tm_4_94 : tmP 4 94 (0, 2, yRw_put) := ⟨in_23, by decide +kernel, by decide +kernel, by decide +kernel, by decide +kernel, by decide +kernel, 679, Or.inl (by decide +kernel)⟩
theorem tm_4_98 : tmP 4 98 (0, 2, yRw_putAll) := ⟨in_24, by decide +kernel, by decide +kernel, by decide +kernel, by decide +kernel, by decide +kernel, 680, Or.inl (by decide +kernel)⟩
theorem tm_4_102 : tmP 4 102 (0, 2, yTr_nextChild) := ⟨in_52, by decide +kernel, by decide +kernel, by decide +kernel, by decide +kernel, by decide +kernel, 724, Or.inl (by decide +kernel)⟩
theorem tm_4_105 : tmP 4 105 (0, 2, yTr_comesBehind) := ⟨in_43, by decide +kernel, by decide +kernel, by decide +kernel, by decide +kernel, by decide +kernel, 728, Or.inl (by decide +kernel)⟩
theorem tm_4_108 : tmP 4 108 (0, 1, yRw_order) := ⟨in_22, by decide +kernel, by decide +kernel, by decide +kernel, by decide +kernel, by decide +kernel, 732, Or.inl (by decide +kernel)⟩
theorem tmq_4 : ∀ e ∈ tMl.getD 4 [], tmP 4 e.1 e.2 := List.forall_mem_cons.mpr ⟨tm_4_25, List.forall_mem_cons.mpr ⟨tm_4_26, List.forall_mem_cons.mpr ⟨tm_4_40, List.forall_mem_cons.mpr ⟨tm_4_46, List.forall_mem_cons.mpr ⟨tm_4_50, List.forall_mem_cons.mpr ⟨tm_4_54, List.forall_mem_cons.mpr ⟨tm_4_58, List.forall_mem_cons.mpr ⟨tm_4_65, List.forall_mem_cons.mpr ⟨tm_4_68, List.forall_mem_cons.mpr ⟨tm_4_71, List.forall_mem_cons.mpr ⟨tm_4_74, List.forall_mem_cons.mpr ⟨tm_4_81, List.forall_mem_cons.mpr ⟨tm_4_90, List.forall_mem_cons.mpr ⟨tm_4_94, List.forall_mem_cons.mpr ⟨tm_4_98, List.forall_mem_cons.mpr ⟨tm_4_102, List.forall_mem_cons.mpr ⟨tm_4_105, List.forall_mem_cons.mpr ⟨tm_4_108, fun _ h => absurd h List.not_mem_nil⟩⟩⟩⟩⟩⟩⟩⟩⟩⟩⟩⟩⟩⟩⟩⟩⟩⟩
theorem tmq_5 : ∀ e ∈ tMl.getD 5 [], tmP 5 e.1 e.2 := fun _ h => absurd h List.not_mem_nil
theorem tm_6_11 : tmP 6 11 (1, 0, yRw_init) := ⟨in_14, by decide +kernel, by decide +kernel, by decide +kernel, by decide +kernel, by decide +kernel, 115, Or.inr <| And.intro (by decide +kernel) (by decide +kernel)⟩
theorem tm_6_31 : tmP 6 31 (0, 2, yWr_isTellable) := ⟨in_60, by decide +kernel, by decide +kernel, by decide +kernel, by decide +kernel, by decide +kernel, 664, Or.inl (by decide +kernel)⟩
theorem tm_6_39 : tmP 6 39 (0, 0, yNd_contentsLength) := ⟨in_2, by decide +kernel, by decide +kernel, by decide +kernel, by decide +kernel, by decide +kernel, 690, Or.inl (by decide +kernel)⟩
theorem tm_6_45 : tmP 6 45 (2, 1, yTp_blocksOf) := ⟨in_27, by decide +kernel, by decide +kernel, by decide +kernel, by decide +kernel, by decide +kernel, 694, Or.inl (by decide +kernel)⟩
theorem tm_6_51 : tmP 6 51 (0, 1, yTr_pathLength) := ⟨in_53, by decide +kernel, by decide +kernel, by decide +kernel, by decide +kernel, by decide +kernel, 668, Or.inl (by decide +kernel)⟩
theorem tm_6_54 : tmP 6 54 (0, 2, yTr_spellPath) := ⟨in_54, by decide +kernel, by decide +kernel, by decide +kernel, by decide +kernel, by decide +kernel, 673, Or.inl (by decide +kernel)⟩
theorem tm_6_58 : tmP 6 58 (0, 0, yWr_cutOfPath) := ⟨in_59, by decide +kernel, by decide +kernel, by decide +kernel, by decide +kernel, by decide +kernel, 684, Or.inl (by decide +kernel)⟩
theorem tm_6_73 : tmP 6 73 (0, 1, yRw_at) := ⟨in_16, by decide +kernel, by decide +kernel, by decide +kernel, by decide +kernel, by decide +kernel, 689, Or.inl (by decide +kernel)⟩
theorem tm_6_79 : tmP 6 79 (0, 1, yRw_resize) := ⟨in_25, by decide +kernel, by decide +kernel, by decide +kernel, by decide +kernel, by decide +kernel, 715, Or.inl (by decide +kernel)⟩
theorem tm_6_83 : tmP 6 83 (0, 2, yWr_putEntries) := ⟨in_62, by decide +kernel, by decide +kernel, by decide +kernel, by decide +kernel, by decide +kernel, 716, Or.inl (by decide +kernel)⟩
theorem tm_6_87 : tmP 6 87 (0, 1, yTr_follower) := ⟨in_45, by decide +kernel, by decide +kernel, by decide +kernel, by decide +kernel, by decide +kernel, 720, Or.inl (by decide +kernel)⟩
theorem tm_6_90 : tmP 6 90 (0, 1, yTr_has) := ⟨in_46, by decide +kernel, by decide +kernel, by decide +kernel, by decide +kernel, by decide +kernel, 736, Or.inl (by decide +kernel)⟩
theorem tm_6_94 : tmP 6 94 (0, 2, yTr_isOfKind) := ⟨in_48, by decide +kernel, by decide +kernel, by decide +kernel, by decide +kernel, by decide +kernel, 737, Or.inl (by decide +kernel)⟩
theorem tm_6_98 : tmP 6 98 (0, 2, yWr_putHeader) := ⟨in_63, by decide +kernel, by decide +kernel, by decide +kernel, by decide +kernel, by decide +kernel, 738, Or.inl (by decide +kernel)⟩
theorem tm_6_102 : tmP 6 102 (0, 1, yWr_putContents) := ⟨in_61, by decide +kernel, by decide +kernel, by decide +kernel, by decide +kernel, by decide +kernel, 765, Or.inl (by decide +kernel)⟩
theorem tm_6_106 : tmP 6 106 (0, 1, yWr_putPath) := ⟨in_64, by decide +kernel, by decide +kernel, by decide +kernel, by decide +kernel, by decide +kernel, 742, Or.inl (by decide +kernel)⟩
theorem tm_6_112 : tmP 6 112 (0, 3, yTp_putOctal) := ⟨in_35, by decide +kernel, by decide +kernel, by decide +kernel, by decide +kernel, by decide +kernel, 747, Or.inl (by decide +kernel)⟩
theorem tm_6_125 : tmP 6 125 (2, 1, yTt_typeOf) := ⟨in_56, by decide +kernel, by decide +kernel, by decide +kernel, by decide +kernel, by decide +kernel, 752, Or.inl (by decide +kernel)⟩
theorem tm_6_130 : tmP 6 130 (0, 2, yRw_put) := ⟨in_23, by decide +kernel, by decide +kernel, by decide +kernel, by decide +kernel, by decide +kernel, 746, Or.inl (by decide +kernel)⟩
theorem tm_6_137 : tmP 6 137 (0, 2, yRw_putAll) := ⟨in_24, by decide +kernel, by decide +kernel, by decide +kernel, by decide +kernel, by decide +kernel, 755, Or.inl (by decide +kernel)⟩
theorem tm_6_140 : tmP 6 140 (0, 1, yTp_putMark) := ⟨in_34, by decide +kernel, by decide +kernel, by decide +kernel, by decide +kernel, by decide +kernel, 756, Or.inl (by decide +kernel)⟩
theorem tm_6_143 : tmP 6 143 (0, 1, yTp_putCheck) := ⟨in_33, by decide +kernel, by decide +kernel, by decide +kernel, by decide +kernel, by decide +kernel, 760, Or.inl (by decide +kernel)⟩
theorem tmq_6 : ∀ e ∈ tMl.getD 6 [], tmP 6 e.1 e.2 := List.forall_mem_cons.mpr ⟨tm_6_11, List.forall_mem_cons.mpr ⟨tm_6_31, List.forall_mem_cons.mpr ⟨tm_6_39, List.forall_mem_cons.mpr ⟨tm_6_45, List.forall_mem_cons.mpr ⟨tm_6_51, List.forall_mem_cons.mpr ⟨tm_6_54, List.forall_mem_cons.mpr ⟨tm_6_58, List.forall_mem_cons.mpr ⟨tm_6_73, List.forall_mem_cons.mpr ⟨tm_6_79, List.forall_mem_cons.mpr ⟨tm_6_83, List.forall_mem_cons.mpr ⟨tm_6_87, List.forall_mem_cons.mpr ⟨tm_6_90, List.forall_mem_cons.mpr ⟨tm_6_94, List.forall_mem_cons.mpr ⟨tm_6_98, List.forall_mem_cons.mpr ⟨tm_6_102, List.forall_mem_cons.mpr ⟨tm_6_106, List.forall_mem_cons.mpr ⟨tm_6_112, List.forall_mem_cons.mpr ⟨tm_6_125, List.forall_mem_cons.mpr ⟨tm_6_130, List.forall_mem_cons.mpr ⟨tm_6_137, List.forall_mem_cons.mpr ⟨tm_6_140, List.forall_mem_cons.mpr ⟨tm_6_143, fun _ h => absurd h List.not_mem_nil⟩⟩⟩⟩⟩⟩⟩⟩⟩⟩⟩⟩⟩⟩⟩⟩⟩⟩⟩⟩⟩⟩
theorem tm_7_11 : tmP 7 11 (1, 0, yTp_init) := ⟨in_26, by decide +kernel, by decide +kernel, by decide +kernel, by decide +kernel, by decide +kernel, 77, Or.inr <| And.intro (by decide +kernel) (by decide +kernel)⟩
theorem tm_7_18 : tmP 7 18 (1, 1, yWr_init) := ⟨in_57, by decide +kernel, by decide +kernel, by decide +kernel, by decide +kernel, by decide +kernel, 110, Or.inl (by decide +kernel)⟩
theorem tm_7_27 : tmP 7 27 (1, 1, yRd_init) := ⟨in_3, by decide +kernel, by decide +kernel, by decide +kernel, by decide +kernel, by decide +kernel, 128, Or.inl (by decide +kernel)⟩
theorem tm_7_34 : tmP 7 34 (1, 0, yRw_init) := ⟨in_14, by decide +kernel, by decide +kernel, by decide +kernel, by decide +kernel, by decide +kernel, 179, Or.inr <| And.intro (by decide +kernel) (by decide +kernel)⟩
theorem tm_7_41 : tmP 7 41 (1, 0, yTr_init) := ⟨in_38, by decide +kernel, by decide +kernel, by decide +kernel, by decide +kernel, by decide +kernel, 182, Or.inl (by decide +kernel)⟩
theorem tm_7_60 : tmP 7 60 (0, 2, yTr_isOfKind) := ⟨in_48, by decide +kernel, by decide +kernel, by decide +kernel, by decide +kernel, by decide +kernel, 548, Or.inl (by decide +kernel)⟩
theorem tm_7_68 : tmP 7 68 (0, 1, yRw_resize) := ⟨in_25, by decide +kernel, by decide +kernel, by decide +kernel, by decide +kernel, by decide +kernel, 551, Or.inl (by decide +kernel)⟩
theorem tm_7_72 : tmP 7 72 (0, 2, yRw_addLetters) := ⟨in_15, by decide +kernel, by decide +kernel, by decide +kernel, by decide +kernel, by decide +kernel, 552, Or.inl (by decide +kernel)⟩
theorem tm_7_76 : tmP 7 76 (0, 1, yTY_refuseName) := ⟨in_78, by decide +kernel, by decide +kernel, by decide +kernel, by decide +kernel, by decide +kernel, 553, Or.inl (by decide +kernel)⟩
theorem tm_7_89 : tmP 7 89 (0, 6, yTr_add) := ⟨in_39, by decide +kernel, by decide +kernel, by decide +kernel, by decide +kernel, by decide +kernel, 578, Or.inl (by decide +kernel)⟩
theorem tm_7_93 : tmP 7 93 (0, 1, yTY_known) := ⟨in_72, by decide +kernel, by decide +kernel, by decide +kernel, by decide +kernel, by decide +kernel, 586, Or.inl (by decide +kernel)⟩
theorem tm_7_109 : tmP 7 109 (0, 3, yRw_copySlice) := ⟨in_17, by decide +kernel, by decide +kernel, by decide +kernel, by decide +kernel, by decide +kernel, 594, Or.inl (by decide +kernel)⟩
theorem tm_7_125 : tmP 7 125 (0, 0, yRw_isTarget) := ⟨in_20, by decide +kernel, by decide +kernel, by decide +kernel, by decide +kernel, by decide +kernel, 605, Or.inl (by decide +kernel)⟩
theorem tm_7_140 : tmP 7 140 (0, 2, yRw_put) := ⟨in_23, by decide +kernel, by decide +kernel, by decide +kernel, by decide +kernel, by decide +kernel, 617, Or.inl (by decide +kernel)⟩
theorem tm_7_156 : tmP 7 156 (0, 1, yTr_has) := ⟨in_46, by decide +kernel, by decide +kernel, by decide +kernel, by decide +kernel, by decide +kernel, 590, Or.inl (by decide +kernel)⟩
theorem tm_7_162 : tmP 7 162 (0, 1, yTr_drop) := ⟨in_44, by decide +kernel, by decide +kernel, by decide +kernel, by decide +kernel, by decide +kernel, 635, Or.inl (by decide +kernel)⟩
theorem tm_7_166 : tmP 7 166 (0, 1, yWr_blocksFor) := ⟨in_58, by decide +kernel, by decide +kernel, by decide +kernel, by decide +kernel, by decide +kernel, 660, Or.inl (by decide +kernel)⟩
theorem tm_7_175 : tmP 7 175 (0, 2, yWr_putTree) := ⟨in_65, by decide +kernel, by decide +kernel, by decide +kernel, by decide +kernel, by decide +kernel, 711, Or.inl (by decide +kernel)⟩
theorem tm_7_179 : tmP 7 179 (0, 1, yRd_takeTree) := ⟨in_13, by decide +kernel, by decide +kernel, by decide +kernel, by decide +kernel, by decide +kernel, 285, Or.inl (by decide +kernel)⟩
theorem tm_7_188 : tmP 7 188 (0, 1, yRw_at) := ⟨in_16, by decide +kernel, by decide +kernel, by decide +kernel, by decide +kernel, by decide +kernel, 471, Or.inl (by decide +kernel)⟩
theorem tm_7_193 : tmP 7 193 (0, 0, yTp_wholeBlocks) := ⟨in_37, by decide +kernel, by decide +kernel, by decide +kernel, by decide +kernel, by decide +kernel, 784, Or.inl (by decide +kernel)⟩
theorem tm_7_199 : tmP 7 199 (0, 1, yTp_putCheck) := ⟨in_33, by decide +kernel, by decide +kernel, by decide +kernel, by decide +kernel, by decide +kernel, 786, Or.inl (by decide +kernel)⟩
theorem tm_7_211 : tmP 7 211 (0, 0, yTr_longestPath) := ⟨in_49, by decide +kernel, by decide +kernel, by decide +kernel, by decide +kernel, by decide +kernel, 818, Or.inl (by decide +kernel)⟩
theorem tm_7_222 : tmP 7 222 (0, 2, yRw_isNameOfAnyLength) := ⟨in_18, by decide +kernel, by decide +kernel, by decide +kernel, by decide +kernel, by decide +kernel, 557, Or.inl (by decide +kernel)⟩
theorem tm_7_227 : tmP 7 227 (0, 4, yTr_childNamed) := ⟨in_40, by decide +kernel, by decide +kernel, by decide +kernel, by decide +kernel, by decide +kernel, 559, Or.inl (by decide +kernel)⟩
theorem tmq_7 : ∀ e ∈ tMl.getD 7 [], tmP 7 e.1 e.2 := List.forall_mem_cons.mpr ⟨tm_7_11, List.forall_mem_cons.mpr ⟨tm_7_18, List.forall_mem_cons.mpr ⟨tm_7_27, List.forall_mem_cons.mpr ⟨tm_7_34, List.forall_mem_cons.mpr ⟨tm_7_41, List.forall_mem_cons.mpr ⟨tm_7_60, List.forall_mem_cons.mpr ⟨tm_7_68, List.forall_mem_cons.mpr ⟨tm_7_72, List.forall_mem_cons.mpr ⟨tm_7_76, List.forall_mem_cons.mpr ⟨tm_7_89, List.forall_mem_cons.mpr ⟨tm_7_93, List.forall_mem_cons.mpr ⟨tm_7_109, List.forall_mem_cons.mpr ⟨tm_7_125, List.forall_mem_cons.mpr ⟨tm_7_140, List.forall_mem_cons.mpr ⟨tm_7_156, List.forall_mem_cons.mpr ⟨tm_7_162, List.forall_mem_cons.mpr ⟨tm_7_166, List.forall_mem_cons.mpr ⟨tm_7_175, List.forall_mem_cons.mpr ⟨tm_7_179, List.forall_mem_cons.mpr ⟨tm_7_188, List.forall_mem_cons.mpr ⟨tm_7_193, List.forall_mem_cons.mpr ⟨tm_7_199, List.forall_mem_cons.mpr ⟨tm_7_211, List.forall_mem_cons.mpr ⟨tm_7_222, List.forall_mem_cons.mpr ⟨tm_7_227, fun _ h => absurd h List.not_mem_nil⟩⟩⟩⟩⟩⟩⟩⟩⟩⟩⟩⟩⟩⟩⟩⟩⟩⟩⟩⟩⟩⟩⟩⟩⟩
theorem tm_8_76 : tmP 8 76 (0, 1, yMd_clear) := ⟨in_91, by decide +kernel, by decide +kernel, by decide +kernel, by decide +kernel, by decide +kernel, 831, Or.inl (by decide +kernel)⟩
theorem tm_8_86 : tmP 8 86 (0, 0, yMd_count) := ⟨in_95, by decide +kernel, by decide +kernel, by decide +kernel, by decide +kernel, by decide +kernel, 932, Or.inl (by decide +kernel)⟩
theorem tm_8_90 : tmP 8 90 (2, 1, yMd_isLetter) := ⟨in_105, by decide +kernel, by decide +kernel, by decide +kernel, by decide +kernel, by decide +kernel, 941, Or.inl (by decide +kernel)⟩
theorem tm_8_94 : tmP 8 94 (0, 4, yMd_isCalled) := ⟨in_104, by decide +kernel, by decide +kernel, by decide +kernel, by decide +kernel, by decide +kernel, 951, Or.inl (by decide +kernel)⟩
theorem tm_8_103 : tmP 8 103 (2, 3, yMd_within) := ⟨in_130, by decide +kernel, by decide +kernel, by decide +kernel, by decide +kernel, by decide +kernel, 925, Or.inl (by decide +kernel)⟩
theorem tm_8_107 : tmP 8 107 (0, 1, yMd_isNode) := ⟨in_107, by decide +kernel, by decide +kernel, by decide +kernel, by decide +kernel, by decide +kernel, 928, Or.inl (by decide +kernel)⟩
theorem tm_8_110 : tmP 8 110 (0, 2, yMd_spell) := ⟨in_123, by decide +kernel, by decide +kernel, by decide +kernel, by decide +kernel, by decide +kernel, 936, Or.inl (by decide +kernel)⟩
theorem tm_8_114 : tmP 8 114 (2, 3, yMd_isName) := ⟨in_106, by decide +kernel, by decide +kernel, by decide +kernel, by decide +kernel, by decide +kernel, 944, Or.inl (by decide +kernel)⟩
theorem tm_8_118 : tmP 8 118 (0, 5, yMd_find) := ⟨in_100, by decide +kernel, by decide +kernel, by decide +kernel, by decide +kernel, by decide +kernel, 947, Or.inl (by decide +kernel)⟩
theorem tm_8_122 : tmP 8 122 (0, 2, yMd_fails) := ⟨in_98, by decide +kernel, by decide +kernel, by decide +kernel, by decide +kernel, by decide +kernel, 955, Or.inl (by decide +kernel)⟩
theorem tm_8_126 : tmP 8 126 (0, 6, yMd_add) := ⟨in_86, by decide +kernel, by decide +kernel, by decide +kernel, by decide +kernel, by decide +kernel, 959, Or.inl (by decide +kernel)⟩
theorem tm_8_131 : tmP 8 131 (0, 2, yMd_move) := ⟨in_111, by decide +kernel, by decide +kernel, by decide +kernel, by decide +kernel, by decide +kernel, 984, Or.inl (by decide +kernel)⟩
theorem tm_8_135 : tmP 8 135 (0, 2, yMd_compare) := ⟨in_92, by decide +kernel, by decide +kernel, by decide +kernel, by decide +kernel, by decide +kernel, 1000, Or.inl (by decide +kernel)⟩
theorem tm_8_139 : tmP 8 139 (0, 2, yMd_next) := ⟨in_112, by decide +kernel, by decide +kernel, by decide +kernel, by decide +kernel, by decide +kernel, 996, Or.inl (by decide +kernel)⟩
theorem tm_8_142 : tmP 8 142 (0, 0, yMd_arrange) := ⟨in_88, by decide +kernel, by decide +kernel, by decide +kernel, by decide +kernel, by decide +kernel, 992, Or.inl (by decide +kernel)⟩
theorem tm_8_145 : tmP 8 145 (0, 1, yMd_blocksOf) := ⟨in_89, by decide +kernel, by decide +kernel, by decide +kernel, by decide +kernel, by decide +kernel, 1004, Or.inl (by decide +kernel)⟩
theorem tm_8_149 : tmP 8 149 (0, 1, yMd_tell) := ⟨in_125, by decide +kernel, by decide +kernel, by decide +kernel, by decide +kernel, by decide +kernel, 1008, Or.inl (by decide +kernel)⟩
theorem tm_8_152 : tmP 8 152 (0, 0, yMd_cutOf) := ⟨in_96, by decide +kernel, by decide +kernel, by decide +kernel, by decide +kernel, by decide +kernel, 1012, Or.inl (by decide +kernel)⟩
theorem tm_8_158 : tmP 8 158 (0, 2, yMd_head) := ⟨in_103, by decide +kernel, by decide +kernel, by decide +kernel, by decide +kernel, by decide +kernel, 1016, Or.inl (by decide +kernel)⟩
theorem tm_8_165 : tmP 8 165 (0, 3, yMd_octal) := ⟨in_115, by decide +kernel, by decide +kernel, by decide +kernel, by decide +kernel, by decide +kernel, 1020, Or.inl (by decide +kernel)⟩
theorem tm_8_169 : tmP 8 169 (2, 1, yMd_markOf) := ⟨in_110, by decide +kernel, by decide +kernel, by decide +kernel, by decide +kernel, by decide +kernel, 1026, Or.inl (by decide +kernel)⟩
theorem tm_8_172 : tmP 8 172 (0, 1, yMd_sum) := ⟨in_124, by decide +kernel, by decide +kernel, by decide +kernel, by decide +kernel, by decide +kernel, 1029, Or.inl (by decide +kernel)⟩
theorem tm_8_177 : tmP 8 177 (0, 2, yMd_isZero) := ⟨in_108, by decide +kernel, by decide +kernel, by decide +kernel, by decide +kernel, by decide +kernel, 1037, Or.inl (by decide +kernel)⟩
theorem tm_8_187 : tmP 8 187 (0, 2, yMd_number) := ⟨in_114, by decide +kernel, by decide +kernel, by decide +kernel, by decide +kernel, by decide +kernel, 1049, Or.inl (by decide +kernel)⟩
theorem tm_8_195 : tmP 8 195 (0, 1, yMd_firstFault) := ⟨in_101, by decide +kernel, by decide +kernel, by decide +kernel, by decide +kernel, by decide +kernel, 1045, Or.inl (by decide +kernel)⟩
theorem tm_8_198 : tmP 8 198 (0, 2, yMd_textOf) := ⟨in_126, by decide +kernel, by decide +kernel, by decide +kernel, by decide +kernel, by decide +kernel, 1056, Or.inl (by decide +kernel)⟩
theorem tm_8_201 : tmP 8 201 (0, 2, yMd_copyIn) := ⟨in_94, by decide +kernel, by decide +kernel, by decide +kernel, by decide +kernel, by decide +kernel, 1060, Or.inl (by decide +kernel)⟩
theorem tm_8_204 : tmP 8 204 (0, 2, yMd_walk) := ⟨in_129, by decide +kernel, by decide +kernel, by decide +kernel, by decide +kernel, by decide +kernel, 1064, Or.inl (by decide +kernel)⟩
theorem tm_8_210 : tmP 8 210 (0, 2, yMd_entry) := ⟨in_97, by decide +kernel, by decide +kernel, by decide +kernel, by decide +kernel, by decide +kernel, 1041, Or.inl (by decide +kernel)⟩
theorem tmq_8 : ∀ e ∈ tMl.getD 8 [], tmP 8 e.1 e.2 := List.forall_mem_cons.mpr ⟨tm_8_76, List.forall_mem_cons.mpr ⟨tm_8_86, List.forall_mem_cons.mpr ⟨tm_8_90, List.forall_mem_cons.mpr ⟨tm_8_94, List.forall_mem_cons.mpr ⟨tm_8_103, List.forall_mem_cons.mpr ⟨tm_8_107, List.forall_mem_cons.mpr ⟨tm_8_110, List.forall_mem_cons.mpr ⟨tm_8_114, List.forall_mem_cons.mpr ⟨tm_8_118, List.forall_mem_cons.mpr ⟨tm_8_122, List.forall_mem_cons.mpr ⟨tm_8_126, List.forall_mem_cons.mpr ⟨tm_8_131, List.forall_mem_cons.mpr ⟨tm_8_135, List.forall_mem_cons.mpr ⟨tm_8_139, List.forall_mem_cons.mpr ⟨tm_8_142, List.forall_mem_cons.mpr ⟨tm_8_145, List.forall_mem_cons.mpr ⟨tm_8_149, List.forall_mem_cons.mpr ⟨tm_8_152, List.forall_mem_cons.mpr ⟨tm_8_158, List.forall_mem_cons.mpr ⟨tm_8_165, List.forall_mem_cons.mpr ⟨tm_8_169, List.forall_mem_cons.mpr ⟨tm_8_172, List.forall_mem_cons.mpr ⟨tm_8_177, List.forall_mem_cons.mpr ⟨tm_8_187, List.forall_mem_cons.mpr ⟨tm_8_195, List.forall_mem_cons.mpr ⟨tm_8_198, List.forall_mem_cons.mpr ⟨tm_8_201, List.forall_mem_cons.mpr ⟨tm_8_204, List.forall_mem_cons.mpr ⟨tm_8_210, fun _ h => absurd h List.not_mem_nil⟩⟩⟩⟩⟩⟩⟩⟩⟩⟩⟩⟩⟩⟩⟩⟩⟩⟩⟩⟩⟩⟩⟩⟩⟩⟩⟩⟩⟩
theorem tm_9_7 : tmP 9 7 (0, 5, yTY_make) := ⟨in_73, by decide +kernel, by decide +kernel, by decide +kernel, by decide +kernel, by decide +kernel, 477, Or.inl (by decide +kernel)⟩
theorem tm_9_17 : tmP 9 17 (0, 3, yTY_rename) := ⟨in_80, by decide +kernel, by decide +kernel, by decide +kernel, by decide +kernel, by decide +kernel, 582, Or.inl (by decide +kernel)⟩
theorem tm_9_21 : tmP 9 21 (0, 3, yTY_fill) := ⟨in_70, by decide +kernel, by decide +kernel, by decide +kernel, by decide +kernel, by decide +kernel, 599, Or.inl (by decide +kernel)⟩
theorem tm_9_24 : tmP 9 24 (0, 3, yTY_contents) := ⟨in_69, by decide +kernel, by decide +kernel, by decide +kernel, by decide +kernel, by decide +kernel, 611, Or.inl (by decide +kernel)⟩
theorem tm_9_28 : tmP 9 28 (0, 4, yTY_set) := ⟨in_81, by decide +kernel, by decide +kernel, by decide +kernel, by decide +kernel, by decide +kernel, 621, Or.inl (by decide +kernel)⟩
theorem tm_9_32 : tmP 9 32 (0, 1, yTY_remove) := ⟨in_79, by decide +kernel, by decide +kernel, by decide +kernel, by decide +kernel, by decide +kernel, 630, Or.inl (by decide +kernel)⟩
theorem tm_9_36 : tmP 9 36 (0, 0, yTY_write) := ⟨in_84, by decide +kernel, by decide +kernel, by decide +kernel, by decide +kernel, by decide +kernel, 656, Or.inl (by decide +kernel)⟩
theorem tm_9_42 : tmP 9 42 (0, 2, yTY_alter) := ⟨in_67, by decide +kernel, by decide +kernel, by decide +kernel, by decide +kernel, by decide +kernel, 772, Or.inl (by decide +kernel)⟩
theorem tm_9_46 : tmP 9 46 (0, 1, yTY_check) := ⟨in_68, by decide +kernel, by decide +kernel, by decide +kernel, by decide +kernel, by decide +kernel, 780, Or.inl (by decide +kernel)⟩
theorem tm_9_49 : tmP 9 49 (0, 1, yTY_size) := ⟨in_82, by decide +kernel, by decide +kernel, by decide +kernel, by decide +kernel, by decide +kernel, 790, Or.inl (by decide +kernel)⟩
theorem tm_9_53 : tmP 9 53 (0, 2, yTY_node) := ⟨in_74, by decide +kernel, by decide +kernel, by decide +kernel, by decide +kernel, by decide +kernel, 798, Or.inl (by decide +kernel)⟩
theorem tm_9_56 : tmP 9 56 (0, 3, yTY_part) := ⟨in_75, by decide +kernel, by decide +kernel, by decide +kernel, by decide +kernel, by decide +kernel, 806, Or.inl (by decide +kernel)⟩
theorem tm_9_60 : tmP 9 60 (0, 1, yTY_total) := ⟨in_83, by decide +kernel, by decide +kernel, by decide +kernel, by decide +kernel, by decide +kernel, 814, Or.inl (by decide +kernel)⟩
theorem tm_9_63 : tmP 9 63 (1, 0, yTY_init) := ⟨in_66, by decide +kernel, by decide +kernel, by decide +kernel, by decide +kernel, by decide +kernel, 69, Or.inl (by decide +kernel)⟩
theorem tm_9_66 : tmP 9 66 (1, 0, yMd_init) := ⟨in_85, by decide +kernel, by decide +kernel, by decide +kernel, by decide +kernel, by decide +kernel, 826, Or.inl (by decide +kernel)⟩
theorem tm_9_69 : tmP 9 69 (2, 7, yLw_make) := ⟨in_137, by decide +kernel, by decide +kernel, by decide +kernel, by decide +kernel, by decide +kernel, 472, Or.inl (by decide +kernel)⟩
theorem tm_9_74 : tmP 9 74 (0, 5, yMd_make) := ⟨in_109, by decide +kernel, by decide +kernel, by decide +kernel, by decide +kernel, by decide +kernel, 921, Or.inl (by decide +kernel)⟩
theorem tm_9_75 : tmP 9 75 (0, 0, yMd_thrown) := ⟨in_127, by decide +kernel, by decide +kernel, by decide +kernel, by decide +kernel, by decide +kernel, 917, Or.inl (by decide +kernel)⟩
theorem tm_9_78 : tmP 9 78 (2, 5, yLw_rename) := ⟨in_141, by decide +kernel, by decide +kernel, by decide +kernel, by decide +kernel, by decide +kernel, 579, Or.inl (by decide +kernel)⟩
theorem tm_9_81 : tmP 9 81 (0, 3, yMd_rename) := ⟨in_120, by decide +kernel, by decide +kernel, by decide +kernel, by decide +kernel, by decide +kernel, 963, Or.inl (by decide +kernel)⟩
theorem tm_9_82 : tmP 9 82 (2, 5, yLw_fill) := ⟨in_135, by decide +kernel, by decide +kernel, by decide +kernel, by decide +kernel, by decide +kernel, 596, Or.inl (by decide +kernel)⟩
theorem tm_9_84 : tmP 9 84 (0, 3, yMd_fill) := ⟨in_99, by decide +kernel, by decide +kernel, by decide +kernel, by decide +kernel, by decide +kernel, 967, Or.inl (by decide +kernel)⟩
theorem tm_9_85 : tmP 9 85 (2, 4, yLw_contents) := ⟨in_134, by decide +kernel, by decide +kernel, by decide +kernel, by decide +kernel, by decide +kernel, 608, Or.inl (by decide +kernel)⟩
theorem tm_9_88 : tmP 9 88 (0, 3, yMd_contents) := ⟨in_93, by decide +kernel, by decide +kernel, by decide +kernel, by decide +kernel, by decide +kernel, 971, Or.inl (by decide +kernel)⟩
theorem tm_9_89 : tmP 9 89 (2, 5, yLw_set) := ⟨in_142, by decide +kernel, by decide +kernel, by decide +kernel, by decide +kernel, by decide +kernel, 618, Or.inl (by decide +kernel)⟩
theorem tm_9_92 : tmP 9 92 (0, 4, yMd_set) := ⟨in_121, by decide +kernel, by decide +kernel, by decide +kernel, by decide +kernel, by decide +kernel, 975, Or.inl (by decide +kernel)⟩
theorem tm_9_93 : tmP 9 93 (2, 3, yLw_remove) := ⟨in_140, by decide +kernel, by decide +kernel, by decide +kernel, by decide +kernel, by decide +kernel, 627, Or.inl (by decide +kernel)⟩
theorem tm_9_96 : tmP 9 96 (0, 1, yMd_remove) := ⟨in_119, by decide +kernel, by decide +kernel, by decide +kernel, by decide +kernel, by decide +kernel, 980, Or.inl (by decide +kernel)⟩
theorem tm_9_97 : tmP 9 97 (2, 2, yLw_write) := ⟨in_145, by decide +kernel, by decide +kernel, by decide +kernel, by decide +kernel, by decide +kernel, 652, Or.inl (by decide +kernel)⟩
theorem tm_9_100 : tmP 9 100 (0, 0, yMd_write) := ⟨in_131, by decide +kernel, by decide +kernel, by decide +kernel, by decide +kernel, by decide +kernel, 988, Or.inl (by decide +kernel)⟩
theorem tm_9_101 : tmP 9 101 (0, 0, yTY_read) := ⟨in_77, by decide +kernel, by decide +kernel, by decide +kernel, by decide +kernel, by decide +kernel, 281, Or.inl (by decide +kernel)⟩
theorem tm_9_104 : tmP 9 104 (0, 0, yMd_read) := ⟨in_118, by decide +kernel, by decide +kernel, by decide +kernel, by decide +kernel, by decide +kernel, 1033, Or.inl (by decide +kernel)⟩
theorem tm_9_105 : tmP 9 105 (0, 0, yTY_place) := ⟨in_76, by decide +kernel, by decide +kernel, by decide +kernel, by decide +kernel, by decide +kernel, 463, Or.inl (by decide +kernel)⟩
theorem tm_9_108 : tmP 9 108 (0, 0, yMd_place) := ⟨in_117, by decide +kernel, by decide +kernel, by decide +kernel, by decide +kernel, by decide +kernel, 1069, Or.inl (by decide +kernel)⟩
theorem tm_9_109 : tmP 9 109 (2, 4, yLw_alter) := ⟨in_132, by decide +kernel, by decide +kernel, by decide +kernel, by decide +kernel, by decide +kernel, 769, Or.inl (by decide +kernel)⟩
theorem tm_9_112 : tmP 9 112 (0, 2, yMd_alter) := ⟨in_87, by decide +kernel, by decide +kernel, by decide +kernel, by decide +kernel, by decide +kernel, 1073, Or.inl (by decide +kernel)⟩
theorem tm_9_113 : tmP 9 113 (2, 3, yLw_check) := ⟨in_133, by decide +kernel, by decide +kernel, by decide +kernel, by decide +kernel, by decide +kernel, 777, Or.inl (by decide +kernel)⟩
theorem tm_9_115 : tmP 9 115 (0, 1, yMd_check) := ⟨in_90, by decide +kernel, by decide +kernel, by decide +kernel, by decide +kernel, by decide +kernel, 1077, Or.inl (by decide +kernel)⟩
theorem tm_9_116 : tmP 9 116 (2, 2, yLw_size) := ⟨in_143, by decide +kernel, by decide +kernel, by decide +kernel, by decide +kernel, by decide +kernel, 787, Or.inl (by decide +kernel)⟩
theorem tm_9_119 : tmP 9 119 (0, 1, yMd_size) := ⟨in_122, by decide +kernel, by decide +kernel, by decide +kernel, by decide +kernel, by decide +kernel, 1081, Or.inl (by decide +kernel)⟩
theorem tm_9_120 : tmP 9 120 (0, 1, yTY_hand) := ⟨in_71, by decide +kernel, by decide +kernel, by decide +kernel, by decide +kernel, by decide +kernel, 467, Or.inl (by decide +kernel)⟩
theorem tm_9_123 : tmP 9 123 (0, 1, yMd_hand) := ⟨in_102, by decide +kernel, by decide +kernel, by decide +kernel, by decide +kernel, by decide +kernel, 1085, Or.inl (by decide +kernel)⟩
theorem tm_9_124 : tmP 9 124 (2, 4, yLw_node) := ⟨in_138, by decide +kernel, by decide +kernel, by decide +kernel, by decide +kernel, by decide +kernel, 795, Or.inl (by decide +kernel)⟩
theorem tm_9_126 : tmP 9 126 (0, 2, yMd_node) := ⟨in_113, by decide +kernel, by decide +kernel, by decide +kernel, by decide +kernel, by decide +kernel, 1089, Or.inl (by decide +kernel)⟩
theorem tm_9_127 : tmP 9 127 (2, 5, yLw_part) := ⟨in_139, by decide +kernel, by decide +kernel, by decide +kernel, by decide +kernel, by decide +kernel, 803, Or.inl (by decide +kernel)⟩
theorem tm_9_130 : tmP 9 130 (0, 3, yMd_part) := ⟨in_116, by decide +kernel, by decide +kernel, by decide +kernel, by decide +kernel, by decide +kernel, 1093, Or.inl (by decide +kernel)⟩
theorem tm_9_131 : tmP 9 131 (2, 3, yLw_total) := ⟨in_144, by decide +kernel, by decide +kernel, by decide +kernel, by decide +kernel, by decide +kernel, 811, Or.inl (by decide +kernel)⟩
theorem tm_9_133 : tmP 9 133 (0, 1, yMd_total) := ⟨in_128, by decide +kernel, by decide +kernel, by decide +kernel, by decide +kernel, by decide +kernel, 1097, Or.inl (by decide +kernel)⟩
theorem tmq_9 : ∀ e ∈ tMl.getD 9 [], tmP 9 e.1 e.2 := List.forall_mem_cons.mpr ⟨tm_9_7, List.forall_mem_cons.mpr ⟨tm_9_17, List.forall_mem_cons.mpr ⟨tm_9_21, List.forall_mem_cons.mpr ⟨tm_9_24, List.forall_mem_cons.mpr ⟨tm_9_28, List.forall_mem_cons.mpr ⟨tm_9_32, List.forall_mem_cons.mpr ⟨tm_9_36, List.forall_mem_cons.mpr ⟨tm_9_42, List.forall_mem_cons.mpr ⟨tm_9_46, List.forall_mem_cons.mpr ⟨tm_9_49, List.forall_mem_cons.mpr ⟨tm_9_53, List.forall_mem_cons.mpr ⟨tm_9_56, List.forall_mem_cons.mpr ⟨tm_9_60, List.forall_mem_cons.mpr ⟨tm_9_63, List.forall_mem_cons.mpr ⟨tm_9_66, List.forall_mem_cons.mpr ⟨tm_9_69, List.forall_mem_cons.mpr ⟨tm_9_74, List.forall_mem_cons.mpr ⟨tm_9_75, List.forall_mem_cons.mpr ⟨tm_9_78, List.forall_mem_cons.mpr ⟨tm_9_81, List.forall_mem_cons.mpr ⟨tm_9_82, List.forall_mem_cons.mpr ⟨tm_9_84, List.forall_mem_cons.mpr ⟨tm_9_85, List.forall_mem_cons.mpr ⟨tm_9_88, List.forall_mem_cons.mpr ⟨tm_9_89, List.forall_mem_cons.mpr ⟨tm_9_92, List.forall_mem_cons.mpr ⟨tm_9_93, List.forall_mem_cons.mpr ⟨tm_9_96, List.forall_mem_cons.mpr ⟨tm_9_97, List.forall_mem_cons.mpr ⟨tm_9_100, List.forall_mem_cons.mpr ⟨tm_9_101, List.forall_mem_cons.mpr ⟨tm_9_104, List.forall_mem_cons.mpr ⟨tm_9_105, List.forall_mem_cons.mpr ⟨tm_9_108, List.forall_mem_cons.mpr ⟨tm_9_109, List.forall_mem_cons.mpr ⟨tm_9_112, List.forall_mem_cons.mpr ⟨tm_9_113, List.forall_mem_cons.mpr ⟨tm_9_115, List.forall_mem_cons.mpr ⟨tm_9_116, List.forall_mem_cons.mpr ⟨tm_9_119, List.forall_mem_cons.mpr ⟨tm_9_120, List.forall_mem_cons.mpr ⟨tm_9_123, List.forall_mem_cons.mpr ⟨tm_9_124, List.forall_mem_cons.mpr ⟨tm_9_126, List.forall_mem_cons.mpr ⟨tm_9_127, List.forall_mem_cons.mpr ⟨tm_9_130, List.forall_mem_cons.mpr ⟨tm_9_131, List.forall_mem_cons.mpr ⟨tm_9_133, fun _ h => absurd h List.not_mem_nil⟩⟩⟩⟩⟩⟩⟩⟩⟩⟩⟩⟩⟩⟩⟩⟩⟩⟩⟩⟩⟩⟩⟩⟩⟩⟩⟩⟩⟩⟩⟩⟩⟩⟩⟩⟩⟩⟩⟩⟩⟩⟩⟩⟩⟩⟩⟩⟩
theorem tmq_10 : ∀ e ∈ tMl.getD 10 [], tmP 10 e.1 e.2 := fun _ h => absurd h List.not_mem_nil
theorem tM_ok {c i : Nat} {r : Nat × Nat × AY} (h : tM c i = some r) : tmP c i r := by
  have h1 := lookup_mem h
  match c, h1 with
  | 0, h1 => exact tmq_0 _ h1
  | 1, h1 => exact tmq_1 _ h1
  | 2, h1 => exact tmq_2 _ h1
  | 3, h1 => exact tmq_3 _ h1
  | 4, h1 => exact tmq_4 _ h1
  | 5, h1 => exact tmq_5 _ h1
  | 6, h1 => exact tmq_6 _ h1
  | 7, h1 => exact tmq_7 _ h1
  | 8, h1 => exact tmq_8 _ h1
  | 9, h1 => exact tmq_9 _ h1
  | 10, h1 => exact tmq_10 _ h1
  | n + 11, h1 => exact absurd h1 (by simp [tMl])
def tbP (c i k : Nat) : Prop := (k = 0 ∧ ∃ p : Nat, lw_tbl[p]? = some (.methodLink (cNm c) i Lib.objectInit)) ∨ (k = 1 ∧ ∃ p : Nat, lw_tbl[p]? = some (.methodLink (cNm c) i Lib.Math.max.name)) ∨ (k = 2 ∧ ∃ p : Nat, lw_tbl[p]? = some (.methodLink (cNm c) i Lib.Math.min.name)) ∨ (k = 3 ∧ ∃ p : Nat, lw_tbl[p]? = some (.methodLink (cNm c) i arraycopyName))
theorem tb_0_3 : tbP 0 3 0 := Or.inl ⟨rfl, 192, by decide +kernel⟩
theorem tbq_0 : ∀ e ∈ tBl.getD 0 [], tbP 0 e.1 e.2 := List.forall_mem_cons.mpr ⟨tb_0_3, fun _ h => absurd h List.not_mem_nil⟩
theorem tb_1_3 : tbP 1 3 0 := Or.inl ⟨rfl, 131, by decide +kernel⟩
theorem tbq_1 : ∀ e ∈ tBl.getD 1 [], tbP 1 e.1 e.2 := List.forall_mem_cons.mpr ⟨tb_1_3, fun _ h => absurd h List.not_mem_nil⟩
theorem tb_2_3 : tbP 2 3 0 := Or.inl ⟨rfl, 86, by decide +kernel⟩
theorem tb_2_19 : tbP 2 19 2 := Or.inr <| Or.inr <| Or.inl ⟨rfl, 301, by decide +kernel⟩
theorem tb_2_25 : tbP 2 25 1 := Or.inr <| Or.inl ⟨rfl, 304, by decide +kernel⟩
theorem tbq_2 : ∀ e ∈ tBl.getD 2 [], tbP 2 e.1 e.2 := List.forall_mem_cons.mpr ⟨tb_2_3, List.forall_mem_cons.mpr ⟨tb_2_19, List.forall_mem_cons.mpr ⟨tb_2_25, fun _ h => absurd h List.not_mem_nil⟩⟩⟩
theorem tb_3_3 : tbP 3 3 0 := Or.inl ⟨rfl, 80, by decide +kernel⟩
theorem tbq_3 : ∀ e ∈ tBl.getD 3 [], tbP 3 e.1 e.2 := List.forall_mem_cons.mpr ⟨tb_3_3, fun _ h => absurd h List.not_mem_nil⟩
theorem tb_4_3 : tbP 4 3 0 := Or.inl ⟨rfl, 185, by decide +kernel⟩
theorem tb_4_84 : tbP 4 84 1 := Or.inr <| Or.inl ⟨rfl, 822, by decide +kernel⟩
theorem tbq_4 : ∀ e ∈ tBl.getD 4 [], tbP 4 e.1 e.2 := List.forall_mem_cons.mpr ⟨tb_4_3, List.forall_mem_cons.mpr ⟨tb_4_84, fun _ h => absurd h List.not_mem_nil⟩⟩
theorem tbq_5 : ∀ e ∈ tBl.getD 5 [], tbP 5 e.1 e.2 := fun _ h => absurd h List.not_mem_nil
theorem tb_6_3 : tbP 6 3 0 := Or.inl ⟨rfl, 113, by decide +kernel⟩
theorem tb_6_67 : tbP 6 67 1 := Or.inr <| Or.inl ⟨rfl, 688, by decide +kernel⟩
theorem tbq_6 : ∀ e ∈ tBl.getD 6 [], tbP 6 e.1 e.2 := List.forall_mem_cons.mpr ⟨tb_6_3, List.forall_mem_cons.mpr ⟨tb_6_67, fun _ h => absurd h List.not_mem_nil⟩⟩
theorem tb_7_3 : tbP 7 3 0 := Or.inl ⟨rfl, 72, by decide +kernel⟩
theorem tbq_7 : ∀ e ∈ tBl.getD 7 [], tbP 7 e.1 e.2 := List.forall_mem_cons.mpr ⟨tb_7_3, fun _ h => absurd h List.not_mem_nil⟩
theorem tb_8_1 : tbP 8 1 0 := Or.inl ⟨rfl, 829, by decide +kernel⟩
theorem tbq_8 : ∀ e ∈ tBl.getD 8 [], tbP 8 e.1 e.2 := List.forall_mem_cons.mpr ⟨tb_8_1, fun _ h => absurd h List.not_mem_nil⟩
theorem tbq_9 : ∀ e ∈ tBl.getD 9 [], tbP 9 e.1 e.2 := fun _ h => absurd h List.not_mem_nil
theorem tb_10_150 : tbP 10 150 3 := Or.inr <| Or.inr <| Or.inr <| ⟨rfl, 318, by decide +kernel⟩
theorem tb_10_304 : tbP 10 304 2 := Or.inr <| Or.inr <| Or.inl ⟨rfl, 317, by decide +kernel⟩
theorem tbq_10 : ∀ e ∈ tBl.getD 10 [], tbP 10 e.1 e.2 := List.forall_mem_cons.mpr ⟨tb_10_150, List.forall_mem_cons.mpr ⟨tb_10_304, fun _ h => absurd h List.not_mem_nil⟩⟩
theorem tB_ok {c i k : Nat} (h : tB c i = some k) : tbP c i k := by
  have h1 := lookup_mem h
  match c, h1 with
  | 0, h1 => exact tbq_0 _ h1
  | 1, h1 => exact tbq_1 _ h1
  | 2, h1 => exact tbq_2 _ h1
  | 3, h1 => exact tbq_3 _ h1
  | 4, h1 => exact tbq_4 _ h1
  | 5, h1 => exact tbq_5 _ h1
  | 6, h1 => exact tbq_6 _ h1
  | 7, h1 => exact tbq_7 _ h1
  | 8, h1 => exact tbq_8 _ h1
  | 9, h1 => exact tbq_9 _ h1
  | 10, h1 => exact tbq_10 _ h1
  | n + 11, h1 => exact absurd h1 (by simp [tBl])
theorem wp_oi : lw_tbl[73]? = some (.instanceMethod Lib.objectInit) := by decide +kernel
theorem wp_oc : lw_tbl[74]? = some (.code Lib.objectInit ⟨#[0xb1]⟩ 1 none) := by decide +kernel
theorem wp_maxs : lw_tbl[305]? = some (.static Lib.Math.max.name) := by decide +kernel
theorem wp_maxc : lw_tbl[306]? = some (.code Lib.Math.max.name Lib.Math.max.code 2 (some .int)) := by decide +kernel
theorem wp_mins : lw_tbl[302]? = some (.static Lib.Math.min.name) := by decide +kernel
theorem wp_minc : lw_tbl[303]? = some (.code Lib.Math.min.name Lib.Math.min.code 2 (some .int)) := by decide +kernel
theorem wp_mi : lw_tbl[61]? = some (.initialized "java/lang/Math") := by decide +kernel
theorem wp_as : lw_tbl[319]? = some (.static arraycopyName) := by decide +kernel
theorem wp_an : lw_tbl[320]? = some (.native arraycopyName) := by decide +kernel
theorem wp_ai : lw_tbl[63]? = some (.initialized "java/lang/System") := by decide +kernel
theorem ac_int : lw_tbl[242]? = some (.arrayClass .int) := by decide +kernel
theorem ac_byte : lw_tbl[100]? = some (.arrayClass .byte) := by decide +kernel
theorem ac_long : lw_tbl[1102]? = some (.arrayClass .long) := by decide +kernel
theorem ao_node : lw_tbl[187]? = some (.arrayOver (.object "TarYard$Node")) := by decide +kernel
theorem tS_w : ∃ p : Nat, lw_tbl[p]? = some (.fieldLink "TarYard$Tape" 42 "TarYard$Tape" "MARK" "[B") := ⟨364, by decide +kernel⟩
theorem tS_ok {c i : Nat} (h : tS c i = true) : c = 3 ∧ i = 42 := by
  unfold tS at h
  simpa using h
def tcP (c i ci : Nat) : Prop := ∃ (q : vw_C) (p1 p2 p3 : Nat), vcl[ci]? = some q ∧ lw_tbl[p1]? = some (.classLink (cNm c) i q.1) ∧ lw_tbl[p2]? = some (.instantiable q.1 q.2.2) ∧ lw_tbl[p3]? = some (.initialized q.1) ∧ (tD ci).length = q.2.2
theorem tc_0_9 : tcP 0 9 2 := ⟨("TarYard$Row", FC2, 2), 193, 82, 51, rfl, by decide +kernel, by decide +kernel, by decide +kernel, by decide +kernel⟩
theorem tcq_0 : ∀ e ∈ tCl.getD 0 [], tcP 0 e.1 e.2 := List.forall_mem_cons.mpr ⟨tc_0_9, fun _ h => absurd h List.not_mem_nil⟩
theorem tc_1_9 : tcP 1 9 2 := ⟨("TarYard$Row", FC2, 2), 132, 82, 51, rfl, by decide +kernel, by decide +kernel, by decide +kernel, by decide +kernel⟩
theorem tcq_1 : ∀ e ∈ tCl.getD 1 [], tcP 1 e.1 e.2 := List.forall_mem_cons.mpr ⟨tc_1_9, fun _ h => absurd h List.not_mem_nil⟩
theorem tcq_2 : ∀ e ∈ tCl.getD 2 [], tcP 2 e.1 e.2 := fun _ h => absurd h List.not_mem_nil
theorem tc_3_9 : tcP 3 9 2 := ⟨("TarYard$Row", FC2, 2), 81, 82, 51, rfl, by decide +kernel, by decide +kernel, by decide +kernel, by decide +kernel⟩
theorem tcq_3 : ∀ e ∈ tCl.getD 3 [], tcP 3 e.1 e.2 := List.forall_mem_cons.mpr ⟨tc_3_9, fun _ h => absurd h List.not_mem_nil⟩
theorem tc_4_9 : tcP 4 9 0 := ⟨("TarYard$Node", FC0, 8), 186, 188, 55, rfl, by decide +kernel, by decide +kernel, by decide +kernel, by decide +kernel⟩
theorem tcq_4 : ∀ e ∈ tCl.getD 4 [], tcP 4 e.1 e.2 := List.forall_mem_cons.mpr ⟨tc_4_9, fun _ h => absurd h List.not_mem_nil⟩
theorem tcq_5 : ∀ e ∈ tCl.getD 5 [], tcP 5 e.1 e.2 := fun _ h => absurd h List.not_mem_nil
theorem tc_6_9 : tcP 6 9 2 := ⟨("TarYard$Row", FC2, 2), 114, 82, 51, rfl, by decide +kernel, by decide +kernel, by decide +kernel, by decide +kernel⟩
theorem tcq_6 : ∀ e ∈ tCl.getD 6 [], tcP 6 e.1 e.2 := List.forall_mem_cons.mpr ⟨tc_6_9, fun _ h => absurd h List.not_mem_nil⟩
theorem tc_7_9 : tcP 7 9 3 := ⟨("TarYard$Tape", FC3, 1), 75, 76, 50, rfl, by decide +kernel, by decide +kernel, by decide +kernel, by decide +kernel⟩
theorem tc_7_16 : tcP 7 16 6 := ⟨("TarYard$Writer", FC6, 3), 108, 109, 52, rfl, by decide +kernel, by decide +kernel, by decide +kernel, by decide +kernel⟩
theorem tc_7_25 : tcP 7 25 1 := ⟨("TarYard$Reader", FC1, 14), 126, 127, 53, rfl, by decide +kernel, by decide +kernel, by decide +kernel, by decide +kernel⟩
theorem tc_7_32 : tcP 7 32 2 := ⟨("TarYard$Row", FC2, 2), 178, 82, 51, rfl, by decide +kernel, by decide +kernel, by decide +kernel, by decide +kernel⟩
theorem tc_7_39 : tcP 7 39 4 := ⟨("TarYard$Tree", FC4, 3), 180, 181, 54, rfl, by decide +kernel, by decide +kernel, by decide +kernel, by decide +kernel⟩
theorem tcq_7 : ∀ e ∈ tCl.getD 7 [], tcP 7 e.1 e.2 := List.forall_mem_cons.mpr ⟨tc_7_9, List.forall_mem_cons.mpr ⟨tc_7_16, List.forall_mem_cons.mpr ⟨tc_7_25, List.forall_mem_cons.mpr ⟨tc_7_32, List.forall_mem_cons.mpr ⟨tc_7_39, fun _ h => absurd h List.not_mem_nil⟩⟩⟩⟩⟩
theorem tcq_8 : ∀ e ∈ tCl.getD 8 [], tcP 8 e.1 e.2 := fun _ h => absurd h List.not_mem_nil
theorem tc_9_8 : tcP 9 8 7 := ⟨("TarYard", FC7, 7), 67, 68, 49, rfl, by decide +kernel, by decide +kernel, by decide +kernel, by decide +kernel⟩
theorem tc_9_64 : tcP 9 64 8 := ⟨("TarYardModel", FC8, 27), 824, 825, 56, rfl, by decide +kernel, by decide +kernel, by decide +kernel, by decide +kernel⟩
theorem tcq_9 : ∀ e ∈ tCl.getD 9 [], tcP 9 e.1 e.2 := List.forall_mem_cons.mpr ⟨tc_9_8, List.forall_mem_cons.mpr ⟨tc_9_64, fun _ h => absurd h List.not_mem_nil⟩⟩
theorem tcq_10 : ∀ e ∈ tCl.getD 10 [], tcP 10 e.1 e.2 := fun _ h => absurd h List.not_mem_nil
theorem tC_ok {c i ci : Nat} (h : tC c i = some ci) : tcP c i ci := by
  have h1 := lookup_mem h
  match c, h1 with
  | 0, h1 => exact tcq_0 _ h1
  | 1, h1 => exact tcq_1 _ h1
  | 2, h1 => exact tcq_2 _ h1
  | 3, h1 => exact tcq_3 _ h1
  | 4, h1 => exact tcq_4 _ h1
  | 5, h1 => exact tcq_5 _ h1
  | 6, h1 => exact tcq_6 _ h1
  | 7, h1 => exact tcq_7 _ h1
  | 8, h1 => exact tcq_8 _ h1
  | 9, h1 => exact tcq_9 _ h1
  | 10, h1 => exact tcq_10 _ h1
  | n + 11, h1 => exact absurd h1 (by simp [tCl])
def tiiP (c i : Nat) (v : Int) : Prop := r32 v ∧ ∃ p : Nat, lw_tbl[p]? = some (.constant (cNm c) i (Int32.ofInt v))
theorem tiiq_0 : ∀ e ∈ tIl.getD 0 [], tiiP 0 e.1 e.2 := fun _ h => absurd h List.not_mem_nil
theorem tiiq_1 : ∀ e ∈ tIl.getD 1 [], tiiP 1 e.1 e.2 := fun _ h => absurd h List.not_mem_nil
theorem tiiq_2 : ∀ e ∈ tIl.getD 2 [], tiiP 2 e.1 e.2 := fun _ h => absurd h List.not_mem_nil
theorem tiiq_3 : ∀ e ∈ tIl.getD 3 [], tiiP 3 e.1 e.2 := fun _ h => absurd h List.not_mem_nil
theorem tiiq_4 : ∀ e ∈ tIl.getD 4 [], tiiP 4 e.1 e.2 := fun _ h => absurd h List.not_mem_nil
theorem tiiq_5 : ∀ e ∈ tIl.getD 5 [], tiiP 5 e.1 e.2 := fun _ h => absurd h List.not_mem_nil
theorem tiiq_6 : ∀ e ∈ tIl.getD 6 [], tiiP 6 e.1 e.2 := fun _ h => absurd h List.not_mem_nil
theorem tii_7_144 : tiiP 7 144 2097151 := ⟨⟨by decide, by decide⟩, 625, by decide +kernel⟩
theorem tiiq_7 : ∀ e ∈ tIl.getD 7 [], tiiP 7 e.1 e.2 := List.forall_mem_cons.mpr ⟨tii_7_144, fun _ h => absurd h List.not_mem_nil⟩
theorem tii_8_41 : tiiP 8 41 120000 := ⟨⟨by decide, by decide⟩, 830, by decide +kernel⟩
theorem tii_8_130 : tiiP 8 130 2097151 := ⟨⟨by decide, by decide⟩, 979, by decide +kernel⟩
theorem tiiq_8 : ∀ e ∈ tIl.getD 8 [], tiiP 8 e.1 e.2 := List.forall_mem_cons.mpr ⟨tii_8_41, List.forall_mem_cons.mpr ⟨tii_8_130, fun _ h => absurd h List.not_mem_nil⟩⟩
theorem tiiq_9 : ∀ e ∈ tIl.getD 9 [], tiiP 9 e.1 e.2 := fun _ h => absurd h List.not_mem_nil
theorem tiiq_10 : ∀ e ∈ tIl.getD 10 [], tiiP 10 e.1 e.2 := fun _ h => absurd h List.not_mem_nil
theorem tI_ok {c i : Nat} {v : Int} (h : tI c i = some v) : tiiP c i v := by
  have h1 := lookup_mem h
  match c, h1 with
  | 0, h1 => exact tiiq_0 _ h1
  | 1, h1 => exact tiiq_1 _ h1
  | 2, h1 => exact tiiq_2 _ h1
  | 3, h1 => exact tiiq_3 _ h1
  | 4, h1 => exact tiiq_4 _ h1
  | 5, h1 => exact tiiq_5 _ h1
  | 6, h1 => exact tiiq_6 _ h1
  | 7, h1 => exact tiiq_7 _ h1
  | 8, h1 => exact tiiq_8 _ h1
  | 9, h1 => exact tiiq_9 _ h1
  | 10, h1 => exact tiiq_10 _ h1
  | n + 11, h1 => exact absurd h1 (by simp [tIl])
def tjjP (c i : Nat) (v : Int) : Prop := r64 v ∧ ∃ p : Nat, lw_tbl[p]? = some (.constantLong (cNm c) i (Int64.ofInt v))
theorem tjjq_0 : ∀ e ∈ tJl.getD 0 [], tjjP 0 e.1 e.2 := fun _ h => absurd h List.not_mem_nil
theorem tjj_1_106 : tjjP 1 106 2000 := ⟨⟨by decide, by decide⟩, 438, by decide +kernel⟩
theorem tjj_1_123 : tjjP 1 123 (-1) := ⟨⟨by decide, by decide⟩, 372, by decide +kernel⟩
theorem tjj_1_125 : tjjP 1 125 4095 := ⟨⟨by decide, by decide⟩, 373, by decide +kernel⟩
theorem tjj_1_127 : tjjP 1 127 2147483647 := ⟨⟨by decide, by decide⟩, 374, by decide +kernel⟩
theorem tjj_1_150 : tjjP 1 150 47 := ⟨⟨by decide, by decide⟩, 396, by decide +kernel⟩
theorem tjjq_1 : ∀ e ∈ tJl.getD 1 [], tjjP 1 e.1 e.2 := List.forall_mem_cons.mpr ⟨tjj_1_106, List.forall_mem_cons.mpr ⟨tjj_1_123, List.forall_mem_cons.mpr ⟨tjj_1_125, List.forall_mem_cons.mpr ⟨tjj_1_127, List.forall_mem_cons.mpr ⟨tjj_1_150, fun _ h => absurd h List.not_mem_nil⟩⟩⟩⟩⟩
theorem tjjq_2 : ∀ e ∈ tJl.getD 2 [], tjjP 2 e.1 e.2 := fun _ h => absurd h List.not_mem_nil
theorem tjj_3_38 : tjjP 3 38 (-1) := ⟨⟨by decide, by decide⟩, 350, by decide +kernel⟩
theorem tjj_3_40 : tjjP 3 40 8 := ⟨⟨by decide, by decide⟩, 351, by decide +kernel⟩
theorem tjjq_3 : ∀ e ∈ tJl.getD 3 [], tjjP 3 e.1 e.2 := List.forall_mem_cons.mpr ⟨tjj_3_38, List.forall_mem_cons.mpr ⟨tjj_3_40, fun _ h => absurd h List.not_mem_nil⟩⟩
theorem tjjq_4 : ∀ e ∈ tJl.getD 4 [], tjjP 4 e.1 e.2 := fun _ h => absurd h List.not_mem_nil
theorem tjjq_5 : ∀ e ∈ tJl.getD 5 [], tjjP 5 e.1 e.2 := fun _ h => absurd h List.not_mem_nil
theorem tjjq_6 : ∀ e ∈ tJl.getD 6 [], tjjP 6 e.1 e.2 := fun _ h => absurd h List.not_mem_nil
theorem tjjq_7 : ∀ e ∈ tJl.getD 7 [], tjjP 7 e.1 e.2 := fun _ h => absurd h List.not_mem_nil
theorem tjj_8_98 : tjjP 8 98 255 := ⟨⟨by decide, by decide⟩, 940, by decide +kernel⟩
theorem tjj_8_161 : tjjP 8 161 48 := ⟨⟨by decide, by decide⟩, 1024, by decide +kernel⟩
theorem tjj_8_163 : tjjP 8 163 8 := ⟨⟨by decide, by decide⟩, 1025, by decide +kernel⟩
theorem tjj_8_175 : tjjP 8 175 (-1) := ⟨⟨by decide, by decide⟩, 1053, by decide +kernel⟩
theorem tjj_8_191 : tjjP 8 191 4095 := ⟨⟨by decide, by decide⟩, 1054, by decide +kernel⟩
theorem tjj_8_193 : tjjP 8 193 2147483647 := ⟨⟨by decide, by decide⟩, 1055, by decide +kernel⟩
theorem tjj_8_208 : tjjP 8 208 2000 := ⟨⟨by decide, by decide⟩, 1068, by decide +kernel⟩
theorem tjjq_8 : ∀ e ∈ tJl.getD 8 [], tjjP 8 e.1 e.2 := List.forall_mem_cons.mpr ⟨tjj_8_98, List.forall_mem_cons.mpr ⟨tjj_8_161, List.forall_mem_cons.mpr ⟨tjj_8_163, List.forall_mem_cons.mpr ⟨tjj_8_175, List.forall_mem_cons.mpr ⟨tjj_8_191, List.forall_mem_cons.mpr ⟨tjj_8_193, List.forall_mem_cons.mpr ⟨tjj_8_208, fun _ h => absurd h List.not_mem_nil⟩⟩⟩⟩⟩⟩⟩
theorem tjj_9_67 : tjjP 9 67 4294967295 := ⟨⟨by decide, by decide⟩, 1101, by decide +kernel⟩
theorem tjjq_9 : ∀ e ∈ tJl.getD 9 [], tjjP 9 e.1 e.2 := List.forall_mem_cons.mpr ⟨tjj_9_67, fun _ h => absurd h List.not_mem_nil⟩
theorem tjjq_10 : ∀ e ∈ tJl.getD 10 [], tjjP 10 e.1 e.2 := fun _ h => absurd h List.not_mem_nil
theorem tJ_ok {c i : Nat} {v : Int} (h : tJ c i = some v) : tjjP c i v := by
  have h1 := lookup_mem h
  match c, h1 with
  | 0, h1 => exact tjjq_0 _ h1
  | 1, h1 => exact tjjq_1 _ h1
  | 2, h1 => exact tjjq_2 _ h1
  | 3, h1 => exact tjjq_3 _ h1
  | 4, h1 => exact tjjq_4 _ h1
  | 5, h1 => exact tjjq_5 _ h1
  | 6, h1 => exact tjjq_6 _ h1
  | 7, h1 => exact tjjq_7 _ h1
  | 8, h1 => exact tjjq_8 _ h1
  | 9, h1 => exact tjjq_9 _ h1
  | 10, h1 => exact tjjq_10 _ h1
  | n + 11, h1 => exact absurd h1 (by simp [tJl])
end
section
/-! AM: a small machine over a pure heap of numbers; later parts show that the true one goes its way. -/
abbrev AE : Type := (Nat × List AV) ⊕ (Nat × Nat × ((Nat → Int) ⊕ (Nat → Option Nat)))
abbrev eO (ci : Nat) (fs : List AV) : AE := .inl (ci, fs)
abbrev eA (k n : Nat) (f : Nat → Int) : AE := .inr (k, n, .inl f)
abbrev eQ (k n : Nat) (f : Nat → Option Nat) : AE := .inr (k, n, .inr f)
/-- cells by address, the next address, slots made so far, the first address of ours, the address of the marks -/
abbrev AH : Type := (Nat → Option AE) × Nat × Nat × Nat × Nat
def hup (f : Nat → Option AE) (a : Nat) (e : AE) : Nat → Option AE := fun j => if j = a then some e else f j
def hput (h : AH) (a : Nat) (e : AE) : AH := (hup h.1 a e, h.2)
def hnew (h : AH) (e : AE) (n : Nat) : AH := (hup h.1 h.2.1 e, h.2.1 + 1, h.2.2.1 + n, h.2.2.2)
def hthr (h : AH) : AH := (h.1, h.2.1 + 1, h.2.2.1 + tThr, h.2.2.2)
abbrev AO : Type := Option AV ⊕ (Nat × Nat)
def a32 (x : Int) : Int := (Int32.ofInt x).toInt
def a64 (x : Int) : Int := (Int64.ofInt x).toInt
def a8 (x : Int) : Int := (Int8.ofInt x).toInt
def a_and (x y : Int) : Int := (Int32.ofInt x &&& Int32.ofInt y).toInt
def a_div (x y : Int) : Int := (Int32.ofInt x / Int32.ofInt y).toInt
def a_ushr (x y : Int) : Int := ((Int32.ofInt x).toUInt32 >>> ((Int32.ofInt y).toUInt32 &&& Int32.toUInt32 31)).toInt32.toInt
def a_land (x y : Int) : Int := (Int64.ofInt x &&& Int64.ofInt y).toInt
def a_lor (x y : Int) : Int := (Int64.ofInt x ||| Int64.ofInt y).toInt
def a_ldiv (x y : Int) : Int := (Int64.ofInt x / Int64.ofInt y).toInt
def a_lrem (x y : Int) : Int := (Int64.ofInt x - Int64.ofInt x / Int64.ofInt y * Int64.ofInt y).toInt
def a_lshl (x y : Int) : Int := (Int64.ofInt x <<< ((Int32.ofInt y).toInt64 &&& 63)).toInt
def a_lshr (x y : Int) : Int := (Int64.ofInt x >>> ((Int32.ofInt y).toInt64 &&& 63)).toInt
def a_lushr (x y : Int) : Int := ((Int64.ofInt x).toUInt64 >>> ((Int32.ofInt y).toInt64.toUInt64 &&& Int64.toUInt64 63)).toInt64.toInt
def a_lcmp (x y : Int) : Int := if y < x then 1 else if x = y then 0 else -1
def a_nxt (pc : Nat) (off : Int) : Option Nat := match (pc : Int) + off with
  | .ofNat t => some t
  | _ => none
def a_cnd (c : Jvm.ClassFile.Cond) (x y : Int) : Bool := match c with
  | .eq => decide (x = y)
  | .ne => decide (x ≠ y)
  | .lt => decide (x < y)
  | .ge => decide (y ≤ x)
  | .gt => decide (y < x)
  | .le => decide (x ≤ y)
def a_kill (L : List AV) (i : Nat) : List AV := match i with
  | 0 => L
  | j + 1 => match L.getD j none with
    | some (.inr (.inl _)) => L.set j none
    | _ => L
def a_st1 (L : List AV) (i : Nat) (v : AV) : Option (List AV) := if i < L.length then some ((a_kill L i).set i v) else none
def a_st2 (L : List AV) (i : Nat) (v : AV) : Option (List AV) := if i + 1 < L.length then some (((a_kill L i).set i v).set (i + 1) none) else none
abbrev AS : Type := Nat × List AV × List AV × AH
def s_ldi (pc k : Nat) (L S : List AV) (h : AH) : Option AS := match L.getD k none with
  | some (.inl x) => some (pc, L, aI x :: S, h)
  | _ => none
def s_ldl (pc k : Nat) (L S : List AV) (h : AH) : Option AS := match L.getD k none with
  | some (.inr (.inl x)) => some (pc, L, aL x :: S, h)
  | _ => none
def s_lda (pc k : Nat) (L S : List AV) (h : AH) : Option AS := match L.getD k none with
  | some (.inr (.inr (some x))) => some (pc, L, aR x :: S, h)
  | _ => none
def s_sti (pc k : Nat) (L S : List AV) (h : AH) : Option AS := match S with
  | some (.inl x) :: S => (a_st1 L k (aI x)).map fun L' => (pc, L', S, h)
  | _ => none
def s_stl (pc k : Nat) (L S : List AV) (h : AH) : Option AS := match S with
  | some (.inr (.inl x)) :: S => (a_st2 L k (aL x)).map fun L' => (pc, L', S, h)
  | _ => none
def s_sta (pc k : Nat) (L S : List AV) (h : AH) : Option AS := match S with
  | some (.inr (.inr (some x))) :: S => (a_st1 L k (aR x)).map fun L' => (pc, L', S, h)
  | _ => none
def s_inc (pc k : Nat) (c : Int) (L S : List AV) (h : AH) : Option AS := match L.getD k none with
  | some (.inl x) => (a_st1 L k (aI (a32 (x + c)))).map fun L' => (pc, L', S, h)
  | _ => none
def s_ii (f : Int → Int → Int) (pc : Nat) (L S : List AV) (h : AH) : Option AS := match S with
  | some (.inl y) :: some (.inl x) :: S => some (pc, L, aI (f x y) :: S, h)
  | _ => none
def s_ll (f : Int → Int → Int) (pc : Nat) (L S : List AV) (h : AH) : Option AS := match S with
  | some (.inr (.inl y)) :: some (.inr (.inl x)) :: S => some (pc, L, aL (f x y) :: S, h)
  | _ => none
def s_li (f : Int → Int → Int) (pc : Nat) (L S : List AV) (h : AH) : Option AS := match S with
  | some (.inl y) :: some (.inr (.inl x)) :: S => some (pc, L, aL (f x y) :: S, h)
  | _ => none
def s_idv (pc : Nat) (L S : List AV) (h : AH) : Option AS := match S with
  | some (.inl y) :: some (.inl x) :: S => if y = 0 then none else some (pc, L, aI (a_div x y) :: S, h)
  | _ => none
def s_ldv (f : Int → Int → Int) (pc : Nat) (L S : List AV) (h : AH) : Option AS := match S with
  | some (.inr (.inl y)) :: some (.inr (.inl x)) :: S => if y = 0 then none else some (pc, L, aL (f x y) :: S, h)
  | _ => none
def s_lcmp (pc : Nat) (L S : List AV) (h : AH) : Option AS := match S with
  | some (.inr (.inl y)) :: some (.inr (.inl x)) :: S => some (pc, L, aI (a_lcmp x y) :: S, h)
  | _ => none
def s_i2i (f : Int → Int) (pc : Nat) (L S : List AV) (h : AH) : Option AS := match S with
  | some (.inl x) :: S => some (pc, L, aI (f x) :: S, h)
  | _ => none
def s_i2l (pc : Nat) (L S : List AV) (h : AH) : Option AS := match S with
  | some (.inl x) :: S => some (pc, L, aL x :: S, h)
  | _ => none
def s_l2i (pc : Nat) (L S : List AV) (h : AH) : Option AS := match S with
  | some (.inr (.inl x)) :: S => some (pc, L, aI (a32 x) :: S, h)
  | _ => none
def a_one (v : AV) : Bool := match v with
  | some (.inl _) => true
  | some (.inr (.inr _)) => true
  | _ => false
def s_dup (pc : Nat) (L S : List AV) (h : AH) : Option AS := match S with
  | v :: S => if a_one v then some (pc, L, v :: v :: S, h) else none
  | _ => none
def s_pop (pc : Nat) (L S : List AV) (h : AH) : Option AS := match S with
  | v :: S => if a_one v then some (pc, L, S, h) else none
  | _ => none
def s_dup2 (pc : Nat) (L S : List AV) (h : AH) : Option AS := match S with
  | v :: w :: S => if a_one v && a_one w then some (pc, L, v :: w :: v :: w :: S, h) else none
  | _ => none
def s_if (c : Jvm.ClassFile.Cond) (off : Int) (pc : Nat) (L S : List AV) (h : AH) : Option AS := match S with
  | some (.inl x) :: S => (a_nxt pc off).map fun t => (bif a_cnd c x 0 then t else pc + 3, L, S, h)
  | _ => none
def s_icmp (c : Jvm.ClassFile.Cond) (off : Int) (pc : Nat) (L S : List AV) (h : AH) : Option AS := match S with
  | some (.inl y) :: some (.inl x) :: S => (a_nxt pc off).map fun t => (bif a_cnd c x y then t else pc + 3, L, S, h)
  | _ => none
def s_goto (off : Int) (pc : Nat) (L S : List AV) (h : AH) : Option AS := (a_nxt pc off).map fun t => (t, L, S, h)
def s_tab (dflt lo hi : Int) (offs : Array Int) (pc : Nat) (L S : List AV) (h : AH) : Option AS := match S with
  | some (.inl x) :: S => if x < lo ∨ hi < x then (a_nxt pc dflt).map fun t => (t, L, S, h) else match offs[(x - lo).toNat]? with
    | some off => (a_nxt pc off).map fun t => (t, L, S, h)
    | none => none
  | _ => none
def s_get (y : AY) (idx pc : Nat) (L S : List AV) (h : AH) : Option AS := match S with
  | some (.inr (.inr (some a))) :: S => match tF y.2.1 idx with
    | some (ci, k, _) => match h.1 a with
      | some (.inl (c, fs)) => if c = ci ∧ h.2.2.2.1 ≤ a then (match fs[k]? with
        | some (some v) => some (pc + 3, L, some v :: S, h)
        | _ => none) else none
      | _ => none
    | none => none
  | _ => none
def a_fit (tag : Nat) (v : AV) : Bool := match v with
  | some (.inl _) => tag == 0
  | some (.inr (.inl _)) => tag == 1
  | some (.inr (.inr _)) => tag == 2
  | none => false
def s_put (y : AY) (idx pc : Nat) (L S : List AV) (h : AH) : Option AS := match S with
  | v :: some (.inr (.inr (some a))) :: S => match tF y.2.1 idx with
    | some (ci, k, tag, fin) => match h.1 a with
      | some (.inl (c, fs)) => if c = ci ∧ h.2.2.2.1 ≤ a ∧ k < fs.length ∧ a_fit tag v = true ∧ (fin = true → y.2.2.2.2.2 = true ∧ y.2.1 = ci) then some (pc + 3, L, S, hput h a (eO ci (fs.set k v))) else none
      | _ => none
    | none => none
  | _ => none
def s_new (y : AY) (idx pc : Nat) (L S : List AV) (h : AH) : Option AS := match tC y.2.1 idx with
  | some ci => some (pc + 3, L, aR h.2.1 :: S, hnew h (eO ci (tD ci)) (tD ci).length)
  | none => none
def a_at (t : Jvm.ClassFile.ArrayType) : Option Nat := match t with
  | .int => some 0
  | .byte => some 1
  | .long => some 2
  | _ => none
def s_newa (t : Jvm.ClassFile.ArrayType) (pc : Nat) (L S : List AV) (h : AH) : Option AS := match S with
  | some (.inl n) :: S => match a_at t with
    | some k => if 0 ≤ n ∧ n ≤ 1000000 then some (pc + 2, L, aR h.2.1 :: S, hnew h (eA k n.toNat (fun _ => 0)) n.toNat) else none
    | none => none
  | _ => none
def s_newq (y : AY) (idx pc : Nat) (L S : List AV) (h : AH) : Option AS := match S with
  | some (.inl n) :: S => match tC y.2.1 idx with
    | some ci => if ci = 0 ∧ 0 ≤ n ∧ n ≤ 1000000 then some (pc + 3, L, aR h.2.1 :: S, hnew h (eQ (3 + ci) n.toNat (fun _ => none)) n.toNat) else none
    | none => none
  | _ => none
def s_ild (k pc : Nat) (L S : List AV) (h : AH) : Option AS := match S with
  | some (.inl i) :: some (.inr (.inr (some a))) :: S => match h.1 a with
    | some (.inr (k', n, .inl f)) => if k' = k ∧ 0 ≤ i ∧ i < n then some (pc, L, (if k = 2 then aL (f i.toNat) else aI (f i.toNat)) :: S, h) else none
    | _ => none
  | _ => none
def s_qld (pc : Nat) (L S : List AV) (h : AH) : Option AS := match S with
  | some (.inl i) :: some (.inr (.inr (some a))) :: S => match h.1 a with
    | some (.inr (k, n, .inr f)) => if 3 ≤ k ∧ h.2.2.2.1 ≤ a ∧ 0 ≤ i ∧ i < n then (match f i.toNat with
      | some x => some (pc, L, aR x :: S, h)
      | none => none) else none
    | _ => none
  | _ => none
def s_ist (k pc : Nat) (g : Int → Int) (L S : List AV) (h : AH) : Option AS := match S with
  | some (.inl x) :: some (.inl i) :: some (.inr (.inr (some a))) :: S => match h.1 a with
    | some (.inr (k', n, .inl f)) => if k' = k ∧ h.2.2.2.1 ≤ a ∧ 0 ≤ i ∧ i < n then some (pc, L, S, hput h a (eA k n (va_up f i.toNat (g x)))) else none
    | _ => none
  | _ => none
def s_lst (pc : Nat) (L S : List AV) (h : AH) : Option AS := match S with
  | some (.inr (.inl x)) :: some (.inl i) :: some (.inr (.inr (some a))) :: S => match h.1 a with
    | some (.inr (k', n, .inl f)) => if k' = 2 ∧ h.2.2.2.1 ≤ a ∧ 0 ≤ i ∧ i < n then some (pc, L, S, hput h a (eA 2 n (va_up f i.toNat x))) else none
    | _ => none
  | _ => none
def s_qst (pc : Nat) (L S : List AV) (h : AH) : Option AS := match S with
  | some (.inr (.inr (some x))) :: some (.inl i) :: some (.inr (.inr (some a))) :: S => match h.1 a with
    | some (.inr (k, n, .inr f)) => match h.1 x with
      | some (.inl (ci, _)) => if k = 3 + ci ∧ h.2.2.2.1 ≤ a ∧ h.2.2.2.1 ≤ x ∧ 0 ≤ i ∧ i < n then some (pc, L, S, hput h a (eQ k n (va_up f i.toNat (some x)))) else none
      | _ => none
    | _ => none
  | _ => none
def s_len (pc : Nat) (L S : List AV) (h : AH) : Option AS := match S with
  | some (.inr (.inr (some a))) :: S => match h.1 a with
    | some (.inr (_, n, _)) => if n < 2147483648 then some (pc, L, aI n :: S, h) else none
    | _ => none
  | _ => none
def stp (y : AY) (i : Jvm.ClassFile.Instr) (len pc : Nat) (L S : List AV) (h : AH) : Option AS := match i, len with
  | .iconst n, 1 => if -1 ≤ n ∧ n ≤ 5 then some (pc + 1, L, aI n :: S, h) else none
  | .bipush n, 2 => if -128 ≤ n ∧ n ≤ 127 then some (pc + 2, L, aI n :: S, h) else none
  | .sipush n, 3 => if -32768 ≤ n ∧ n ≤ 32767 then some (pc + 3, L, aI n :: S, h) else none
  | .lconst n, 1 => some (pc + 1, L, aL (n : Nat) :: S, h)
  | .ldc x, 2 => (tI y.2.1 x).map fun v => (pc + 2, L, aI v :: S, h)
  | .ldc2_w x, 3 => (tJ y.2.1 x).map fun v => (pc + 3, L, aL v :: S, h)
  | .iload k, 2 => s_ldi (pc + 2) k L S h
  | .iload_n k, 1 => s_ldi (pc + 1) k L S h
  | .lload k, 2 => s_ldl (pc + 2) k L S h
  | .lload_n k, 1 => s_ldl (pc + 1) k L S h
  | .aload k, 2 => s_lda (pc + 2) k L S h
  | .aload_n k, 1 => s_lda (pc + 1) k L S h
  | .istore k, 2 => s_sti (pc + 2) k L S h
  | .istore_n k, 1 => s_sti (pc + 1) k L S h
  | .lstore k, 2 => s_stl (pc + 2) k L S h
  | .lstore_n k, 1 => s_stl (pc + 1) k L S h
  | .astore k, 2 => s_sta (pc + 2) k L S h
  | .astore_n k, 1 => s_sta (pc + 1) k L S h
  | .iinc k c, 3 => s_inc (pc + 3) k c L S h
  | .iinc k c, 6 => s_inc (pc + 6) k c L S h
  | .iadd, 1 => s_ii (fun x y => a32 (x + y)) (pc + 1) L S h
  | .isub, 1 => s_ii (fun x y => a32 (x - y)) (pc + 1) L S h
  | .imul, 1 => s_ii (fun x y => a32 (x * y)) (pc + 1) L S h
  | .iand, 1 => s_ii a_and (pc + 1) L S h
  | .iushr, 1 => s_ii a_ushr (pc + 1) L S h
  | .idiv, 1 => s_idv (pc + 1) L S h
  | .ineg, 1 => s_i2i (fun x => a32 (-x)) (pc + 1) L S h
  | .i2b, 1 => s_i2i a8 (pc + 1) L S h
  | .i2l, 1 => s_i2l (pc + 1) L S h
  | .l2i, 1 => s_l2i (pc + 1) L S h
  | .ladd, 1 => s_ll (fun x y => a64 (x + y)) (pc + 1) L S h
  | .lsub, 1 => s_ll (fun x y => a64 (x - y)) (pc + 1) L S h
  | .lmul, 1 => s_ll (fun x y => a64 (x * y)) (pc + 1) L S h
  | .land, 1 => s_ll a_land (pc + 1) L S h
  | .lor, 1 => s_ll a_lor (pc + 1) L S h
  | .ldiv, 1 => s_ldv a_ldiv (pc + 1) L S h
  | .lrem, 1 => s_ldv a_lrem (pc + 1) L S h
  | .lshl, 1 => s_li a_lshl (pc + 1) L S h
  | .lshr, 1 => s_li a_lshr (pc + 1) L S h
  | .lushr, 1 => s_li a_lushr (pc + 1) L S h
  | .lcmp, 1 => s_lcmp (pc + 1) L S h
  | .dup, 1 => s_dup (pc + 1) L S h
  | .pop, 1 => s_pop (pc + 1) L S h
  | .dup2, 1 => s_dup2 (pc + 1) L S h
  | .ifCond c off, 3 => s_if c off pc L S h
  | .if_icmp c off, 3 => s_icmp c off pc L S h
  | .goto off, 3 => s_goto off pc L S h
  | .tableswitch dflt lo hi offs, _ => s_tab dflt lo hi offs pc L S h
  | .getfield x, 3 => s_get y x pc L S h
  | .putfield x, 3 => s_put y x pc L S h
  | .getstatic x, 3 => if tS y.2.1 x = true then some (pc + 3, L, aR h.2.2.2.2 :: S, h) else none
  | .new x, 3 => s_new y x pc L S h
  | .newarray t, 2 => s_newa t pc L S h
  | .anewarray x, 3 => s_newq y x pc L S h
  | .iaload, 1 => s_ild 0 (pc + 1) L S h
  | .baload, 1 => s_ild 1 (pc + 1) L S h
  | .laload, 1 => s_ild 2 (pc + 1) L S h
  | .aaload, 1 => s_qld (pc + 1) L S h
  | .iastore, 1 => s_ist 0 (pc + 1) (fun x => x) L S h
  | .bastore, 1 => s_ist 1 (pc + 1) a8 L S h
  | .lastore, 1 => s_lst (pc + 1) L S h
  | .aastore, 1 => s_qst (pc + 1) L S h
  | .arraylength, 1 => s_len (pc + 1) L S h
  | _, _ => none
def a_cat (v : AV) : Nat := match v with
  | some (.inr (.inl _)) => 2
  | _ => 1
def a_wt (S : List AV) : Nat := (S.map a_cat).sum
def a_spr (As : List AV) : List AV := As.flatMap fun v => match v with
  | some (.inr (.inl x)) => [aL x, none]
  | v => [v]
def ent (y : AY) (As : List AV) : List AV := a_spr As ++ List.replicate (y.2.2.2.1 - (a_spr As).length) none
/-- the ends: a return; a new exception made and thrown at a place that the tables know -/
def fin (d : Nat) (y : AY) (i : Jvm.ClassFile.Instr) (len pc : Nat) (S : List AV) (h : AH) : Option (AO × AH) := match i, len with
  | .ireturn, 1 => match S with
    | [some (.inl x)] => if y.2.2.2.2.1 = some .int ∨ (y.2.2.2.2.1 = some .boolean ∧ (x = 0 ∨ x = 1)) then some (.inl (some (aI x)), h) else none
    | _ => none
  | .lreturn, 1 => match S with
    | [some (.inr (.inl x))] => if y.2.2.2.2.1 = some .long then some (.inl (some (aL x)), h) else none
    | _ => none
  | .areturn, 1 => match S with
    | [some (.inr (.inr (some x)))] => if tQ y.2.2.2.2.1 = true then some (.inl (some (aR x)), h) else none
    | _ => none
  | .return_, 1 => match S with
    | [] => if y.2.2.2.2.1 = none then some (.inl none, h) else none
    | _ => none
  | .new _, 3 => match tX y.1 pc with
    | some k => if 5 ≤ d ∧ a_wt S ≤ 7 then some (.inr (k, h.2.1), hthr h) else none
    | none => none
  | _, _ => none
/-- a call of a method of ours: who, with what, over what -/
def cal (y : AY) (i : Jvm.ClassFile.Instr) (len : Nat) (S : List AV) (h : AH) : Option (AY × List AV × List AV) := match i, len with
  | .invokevirtual x, 3 => match tM y.2.1 x with
    | some (0, n, z) => match S.drop n with
      | some (.inr (.inr (some a))) :: rest => match h.1 a with
        | some (.inl (ci, _)) => if ci = z.2.1 ∧ h.2.2.2.1 ≤ a ∧ (S.take n).length = n ∧ a_wt rest ≤ 8 ∧ (a_spr (aR a :: (S.take n).reverse)).length ≤ z.2.2.2.1 ∧ (S.take n).all Option.isSome = true then some (z, aR a :: (S.take n).reverse, rest) else none
        | _ => none
      | _ => none
    | _ => none
  | .invokespecial x, 3 => match tM y.2.1 x with
    | some (1, n, z) => match S.drop n with
      | some (.inr (.inr (some a))) :: rest => if (S.take n).length = n ∧ a_wt rest ≤ 8 ∧ (a_spr (aR a :: (S.take n).reverse)).length ≤ z.2.2.2.1 ∧ (S.take n).all Option.isSome = true then some (z, aR a :: (S.take n).reverse, rest) else none
      | _ => none
    | _ => none
  | .invokestatic x, 3 => match tM y.2.1 x with
    | some (2, n, z) => if (S.take n).length = n ∧ a_wt (S.drop n) ≤ 8 ∧ (a_spr (S.take n).reverse).length ≤ z.2.2.2.1 ∧ (S.take n).all Option.isSome = true then some (z, (S.take n).reverse, S.drop n) else none
    | _ => none
  | _, _ => none
/-- calls of the library that are one step here: Object(), Math.max, Math.min, System.arraycopy of bytes -/
def blt (y : AY) (i : Jvm.ClassFile.Instr) (len : Nat) (S : List AV) (h : AH) : Option (List AV × AH) := match i, len with
  | .invokespecial x, 3 => if tB y.2.1 x = some 0 then (match S with
    | some (.inr (.inr (some _))) :: S => if a_wt S ≤ 8 then some (S, h) else none
    | _ => none) else none
  | .invokestatic x, 3 => match tB y.2.1 x with
    | some 1 => match S with
      | some (.inl b) :: some (.inl a) :: S => if a_wt S ≤ 8 then some (aI (if a ≤ b then b else a) :: S, h) else none
      | _ => none
    | some 2 => match S with
      | some (.inl b) :: some (.inl a) :: S => if a_wt S ≤ 8 then some (aI (if a ≤ b then a else b) :: S, h) else none
      | _ => none
    | some 3 => match S with
      | some (.inl n) :: some (.inl dp) :: some (.inr (.inr (some b))) :: some (.inl sp) :: some (.inr (.inr (some a))) :: S => match h.1 a with
        | some (.inr (1, n0, .inl f)) => match h.1 b with
          | some (.inr (1, n1, .inl g)) => if a_wt S ≤ 8 ∧ h.2.2.2.1 ≤ a ∧ h.2.2.2.1 ≤ b ∧ a ≠ b ∧ 0 ≤ sp ∧ 0 ≤ dp ∧ 0 ≤ n ∧ sp + n ≤ n0 ∧ dp + n ≤ n1 then some (S, hput h b (eA 1 n1 (va_cpy f g sp.toNat dp.toNat n.toNat))) else none
          | _ => none
        | _ => none
      | _ => none
    | _ => none
  | _, _ => none
abbrev AG : Type := Nat → AY → Nat → List AV → List AV → AH → Option (AO × AH)
/-- what comes behind a call -/
def aft (G : AG) (d : Nat) (y : AY) (pc : Nat) (L rest : List AV) (r : AO × AH) : Option (AO × AH) := match r.1 with
  | .inl (some v) => G d y (pc + 3) L (v :: rest) r.2
  | .inl none => G d y (pc + 3) L rest r.2
  | .inr (k, x) => match tH y.1 k with
    | some t => G d y t L [aR x] r.2
    | none => some (.inr (k, x), r.2)
/-- how many levels of the room a call takes -/
def lv (z : AY) : Nat := if z.2.2.2.1 ≤ 17 then 1 else 2
def tb (y : AY) (pc : Nat) : Option (Jvm.ClassFile.Instr × Nat) := (y.2.2.1.getD (pc / 16) []).lookup pc
def gob (G : AG) : AG := fun d y pc L S h => match tb y pc with
  | none => none
  | some (i, len) => match fin d y i len pc S h with
    | some r => some r
    | none => match cal y i len S h with
      | some (z, As, rest) => if lv z ≤ d then (match G (d - lv z) z 0 (ent z As) [] h with
        | none => none
        | some r => aft G d y pc L rest r) else none
      | none => match blt y i len S h with
        | some (S', h') => G d y (pc + 3) L S' h'
        | none => match stp y i len pc L S h with
          | none => none
          | some (pc', L', S', h') => G d y pc' L' S' h'
def go : Nat → AG
  | 0 => fun _ _ _ _ _ _ => none
  | n + 1 => gob (go n)
end
section
/-! AM: more fuel does no harm; the judgement Go; a rule for each instruction. -/
theorem aft_le {G G' : AG} (hG : ∀ d y pc L S h r, G d y pc L S h = some r → G' d y pc L S h = some r) {d : Nat} {y : AY} {pc : Nat} {L rest : List AV} {q r : AO × AH} (e : aft G d y pc L rest q = some r) : aft G' d y pc L rest q = some r := by
  obtain ⟨o, h'⟩ := q
  rcases o with (_ | v) | ⟨k, x⟩
  · exact hG _ _ _ _ _ _ _ e
  · exact hG _ _ _ _ _ _ _ e
  · simp only [aft] at e ⊢
    cases ht : tH y.1 k with
    | some t =>
      simp only [ht] at e ⊢
      exact hG _ _ _ _ _ _ _ e
    | none =>
      simp only [ht] at e ⊢
      exact e
theorem gob_le {G G' : AG} (hG : ∀ d y pc L S h r, G d y pc L S h = some r → G' d y pc L S h = some r) {d : Nat} {y : AY} {pc : Nat} {L S : List AV} {h : AH} {r : AO × AH} (e : gob G d y pc L S h = some r) : gob G' d y pc L S h = some r := by
  unfold gob at e ⊢
  cases hd : tb y pc with
  | none => simp only [hd] at e; cases e
  | some il =>
    obtain ⟨i, len⟩ := il
    simp only [hd] at e ⊢
    cases hf : fin d y i len pc S h with
    | some q => simp only [hf] at e ⊢; exact e
    | none =>
      simp only [hf] at e ⊢
      cases hc : cal y i len S h with
      | some q =>
        obtain ⟨z, As, rest⟩ := q
        simp only [hc] at e ⊢
        by_cases hl : lv z ≤ d
        · rw [if_pos hl] at e ⊢
          cases hg : G (d - lv z) z 0 (ent z As) [] h with
          | none => rw [hg] at e; cases e
          | some q =>
            rw [hg] at e
            rw [hG _ _ _ _ _ _ _ hg]
            exact aft_le hG e
        · rw [if_neg hl] at e; cases e
      | none =>
        simp only [hc] at e ⊢
        cases hb : blt y i len S h with
        | some q =>
          obtain ⟨S', h'⟩ := q
          simp only [hb] at e ⊢
          exact hG _ _ _ _ _ _ _ e
        | none =>
          simp only [hb] at e ⊢
          cases hs : stp y i len pc L S h with
          | none => simp only [hs] at e; cases e
          | some q =>
            obtain ⟨pc', L', S', h'⟩ := q
            simp only [hs] at e ⊢
            exact hG _ _ _ _ _ _ _ e
theorem go_s : ∀ (n : Nat) (d : Nat) (y : AY) (pc : Nat) (L S : List AV) (h : AH) (r : AO × AH), go n d y pc L S h = some r → go (n + 1) d y pc L S h = some r := by
  intro n
  induction n with
  | zero => intro d y pc L S h r e; cases e
  | succ n ih =>
    intro d y pc L S h r e
    exact gob_le (G := go n) (G' := go (n + 1)) ih e
theorem go_le {n m : Nat} (hnm : n ≤ m) {d : Nat} {y : AY} {pc : Nat} {L S : List AV} {h : AH} {r : AO × AH} (e : go n d y pc L S h = some r) : go m d y pc L S h = some r := by
  induction hnm with
  | refl => exact e
  | step _ ih => exact go_s _ _ _ _ _ _ _ _ ih
/-- the method y, at pc with these variables and this stack over the heap h and d calls deep at most, comes to an end with Q -/
def Go (d : Nat) (y : AY) (pc : Nat) (L S : List AV) (h : AH) (Q : AO → AH → Prop) : Prop := ∃ n r, go n d y pc L S h = some r ∧ Q r.1 r.2
abbrev Cal (d : Nat) (y : AY) (As : List AV) (h : AH) (Q : AO → AH → Prop) : Prop := Go d y 0 (ent y As) [] h Q
def aftQ (d : Nat) (y : AY) (pc : Nat) (L rest : List AV) (Q : AO → AH → Prop) (o : AO) (h' : AH) : Prop := match o with
  | .inl (some v) => Go d y (pc + 3) L (v :: rest) h' Q
  | .inl none => Go d y (pc + 3) L rest h' Q
  | .inr (k, x) => match tH y.1 k with
    | some t => Go d y t L [aR x] h' Q
    | none => Q (.inr (k, x)) h'
section GoRules
variable {d : Nat} {y : AY} {pc : Nat} {L S : List AV} {h : AH} {Q : AO → AH → Prop}
theorem Go.mono {Q' : AO → AH → Prop} (k : Go d y pc L S h Q) (hQ : ∀ o h', Q o h' → Q' o h') : Go d y pc L S h Q' := by
  obtain ⟨n, r, e, q⟩ := k
  exact ⟨n, r, e, hQ _ _ q⟩
theorem Go.eq {pc' : Nat} {L' S' : List AV} {h' : AH} (e1 : pc' = pc) (e2 : L' = L) (e3 : S' = S) (e4 : h' = h) (k : Go d y pc' L' S' h' Q) : Go d y pc L S h Q := by
  subst e1; subst e2; subst e3; subst e4; exact k
theorem Go.st {i : Jvm.ClassFile.Instr} {len pc' : Nat} {L' S' : List AV} {h' : AH} (hd : tb y pc = some (i, len)) (h1 : fin d y i len pc S h = none) (h2 : cal y i len S h = none) (h3 : blt y i len S h = none) (h4 : stp y i len pc L S h = some (pc', L', S', h')) (k : Go d y pc' L' S' h' Q) : Go d y pc L S h Q := by
  obtain ⟨n, r, e, q⟩ := k
  refine ⟨n + 1, r, ?_, q⟩
  show gob (go n) d y pc L S h = some r
  simp only [gob, hd, h1, h2, h3, h4]
  exact e
theorem Go.end {i : Jvm.ClassFile.Instr} {len : Nat} {r : AO × AH} (hd : tb y pc = some (i, len)) (h1 : fin d y i len pc S h = some r) (q : Q r.1 r.2) : Go d y pc L S h Q := by
  refine ⟨1, r, ?_, q⟩
  show gob (go 0) d y pc L S h = some r
  simp only [gob, hd, h1]
theorem Go.bl {i : Jvm.ClassFile.Instr} {len : Nat} {S' : List AV} {h' : AH} (hd : tb y pc = some (i, len)) (h1 : fin d y i len pc S h = none) (h2 : cal y i len S h = none) (h3 : blt y i len S h = some (S', h')) (k : Go d y (pc + 3) L S' h' Q) : Go d y pc L S h Q := by
  obtain ⟨n, r, e, q⟩ := k
  refine ⟨n + 1, r, ?_, q⟩
  show gob (go n) d y pc L S h = some r
  simp only [gob, hd, h1, h2, h3]
  exact e
theorem Go.call {i : Jvm.ClassFile.Instr} {len e : Nat} {z : AY} {As rest : List AV} (hd : tb y pc = some (i, len)) (h1 : fin d y i len pc S h = none) (h2 : cal y i len S h = some (z, As, rest)) (hl : lv z = e) (he : e ≤ d) (k : Cal (d - e) z As h (aftQ d y pc L rest Q)) : Go d y pc L S h Q := by
  subst hl
  obtain ⟨n1, ⟨o, h'⟩, e1, q1⟩ := k
  have fin1 : ∀ (n2 : Nat) (r : AO × AH), aft (go n2) d y pc L rest (o, h') = some r → Q r.1 r.2 → Go d y pc L S h Q := by
    intro n2 r e2 q
    refine ⟨max n1 n2 + 1, r, ?_, q⟩
    show gob (go (max n1 n2)) d y pc L S h = some r
    have e3 := go_le (Nat.le_max_left n1 n2) e1
    simp only [gob, hd, h1, h2]
    rw [if_pos he, e3]
    exact aft_le (fun _ _ _ _ _ _ _ e => go_le (Nat.le_max_right n1 n2) e) e2
  rcases o with (_ | v) | ⟨k, x⟩
  · obtain ⟨n2, r, e2, q⟩ := q1
    exact fin1 n2 r e2 q
  · obtain ⟨n2, r, e2, q⟩ := q1
    exact fin1 n2 r e2 q
  · simp only [aftQ] at q1
    cases ht : tH y.1 k with
    | some t =>
      simp only [ht] at q1
      obtain ⟨n2, r, e2, q⟩ := q1
      exact fin1 n2 r (by simp only [aft, ht]; exact e2) q
    | none =>
      simp only [ht] at q1
      exact fin1 0 (.inr (k, x), h') (by simp only [aft, ht]) q1
theorem a32_id {x : Int} (h1 : -2147483648 ≤ x) (h2 : x ≤ 2147483647) : a32 x = x := Int32.toInt_ofInt_of_le h1 (by omega)
theorem a64_id {x : Int} (h1 : -9223372036854775808 ≤ x) (h2 : x ≤ 9223372036854775807) : a64 x = x := Int64.toInt_ofInt_of_le h1 (by omega)
theorem a8_id {x : Int} (h1 : -128 ≤ x) (h2 : x ≤ 127) : a8 x = x := Int8.toInt_ofInt_of_le h1 (by omega)
theorem g_iconst {n : Int} (hd : tb y pc = some (.iconst n, 1)) (hn : -1 ≤ n ∧ n ≤ 5) (k : Go d y (pc + 1) L (aI n :: S) h Q) : Go d y pc L S h Q := Go.st hd rfl rfl rfl (by simp only [stp]; exact if_pos hn) k
theorem g_bipush {n : Int} (hd : tb y pc = some (.bipush n, 2)) (hn : -128 ≤ n ∧ n ≤ 127) (k : Go d y (pc + 2) L (aI n :: S) h Q) : Go d y pc L S h Q := Go.st hd rfl rfl rfl (by simp only [stp]; exact if_pos hn) k
theorem g_sipush {n : Int} (hd : tb y pc = some (.sipush n, 3)) (hn : -32768 ≤ n ∧ n ≤ 32767) (k : Go d y (pc + 3) L (aI n :: S) h Q) : Go d y pc L S h Q := Go.st hd rfl rfl rfl (by simp only [stp]; exact if_pos hn) k
theorem g_lconst {n : Fin 2} {m : Int} (hd : tb y pc = some (.lconst n, 1)) (hm : ((n : Nat) : Int) = m) (k : Go d y (pc + 1) L (aL m :: S) h Q) : Go d y pc L S h Q := by subst hm; exact Go.st hd rfl rfl rfl rfl k
theorem g_ldc {x : Nat} {v : Int} (hd : tb y pc = some (.ldc x, 2)) (hv : tI y.2.1 x = some v) (k : Go d y (pc + 2) L (aI v :: S) h Q) : Go d y pc L S h Q := Go.st hd rfl rfl rfl (by simp only [stp, hv] <;> rfl) k
theorem g_ldc2 {x : Nat} {v : Int} (hd : tb y pc = some (.ldc2_w x, 3)) (hv : tJ y.2.1 x = some v) (k : Go d y (pc + 3) L (aL v :: S) h Q) : Go d y pc L S h Q := Go.st hd rfl rfl rfl (by simp only [stp, hv] <;> rfl) k
theorem g_iload {i : Nat} {x : Int} (hd : tb y pc = some (.iload i, 2)) (hl : L.getD i none = aI x) (k : Go d y (pc + 2) L (aI x :: S) h Q) : Go d y pc L S h Q := Go.st hd rfl rfl rfl (by simp only [stp, s_ldi, hl]) k
theorem g_iload_n {i : Fin 4} {x : Int} (hd : tb y pc = some (.iload_n i, 1)) (hl : L.getD i none = aI x) (k : Go d y (pc + 1) L (aI x :: S) h Q) : Go d y pc L S h Q := Go.st hd rfl rfl rfl (by simp only [stp, s_ldi, hl]) k
theorem g_lload {i : Nat} {x : Int} (hd : tb y pc = some (.lload i, 2)) (hl : L.getD i none = aL x) (k : Go d y (pc + 2) L (aL x :: S) h Q) : Go d y pc L S h Q := Go.st hd rfl rfl rfl (by simp only [stp, s_ldl, hl]) k
theorem g_lload_n {i : Fin 4} {x : Int} (hd : tb y pc = some (.lload_n i, 1)) (hl : L.getD i none = aL x) (k : Go d y (pc + 1) L (aL x :: S) h Q) : Go d y pc L S h Q := Go.st hd rfl rfl rfl (by simp only [stp, s_ldl, hl]) k
theorem g_aload {i x : Nat} (hd : tb y pc = some (.aload i, 2)) (hl : L.getD i none = aR x) (k : Go d y (pc + 2) L (aR x :: S) h Q) : Go d y pc L S h Q := Go.st hd rfl rfl rfl (by simp only [stp, s_lda, hl]) k
theorem g_aload_n {i : Fin 4} {x : Nat} (hd : tb y pc = some (.aload_n i, 1)) (hl : L.getD i none = aR x) (k : Go d y (pc + 1) L (aR x :: S) h Q) : Go d y pc L S h Q := Go.st hd rfl rfl rfl (by simp only [stp, s_lda, hl]) k
theorem g_istore {i : Nat} {x : Int} {L' : List AV} (hd : tb y pc = some (.istore i, 2)) (hl : a_st1 L i (aI x) = some L') (k : Go d y (pc + 2) L' S h Q) : Go d y pc L (aI x :: S) h Q := Go.st hd rfl rfl rfl (by simp only [stp, s_sti, hl] <;> rfl) k
theorem g_istore_n {i : Fin 4} {x : Int} {L' : List AV} (hd : tb y pc = some (.istore_n i, 1)) (hl : a_st1 L i (aI x) = some L') (k : Go d y (pc + 1) L' S h Q) : Go d y pc L (aI x :: S) h Q := Go.st hd rfl rfl rfl (by simp only [stp, s_sti, hl] <;> rfl) k
theorem g_lstore {i : Nat} {x : Int} {L' : List AV} (hd : tb y pc = some (.lstore i, 2)) (hl : a_st2 L i (aL x) = some L') (k : Go d y (pc + 2) L' S h Q) : Go d y pc L (aL x :: S) h Q := Go.st hd rfl rfl rfl (by simp only [stp, s_stl, hl] <;> rfl) k
theorem g_lstore_n {i : Fin 4} {x : Int} {L' : List AV} (hd : tb y pc = some (.lstore_n i, 1)) (hl : a_st2 L i (aL x) = some L') (k : Go d y (pc + 1) L' S h Q) : Go d y pc L (aL x :: S) h Q := Go.st hd rfl rfl rfl (by simp only [stp, s_stl, hl] <;> rfl) k
theorem g_astore {i x : Nat} {L' : List AV} (hd : tb y pc = some (.astore i, 2)) (hl : a_st1 L i (aR x) = some L') (k : Go d y (pc + 2) L' S h Q) : Go d y pc L (aR x :: S) h Q := Go.st hd rfl rfl rfl (by simp only [stp, s_sta, hl] <;> rfl) k
theorem g_astore_n {i : Fin 4} {x : Nat} {L' : List AV} (hd : tb y pc = some (.astore_n i, 1)) (hl : a_st1 L i (aR x) = some L') (k : Go d y (pc + 1) L' S h Q) : Go d y pc L (aR x :: S) h Q := Go.st hd rfl rfl rfl (by simp only [stp, s_sta, hl] <;> rfl) k
theorem g_iinc {i : Nat} {c x : Int} {L' : List AV} (hd : tb y pc = some (.iinc i c, 3)) (hx : L.getD i none = aI x) (hr : -2147483648 ≤ x + c ∧ x + c ≤ 2147483647) (hl : a_st1 L i (aI (x + c)) = some L') (k : Go d y (pc + 3) L' S h Q) : Go d y pc L S h Q := Go.st hd rfl rfl rfl (by simp only [stp, s_inc, hx, a32_id hr.1 hr.2, hl] <;> rfl) k
theorem g_iincw {i : Nat} {c x : Int} {L' : List AV} (hd : tb y pc = some (.iinc i c, 6)) (hx : L.getD i none = aI x) (hr : -2147483648 ≤ x + c ∧ x + c ≤ 2147483647) (hl : a_st1 L i (aI (x + c)) = some L') (k : Go d y (pc + 6) L' S h Q) : Go d y pc L S h Q := Go.st hd rfl rfl rfl (by simp only [stp, s_inc, hx, a32_id hr.1 hr.2, hl] <;> rfl) k
theorem g_iadd {x z : Int} (hd : tb y pc = some (.iadd, 1)) (hr : -2147483648 ≤ x + z ∧ x + z ≤ 2147483647) (k : Go d y (pc + 1) L (aI (x + z) :: S) h Q) : Go d y pc L (aI z :: aI x :: S) h Q := Go.st hd rfl rfl rfl (by simp only [stp, s_ii, a32_id hr.1 hr.2]) k
theorem g_iaddw {x z : Int} (hd : tb y pc = some (.iadd, 1)) (k : Go d y (pc + 1) L (aI (a32 (x + z)) :: S) h Q) : Go d y pc L (aI z :: aI x :: S) h Q := Go.st hd rfl rfl rfl rfl k
theorem g_isub {x z : Int} (hd : tb y pc = some (.isub, 1)) (hr : -2147483648 ≤ x - z ∧ x - z ≤ 2147483647) (k : Go d y (pc + 1) L (aI (x - z) :: S) h Q) : Go d y pc L (aI z :: aI x :: S) h Q := Go.st hd rfl rfl rfl (by simp only [stp, s_ii, a32_id hr.1 hr.2]) k
theorem g_isubw {x z : Int} (hd : tb y pc = some (.isub, 1)) (k : Go d y (pc + 1) L (aI (a32 (x - z)) :: S) h Q) : Go d y pc L (aI z :: aI x :: S) h Q := Go.st hd rfl rfl rfl rfl k
theorem g_imul {x z : Int} (hd : tb y pc = some (.imul, 1)) (hr : -2147483648 ≤ x * z ∧ x * z ≤ 2147483647) (k : Go d y (pc + 1) L (aI (x * z) :: S) h Q) : Go d y pc L (aI z :: aI x :: S) h Q := Go.st hd rfl rfl rfl (by simp only [stp, s_ii, a32_id hr.1 hr.2]) k
theorem g_imulw {x z : Int} (hd : tb y pc = some (.imul, 1)) (k : Go d y (pc + 1) L (aI (a32 (x * z)) :: S) h Q) : Go d y pc L (aI z :: aI x :: S) h Q := Go.st hd rfl rfl rfl rfl k
theorem g_iand {x z v : Int} (hd : tb y pc = some (.iand, 1)) (hv : a_and x z = v) (k : Go d y (pc + 1) L (aI v :: S) h Q) : Go d y pc L (aI z :: aI x :: S) h Q := by subst hv; exact Go.st hd rfl rfl rfl rfl k
theorem g_iushr {x z v : Int} (hd : tb y pc = some (.iushr, 1)) (hv : a_ushr x z = v) (k : Go d y (pc + 1) L (aI v :: S) h Q) : Go d y pc L (aI z :: aI x :: S) h Q := by subst hv; exact Go.st hd rfl rfl rfl rfl k
theorem g_idiv {x z v : Int} (hd : tb y pc = some (.idiv, 1)) (hz : ¬ z = 0) (hv : a_div x z = v) (k : Go d y (pc + 1) L (aI v :: S) h Q) : Go d y pc L (aI z :: aI x :: S) h Q := by subst hv; exact Go.st hd rfl rfl rfl (by simp only [stp, s_idv]; exact if_neg hz) k
theorem g_ineg {x : Int} (hd : tb y pc = some (.ineg, 1)) (hr : -2147483648 ≤ -x ∧ -x ≤ 2147483647) (k : Go d y (pc + 1) L (aI (-x) :: S) h Q) : Go d y pc L (aI x :: S) h Q := Go.st hd rfl rfl rfl (by simp only [stp, s_i2i, a32_id hr.1 hr.2]) k
theorem g_i2b {x : Int} (hd : tb y pc = some (.i2b, 1)) (k : Go d y (pc + 1) L (aI (a8 x) :: S) h Q) : Go d y pc L (aI x :: S) h Q := Go.st hd rfl rfl rfl rfl k
theorem g_i2l {x : Int} (hd : tb y pc = some (.i2l, 1)) (k : Go d y (pc + 1) L (aL x :: S) h Q) : Go d y pc L (aI x :: S) h Q := Go.st hd rfl rfl rfl rfl k
theorem g_l2i {x v : Int} (hd : tb y pc = some (.l2i, 1)) (hv : a32 x = v) (k : Go d y (pc + 1) L (aI v :: S) h Q) : Go d y pc L (aL x :: S) h Q := by subst hv; exact Go.st hd rfl rfl rfl rfl k
theorem g_ladd {x z : Int} (hd : tb y pc = some (.ladd, 1)) (hr : -9223372036854775808 ≤ x + z ∧ x + z ≤ 9223372036854775807) (k : Go d y (pc + 1) L (aL (x + z) :: S) h Q) : Go d y pc L (aL z :: aL x :: S) h Q := Go.st hd rfl rfl rfl (by simp only [stp, s_ll, a64_id hr.1 hr.2]) k
theorem g_lsub {x z : Int} (hd : tb y pc = some (.lsub, 1)) (hr : -9223372036854775808 ≤ x - z ∧ x - z ≤ 9223372036854775807) (k : Go d y (pc + 1) L (aL (x - z) :: S) h Q) : Go d y pc L (aL z :: aL x :: S) h Q := Go.st hd rfl rfl rfl (by simp only [stp, s_ll, a64_id hr.1 hr.2]) k
theorem g_lmul {x z : Int} (hd : tb y pc = some (.lmul, 1)) (hr : -9223372036854775808 ≤ x * z ∧ x * z ≤ 9223372036854775807) (k : Go d y (pc + 1) L (aL (x * z) :: S) h Q) : Go d y pc L (aL z :: aL x :: S) h Q := Go.st hd rfl rfl rfl (by simp only [stp, s_ll, a64_id hr.1 hr.2]) k
theorem g_land {x z v : Int} (hd : tb y pc = some (.land, 1)) (hv : a_land x z = v) (k : Go d y (pc + 1) L (aL v :: S) h Q) : Go d y pc L (aL z :: aL x :: S) h Q := by subst hv; exact Go.st hd rfl rfl rfl rfl k
theorem g_lor {x z v : Int} (hd : tb y pc = some (.lor, 1)) (hv : a_lor x z = v) (k : Go d y (pc + 1) L (aL v :: S) h Q) : Go d y pc L (aL z :: aL x :: S) h Q := by subst hv; exact Go.st hd rfl rfl rfl rfl k
theorem g_ldiv {x z v : Int} (hd : tb y pc = some (.ldiv, 1)) (hz : ¬ z = 0) (hv : a_ldiv x z = v) (k : Go d y (pc + 1) L (aL v :: S) h Q) : Go d y pc L (aL z :: aL x :: S) h Q := by subst hv; exact Go.st hd rfl rfl rfl (by simp only [stp, s_ldv]; exact if_neg hz) k
theorem g_lrem {x z v : Int} (hd : tb y pc = some (.lrem, 1)) (hz : ¬ z = 0) (hv : a_lrem x z = v) (k : Go d y (pc + 1) L (aL v :: S) h Q) : Go d y pc L (aL z :: aL x :: S) h Q := by subst hv; exact Go.st hd rfl rfl rfl (by simp only [stp, s_ldv]; exact if_neg hz) k
theorem g_lshl {x z v : Int} (hd : tb y pc = some (.lshl, 1)) (hv : a_lshl x z = v) (k : Go d y (pc + 1) L (aL v :: S) h Q) : Go d y pc L (aI z :: aL x :: S) h Q := by subst hv; exact Go.st hd rfl rfl rfl rfl k
theorem g_lshr {x z v : Int} (hd : tb y pc = some (.lshr, 1)) (hv : a_lshr x z = v) (k : Go d y (pc + 1) L (aL v :: S) h Q) : Go d y pc L (aI z :: aL x :: S) h Q := by subst hv; exact Go.st hd rfl rfl rfl rfl k
theorem g_lushr {x z v : Int} (hd : tb y pc = some (.lushr, 1)) (hv : a_lushr x z = v) (k : Go d y (pc + 1) L (aL v :: S) h Q) : Go d y pc L (aI z :: aL x :: S) h Q := by subst hv; exact Go.st hd rfl rfl rfl rfl k
theorem g_lcmp {x z : Int} (hd : tb y pc = some (.lcmp, 1)) (k : Go d y (pc + 1) L (aI (a_lcmp x z) :: S) h Q) : Go d y pc L (aL z :: aL x :: S) h Q := Go.st hd rfl rfl rfl rfl k
theorem g_dup {v : AV} (hd : tb y pc = some (.dup, 1)) (hv : a_one v = true) (k : Go d y (pc + 1) L (v :: v :: S) h Q) : Go d y pc L (v :: S) h Q := Go.st hd rfl rfl rfl (by simp only [stp, s_dup, hv] <;> rfl) k
theorem g_pop {v : AV} (hd : tb y pc = some (.pop, 1)) (hv : a_one v = true) (k : Go d y (pc + 1) L S h Q) : Go d y pc L (v :: S) h Q := Go.st hd rfl rfl rfl (by simp only [stp, s_pop, hv] <;> rfl) k
theorem g_dup2 {v w : AV} (hd : tb y pc = some (.dup2, 1)) (hv : a_one v = true) (hw : a_one w = true) (k : Go d y (pc + 1) L (v :: w :: v :: w :: S) h Q) : Go d y pc L (v :: w :: S) h Q := Go.st hd rfl rfl rfl (by simp only [stp, s_dup2, hv, hw] <;> rfl) k
theorem g_if {c : Jvm.ClassFile.Cond} {off : Int} {t : Nat} {x : Int} (hd : tb y pc = some (.ifCond c off, 3)) (ht : a_nxt pc off = some t) (k1 : a_cnd c x 0 = true → Go d y t L S h Q) (k2 : a_cnd c x 0 = false → Go d y (pc + 3) L S h Q) : Go d y pc L (aI x :: S) h Q := by
  cases hc : a_cnd c x 0 with
  | true => exact Go.st hd rfl rfl rfl (by simp only [stp, s_if, ht, hc] <;> rfl) (k1 hc)
  | false => exact Go.st hd rfl rfl rfl (by simp only [stp, s_if, ht, hc] <;> rfl) (k2 hc)
theorem g_icmp {c : Jvm.ClassFile.Cond} {off : Int} {t : Nat} {x z : Int} (hd : tb y pc = some (.if_icmp c off, 3)) (ht : a_nxt pc off = some t) (k1 : a_cnd c x z = true → Go d y t L S h Q) (k2 : a_cnd c x z = false → Go d y (pc + 3) L S h Q) : Go d y pc L (aI z :: aI x :: S) h Q := by
  cases hc : a_cnd c x z with
  | true => exact Go.st hd rfl rfl rfl (by simp only [stp, s_icmp, ht, hc] <;> rfl) (k1 hc)
  | false => exact Go.st hd rfl rfl rfl (by simp only [stp, s_icmp, ht, hc] <;> rfl) (k2 hc)
theorem g_ifeq {off : Int} {t : Nat} {x : Int} (hd : tb y pc = some (.ifCond .eq off, 3)) (ht : a_nxt pc off = some t) (k1 : x = 0 → Go d y t L S h Q) (k2 : x ≠ 0 → Go d y (pc + 3) L S h Q) : Go d y pc L (aI x :: S) h Q := g_if hd ht (fun e => k1 (of_decide_eq_true e)) (fun e => k2 (of_decide_eq_false e))
theorem g_ifne {off : Int} {t : Nat} {x : Int} (hd : tb y pc = some (.ifCond .ne off, 3)) (ht : a_nxt pc off = some t) (k1 : x ≠ 0 → Go d y t L S h Q) (k2 : x = 0 → Go d y (pc + 3) L S h Q) : Go d y pc L (aI x :: S) h Q := g_if hd ht (fun e => k1 (of_decide_eq_true e)) (fun e => k2 (Decidable.of_not_not (of_decide_eq_false e)))
theorem g_iflt {off : Int} {t : Nat} {x : Int} (hd : tb y pc = some (.ifCond .lt off, 3)) (ht : a_nxt pc off = some t) (k1 : x < 0 → Go d y t L S h Q) (k2 : 0 ≤ x → Go d y (pc + 3) L S h Q) : Go d y pc L (aI x :: S) h Q := g_if hd ht (fun e => k1 (of_decide_eq_true e)) (fun e => k2 (Int.not_lt.mp (of_decide_eq_false e)))
theorem g_ifge {off : Int} {t : Nat} {x : Int} (hd : tb y pc = some (.ifCond .ge off, 3)) (ht : a_nxt pc off = some t) (k1 : 0 ≤ x → Go d y t L S h Q) (k2 : x < 0 → Go d y (pc + 3) L S h Q) : Go d y pc L (aI x :: S) h Q := g_if hd ht (fun e => k1 (of_decide_eq_true e)) (fun e => k2 (Int.not_le.mp (of_decide_eq_false e)))
theorem g_ifgt {off : Int} {t : Nat} {x : Int} (hd : tb y pc = some (.ifCond .gt off, 3)) (ht : a_nxt pc off = some t) (k1 : 0 < x → Go d y t L S h Q) (k2 : x ≤ 0 → Go d y (pc + 3) L S h Q) : Go d y pc L (aI x :: S) h Q := g_if hd ht (fun e => k1 (of_decide_eq_true e)) (fun e => k2 (Int.not_lt.mp (of_decide_eq_false e)))
theorem g_ifle {off : Int} {t : Nat} {x : Int} (hd : tb y pc = some (.ifCond .le off, 3)) (ht : a_nxt pc off = some t) (k1 : x ≤ 0 → Go d y t L S h Q) (k2 : 0 < x → Go d y (pc + 3) L S h Q) : Go d y pc L (aI x :: S) h Q := g_if hd ht (fun e => k1 (of_decide_eq_true e)) (fun e => k2 (Int.not_le.mp (of_decide_eq_false e)))
theorem g_icmpeq {off : Int} {t : Nat} {x z : Int} (hd : tb y pc = some (.if_icmp .eq off, 3)) (ht : a_nxt pc off = some t) (k1 : x = z → Go d y t L S h Q) (k2 : x ≠ z → Go d y (pc + 3) L S h Q) : Go d y pc L (aI z :: aI x :: S) h Q := g_icmp hd ht (fun e => k1 (of_decide_eq_true e)) (fun e => k2 (of_decide_eq_false e))
theorem g_icmpne {off : Int} {t : Nat} {x z : Int} (hd : tb y pc = some (.if_icmp .ne off, 3)) (ht : a_nxt pc off = some t) (k1 : x ≠ z → Go d y t L S h Q) (k2 : x = z → Go d y (pc + 3) L S h Q) : Go d y pc L (aI z :: aI x :: S) h Q := g_icmp hd ht (fun e => k1 (of_decide_eq_true e)) (fun e => k2 (Decidable.of_not_not (of_decide_eq_false e)))
theorem g_icmplt {off : Int} {t : Nat} {x z : Int} (hd : tb y pc = some (.if_icmp .lt off, 3)) (ht : a_nxt pc off = some t) (k1 : x < z → Go d y t L S h Q) (k2 : z ≤ x → Go d y (pc + 3) L S h Q) : Go d y pc L (aI z :: aI x :: S) h Q := g_icmp hd ht (fun e => k1 (of_decide_eq_true e)) (fun e => k2 (Int.not_lt.mp (of_decide_eq_false e)))
theorem g_icmpge {off : Int} {t : Nat} {x z : Int} (hd : tb y pc = some (.if_icmp .ge off, 3)) (ht : a_nxt pc off = some t) (k1 : z ≤ x → Go d y t L S h Q) (k2 : x < z → Go d y (pc + 3) L S h Q) : Go d y pc L (aI z :: aI x :: S) h Q := g_icmp hd ht (fun e => k1 (of_decide_eq_true e)) (fun e => k2 (Int.not_le.mp (of_decide_eq_false e)))
theorem g_icmpgt {off : Int} {t : Nat} {x z : Int} (hd : tb y pc = some (.if_icmp .gt off, 3)) (ht : a_nxt pc off = some t) (k1 : z < x → Go d y t L S h Q) (k2 : x ≤ z → Go d y (pc + 3) L S h Q) : Go d y pc L (aI z :: aI x :: S) h Q := g_icmp hd ht (fun e => k1 (of_decide_eq_true e)) (fun e => k2 (Int.not_lt.mp (of_decide_eq_false e)))
theorem g_icmple {off : Int} {t : Nat} {x z : Int} (hd : tb y pc = some (.if_icmp .le off, 3)) (ht : a_nxt pc off = some t) (k1 : x ≤ z → Go d y t L S h Q) (k2 : z < x → Go d y (pc + 3) L S h Q) : Go d y pc L (aI z :: aI x :: S) h Q := g_icmp hd ht (fun e => k1 (of_decide_eq_true e)) (fun e => k2 (Int.not_le.mp (of_decide_eq_false e)))
theorem g_goto {off : Int} {t : Nat} (hd : tb y pc = some (.goto off, 3)) (ht : a_nxt pc off = some t) (k : Go d y t L S h Q) : Go d y pc L S h Q := Go.st hd rfl rfl rfl (by simp only [stp, s_goto, ht] <;> rfl) k
theorem g_tabOut {dflt lo hi : Int} {offs : Array Int} {len t : Nat} {x : Int} (hd : tb y pc = some (.tableswitch dflt lo hi offs, len)) (hx : x < lo ∨ hi < x) (ht : a_nxt pc dflt = some t) (k : Go d y t L S h Q) : Go d y pc L (aI x :: S) h Q := Go.st hd rfl rfl rfl (by simp only [stp, s_tab]; rw [if_pos hx, ht] <;> rfl) k
theorem g_tabIn {dflt lo hi off : Int} {offs : Array Int} {len t : Nat} {x : Int} (hd : tb y pc = some (.tableswitch dflt lo hi offs, len)) (hx : ¬ (x < lo ∨ hi < x)) (ho : offs[(x - lo).toNat]? = some off) (ht : a_nxt pc off = some t) (k : Go d y t L S h Q) : Go d y pc L (aI x :: S) h Q := Go.st hd rfl rfl rfl (by simp only [stp, s_tab]; rw [if_neg hx]; simp only [ho, ht] <;> rfl) k
theorem g_get {x a ci kk : Nat} {tg : Nat × Bool} {fs : List AV} {v : Int ⊕ (Int ⊕ Option Nat)} (hd : tb y pc = some (.getfield x, 3)) (hf : tF y.2.1 x = some (ci, kk, tg)) (hc : h.1 a = some (eO ci fs)) (hb : h.2.2.2.1 ≤ a) (hv : fs[kk]? = some (some v)) (k : Go d y (pc + 3) L (some v :: S) h Q) : Go d y pc L (aR a :: S) h Q := Go.st hd rfl rfl rfl (by simp only [stp, s_get, hf, hc]; rw [if_pos ⟨by trivial, hb⟩]; simp only [hv]) k
theorem g_put {x a ci kk tag : Nat} {fn : Bool} {fs fs' : List AV} {v : AV} (hd : tb y pc = some (.putfield x, 3)) (hf : tF y.2.1 x = some (ci, kk, tag, fn)) (hc : h.1 a = some (eO ci fs)) (hb : h.2.2.2.1 ≤ a) (hl : kk < fs.length) (ht : a_fit tag v = true) (hn : fn = true → y.2.2.2.2.2 = true ∧ y.2.1 = ci) (he : fs.set kk v = fs') (k : Go d y (pc + 3) L S (hput h a (eO ci fs')) Q) : Go d y pc L (v :: aR a :: S) h Q := by
  subst he
  exact Go.st hd rfl rfl rfl (by simp only [stp, s_put, hf, hc]; rw [if_pos ⟨by trivial, hb, hl, ht, hn⟩]) k
theorem g_gets {x : Nat} (hd : tb y pc = some (.getstatic x, 3)) (hs : tS y.2.1 x = true) (k : Go d y (pc + 3) L (aR h.2.2.2.2 :: S) h Q) : Go d y pc L S h Q := Go.st hd rfl rfl rfl (by simp only [stp]; exact if_pos hs) k
theorem g_new {x ci : Nat} (hd : tb y pc = some (.new x, 3)) (hx : tX y.1 pc = none) (hc : tC y.2.1 x = some ci) (k : Go d y (pc + 3) L (aR h.2.1 :: S) (hnew h (eO ci (tD ci)) (tD ci).length) Q) : Go d y pc L S h Q := Go.st hd (by simp only [fin, hx] <;> rfl) rfl rfl (by simp only [stp, s_new, hc]) k
theorem g_newa {t : Jvm.ClassFile.ArrayType} {kd : Nat} {n : Int} (hd : tb y pc = some (.newarray t, 2)) (ht : a_at t = some kd) (hn : 0 ≤ n ∧ n ≤ 1000000) (k : Go d y (pc + 2) L (aR h.2.1 :: S) (hnew h (eA kd n.toNat (fun _ => 0)) n.toNat) Q) : Go d y pc L (aI n :: S) h Q := Go.st hd rfl rfl rfl (by simp only [stp, s_newa, ht]; exact if_pos hn) k
theorem g_newq {x : Nat} {n : Int} (hd : tb y pc = some (.anewarray x, 3)) (hc : tC y.2.1 x = some 0) (hn : 0 ≤ n ∧ n ≤ 1000000) (k : Go d y (pc + 3) L (aR h.2.1 :: S) (hnew h (eQ 3 n.toNat (fun _ => none)) n.toNat) Q) : Go d y pc L (aI n :: S) h Q := Go.st hd rfl rfl rfl (by simp only [stp, s_newq, hc]; exact if_pos ⟨by trivial, hn⟩) k
theorem g_iald {a n : Nat} {i : Int} {f : Nat → Int} (hd : tb y pc = some (.iaload, 1)) (hc : h.1 a = some (eA 0 n f)) (hi : 0 ≤ i ∧ i < n) (k : Go d y (pc + 1) L (aI (f i.toNat) :: S) h Q) : Go d y pc L (aI i :: aR a :: S) h Q := Go.st hd rfl rfl rfl (by simp only [stp, s_ild, hc]; exact if_pos ⟨by trivial, hi⟩) k
theorem g_bald {a n : Nat} {i : Int} {f : Nat → Int} (hd : tb y pc = some (.baload, 1)) (hc : h.1 a = some (eA 1 n f)) (hi : 0 ≤ i ∧ i < n) (k : Go d y (pc + 1) L (aI (f i.toNat) :: S) h Q) : Go d y pc L (aI i :: aR a :: S) h Q := Go.st hd rfl rfl rfl (by simp only [stp, s_ild, hc]; exact if_pos ⟨by trivial, hi⟩) k
theorem g_lald {a n : Nat} {i : Int} {f : Nat → Int} (hd : tb y pc = some (.laload, 1)) (hc : h.1 a = some (eA 2 n f)) (hi : 0 ≤ i ∧ i < n) (k : Go d y (pc + 1) L (aL (f i.toNat) :: S) h Q) : Go d y pc L (aI i :: aR a :: S) h Q := Go.st hd rfl rfl rfl (by simp only [stp, s_ild, hc]; exact if_pos ⟨by trivial, hi⟩) k
theorem g_aald {a n kd b : Nat} {i : Int} {f : Nat → Option Nat} (hd : tb y pc = some (.aaload, 1)) (hc : h.1 a = some (eQ kd n f)) (hk : 3 ≤ kd) (hb : h.2.2.2.1 ≤ a) (hi : 0 ≤ i ∧ i < n) (hv : f i.toNat = some b) (k : Go d y (pc + 1) L (aR b :: S) h Q) : Go d y pc L (aI i :: aR a :: S) h Q := Go.st hd rfl rfl rfl (by simp only [stp, s_qld, hc]; rw [if_pos ⟨hk, hb, hi⟩]; simp only [hv]) k
theorem g_iast {a n : Nat} {i x : Int} {f : Nat → Int} (hd : tb y pc = some (.iastore, 1)) (hc : h.1 a = some (eA 0 n f)) (hb : h.2.2.2.1 ≤ a) (hi : 0 ≤ i ∧ i < n) (k : Go d y (pc + 1) L S (hput h a (eA 0 n (va_up f i.toNat x))) Q) : Go d y pc L (aI x :: aI i :: aR a :: S) h Q := Go.st hd rfl rfl rfl (by simp only [stp, s_ist, hc]; exact if_pos ⟨by trivial, hb, hi⟩) k
theorem g_bast {a n : Nat} {i x : Int} {f : Nat → Int} (hd : tb y pc = some (.bastore, 1)) (hc : h.1 a = some (eA 1 n f)) (hb : h.2.2.2.1 ≤ a) (hi : 0 ≤ i ∧ i < n) (k : Go d y (pc + 1) L S (hput h a (eA 1 n (va_up f i.toNat (a8 x)))) Q) : Go d y pc L (aI x :: aI i :: aR a :: S) h Q := Go.st hd rfl rfl rfl (by simp only [stp, s_ist, hc]; exact if_pos ⟨by trivial, hb, hi⟩) k
theorem g_last {a n : Nat} {i x : Int} {f : Nat → Int} (hd : tb y pc = some (.lastore, 1)) (hc : h.1 a = some (eA 2 n f)) (hb : h.2.2.2.1 ≤ a) (hi : 0 ≤ i ∧ i < n) (k : Go d y (pc + 1) L S (hput h a (eA 2 n (va_up f i.toNat x))) Q) : Go d y pc L (aL x :: aI i :: aR a :: S) h Q := Go.st hd rfl rfl rfl (by simp only [stp, s_lst, hc]; exact if_pos ⟨by trivial, hb, hi⟩) k
theorem g_aast {a n b ci kd : Nat} {i : Int} {f : Nat → Option Nat} {fs : List AV} (hd : tb y pc = some (.aastore, 1)) (hc : h.1 a = some (eQ kd n f)) (hx : h.1 b = some (eO ci fs)) (hk : kd = 3 + ci) (hb : h.2.2.2.1 ≤ a) (hb2 : h.2.2.2.1 ≤ b) (hi : 0 ≤ i ∧ i < n) (k : Go d y (pc + 1) L S (hput h a (eQ kd n (va_up f i.toNat (some b)))) Q) : Go d y pc L (aR b :: aI i :: aR a :: S) h Q := Go.st hd rfl rfl rfl (by simp only [stp, s_qst, hc, hx]; exact if_pos ⟨hk, hb, hb2, hi⟩) k
theorem g_alen {a kd n : Nat} {f : (Nat → Int) ⊕ (Nat → Option Nat)} (hd : tb y pc = some (.arraylength, 1)) (hc : h.1 a = some (.inr (kd, n, f))) (hn : n < 2147483648) (k : Go d y (pc + 1) L (aI n :: S) h Q) : Go d y pc L (aR a :: S) h Q := Go.st hd rfl rfl rfl (by simp only [stp, s_len, hc]; exact if_pos hn) k
theorem g_ireturn {x : Int} (hd : tb y pc = some (.ireturn, 1)) (hr : y.2.2.2.2.1 = some .int) (q : Q (.inl (some (aI x))) h) : Go d y pc L [aI x] h Q := Go.end (r := (.inl (some (aI x)), h)) hd (by simp only [fin]; exact if_pos (Or.inl hr)) q
theorem g_zreturn {x : Int} (hd : tb y pc = some (.ireturn, 1)) (hr : y.2.2.2.2.1 = some .boolean) (hx : x = 0 ∨ x = 1) (q : Q (.inl (some (aI x))) h) : Go d y pc L [aI x] h Q := Go.end (r := (.inl (some (aI x)), h)) hd (by simp only [fin]; exact if_pos (Or.inr ⟨hr, hx⟩)) q
theorem g_lreturn {x : Int} (hd : tb y pc = some (.lreturn, 1)) (hr : y.2.2.2.2.1 = some .long) (q : Q (.inl (some (aL x))) h) : Go d y pc L [aL x] h Q := Go.end (r := (.inl (some (aL x)), h)) hd (by simp only [fin]; exact if_pos hr) q
theorem g_areturn {x : Nat} (hd : tb y pc = some (.areturn, 1)) (hr : tQ y.2.2.2.2.1 = true) (q : Q (.inl (some (aR x))) h) : Go d y pc L [aR x] h Q := Go.end (r := (.inl (some (aR x)), h)) hd (by simp only [fin]; exact if_pos hr) q
theorem g_return (hd : tb y pc = some (.return_, 1)) (hr : y.2.2.2.2.1 = none) (q : Q (.inl none) h) : Go d y pc L [] h Q := Go.end (r := (.inl none, h)) hd (by simp only [fin]; exact if_pos hr) q
theorem g_throw {x kd : Nat} (hd : tb y pc = some (.new x, 3)) (hx : tX y.1 pc = some kd) (h6 : 5 ≤ d) (hw : a_wt S ≤ 7) (q : Q (.inr (kd, h.2.1)) (hthr h)) : Go d y pc L S h Q := Go.end (r := (.inr (kd, h.2.1), hthr h)) hd (by simp only [fin, hx]; rw [if_pos ⟨h6, hw⟩] <;> rfl) q
theorem g_callV {x n a : Nat} {e : Nat} {z : AY} {A rest fs : List AV} (hd : tb y pc = some (.invokevirtual x, 3)) (hm : tM y.2.1 x = some (0, n, z)) (h1 : S.take n = A) (h2 : S.drop n = aR a :: rest) (hc : h.1 a = some (eO z.2.1 fs)) (hb : h.2.2.2.1 ≤ a) (hA : A.length = n ∧ a_wt rest ≤ 8 ∧ (a_spr (aR a :: A.reverse)).length ≤ z.2.2.2.1 ∧ A.all Option.isSome = true) (hl : lv z = e) (he : e ≤ d) (k : Cal (d - e) z (aR a :: A.reverse) h (aftQ d y pc L rest Q)) : Go d y pc L S h Q := by
  subst h1
  exact Go.call hd rfl (by simp only [cal, hm, h2, hc]; rw [if_pos ⟨by trivial, hb, hA⟩]) hl he k
theorem g_callI {x n a : Nat} {e : Nat} {z : AY} {A rest : List AV} (hd : tb y pc = some (.invokespecial x, 3)) (hm : tM y.2.1 x = some (1, n, z)) (h1 : S.take n = A) (h2 : S.drop n = aR a :: rest) (hA : A.length = n ∧ a_wt rest ≤ 8 ∧ (a_spr (aR a :: A.reverse)).length ≤ z.2.2.2.1 ∧ A.all Option.isSome = true) (hl : lv z = e) (he : e ≤ d) (k : Cal (d - e) z (aR a :: A.reverse) h (aftQ d y pc L rest Q)) : Go d y pc L S h Q := by
  subst h1
  exact Go.call hd rfl (by simp only [cal, hm, h2]; rw [if_pos hA]) hl he k
theorem g_callS {x n : Nat} {e : Nat} {z : AY} {A rest : List AV} (hd : tb y pc = some (.invokestatic x, 3)) (hm : tM y.2.1 x = some (2, n, z)) (h1 : S.take n = A) (h2 : S.drop n = rest) (hA : A.length = n ∧ a_wt rest ≤ 8 ∧ (a_spr A.reverse).length ≤ z.2.2.2.1 ∧ A.all Option.isSome = true) (hl : lv z = e) (he : e ≤ d) (k : Cal (d - e) z A.reverse h (aftQ d y pc L rest Q)) : Go d y pc L S h Q := by
  subst h1; subst h2
  exact Go.call hd rfl (by simp only [cal, hm]; rw [if_pos hA]) hl he k
theorem g_obj {x a : Nat} (hd : tb y pc = some (.invokespecial x, 3)) (hm : tM y.2.1 x = none) (hb : tB y.2.1 x = some 0) (hw : a_wt S ≤ 8) (k : Go d y (pc + 3) L S h Q) : Go d y pc L (aR a :: S) h Q := Go.bl hd rfl (by simp only [cal, hm]) (by simp only [blt, hb]; exact if_pos hw) k
theorem g_max {x : Nat} {u v : Int} (hd : tb y pc = some (.invokestatic x, 3)) (hm : tM y.2.1 x = none) (hb : tB y.2.1 x = some 1) (hw : a_wt S ≤ 8) (k : Go d y (pc + 3) L (aI (if u ≤ v then v else u) :: S) h Q) : Go d y pc L (aI v :: aI u :: S) h Q := Go.bl hd rfl (by simp only [cal, hm]) (by simp only [blt, hb]; exact if_pos hw) k
theorem g_min {x : Nat} {u v : Int} (hd : tb y pc = some (.invokestatic x, 3)) (hm : tM y.2.1 x = none) (hb : tB y.2.1 x = some 2) (hw : a_wt S ≤ 8) (k : Go d y (pc + 3) L (aI (if u ≤ v then u else v) :: S) h Q) : Go d y pc L (aI v :: aI u :: S) h Q := Go.bl hd rfl (by simp only [cal, hm]) (by simp only [blt, hb]; exact if_pos hw) k
theorem g_copy {x a b n0 n1 : Nat} {sp dp n : Int} {f g : Nat → Int} (hd : tb y pc = some (.invokestatic x, 3)) (hm : tM y.2.1 x = none) (hb : tB y.2.1 x = some 3) (ha : h.1 a = some (eA 1 n0 f)) (hb1 : h.1 b = some (eA 1 n1 g)) (hg : a_wt S ≤ 8 ∧ h.2.2.2.1 ≤ a ∧ h.2.2.2.1 ≤ b ∧ a ≠ b ∧ 0 ≤ sp ∧ 0 ≤ dp ∧ 0 ≤ n ∧ sp + n ≤ n0 ∧ dp + n ≤ n1) (k : Go d y (pc + 3) L S (hput h b (eA 1 n1 (va_cpy f g sp.toNat dp.toNat n.toNat))) Q) : Go d y pc L (aI n :: aI dp :: aR b :: aI sp :: aR a :: S) h Q := Go.bl hd rfl (by simp only [cal, hm]) (by simp only [blt, hb, ha, hb1]; rw [if_pos hg]) k
end GoRules
end
section
/-! From AM to the true machine, 1: values, variables, stacks. -/
def okv (v : AV) : Prop := match v with
  | some (.inl x) => r32 x
  | some (.inr (.inl x)) => r64 x
  | _ => True
theorem r32_of (v : Int32) : r32 v.toInt := ⟨v.le_toInt, by have := v.toInt_lt; omega⟩
theorem r64_of (v : Int64) : r64 v.toInt := ⟨v.le_toInt, by have := v.toInt_lt; omega⟩
theorem r8_of (v : Int8) : r8 v.toInt := ⟨v.le_toInt, by have := v.toInt_lt; omega⟩
theorem r32_a (x : Int) : r32 (a32 x) := r32_of _
theorem r64_a (x : Int) : r64 (a64 x) := r64_of _
theorem r8_a (x : Int) : r8 (a8 x) := r8_of _
theorem r8.r32 {x : Int} (h : r8 x) : r32 x := ⟨by have := h.1; omega, by have := h.2; omega⟩
theorem toI {x : Int} (h : r32 x) : (Int32.ofInt x).toInt = x := Int32.toInt_ofInt_of_le h.1 (by have := h.2; omega)
theorem toL {x : Int} (h : r64 x) : (Int64.ofInt x).toInt = x := Int64.toInt_ofInt_of_le h.1 (by have := h.2; omega)
theorem o32 (x : Int) : Int32.ofInt (a32 x) = Int32.ofInt x := by unfold a32; exact Int32.ofInt_toInt _
theorem o64 (x : Int) : Int64.ofInt (a64 x) = Int64.ofInt x := by unfold a64; exact Int64.ofInt_toInt _
theorem o8 (x : Int) : Int32.ofInt (a8 x) = (Int32.ofInt x).toInt8.toInt32 := by
  unfold a8
  rw [Int32.toInt8_ofInt]
  exact Int32.ofInt_int8ToInt _
theorem lt32 {x y : Int} (hx : r32 x) (hy : r32 y) : Int32.ofInt x < Int32.ofInt y ↔ x < y := by rw [Int32.lt_iff_toInt_lt, toI hx, toI hy]
theorem le32 {x y : Int} (hx : r32 x) (hy : r32 y) : Int32.ofInt x ≤ Int32.ofInt y ↔ x ≤ y := by rw [Int32.le_iff_toInt_le, toI hx, toI hy]
theorem eq32 {x y : Int} (hx : r32 x) (hy : r32 y) : Int32.ofInt x = Int32.ofInt y ↔ x = y := by rw [← Int32.toInt_inj, toI hx, toI hy]
theorem lt64 {x y : Int} (hx : r64 x) (hy : r64 y) : Int64.ofInt x < Int64.ofInt y ↔ x < y := by rw [Int64.lt_iff_toInt_lt, toL hx, toL hy]
theorem eq64 {x y : Int} (hx : r64 x) (hy : r64 y) : Int64.ofInt x = Int64.ofInt y ↔ x = y := by rw [← Int64.toInt_inj, toL hx, toL hy]
theorem r0 : r32 0 := ⟨by decide, by decide⟩
theorem l0 : r64 0 := ⟨by decide, by decide⟩
theorem of0 : Int32.ofInt 0 = 0 := rfl
theorem lof0 : Int64.ofInt 0 = 0 := rfl
theorem clN {x : Int} (hx : r32 x) (h : 0 ≤ x) : (Int32.ofInt x).toNatClampNeg = x.toNat := by
  show (Int32.ofInt x).toInt.toNat = x.toNat
  rw [toI hx]
theorem inN {x : Int} {n : Nat} (hx : r32 x) (h : 0 ≤ x ∧ x < n) : vp_in (Int32.ofInt x) n := by
  rw [vp_in_iff, toI hx]
  exact h
/-- the variables that hold something, by their places -/
def prs : Nat → List AV → List (Nat × Value)
  | _, [] => []
  | i, none :: L => prs (i + 1) L
  | i, some v :: L => (i, cv (some v)) :: prs (i + 1) L
theorem mem_prs {q : Nat × Value} : ∀ {L : List AV} {i : Nat}, q ∈ prs i L ↔ ∃ j v, L[j]? = some (some v) ∧ q = (i + j, cv (some v)) := by
  intro L
  induction L with
  | nil => intro i; simp [prs]
  | cons x L ih =>
    intro i
    cases x with
    | none =>
      rw [show prs i (none :: L) = prs (i + 1) L from rfl, ih]
      constructor
      · rintro ⟨j, v, h1, h2⟩
        exact ⟨j + 1, v, by simpa using h1, by rw [h2]; congr 1; omega⟩
      · rintro ⟨j, v, h1, h2⟩
        cases j with
        | zero => simp at h1
        | succ j => exact ⟨j, v, by simpa using h1, by rw [h2]; congr 1; omega⟩
    | some x =>
      rw [show prs i (some x :: L) = (i, cv (some x)) :: prs (i + 1) L from rfl, List.mem_cons, ih]
      constructor
      · rintro (h | ⟨j, v, h1, h2⟩)
        · exact ⟨0, x, rfl, h⟩
        · exact ⟨j + 1, v, by simpa using h1, by rw [h2]; congr 1; omega⟩
      · rintro ⟨j, v, h1, h2⟩
        cases j with
        | zero =>
          left
          simp at h1
          rw [h2, h1]; rfl
        | succ j => exact Or.inr ⟨j, v, by simpa using h1, by rw [h2]; congr 1; omega⟩
theorem lv_mono {ls : Array Slot} {n : Nat} {l l' : List (Nat × Value)} (h : lv_has ls n l) (hs : ∀ q ∈ l', q ∈ l) : lv_has ls n l' := ⟨h.1, h.2.1, fun q hq => h.2.2 q (hs q hq)⟩
def LR (ls : Array Slot) (L : List AV) : Prop := lv_has ls L.length (prs 0 L) ∧ ∀ v ∈ L, okv v
theorem getD_some {L : List AV} {k : Nat} {v : Int ⊕ (Int ⊕ Option Nat)} (h : L.getD k none = some v) : L[k]? = some (some v) := by
  rw [List.getD_eq_getElem?_getD] at h
  cases hk : L[k]? with
  | none => rw [hk] at h; simp at h
  | some w => rw [hk] at h; simp at h; rw [h]
theorem LR.get {ls : Array Slot} {L : List AV} (h : LR ls L) {k : Nat} {v : Int ⊕ (Int ⊕ Option Nat)} (hk : L.getD k none = some v) : ls[k]? = some (.val (cv (some v))) ∧ okv (some v) := by
  have h1 := getD_some hk
  refine ⟨h.1.2.2 (k, cv (some v)) (mem_prs.mpr ⟨k, v, h1, by simp⟩), h.2 _ (List.mem_of_getElem? h1)⟩
theorem a_kill_len (L : List AV) (i : Nat) : (a_kill L i).length = L.length := by
  cases i with
  | zero => rfl
  | succ j =>
    simp only [a_kill]
    split <;> simp
theorem a_kill_get {L : List AV} {i j : Nat} {v : Int ⊕ (Int ⊕ Option Nat)} (h : (a_kill L i)[j]? = some (some v)) : L[j]? = some (some v) ∧ ¬ (j + 1 = i ∧ (cv (some v)).category = 2) := by
  cases i with
  | zero => exact ⟨h, by omega⟩
  | succ k =>
    simp only [a_kill] at h
    split at h
    · rename_i x hx
      rw [List.getElem?_set] at h
      split at h
      · split at h <;> simp at h
      · rename_i hne
        exact ⟨h, by omega⟩
    · rename_i hx
      refine ⟨h, ?_⟩
      rintro ⟨h1, h2⟩
      have h3 : k = j := by omega
      subst h3
      rcases v with x | x | x
      · simp [cv, Value.category] at h2
      · exact hx x (by rw [List.getD_eq_getElem?_getD, h]; rfl)
      · cases x <;> simp [cv, Value.category] at h2
theorem a_kill_ok {L : List AV} {i : Nat} (h : ∀ v ∈ L, okv v) : ∀ v ∈ a_kill L i, okv v := by
  cases i with
  | zero => exact h
  | succ k =>
    simp only [a_kill]
    split
    · intro v hv
      rcases List.mem_or_eq_of_mem_set hv with h1 | h1
      · exact h v h1
      · subst h1; trivial
    · exact h
theorem LR.st1 {ls ls' : Array Slot} {L L' : List AV} {i : Nat} {v : Int ⊕ (Int ⊕ Option Nat)} (h : LR ls L) (ho : okv (some v)) (hs : a_st1 L i (some v) = some L')
    (hl : lv_has ls' L.length ((i, cv (some v)) :: (prs 0 L).filter (fun q => !(q.1 == i) && !(q.1 + 1 == i && q.2.category == 2)))) : LR ls' L' := by
  unfold a_st1 at hs
  split at hs
  · rename_i hi
    cases hs
    refine ⟨?_, ?_⟩
    · rw [List.length_set, a_kill_len]
      refine lv_mono hl ?_
      intro q hq
      obtain ⟨j, w, h1, h2⟩ := mem_prs.mp hq
      rw [List.getElem?_set] at h1
      split at h1
      · rename_i hij
        rw [a_kill_len, if_pos hi] at h1
        cases h1
        rw [h2, ← hij]
        simp
      · rename_i hij
        obtain ⟨h3, h4⟩ := a_kill_get h1
        refine List.mem_cons_of_mem _ (List.mem_filter.mpr ⟨mem_prs.mpr ⟨j, w, h3, h2⟩, ?_⟩)
        rw [h2]
        have h5 : ¬ (0 + j = i) := by omega
        have h6 : ¬ (0 + j + 1 = i ∧ (cv (some w)).category = 2) := by rintro ⟨a, b⟩; exact h4 ⟨by omega, b⟩
        simp only [Bool.and_eq_true, Bool.not_eq_true', beq_eq_false_iff_ne, ne_eq, Bool.and_eq_false_iff]
        refine ⟨h5, ?_⟩
        by_cases h7 : 0 + j + 1 = i
        · exact Or.inr (fun h8 => h6 ⟨h7, h8⟩)
        · exact Or.inl h7
    · intro w hw
      rcases List.mem_or_eq_of_mem_set hw with h1 | h1
      · exact a_kill_ok h.2 w h1
      · subst h1; exact ho
  · cases hs
theorem LR.st2 {ls ls' : Array Slot} {L L' : List AV} {i : Nat} {v : Int ⊕ (Int ⊕ Option Nat)} (h : LR ls L) (ho : okv (some v)) (hs : a_st2 L i (some v) = some L')
    (hl : lv_has ls' L.length ((i, cv (some v)) :: (prs 0 L).filter (fun q => !(q.1 == i) && (!(q.1 == i + 1) && !(q.1 + 1 == i && q.2.category == 2))))) : LR ls' L' := by
  unfold a_st2 at hs
  split at hs
  · rename_i hi
    cases hs
    refine ⟨?_, ?_⟩
    · rw [List.length_set, List.length_set, a_kill_len]
      refine lv_mono hl ?_
      intro q hq
      obtain ⟨j, w, h1, h2⟩ := mem_prs.mp hq
      rw [List.getElem?_set] at h1
      split at h1
      · split at h1 <;> simp at h1
      · rename_i hij1
        rw [List.getElem?_set] at h1
        split at h1
        · rename_i hij
          rw [a_kill_len, if_pos (by omega)] at h1
          cases h1
          rw [h2, ← hij]
          simp
        · rename_i hij
          obtain ⟨h3, h4⟩ := a_kill_get h1
          refine List.mem_cons_of_mem _ (List.mem_filter.mpr ⟨mem_prs.mpr ⟨j, w, h3, h2⟩, ?_⟩)
          rw [h2]
          have h5 : ¬ (0 + j = i) := by omega
          have h55 : ¬ (0 + j = i + 1) := by omega
          have h6 : ¬ (0 + j + 1 = i ∧ (cv (some w)).category = 2) := by rintro ⟨a, b⟩; exact h4 ⟨by omega, b⟩
          simp only [Bool.and_eq_true, Bool.not_eq_true', beq_eq_false_iff_ne, ne_eq, Bool.and_eq_false_iff]
          refine ⟨h5, h55, ?_⟩
          by_cases h7 : 0 + j + 1 = i
          · exact Or.inr (fun h8 => h6 ⟨h7, h8⟩)
          · exact Or.inl h7
    · intro w hw
      rcases List.mem_or_eq_of_mem_set hw with h1 | h1
      · rcases List.mem_or_eq_of_mem_set h1 with h1 | h1
        · exact a_kill_ok h.2 w h1
        · subst h1; exact ho
      · subst h1; trivial
  · cases hs
/-- a stack whose entries are all values in range -/
def SK (S : List AV) : Prop := ∀ v ∈ S, okv v ∧ v.isSome = true
theorem SK.tail {v : AV} {S : List AV} (h : SK (v :: S)) : SK S := fun w hw => h w (List.mem_cons_of_mem _ hw)
theorem SK.head {v : AV} {S : List AV} (h : SK (v :: S)) : okv v := (h v List.mem_cons_self).1
theorem SK.cons {v : Int ⊕ (Int ⊕ Option Nat)} {S : List AV} (h : SK S) (hv : okv (some v)) : SK (some v :: S) := by
  intro w hw
  rcases List.mem_cons.mp hw with h1 | h1
  · subst h1; exact ⟨hv, rfl⟩
  · exact h w h1
theorem cat_cv {v : AV} (h : v.isSome = true) : (cv v).category = a_cat v := by
  rcases v with _ | x | x | _ | x <;> first | rfl | cases h
theorem wt_cv {S : List AV} (h : SK S) : ((S.map cv).map fun v => v.category).sum = a_wt S := by
  unfold a_wt
  induction S with
  | nil => rfl
  | cons v S ih =>
    simp only [List.map_cons, List.sum_cons]
    rw [ih h.tail, cat_cv (h v List.mem_cons_self).2]
/-- a method's first variables -/
theorem LR.entry {z : AY} {As : List AV} (h : SK As) (hl : (a_spr As).length ≤ z.2.2.2.1) : (lg_sl (As.map cv)).length = (a_spr As).length ∧ LR ((lg_sl (As.map cv) ++ List.replicate (z.2.2.2.1 - (lg_sl (As.map cv)).length) Slot.unset).toArray) (ent z As) := by
  have e1 : ∀ Bs : List AV, SK Bs → (lg_sl (Bs.map cv)).length = (a_spr Bs).length := by
    intro Bs
    induction Bs with
    | nil => intro _; rfl
    | cons v Bs ih =>
      intro hB
      have h1 := ih hB.tail
      have h2 := (hB v List.mem_cons_self).2
      rcases v with _ | x | x | _ | x <;> first | (cases h2; done) | (simp [lg_sl, a_spr, cv, Value.category] at h1 ⊢; omega)
  have e2 : ∀ (Bs : List AV) (i : Nat), SK Bs → ∀ q ∈ prs i (a_spr Bs), q ∈ lv_args i (Bs.map cv) := by
    intro Bs
    induction Bs with
    | nil => intro i _ q hq; cases hq
    | cons v Bs ih =>
      intro i hB q hq
      have h2 := (hB v List.mem_cons_self).2
      rcases v with _ | x | x | x
      · cases h2
      · rcases List.mem_cons.mp (show q ∈ (i, cv (aI x)) :: prs (i + 1) (a_spr Bs) from hq) with h3 | h3
        · rw [h3]; exact List.mem_cons_self
        · exact List.mem_cons_of_mem _ (ih (i + 1) hB.tail q h3)
      · rcases List.mem_cons.mp (show q ∈ (i, cv (aL x)) :: prs (i + 1 + 1) (a_spr Bs) from hq) with h3 | h3
        · rw [h3]; exact List.mem_cons_self
        · exact List.mem_cons_of_mem _ (ih (i + 2) hB.tail q h3)
      · rcases List.mem_cons.mp (show q ∈ (i, cv (some (.inr (.inr x)))) :: prs (i + 1) (a_spr Bs) from hq) with h3 | h3
        · rw [h3]; exact List.mem_cons_self
        · have h4 := ih (i + 1) hB.tail q h3
          cases x <;> exact List.mem_cons_of_mem _ h4
  refine ⟨e1 As h, ?_, ?_⟩
  · have e3 : (ent z As).length = z.2.2.2.1 := by
      simp only [ent, List.length_append, List.length_replicate]
      omega
    rw [e3]
    refine lv_mono (lv_entry (As.map cv) (by rw [e1 As h]; exact hl)) ?_
    intro q hq
    refine e2 As 0 h q ?_
    obtain ⟨j, w, h1, h2⟩ := mem_prs.mp hq
    refine mem_prs.mpr ⟨j, w, ?_, h2⟩
    unfold ent at h1
    rw [List.getElem?_append] at h1
    split at h1
    · exact h1
    · rw [List.getElem?_replicate] at h1
      split at h1 <;> simp at h1
  · intro v hv
    rcases List.mem_append.mp hv with h1 | h1
    · obtain ⟨w, hw, hq⟩ := List.mem_flatMap.mp h1
      have h3 := h w hw
      rcases w with _ | x | x | x
      · cases h3.2
      · simp at hq; subst hq; exact h3.1
      · simp at hq
        rcases hq with rfl | rfl
        · exact h3.1
        · trivial
      · simp at hq; subst hq; trivial
    · rw [(List.mem_replicate.mp h1).2]; trivial
end
section
/-! From AM to the true machine, 2: the heap; instructions that make no call. -/
theorem lookup_in {l : List (List (Nat × Jvm.ClassFile.Instr × Nat))} {pc : Nat} {r : Jvm.ClassFile.Instr × Nat} (h : (l.getD (pc / 16) []).lookup pc = some r) : (pc, r) ∈ l.flatten := by
  have h1 := lookup_mem h
  rw [List.getD_eq_getElem?_getD] at h1
  cases hk : l[pc / 16]? with
  | none => rw [hk] at h1; simp at h1
  | some c =>
    rw [hk] at h1
    exact List.mem_flatten.mpr ⟨c, List.mem_of_getElem? hk, by simpa using h1⟩
theorem dcd {y : AY} (hy : y ∈ allY) {pc : Nat} {i : Jvm.ClassFile.Instr} {len : Nat} (h : tb y pc = some (i, len)) : decode (bt y) pc = .ok (i, len) := by
  have h1 := dc_all y hy
  unfold dcP at h1
  exact h1 (pc, i, len) (lookup_in (l := y.2.2.1) h)
/-- where a state stands to the one at the law's start -/
def ct (s0 s : State) : Prop := s0.WarmedH s.vm ∧ ∀ q : Nat, q < s0.heap.size → s.heap[q]? = s0.heap[q]?
theorem wd {s0 s : State} {a0 args : Array Value} (hB : ∀ w ∈ lw_tbl, w.before a0 s0 = true) (hC : ct s0 s) {p : Nat} {w : Jvm.Cond} (h : lw_tbl[p]? = some w) (hk : (w.onTables && w.keepsH) = true) : w.before args s = true := by
  simp only [Bool.and_eq_true] at hk
  have h1 := Cond.onTables_warmH (T := s) (args' := args) hC.1 hk.1 hk.2 (hB w (List.mem_of_getElem? h))
  rwa [State.setVm_self] at h1
def arT (k : Nat) : FieldType := match k with
  | 0 => .int
  | 1 => .byte
  | 2 => .long
  | k + 3 => .object (cNm k)
def okE (e : AE) : Prop := match e with
  | .inl (_, fs) => ∀ v ∈ fs, okv v ∧ v.isSome = true
  | .inr (k, n, .inl f) => n < 2147483648 ∧ ((k = 0 ∧ ∀ j, r32 (f j)) ∨ (k = 1 ∧ ∀ j, r8 (f j)) ∨ (k = 2 ∧ ∀ j, r64 (f j)))
  | .inr (k, n, .inr _) => n < 2147483648 ∧ k = 3
def cA (k : Nat) (f : Nat → Int) : (Nat → Int32) ⊕ (Nat → Int64) ⊕ (Nat → UInt32) ⊕ (Nat → UInt64) ⊕ (Nat → Option Nat) := match k with
  | 2 => .inr (.inl (fun j => Int64.ofInt (f j)))
  | _ => .inl (fun j => Int32.ofInt (f j))
def ce (dA : Nat → ClassId) (e : AE) : va_E := match e with
  | .inl (ci, fs) => .inr (ci, fs.map cv)
  | .inr (k, n, .inl f) => .inl (dA k, n, cA k f)
  | .inr (k, n, .inr f) => .inl (dA k, n, .inr (.inr (.inr (.inr f))))
/-- an array of before the law's start, which nobody writes -/
def sta (s : State) (b a : Nat) (e : AE) : Prop := match e with
  | .inr (k, n, .inl f) => k ≤ 1 ∧ va_T (arT k) a n (fun j => .int (Int32.ofInt (f j))) (fun q => b ≤ q) s s.heap
  | _ => False
def HR (D : va_G) (dA : Nat → ClassId) (s : State) (h : AH) (H : Heap) : Prop := H.size = h.2.1 ∧ h.2.2.2.1 ≤ h.2.1 ∧ ∀ (a : Nat) (e : AE), h.1 a = some e → okE e ∧ (h.2.2.2.1 ≤ a → va_at D vcl (a, ce dA e) H) ∧ (a < h.2.2.2.1 → sta s h.2.2.2.1 a e)
def tyl (dA : Nat → ClassId) : List (ClassId × FieldType) := [(dA 0, arT 0), (dA 1, arT 1), (dA 2, arT 2), (dA 3, arT 3)]
theorem tyl_at {dA : Nat → ClassId} {k : Nat} (hk : k ≤ 3) : (tyl dA)[k]? = some (dA k, arT k) := by
  match k, hk with
  | 0, _ => rfl
  | 1, _ => rfl
  | 2, _ => rfl
  | 3, _ => rfl
  | k + 4, h => exact absurd h (by omega)
theorem HR.set {D : va_G} {dA : Nat → ClassId} {s : State} {h : AH} {H H1 : Heap} {a : Nat} {e1 : AE} (hH : HR D dA s h H) (hb : h.2.2.2.1 ≤ a) (ho : okE e1) (hv : va_at D vcl (a, ce dA e1) H1) (hz : H1.size = H.size) (hq : ∀ q : Nat, q ≠ a → H1[q]? = H[q]?) : HR D dA s (hput h a e1) H1 := by
  obtain ⟨h1, h2, h3⟩ := hH
  refine ⟨hz.trans h1, h2, fun b e he => ?_⟩
  simp only [hput, hup] at he
  split at he
  · rename_i hba
    cases he
    subst hba
    exact ⟨ho, fun _ => hv, fun hlt => absurd hb (Nat.not_le.mpr hlt)⟩
  · rename_i hba
    obtain ⟨g1, g2, g3⟩ := h3 b e he
    exact ⟨g1, fun hbb => (g2 hbb).kept (hq b hba), g3⟩
theorem HR.push {D : va_G} {dA : Nat → ClassId} {s : State} {h : AH} {H H1 : Heap} {e1 : AE} {n : Nat} (hH : HR D dA s h H) (ho : okE e1) (hv : va_at D vcl (h.2.1, ce dA e1) H1) (hz : H1.size = H.size + 1) (hq : ∀ q : Nat, q < H.size → H1[q]? = H[q]?) : HR D dA s (hnew h e1 n) H1 := by
  obtain ⟨h1, h2, h3⟩ := hH
  refine ⟨by rw [hz, h1]; rfl, Nat.le_succ_of_le h2, fun b e he => ?_⟩
  simp only [hnew, hup] at he
  split at he
  · rename_i hba
    cases he
    subst hba
    exact ⟨ho, fun _ => hv, fun hlt => absurd h2 (Nat.not_le.mpr hlt)⟩
  · obtain ⟨g1, g2, g3⟩ := h3 b e he
    exact ⟨g1, fun hbb => (g2 hbb).kept (hq b (g2 hbb).lt), g3⟩
/-- the goal of the simulation at a place of AM -/
def SW (p : Program) (l : Launch) (e : Env) (R : Room) (s : State) (m : MethodId) (args : Array Value) (below : List Frame) (meth : Method) (c : Code) (Q : State → Prop) (D : va_G) (dA : Nat → ClassId) (z0 t0 : Nat) (pc : Nat) (L S : List AV) (h : AH) : Prop :=
  ∀ (H : Heap) (locs : List Loc) (ls : Array Slot), LR ls L → SK S → HR D dA s h H → va_S (fun q => h.2.2.2.1 ≤ q) s.heap H locs → W p l e R s m args below meth c H locs (h.2.1 - z0) (h.2.2.1 - t0) Q (F0 m pc ls (S.map cv))
/-- what is known inside an invocation of y -/
def cx (s0 : State) (D : va_G) (dA : Nat → ClassId) (p : Program) (s : State) (m : MethodId) (meth : Method) (c : Code) (y : AY) : Prop :=
  p.tables.exec = Jvm.exec ∧ c.code = bt y ∧ c.maxLocals = y.2.2.2.1 ∧ s.vm.findClass (cNm y.2.1) = some m.cls ∧ y ∈ allY ∧ meth.sig.returnType = y.2.2.2.2.1 ∧ meth.locks = false ∧ (y.2.2.2.2.2 = true → meth.name = "<init>") ∧ ct s0 s ∧ va_K D vcl (tyl dA) s
theorem a_st1_lt {L L' : List AV} {i : Nat} {v : AV} (h : a_st1 L i v = some L') : i < L.length := by
  unfold a_st1 at h
  split at h
  · assumption
  · cases h
theorem a_st2_lt {L L' : List AV} {i : Nat} {v : AV} (h : a_st2 L i v = some L') : i + 1 < L.length := by
  unfold a_st2 at h
  split at h
  · assumption
  · cases h
theorem a_nxt_eq {pc t : Nat} {off : Int} (h : a_nxt pc off = some t) : (pc : Int) + off = (t : Int) := by
  unfold a_nxt at h
  split at h
  · rename_i x hx
    cases h
    rw [hx]; rfl
  · cases h
theorem one_cat {v : AV} (h : a_one v = true) : (cv v).category = 1 := by
  rcases v with _ | x | x | _ | x <;> first | rfl | cases h
theorem lcmp_eq {x z : Int} (hx : r64 x) (hz : r64 z) : lg_cmp (Int64.ofInt x) (Int64.ofInt z) = Int32.ofInt (a_lcmp x z) := by
  unfold lg_cmp a_lcmp
  have e1 : (Int64.ofInt x > Int64.ofInt z) ↔ z < x := lt64 hz hx
  have e2 : (Int64.ofInt x = Int64.ofInt z) ↔ x = z := eq64 hx hz
  by_cases h1 : z < x
  · rw [if_pos (e1.mpr h1), if_pos h1]; rfl
  · rw [if_neg (fun q => h1 (e1.mp q)), if_neg h1]
    by_cases h2 : x = z
    · rw [if_pos (e2.mpr h2), if_pos h2]; rfl
    · rw [if_neg (fun q => h2 (e2.mp q)), if_neg h2]; rfl
theorem r64_of32 {x : Int} (h : r32 x) : r64 x := ⟨by have := h.1; omega, by have := h.2; omega⟩
theorem a_lcmp_r (x z : Int) : r32 (a_lcmp x z) := by
  unfold a_lcmp
  split
  · exact ⟨by decide, by decide⟩
  · split <;> exact ⟨by decide, by decide⟩
/-- the instructions that look at the heap or the tables -/
def s_hp (i : Jvm.ClassFile.Instr) : Bool := match i with
  | .getfield _ | .putfield _ | .getstatic _ | .new _ | .newarray _ | .anewarray _ | .iaload | .baload | .laload | .aaload | .iastore | .bastore | .lastore | .aastore | .arraylength => true
  | _ => false
section SimA
variable {s0 : State} {a0 : Array Value} {p : Program} {l : Launch} {e : Env} {R : Room} {s : State} {m : MethodId} {args : Array Value} {below : List Frame} {meth : Method} {c : Code} {Q : State → Prop} {D : va_G} {dA : Nat → ClassId} {z0 t0 : Nat}
variable {y : AY} {pc pc' len : Nat} {L S L' S' : List AV} {h h' : AH}
theorem sm_push {i : Jvm.ClassFile.Instr} {v : Int ⊕ (Int ⊕ Option Nat)} (hv : okv (some v)) (hw : ∀ (H : Heap) (locs : List Loc) (ls : Array Slot) (rest : List Value), W p l e R s m args below meth c H locs (h.2.1 - z0) (h.2.2.1 - t0) Q (F0 m pc' ls (cv (some v) :: rest)) → W p l e R s m args below meth c H locs (h.2.1 - z0) (h.2.2.1 - t0) Q (F0 m pc ls rest)) (k : SW p l e R s m args below meth c Q D dA z0 t0 pc' L (some v :: S) h) : SW p l e R s m args below meth c Q D dA z0 t0 pc L S h :=
  fun H locs ls hL hS hH hV => hw H locs ls (S.map cv) (k H locs ls hL (hS.cons hv) hH hV)
set_option maxHeartbeats 4000000 in
theorem sm_simple (hx : cx s0 D dA p s m meth c y) (hB : ∀ w ∈ lw_tbl, w.before a0 s0 = true) {i : Jvm.ClassFile.Instr} (hd : tb y pc = some (i, len)) (hl : L.length = y.2.2.2.1)
    (hi : s_hp i = false)
    (hs : stp y i len pc L S h = some (pc', L', S', h')) (k : SW p l e R s m args below meth c Q D dA z0 t0 pc' L' S' h') : SW p l e R s m args below meth c Q D dA z0 t0 pc L S h := by
  obtain ⟨hx1, hb, hml, hown, hy, -, -, -, hC, -⟩ := hx
  have hdg := dcd hy hd
  intro H locs ls hL hS hH hV
  have hsz : ls.size = L.length := hL.1.1
  unfold stp at hs
  split at hs <;> first | (exact Bool.noConfusion (show true = false from hi)) | skip
  -- iconst
  · rename_i n
    split at hs
    · rename_i hn
      cases hs
      exact lv_iconst (v := Int32.ofInt n) hx1 hb hdg rfl (k H locs ls hL (hS.cons (v := .inl n) ⟨by omega, by omega⟩) hH hV)
    · cases hs
  -- bipush
  · rename_i n
    split at hs
    · rename_i hn
      cases hs
      refine lv_bipush (v := Int32.ofInt n) hx1 hb hdg ?_ (k H locs ls hL (hS.cons (v := .inl n) ⟨by omega, by omega⟩) hH hV)
      rw [Int8.toInt32_ofInt hn.1 hn.2]
    · cases hs
  -- sipush
  · rename_i n
    split at hs
    · rename_i hn
      cases hs
      refine lv_sipush (v := Int32.ofInt n) hx1 hb hdg ?_ (k H locs ls hL (hS.cons (v := .inl n) ⟨by omega, by omega⟩) hH hV)
      rw [Int16.toInt32_ofInt hn.1 hn.2]
    · cases hs
  -- lconst
  · rename_i n
    cases hs
    refine lv_lconst (v := Int64.ofInt ((n : Nat) : Int)) hx1 hb hdg ?_ (k H locs ls hL (hS.cons (v := .inr (.inl ((n : Nat) : Int))) ⟨by omega, by omega⟩) hH hV)
    rw [Int64.ofInt_eq_ofNat]
  -- ldc
  · rename_i x
    cases hv : tI y.2.1 x with
    | none => rw [hv] at hs; cases hs
    | some v =>
      rw [hv] at hs
      cases hs
      obtain ⟨hr, q, hq⟩ := tI_ok hv
      exact lv_ldc hx1 hb hown (wd hB hC hq rfl) hdg (k H locs ls hL (hS.cons (v := .inl v) hr) hH hV)
  -- ldc2
  · rename_i x
    cases hv : tJ y.2.1 x with
    | none => rw [hv] at hs; cases hs
    | some v =>
      rw [hv] at hs
      cases hs
      obtain ⟨hr, q, hq⟩ := tJ_ok hv
      exact lv_ldc2 hx1 hb hown (wd hB hC hq rfl) hdg (k H locs ls hL (hS.cons (v := .inr (.inl v)) hr) hH hV)
  · rename_i q
    unfold s_ldi at hs
    split at hs
    · rename_i x hx
      cases hs
      obtain ⟨g1, g2⟩ := hL.get hx
      exact lv_iload hx1 hb hdg g1 (k H locs ls hL (hS.cons (v := .inl x) g2) hH hV)
    · cases hs
  · rename_i q
    unfold s_ldi at hs
    split at hs
    · rename_i x hx
      cases hs
      obtain ⟨g1, g2⟩ := hL.get hx
      exact lv_iload_n hx1 hb hdg rfl g1 (k H locs ls hL (hS.cons (v := .inl x) g2) hH hV)
    · cases hs
  · rename_i q
    unfold s_ldl at hs
    split at hs
    · rename_i x hx
      cases hs
      obtain ⟨g1, g2⟩ := hL.get hx
      exact lv_lload hx1 hb hdg g1 (k H locs ls hL (hS.cons (v := .inr (.inl x)) g2) hH hV)
    · cases hs
  · rename_i q
    unfold s_ldl at hs
    split at hs
    · rename_i x hx
      cases hs
      obtain ⟨g1, g2⟩ := hL.get hx
      exact lv_lload_n hx1 hb hdg rfl g1 (k H locs ls hL (hS.cons (v := .inr (.inl x)) g2) hH hV)
    · cases hs
  · rename_i q
    unfold s_lda at hs
    split at hs
    · rename_i x hx
      cases hs
      obtain ⟨g1, g2⟩ := hL.get hx
      exact lv_aload hx1 hb hdg g1 (k H locs ls hL (hS.cons (v := .inr (.inr (some x))) g2) hH hV)
    · cases hs
  · rename_i q
    unfold s_lda at hs
    split at hs
    · rename_i x hx
      cases hs
      obtain ⟨g1, g2⟩ := hL.get hx
      exact lv_aload_n hx1 hb hdg rfl g1 (k H locs ls hL (hS.cons (v := .inr (.inr (some x))) g2) hH hV)
    · cases hs
  · rename_i q
    unfold s_sti at hs
    split at hs
    · rename_i x S2
      cases ha : a_st1 L q (some (.inl x)) with
      | none => rw [ha] at hs; cases hs
      | some L2 =>
        rw [ha] at hs
        cases hs
        exact lv_istore hx1 hb hdg hL.1 (a_st1_lt ha) rfl (fun ls' hl' => k H locs ls' (hL.st1 hS.head ha hl') hS.tail hH hV)
    · cases hs
  · rename_i q
    unfold s_sti at hs
    split at hs
    · rename_i x S2
      cases ha : a_st1 L q (some (.inl x)) with
      | none => rw [ha] at hs; cases hs
      | some L2 =>
        rw [ha] at hs
        cases hs
        exact lv_istore_n hx1 hb hdg rfl hL.1 (a_st1_lt ha) rfl (fun ls' hl' => k H locs ls' (hL.st1 hS.head ha hl') hS.tail hH hV)
    · cases hs
  · rename_i q
    unfold s_stl at hs
    split at hs
    · rename_i x S2
      cases ha : a_st2 L q (some (.inr (.inl x))) with
      | none => rw [ha] at hs; cases hs
      | some L2 =>
        rw [ha] at hs
        cases hs
        exact lv_lstore hx1 hb hdg hL.1 (a_st2_lt ha) rfl (fun ls' hl' => k H locs ls' (hL.st2 hS.head ha hl') hS.tail hH hV)
    · cases hs
  · rename_i q
    unfold s_stl at hs
    split at hs
    · rename_i x S2
      cases ha : a_st2 L q (some (.inr (.inl x))) with
      | none => rw [ha] at hs; cases hs
      | some L2 =>
        rw [ha] at hs
        cases hs
        exact lv_lstore_n hx1 hb hdg rfl hL.1 (a_st2_lt ha) rfl (fun ls' hl' => k H locs ls' (hL.st2 hS.head ha hl') hS.tail hH hV)
    · cases hs
  · rename_i q
    unfold s_sta at hs
    split at hs
    · rename_i x S2
      cases ha : a_st1 L q (some (.inr (.inr (some x)))) with
      | none => rw [ha] at hs; cases hs
      | some L2 =>
        rw [ha] at hs
        cases hs
        exact lv_astore hx1 hb hdg hL.1 (a_st1_lt ha) rfl (fun ls' hl' => k H locs ls' (hL.st1 hS.head ha hl') hS.tail hH hV)
    · cases hs
  · rename_i q
    unfold s_sta at hs
    split at hs
    · rename_i x S2
      cases ha : a_st1 L q (some (.inr (.inr (some x)))) with
      | none => rw [ha] at hs; cases hs
      | some L2 =>
        rw [ha] at hs
        cases hs
        exact lv_astore_n hx1 hb hdg rfl hL.1 (a_st1_lt ha) rfl (fun ls' hl' => k H locs ls' (hL.st1 hS.head ha hl') hS.tail hH hV)
    · cases hs
  · rename_i q n
    unfold s_inc at hs
    split at hs
    · rename_i x hx
      cases ha : a_st1 L q (some (.inl (a32 (x + n)))) with
      | none => rw [ha] at hs; cases hs
      | some L2 =>
        rw [ha] at hs
        cases hs
        obtain ⟨kk, hkk⟩ := List.getElem?_of_mem (mem_prs (q := (q, cv (some (.inl x)))) (L := L) (i := 0) |>.mpr ⟨q, _, getD_some hx, by simp⟩)
        exact lv_iinc (v := Int32.ofInt (a32 (x + n))) hx1 hb hdg hL.1 hkk (by rw [o32, Int32.ofInt_add]) (a_st1_lt ha) rfl (fun ls' hl' => k H locs ls' (hL.st1 (v := .inl (a32 (x + n))) (r32_a _) ha hl') hS hH hV)
    · cases hs
  · rename_i q n
    unfold s_inc at hs
    split at hs
    · rename_i x hx
      cases ha : a_st1 L q (some (.inl (a32 (x + n)))) with
      | none => rw [ha] at hs; cases hs
      | some L2 =>
        rw [ha] at hs
        cases hs
        obtain ⟨kk, hkk⟩ := List.getElem?_of_mem (mem_prs (q := (q, cv (some (.inl x)))) (L := L) (i := 0) |>.mpr ⟨q, _, getD_some hx, by simp⟩)
        exact lv_iincW (v := Int32.ofInt (a32 (x + n))) hx1 hb hdg hL.1 hkk (by rw [o32, Int32.ofInt_add]) (a_st1_lt ha) rfl (fun ls' hl' => k H locs ls' (hL.st1 (v := .inl (a32 (x + n))) (r32_a _) ha hl') hS hH hV)
    · cases hs
  · unfold s_ii at hs
    split at hs
    · rename_i z x S2
      cases hs
      have e1 : Int32.ofInt x + Int32.ofInt z = Int32.ofInt (a32 (x + z)) := by rw [o32, Int32.ofInt_add]
      refine lv_iadd (x := Int32.ofInt x) (y := Int32.ofInt z) hx1 hb hdg ?_
      rw [e1]
      exact k H locs ls hL (hS.tail.tail.cons (v := .inl _) (r32_a _)) hH hV
    · cases hs
  · unfold s_ii at hs
    split at hs
    · rename_i z x S2
      cases hs
      have e1 : Int32.ofInt x - Int32.ofInt z = Int32.ofInt (a32 (x - z)) := by rw [o32, Int32.ofInt_sub]
      refine lv_isub (x := Int32.ofInt x) (y := Int32.ofInt z) hx1 hb hdg ?_
      rw [e1]
      exact k H locs ls hL (hS.tail.tail.cons (v := .inl _) (r32_a _)) hH hV
    · cases hs
  · unfold s_ii at hs
    split at hs
    · rename_i z x S2
      cases hs
      have e1 : Int32.ofInt x * Int32.ofInt z = Int32.ofInt (a32 (x * z)) := by rw [o32, Int32.ofInt_mul]
      refine lv_imul (x := Int32.ofInt x) (y := Int32.ofInt z) hx1 hb hdg ?_
      rw [e1]
      exact k H locs ls hL (hS.tail.tail.cons (v := .inl _) (r32_a _)) hH hV
    · cases hs
  · unfold s_ii at hs
    split at hs
    · rename_i z x S2
      cases hs
      have e1 : Int32.ofInt x &&& Int32.ofInt z = Int32.ofInt (a_and x z) := (Int32.ofInt_toInt _).symm
      refine lv_iand (x := Int32.ofInt x) (y := Int32.ofInt z) hx1 hb hdg ?_
      rw [e1]
      exact k H locs ls hL (hS.tail.tail.cons (v := .inl _) (r32_of _)) hH hV
    · cases hs
  · unfold s_ii at hs
    split at hs
    · rename_i z x S2
      cases hs
      have e1 : ((Int32.ofInt x).toUInt32 >>> ((Int32.ofInt z).toUInt32 &&& Int32.toUInt32 31)).toInt32 = Int32.ofInt (a_ushr x z) := (Int32.ofInt_toInt _).symm
      exact lv_iushr (x := Int32.ofInt x) (y := Int32.ofInt z) hx1 hb hdg e1 (k H locs ls hL (hS.tail.tail.cons (v := .inl _) (r32_of _)) hH hV)
    · cases hs
  · unfold s_idv at hs
    split at hs
    · rename_i z x S2
      split at hs
      · cases hs
      · rename_i hz
        cases hs
        have e1 : Int32.ofInt x / Int32.ofInt z = Int32.ofInt (a_div x z) := (Int32.ofInt_toInt _).symm
        have hne : ¬ Int32.ofInt z = 0 := fun q => hz ((eq32 hS.head r0).mp q)
        refine lv_idiv (x := Int32.ofInt x) (y := Int32.ofInt z) hx1 hb hdg hne ?_
        rw [e1]
        exact k H locs ls hL (hS.tail.tail.cons (v := .inl _) (r32_of _)) hH hV
    · cases hs
  · unfold s_i2i at hs
    split at hs
    · rename_i x S2
      cases hs
      have e1 : -Int32.ofInt x = Int32.ofInt (a32 (-x)) := by rw [o32, Int32.neg_ofInt]
      refine lv_ineg (x := Int32.ofInt x) hx1 hb hdg ?_
      rw [e1]
      exact k H locs ls hL (hS.tail.cons (v := .inl _) (r32_a _)) hH hV
    · cases hs
  · unfold s_i2i at hs
    split at hs
    · rename_i x S2
      cases hs
      exact lv_i2b (x := Int32.ofInt x) hx1 hb hdg (o8 x).symm (k H locs ls hL (hS.tail.cons (v := .inl _) (r8_a _).r32) hH hV)
    · cases hs
  · unfold s_i2l at hs
    split at hs
    · rename_i x S2
      cases hs
      exact lv_i2l (x := Int32.ofInt x) (v := Int64.ofInt x) hx1 hb hdg (Int32.toInt64_ofInt hS.head.1 hS.head.2) (k H locs ls hL (hS.tail.cons (v := .inr (.inl _)) (r64_of32 hS.head)) hH hV)
    · cases hs
  · unfold s_l2i at hs
    split at hs
    · rename_i x S2
      cases hs
      exact lv_l2i (x := Int64.ofInt x) (v := Int32.ofInt (a32 x)) hx1 hb hdg (by rw [o32, Int64.toInt32_ofInt]) (k H locs ls hL (hS.tail.cons (v := .inl _) (r32_a _)) hH hV)
    · cases hs
  · unfold s_ll at hs
    split at hs
    · rename_i z x S2
      cases hs
      have e1 : Int64.ofInt x + Int64.ofInt z = Int64.ofInt (a64 (x + z)) := by rw [o64, Int64.ofInt_add]
      refine lv_ladd (x := Int64.ofInt x) (y := Int64.ofInt z) hx1 hb hdg ?_
      rw [e1]
      exact k H locs ls hL (hS.tail.tail.cons (v := .inr (.inl _)) (r64_a _)) hH hV
    · cases hs
  · unfold s_ll at hs
    split at hs
    · rename_i z x S2
      cases hs
      have e1 : Int64.ofInt x - Int64.ofInt z = Int64.ofInt (a64 (x - z)) := by rw [o64, Int64.ofInt_sub]
      refine lv_lsub (x := Int64.ofInt x) (y := Int64.ofInt z) hx1 hb hdg ?_
      rw [e1]
      exact k H locs ls hL (hS.tail.tail.cons (v := .inr (.inl _)) (r64_a _)) hH hV
    · cases hs
  · unfold s_ll at hs
    split at hs
    · rename_i z x S2
      cases hs
      have e1 : Int64.ofInt x * Int64.ofInt z = Int64.ofInt (a64 (x * z)) := by rw [o64, Int64.ofInt_mul]
      refine lv_lmul (x := Int64.ofInt x) (y := Int64.ofInt z) hx1 hb hdg ?_
      rw [e1]
      exact k H locs ls hL (hS.tail.tail.cons (v := .inr (.inl _)) (r64_a _)) hH hV
    · cases hs
  · unfold s_ll at hs
    split at hs
    · rename_i z x S2
      cases hs
      have e1 : Int64.ofInt x &&& Int64.ofInt z = Int64.ofInt (a_land x z) := (Int64.ofInt_toInt _).symm
      refine lv_land (x := Int64.ofInt x) (y := Int64.ofInt z) hx1 hb hdg ?_
      rw [e1]
      exact k H locs ls hL (hS.tail.tail.cons (v := .inr (.inl _)) (r64_of _)) hH hV
    · cases hs
  · unfold s_ll at hs
    split at hs
    · rename_i z x S2
      cases hs
      have e1 : Int64.ofInt x ||| Int64.ofInt z = Int64.ofInt (a_lor x z) := (Int64.ofInt_toInt _).symm
      refine lv_lor (x := Int64.ofInt x) (y := Int64.ofInt z) hx1 hb hdg ?_
      rw [e1]
      exact k H locs ls hL (hS.tail.tail.cons (v := .inr (.inl _)) (r64_of _)) hH hV
    · cases hs
  · unfold s_ldv at hs
    split at hs
    · rename_i z x S2
      split at hs
      · cases hs
      · rename_i hz
        cases hs
        have e1 : Int64.ofInt x / Int64.ofInt z = Int64.ofInt (a_ldiv x z) := (Int64.ofInt_toInt _).symm
        have hne : ¬ Int64.ofInt z = 0 := fun q => hz ((eq64 hS.head l0).mp q)
        refine lv_ldiv (x := Int64.ofInt x) (y := Int64.ofInt z) hx1 hb hdg hne ?_
        rw [e1]
        exact k H locs ls hL (hS.tail.tail.cons (v := .inr (.inl _)) (r64_of _)) hH hV
    · cases hs
  · unfold s_ldv at hs
    split at hs
    · rename_i z x S2
      split at hs
      · cases hs
      · rename_i hz
        cases hs
        have e1 : Int64.ofInt x - Int64.ofInt x / Int64.ofInt z * Int64.ofInt z = Int64.ofInt (a_lrem x z) := (Int64.ofInt_toInt _).symm
        have hne : ¬ Int64.ofInt z = 0 := fun q => hz ((eq64 hS.head l0).mp q)
        refine lv_lrem (x := Int64.ofInt x) (y := Int64.ofInt z) hx1 hb hdg hne ?_
        rw [e1]
        exact k H locs ls hL (hS.tail.tail.cons (v := .inr (.inl _)) (r64_of _)) hH hV
    · cases hs
  · unfold s_li at hs
    split at hs
    · rename_i z x S2
      cases hs
      have e1 : Int64.ofInt x <<< ((Int32.ofInt z).toInt64 &&& 63) = Int64.ofInt (a_lshl x z) := (Int64.ofInt_toInt _).symm
      exact lv_lshl (x := Int64.ofInt x) (y := Int32.ofInt z) hx1 hb hdg e1 (k H locs ls hL (hS.tail.tail.cons (v := .inr (.inl _)) (r64_of _)) hH hV)
    · cases hs
  · unfold s_li at hs
    split at hs
    · rename_i z x S2
      cases hs
      have e1 : Int64.ofInt x >>> ((Int32.ofInt z).toInt64 &&& 63) = Int64.ofInt (a_lshr x z) := (Int64.ofInt_toInt _).symm
      exact lv_lshr (x := Int64.ofInt x) (y := Int32.ofInt z) hx1 hb hdg e1 (k H locs ls hL (hS.tail.tail.cons (v := .inr (.inl _)) (r64_of _)) hH hV)
    · cases hs
  · unfold s_li at hs
    split at hs
    · rename_i z x S2
      cases hs
      have e1 : ((Int64.ofInt x).toUInt64 >>> ((Int32.ofInt z).toInt64.toUInt64 &&& Int64.toUInt64 63)).toInt64 = Int64.ofInt (a_lushr x z) := (Int64.ofInt_toInt _).symm
      exact lv_lushr (x := Int64.ofInt x) (y := Int32.ofInt z) hx1 hb hdg e1 (k H locs ls hL (hS.tail.tail.cons (v := .inr (.inl _)) (r64_of _)) hH hV)
    · cases hs
  · unfold s_lcmp at hs
    split at hs
    · rename_i z x S2
      cases hs
      refine W.lcmp (x := Int64.ofInt x) (y := Int64.ofInt z) hx1 hb hdg ?_
      rw [lcmp_eq hS.tail.head hS.head]
      exact k H locs ls hL (hS.tail.tail.cons (v := .inl _) (a_lcmp_r _ _)) hH hV
    · cases hs
  · unfold s_dup at hs
    split at hs
    · rename_i v S2
      split at hs
      · rename_i h1
        cases hs
        exact lv_dup (va := cv v) hx1 hb hdg (one_cat h1) (k H locs ls hL (fun w hw => (List.mem_cons.mp hw).elim (fun e => by rw [e]; exact hS v List.mem_cons_self) (fun hw => hS w hw)) hH hV)
      · cases hs
    · cases hs
  · unfold s_pop at hs
    split at hs
    · rename_i v S2
      split at hs
      · rename_i h1
        cases hs
        exact lv_pop (va := cv v) hx1 hb hdg (one_cat h1) (k H locs ls hL hS.tail hH hV)
      · cases hs
    · cases hs
  · unfold s_dup2 at hs
    split at hs
    · rename_i v w S2
      split at hs
      · rename_i h1
        simp only [Bool.and_eq_true] at h1
        cases hs
        refine lv_dup2_11 (va := cv v) (vb := cv w) hx1 hb hdg (one_cat h1.1) (one_cat h1.2) (k H locs ls hL (fun u hu => ?_) hH hV)
        rcases List.mem_cons.mp hu with e | hu
        · rw [e]; exact hS v List.mem_cons_self
        · rcases List.mem_cons.mp hu with e | hu
          · rw [e]; exact hS w (List.mem_cons_of_mem _ List.mem_cons_self)
          · exact hS u hu
      · cases hs
    · cases hs
  · rename_i cc off
    unfold s_if at hs
    split at hs
    · rename_i x S2
      have hx := hS.head
      have hz := r0
      cases ht : a_nxt pc off with
      | none => rw [ht] at hs; cases hs
      | some t =>
      rw [ht] at hs
      cases hs
      cases cc with
      | eq =>
        have kt : x = 0 → W p l e R s m args below meth c H locs (h.2.1 - z0) (h.2.2.1 - t0) Q (F0 m t ls (S'.map cv)) := fun q => by
          have e1 : a_cnd .eq x 0 = true := decide_eq_true q
          rw [e1] at k
          exact k H locs ls hL hS.tail hH hV
        have kf : ¬ (x = 0) → W p l e R s m args below meth c H locs (h.2.1 - z0) (h.2.2.1 - t0) Q (F0 m (pc + 3) ls (S'.map cv)) := fun q => by
          have e1 : a_cnd .eq x 0 = false := decide_eq_false q
          rw [e1] at k
          exact k H locs ls hL hS.tail hH hV
        exact lv_if_eq (x := Int32.ofInt x) hx1 hb hdg (a_nxt_eq ht) (fun q => kt ((eq32 hx hz).mp q)) (fun q => kf (fun w => q ((eq32 hx hz).mpr w)))
      | ne =>
        have kt : x ≠ 0 → W p l e R s m args below meth c H locs (h.2.1 - z0) (h.2.2.1 - t0) Q (F0 m t ls (S'.map cv)) := fun q => by
          have e1 : a_cnd .ne x 0 = true := decide_eq_true q
          rw [e1] at k
          exact k H locs ls hL hS.tail hH hV
        have kf : ¬ (x ≠ 0) → W p l e R s m args below meth c H locs (h.2.1 - z0) (h.2.2.1 - t0) Q (F0 m (pc + 3) ls (S'.map cv)) := fun q => by
          have e1 : a_cnd .ne x 0 = false := decide_eq_false q
          rw [e1] at k
          exact k H locs ls hL hS.tail hH hV
        exact lv_if_ne (x := Int32.ofInt x) hx1 hb hdg (a_nxt_eq ht) (fun q => kt ((not_congr (eq32 hx hz)).mp q)) (fun q => kf (fun w => w ((eq32 hx hz).mp q)))
      | lt =>
        have kt : x < 0 → W p l e R s m args below meth c H locs (h.2.1 - z0) (h.2.2.1 - t0) Q (F0 m t ls (S'.map cv)) := fun q => by
          have e1 : a_cnd .lt x 0 = true := decide_eq_true q
          rw [e1] at k
          exact k H locs ls hL hS.tail hH hV
        have kf : ¬ (x < 0) → W p l e R s m args below meth c H locs (h.2.1 - z0) (h.2.2.1 - t0) Q (F0 m (pc + 3) ls (S'.map cv)) := fun q => by
          have e1 : a_cnd .lt x 0 = false := decide_eq_false q
          rw [e1] at k
          exact k H locs ls hL hS.tail hH hV
        exact lv_if_lt (x := Int32.ofInt x) hx1 hb hdg (a_nxt_eq ht) (fun q => kt ((lt32 hx hz).mp q)) (fun q => kf (fun w => q ((lt32 hx hz).mpr w)))
      | ge =>
        have kt : 0 ≤ x → W p l e R s m args below meth c H locs (h.2.1 - z0) (h.2.2.1 - t0) Q (F0 m t ls (S'.map cv)) := fun q => by
          have e1 : a_cnd .ge x 0 = true := decide_eq_true q
          rw [e1] at k
          exact k H locs ls hL hS.tail hH hV
        have kf : ¬ (0 ≤ x) → W p l e R s m args below meth c H locs (h.2.1 - z0) (h.2.2.1 - t0) Q (F0 m (pc + 3) ls (S'.map cv)) := fun q => by
          have e1 : a_cnd .ge x 0 = false := decide_eq_false q
          rw [e1] at k
          exact k H locs ls hL hS.tail hH hV
        exact lv_if_ge (x := Int32.ofInt x) hx1 hb hdg (a_nxt_eq ht) (fun q => kt ((le32 hz hx).mp q)) (fun q => kf (fun w => q ((le32 hz hx).mpr w)))
      | gt =>
        have kt : 0 < x → W p l e R s m args below meth c H locs (h.2.1 - z0) (h.2.2.1 - t0) Q (F0 m t ls (S'.map cv)) := fun q => by
          have e1 : a_cnd .gt x 0 = true := decide_eq_true q
          rw [e1] at k
          exact k H locs ls hL hS.tail hH hV
        have kf : ¬ (0 < x) → W p l e R s m args below meth c H locs (h.2.1 - z0) (h.2.2.1 - t0) Q (F0 m (pc + 3) ls (S'.map cv)) := fun q => by
          have e1 : a_cnd .gt x 0 = false := decide_eq_false q
          rw [e1] at k
          exact k H locs ls hL hS.tail hH hV
        exact lv_if_gt (x := Int32.ofInt x) hx1 hb hdg (a_nxt_eq ht) (fun q => kt ((lt32 hz hx).mp q)) (fun q => kf (fun w => q ((lt32 hz hx).mpr w)))
      | le =>
        have kt : x ≤ 0 → W p l e R s m args below meth c H locs (h.2.1 - z0) (h.2.2.1 - t0) Q (F0 m t ls (S'.map cv)) := fun q => by
          have e1 : a_cnd .le x 0 = true := decide_eq_true q
          rw [e1] at k
          exact k H locs ls hL hS.tail hH hV
        have kf : ¬ (x ≤ 0) → W p l e R s m args below meth c H locs (h.2.1 - z0) (h.2.2.1 - t0) Q (F0 m (pc + 3) ls (S'.map cv)) := fun q => by
          have e1 : a_cnd .le x 0 = false := decide_eq_false q
          rw [e1] at k
          exact k H locs ls hL hS.tail hH hV
        exact lv_if_le (x := Int32.ofInt x) hx1 hb hdg (a_nxt_eq ht) (fun q => kt ((le32 hx hz).mp q)) (fun q => kf (fun w => q ((le32 hx hz).mpr w)))
    · cases hs
  · rename_i cc off
    unfold s_icmp at hs
    split at hs
    · rename_i z x S2
      have hx := hS.tail.head
      have hz := hS.head
      cases ht : a_nxt pc off with
      | none => rw [ht] at hs; cases hs
      | some t =>
      rw [ht] at hs
      cases hs
      cases cc with
      | eq =>
        have kt : x = z → W p l e R s m args below meth c H locs (h.2.1 - z0) (h.2.2.1 - t0) Q (F0 m t ls (S'.map cv)) := fun q => by
          have e1 : a_cnd .eq x z = true := decide_eq_true q
          rw [e1] at k
          exact k H locs ls hL hS.tail.tail hH hV
        have kf : ¬ (x = z) → W p l e R s m args below meth c H locs (h.2.1 - z0) (h.2.2.1 - t0) Q (F0 m (pc + 3) ls (S'.map cv)) := fun q => by
          have e1 : a_cnd .eq x z = false := decide_eq_false q
          rw [e1] at k
          exact k H locs ls hL hS.tail.tail hH hV
        exact lv_icmp_eq (x := Int32.ofInt x) (y := Int32.ofInt z) hx1 hb hdg (a_nxt_eq ht) (fun q => kt ((eq32 hx hz).mp q)) (fun q => kf (fun w => q ((eq32 hx hz).mpr w)))
      | ne =>
        have kt : x ≠ z → W p l e R s m args below meth c H locs (h.2.1 - z0) (h.2.2.1 - t0) Q (F0 m t ls (S'.map cv)) := fun q => by
          have e1 : a_cnd .ne x z = true := decide_eq_true q
          rw [e1] at k
          exact k H locs ls hL hS.tail.tail hH hV
        have kf : ¬ (x ≠ z) → W p l e R s m args below meth c H locs (h.2.1 - z0) (h.2.2.1 - t0) Q (F0 m (pc + 3) ls (S'.map cv)) := fun q => by
          have e1 : a_cnd .ne x z = false := decide_eq_false q
          rw [e1] at k
          exact k H locs ls hL hS.tail.tail hH hV
        exact lv_icmp_ne (x := Int32.ofInt x) (y := Int32.ofInt z) hx1 hb hdg (a_nxt_eq ht) (fun q => kt ((not_congr (eq32 hx hz)).mp q)) (fun q => kf (fun w => w ((eq32 hx hz).mp q)))
      | lt =>
        have kt : x < z → W p l e R s m args below meth c H locs (h.2.1 - z0) (h.2.2.1 - t0) Q (F0 m t ls (S'.map cv)) := fun q => by
          have e1 : a_cnd .lt x z = true := decide_eq_true q
          rw [e1] at k
          exact k H locs ls hL hS.tail.tail hH hV
        have kf : ¬ (x < z) → W p l e R s m args below meth c H locs (h.2.1 - z0) (h.2.2.1 - t0) Q (F0 m (pc + 3) ls (S'.map cv)) := fun q => by
          have e1 : a_cnd .lt x z = false := decide_eq_false q
          rw [e1] at k
          exact k H locs ls hL hS.tail.tail hH hV
        exact lv_icmp_lt (x := Int32.ofInt x) (y := Int32.ofInt z) hx1 hb hdg (a_nxt_eq ht) (fun q => kt ((lt32 hx hz).mp q)) (fun q => kf (fun w => q ((lt32 hx hz).mpr w)))
      | ge =>
        have kt : z ≤ x → W p l e R s m args below meth c H locs (h.2.1 - z0) (h.2.2.1 - t0) Q (F0 m t ls (S'.map cv)) := fun q => by
          have e1 : a_cnd .ge x z = true := decide_eq_true q
          rw [e1] at k
          exact k H locs ls hL hS.tail.tail hH hV
        have kf : ¬ (z ≤ x) → W p l e R s m args below meth c H locs (h.2.1 - z0) (h.2.2.1 - t0) Q (F0 m (pc + 3) ls (S'.map cv)) := fun q => by
          have e1 : a_cnd .ge x z = false := decide_eq_false q
          rw [e1] at k
          exact k H locs ls hL hS.tail.tail hH hV
        exact lv_icmp_ge (x := Int32.ofInt x) (y := Int32.ofInt z) hx1 hb hdg (a_nxt_eq ht) (fun q => kt ((le32 hz hx).mp q)) (fun q => kf (fun w => q ((le32 hz hx).mpr w)))
      | gt =>
        have kt : z < x → W p l e R s m args below meth c H locs (h.2.1 - z0) (h.2.2.1 - t0) Q (F0 m t ls (S'.map cv)) := fun q => by
          have e1 : a_cnd .gt x z = true := decide_eq_true q
          rw [e1] at k
          exact k H locs ls hL hS.tail.tail hH hV
        have kf : ¬ (z < x) → W p l e R s m args below meth c H locs (h.2.1 - z0) (h.2.2.1 - t0) Q (F0 m (pc + 3) ls (S'.map cv)) := fun q => by
          have e1 : a_cnd .gt x z = false := decide_eq_false q
          rw [e1] at k
          exact k H locs ls hL hS.tail.tail hH hV
        exact lv_icmp_gt (x := Int32.ofInt x) (y := Int32.ofInt z) hx1 hb hdg (a_nxt_eq ht) (fun q => kt ((lt32 hz hx).mp q)) (fun q => kf (fun w => q ((lt32 hz hx).mpr w)))
      | le =>
        have kt : x ≤ z → W p l e R s m args below meth c H locs (h.2.1 - z0) (h.2.2.1 - t0) Q (F0 m t ls (S'.map cv)) := fun q => by
          have e1 : a_cnd .le x z = true := decide_eq_true q
          rw [e1] at k
          exact k H locs ls hL hS.tail.tail hH hV
        have kf : ¬ (x ≤ z) → W p l e R s m args below meth c H locs (h.2.1 - z0) (h.2.2.1 - t0) Q (F0 m (pc + 3) ls (S'.map cv)) := fun q => by
          have e1 : a_cnd .le x z = false := decide_eq_false q
          rw [e1] at k
          exact k H locs ls hL hS.tail.tail hH hV
        exact lv_icmp_le (x := Int32.ofInt x) (y := Int32.ofInt z) hx1 hb hdg (a_nxt_eq ht) (fun q => kt ((le32 hx hz).mp q)) (fun q => kf (fun w => q ((le32 hx hz).mpr w)))
    · cases hs
  · rename_i off
    unfold s_goto at hs
    cases ht : a_nxt pc off with
    | none => rw [ht] at hs; cases hs
    | some t =>
      rw [ht] at hs
      cases hs
      exact lv_goto hx1 hb hdg (a_nxt_eq ht) (k H locs ls hL hS hH hV)
  · rename_i _ dflt lo hi2 offs
    unfold s_tab at hs
    split at hs
    · rename_i x S2
      have hx := toI (show r32 x from hS.head)
      split at hs
      · rename_i hxx
        cases ht : a_nxt pc dflt with
        | none => rw [ht] at hs; cases hs
        | some t =>
          rw [ht] at hs
          cases hs
          exact lv_tableOut (x := Int32.ofInt x) hx1 hb hdg (by rw [hx]; exact hxx) (a_nxt_eq ht) (k H locs ls hL hS.tail hH hV)
      · rename_i hxx
        split at hs
        · rename_i off ho
          cases ht : a_nxt pc off with
          | none => rw [ht] at hs; cases hs
          | some t =>
            rw [ht] at hs
            cases hs
            exact lv_tableIn (x := Int32.ofInt x) hx1 hb hdg (by rw [hx]; exact fun q => hxx (Or.inl q)) (by rw [hx]; exact fun q => hxx (Or.inr q)) (by rw [hx]; exact ho) (a_nxt_eq ht) (k H locs ls hL hS.tail hH hV)
        · cases hs
    · cases hs
  · cases hs
end SimA
end
section
/-! From AM to the true machine, 3: instructions that look at the heap. -/
theorem wdA {s0 s : State} {a0 args : Array Value} (hB : ∀ w ∈ lw_tbl, w.before a0 s0 = true) (hC : ct s0 s) {p : Nat} {ty : FieldType} (h : lw_tbl[p]? = some (.arrayClass ty)) : (Jvm.Cond.arrayClass ty).before args s = true :=
  word_at hC.1 (Or.inr ⟨ty, rfl⟩) (hB _ (List.mem_of_getElem? h))
theorem wdO {s0 s : State} {a0 : Array Value} (hB : ∀ w ∈ lw_tbl, w.before a0 s0 = true) (hC : ct s0 s) {p : Nat} {C : String} (h : lw_tbl[p]? = some (.arrayOver (.object C))) : va_AO C s := va_AO.moved hC.1.alike (va_AO.of (hB _ (List.mem_of_getElem? h)))
theorem tF_spec {c i ci k tag : Nat} {fn : Bool} (h : tF c i = some (ci, k, tag, fn)) : ∃ (q : vw_C) (p : Nat), vcl[ci]? = some q ∧ k < q.2.2 ∧ (q.2.1 k).1 = q.1 ∧ (q.2.1 k).2.2.2 = fn ∧ tagok tag (parseFieldDescriptor (q.2.1 k).2.2.1) = true ∧ lw_tbl[p]? = some (.fieldLink (cNm c) i q.1 (q.2.1 k).2.1 (q.2.1 k).2.2.1) := by
  obtain ⟨p, hp⟩ := tF_ok h
  unfold tfB at hp
  split at hp
  · cases hp
  · rename_i q hq
    simp only [Bool.and_eq_true, decide_eq_true_eq] at hp
    exact ⟨q, p, hq, hp.1, hp.2.1, hp.2.2.1, hp.2.2.2.1, hp.2.2.2.2⟩
theorem cl_words {s0 s : State} {a0 args : Array Value} (hB : ∀ w ∈ lw_tbl, w.before a0 s0 = true) (hC : ct s0 s) {ci : Nat} {q : vw_C} (h : vcl[ci]? = some q) : ∀ w ∈ u_ws q.1 q.2.1 q.2.2, w.before args s = true := by
  intro w hw
  obtain ⟨i, hi⟩ := List.getElem?_of_mem ((vcl_all ci q h).2.1 w hw)
  refine wd hB hC hi ?_
  obtain ⟨k, -, rfl⟩ := List.mem_map.mp hw
  unfold u_lay
  split <;> rfl
theorem tag_fit {tag : Nat} {ty : FieldType} {v : AV} (ht : tagok tag (some ty) = true) (hv : a_fit tag v = true) : narrow ty (cv v) = cv v ∧ fits ty (cv v) = true := by
  unfold tagok at ht
  split at ht
  · rename_i e; cases e
    rcases v with _ | x | x | _ | x <;> first | (cases hv; done) | exact ⟨rfl, rfl⟩
  · rename_i e; cases e
    rcases v with _ | x | x | _ | x <;> first | (cases hv; done) | exact ⟨rfl, rfl⟩
  · rename_i e; cases e
    rcases v with _ | x | x | _ | x <;> first | (cases hv; done) | exact ⟨rfl, rfl⟩
  · rename_i e; cases e
    rcases v with _ | x | x | _ | x <;> first | (cases hv; done) | exact ⟨rfl, rfl⟩
  · cases ht
section SimB
variable {s0 : State} {a0 : Array Value} {p : Program} {l : Launch} {e : Env} {R : Room} {s : State} {m : MethodId} {args : Array Value} {below : List Frame} {meth : Method} {c : Code} {Q : State → Prop} {D : va_G} {dA : Nat → ClassId} {z0 t0 : Nat}
variable {y : AY} {pc pc' len : Nat} {L S L' S' : List AV} {h h' : AH}
theorem sm_get {x : Nat} (hx : cx s0 D dA p s m meth c y) (hB : ∀ w ∈ lw_tbl, w.before a0 s0 = true) (hd : tb y pc = some (.getfield x, 3)) (hs : s_get y x pc L S h = some (pc', L', S', h')) (k : SW p l e R s m args below meth c Q D dA z0 t0 pc' L' S' h') : SW p l e R s m args below meth c Q D dA z0 t0 pc L S h := by
  obtain ⟨hx1, hb, hml, hown, hy, -, -, -, hC, hK⟩ := hx
  have hdg := dcd hy hd
  intro H locs ls hL hS hH hV
  unfold s_get at hs
  split at hs
  · rename_i a S2
    split at hs
    · rename_i ci kk tg hf
      split at hs
      · rename_i cc fs hc
        split at hs
        · rename_i hg
          split at hs
          · rename_i v hv
            cases hs
            obtain ⟨rfl, hba⟩ := hg
            obtain ⟨tag, fn⟩ := tg
            obtain ⟨q, w, hq, hk, h1, -, -, hw⟩ := tF_spec hf
            obtain ⟨ho, hat, -⟩ := hH.2.2 a _ hc
            have hP : va_P D vcl [(a, .inr (cc, fs.map cv))] H := fun j u hu => by
              match j, hu with
              | 0, hu => cases hu; exact hat hba
              | j + 1, hu => simp at hu
            refine va_get (D := D) (cl := vcl) (tys := tyl dA) (ci := cc) (C := q.1) (T := q.2.1) (N := q.2.2) (ref := q.1) hx1 hb (cl_words hB hC hq) (fun w hw => hw) hown hK hP 0 rfl hq kk hk (wd hB hC hw rfl) (fun u hu => by rw [h1] at hu; exact hu) (v := cv (some v)) (by rw [List.getElem?_map, hv]; rfl) hdg ?_
            exact k H locs ls hL (hS.tail.cons (ho _ (List.mem_of_getElem? hv)).1) hH hV
          · cases hs
        · cases hs
      · cases hs
    · cases hs
  · cases hs
theorem sm_put {x : Nat} (hx : cx s0 D dA p s m meth c y) (hB : ∀ w ∈ lw_tbl, w.before a0 s0 = true) (hd : tb y pc = some (.putfield x, 3)) (hs : s_put y x pc L S h = some (pc', L', S', h')) (k : SW p l e R s m args below meth c Q D dA z0 t0 pc' L' S' h') : SW p l e R s m args below meth c Q D dA z0 t0 pc L S h := by
  obtain ⟨hx1, hb, hml, hown, hy, -, -, hinit, hC, hK⟩ := hx
  have hdg := dcd hy hd
  intro H locs ls hL hS hH hV
  unfold s_put at hs
  split at hs
  · rename_i v a S2
    split at hs
    · rename_i ci kk tag fn hf
      split at hs
      · rename_i cc fs hc
        split at hs
        · rename_i hg
          cases hs
          obtain ⟨rfl, hba, hlen, hfit, hfin⟩ := hg
          obtain ⟨q, w, hq, hk, h1, h2, htag, hw⟩ := tF_spec hf
          obtain ⟨ho, hat, -⟩ := hH.2.2 a _ hc
          obtain ⟨hn, hin, hnm, ty0, hty, -⟩ := vcl_all cc q hq
          have hts := cl_words (args := args) hB hC hq
          have hap := va_apart (own := cNm y.2.1) (ci := cc) (C := q.1) (T := q.2.1) (N := q.2.2) hts (fun w hw => hw) ty0 hty hnm hK hq
          obtain ⟨r, hr1, cell, q1, q2, q3, q4⟩ := hat hba
          have hr : r = q := Option.some.inj (hr1.symm.trans hq)
          subst hr
          obtain ⟨hSl, hfc, kC, hkC, hkind⟩ := hK.1 cc _ hq
          obtain ⟨cf, kf, fi, f, hi, hsl⟩ := hSl kk hk
          have hlay := hts _ (u_in_lay hk)
          have hst := (u_facts hfc hkC (u_lays hts (fun w hw => hw) hk) hi).1
          have hsame : s.fieldFound? r.1 (r.2.1 kk).2.1 (r.2.1 kk).2.2.1 = some (cf, kf, fi, f) := by rw [← hi, h1]
          rw [hty kk hk] at htag
          obtain ⟨hnar, hfi⟩ := tag_fit htag hfit
          have okE' : okE (eO cc (fs.set kk v)) := by
            intro u hu
            rcases List.mem_or_eq_of_mem_set hu with h3 | h3
            · exact ho u h3
            · rw [h3]; exact hS v List.mem_cons_self
          have fin2 : ∀ (H' : Heap) (lc : List Loc), va_S (fun q => h.2.2.2.1 ≤ q) s.heap H' lc → H'[a]? = some (cell.setSlot (D.2 cc kk) (cv v)) → H'.size = H.size → (∀ q : Nat, q ≠ a → H'[q]? = H[q]?) → W p l e R s m args below meth c H' lc (h.2.1 - z0) (h.2.2.1 - t0) Q (F0 m (pc + 3) ls (S'.map cv)) := by
            intro H' lc hV' e1 e2 e3
            refine k H' lc ls hL hS.tail.tail (hH.set (e1 := eO cc (fs.set kk v)) hba okE' ⟨r, hq, ?_⟩ e2 e3) hV'
            show t_OB a (D.1 cc) r.2.2 (D.2 cc) H' (vp_V ((fs.set kk v).map cv))
            rw [List.map_set]
            exact t_OB.to (V := updV (vp_V (fs.map cv)) kk (cv v)) ⟨_, e1, q2, q3, t_set q4 hap hk (cv v)⟩ (fun j _ => vp_updV_set (by rw [List.length_map]; exact hlen) (cv v) j)
          cases fn with
          | false =>
            unfold u_lay at hlay
            rw [if_neg (by rw [h2]; decide)] at hlay
            have h6 := u_store hfc hkC hkind hlay hi (hty kk hk) hnar hfi
            refine W.putK hx1 hb (f := f) ⟨hown, wd hB hC hw rfl, ⟨_, _, _, hsame⟩, hst⟩ (by rw [q2]; exact h6) q1 q3 (by rw [hsl]; exact k2_hasslot (q4 kk hk)) rfl rfl hdg fun H' e1 e2 e3 => ?_
            rw [hsl] at e1
            exact fin2 H' _ (hV.put e2 e3 hba) e1 e2 e3
          | true =>
            unfold u_lay at hlay
            rw [if_pos h2] at hlay
            have hin2 := hinit (hfin rfl).1
            have hcf : m.cls = cf := by
              obtain ⟨_, _, c', _, _, _, -, -, hf', -, -, -, hown2, -⟩ := Cond.laysFinal_spec hlay
              have e1 : c' = cf := by have := hi.symm.trans hf'; simp at this; exact this.1.symm
              have e2 : (r.2.1 kk).1 = cNm y.2.1 := by rw [h1, hn (by omega), (hfin rfl).2]
              rw [e2] at hown2
              rw [← e1]; exact Option.some.inj (hown.symm.trans hown2)
            have h6 := u_fits hfc hkC hkind (Or.inr hlay) hi (hty kk hk) hnar hfi
            refine W.putFinK hx1 hb hown (wd hB hC hw rfl) hsame hst hcf hin2 (by rw [q2]; exact h6) q1 q3 (by rw [hsl]; exact k2_hasslot (q4 kk hk)) rfl rfl hdg fun H' e1 e2 e3 => ?_
            rw [hsl] at e1
            exact fin2 H' _ (hV.put e2 e3 hba) e1 e2 e3
        · cases hs
      · cases hs
    · cases hs
  · cases hs
end SimB
end
section
/-! From AM to the true machine, 4: arrays, new cells, the library's steps. -/
theorem one_P {D : va_G} {a : Nat} {x : va_E} {H : Heap} (h : va_at D vcl (a, x) H) : va_P D vcl [(a, x)] H := fun j u hu => by
  match j, hu with
  | 0, hu => cases hu; exact h
  | j + 1, hu => simp at hu
theorem upI (f : Nat → Int) (i : Nat) (x : Int) (g : Nat → Int32) (hg : g = fun j => Int32.ofInt (f j)) : upd g i (Int32.ofInt x) = fun j => Int32.ofInt (va_up f i x j) := by
  subst hg
  funext q
  by_cases hq : q = i
  · simp [upd, va_up, hq]
  · simp [upd, va_up, hq]
def dfl (v : AV) : Bool := match v with
  | some (.inl x) => x == 0
  | some (.inr (.inl x)) => x == 0
  | some (.inr (.inr none)) => true
  | _ => false
theorem b0 : r8 0 := ⟨by decide, by decide⟩
theorem tD_ok (ci : Nat) : okE (eO ci (tD ci)) := by
  have h0 : ∀ l ∈ tDl, l.all dfl = true := by decide
  intro v hv
  unfold tD at hv
  rw [List.getD_eq_getElem?_getD] at hv
  cases hk : tDl[ci]? with
  | none => rw [hk] at hv; simp at hv
  | some l =>
    rw [hk] at hv
    have h1 := List.all_eq_true.mp (h0 l (List.mem_of_getElem? hk)) v (by simpa using hv)
    rcases v with _ | x | x | _ | x
    · cases h1
    · simp [dfl] at h1; subst h1; exact ⟨r0, rfl⟩
    · simp [dfl] at h1; subst h1; exact ⟨l0, rfl⟩
    · exact ⟨trivial, rfl⟩
    · cases h1
theorem nwA {kd : Nat} (hk : kd ≤ 2) (cX : ClassId) (N : Nat) : vp_cell cX (N, cA kd (fun _ => 0)) = arrV cX N (fun _ => defaultValue (arT kd)) := by
  match kd, hk with
  | 0, _ => rfl
  | 1, _ => rfl
  | 2, _ => rfl
  | k + 3, h => exact absurd h (by omega)
theorem at_ok {t : Jvm.ClassFile.ArrayType} {kd : Nat} (h : a_at t = some kd) : kd ≤ 2 ∧ newarray.typeOf t = arT kd ∧ componentBytes (newarray.typeOf t) ≤ 8 ∧ okE (eA kd 0 (fun _ => 0)) := by
  cases t <;> first | (cases h; done) | skip
  all_goals cases h
  · exact ⟨by decide, rfl, by decide, by decide, Or.inr (Or.inl ⟨rfl, fun _ => b0⟩)⟩
  · exact ⟨by decide, rfl, by decide, by decide, Or.inl ⟨rfl, fun _ => r0⟩⟩
  · exact ⟨by decide, rfl, by decide, by decide, Or.inr (Or.inr ⟨rfl, fun _ => l0⟩)⟩
theorem at_w {s0 s : State} {a0 args : Array Value} (hB : ∀ w ∈ lw_tbl, w.before a0 s0 = true) (hC : ct s0 s) {kd : Nat} (hk : kd ≤ 2) : (Jvm.Cond.arrayClass (arT kd)).before args s = true := by
  match kd, hk with
  | 0, _ => exact wdA hB hC ac_int
  | 1, _ => exact wdA hB hC ac_byte
  | 2, _ => exact wdA hB hC ac_long
  | k + 3, h => exact absurd h (by omega)
theorem at_cls {D : va_G} {dA : Nat → ClassId} {s : State} (hK : va_K D vcl (tyl dA) s) {kd : Nat} (hk : kd ≤ 2) : s.vm.findClass ("[" ++ (arT kd).toString) = some (dA kd) := by
  match kd, hk with
  | 0, _ => exact (hK.2 0 _ rfl).2
  | 1, _ => exact (hK.2 1 _ rfl).2
  | 2, _ => exact (hK.2 2 _ rfl).2
  | k + 3, h => exact absurd h (by omega)
section SimC
variable {s0 : State} {a0 : Array Value} {p : Program} {l : Launch} {e : Env} {R : Room} {s : State} {m : MethodId} {args : Array Value} {below : List Frame} {meth : Method} {c : Code} {Q : State → Prop} {D : va_G} {dA : Nat → ClassId} {z0 t0 : Nat}
variable {y : AY} {pc pc' len : Nat} {L S L' S' : List AV} {h h' : AH}
theorem sm_iald (hx : cx s0 D dA p s m meth c y) (hd : tb y pc = some (.iaload, 1)) (hs : s_ild 0 (pc + 1) L S h = some (pc', L', S', h')) (k : SW p l e R s m args below meth c Q D dA z0 t0 pc' L' S' h') : SW p l e R s m args below meth c Q D dA z0 t0 pc L S h := by
  obtain ⟨hx1, hb, hml, hown, hy, -, -, -, hC, hK⟩ := hx
  have hdg := dcd hy hd
  intro H locs ls hL hS hH hV
  unfold s_ild at hs
  split at hs
  · rename_i i a S2
    split at hs
    · rename_i kd n f hc
      split at hs
      · rename_i hg
        cases hs
        obtain ⟨rfl, hi⟩ := hg
        obtain ⟨ho, hat, hst⟩ := hH.2.2 a _ hc
        have hri : r32 i := hS.head
        have hrf : r32 (f i.toNat) := by
          rcases ho.2 with h1 | h1 | h1
          · exact h1.2 _
          · exact absurd h1.1 (by decide)
          · exact absurd h1.1 (by decide)
        have hin := inN hri hi
        have ecl := clN hri hi.1
        have kk := k H locs ls hL (hS.tail.tail.cons (v := .inl (f i.toNat)) hrf) hH hV
        by_cases hba : h.2.2.2.1 ≤ a
        · refine va_iald (D := D) (cl := vcl) (tys := tyl dA) (ws := [(a, ce dA (eA 0 n f))]) hx1 hb hK (one_P (hat hba)) 0 0 rfl rfl hin hdg ?_
          rw [ecl]
          exact kk
        · obtain ⟨-, hT⟩ := hst (Nat.not_le.mp hba)
          exact va_ti hx1 hb hT hV hin (v := .int (Int32.ofInt (f i.toNat))) (by rw [ecl]) hdg kk
      · cases hs
    · cases hs
  · cases hs
theorem sm_bald (hx : cx s0 D dA p s m meth c y) (hd : tb y pc = some (.baload, 1)) (hs : s_ild 1 (pc + 1) L S h = some (pc', L', S', h')) (k : SW p l e R s m args below meth c Q D dA z0 t0 pc' L' S' h') : SW p l e R s m args below meth c Q D dA z0 t0 pc L S h := by
  obtain ⟨hx1, hb, hml, hown, hy, -, -, -, hC, hK⟩ := hx
  have hdg := dcd hy hd
  intro H locs ls hL hS hH hV
  unfold s_ild at hs
  split at hs
  · rename_i i a S2
    split at hs
    · rename_i kd n f hc
      split at hs
      · rename_i hg
        cases hs
        obtain ⟨rfl, hi⟩ := hg
        obtain ⟨ho, hat, hst⟩ := hH.2.2 a _ hc
        have hri : r32 i := hS.head
        have hrf : r32 (f i.toNat) := by
          rcases ho.2 with h1 | h1 | h1
          · exact absurd h1.1 (by decide)
          · exact (h1.2 _).r32
          · exact absurd h1.1 (by decide)
        have hin := inN hri hi
        have ecl := clN hri hi.1
        have kk := k H locs ls hL (hS.tail.tail.cons (v := .inl (f i.toNat)) hrf) hH hV
        by_cases hba : h.2.2.2.1 ≤ a
        · refine va_bald (D := D) (cl := vcl) (tys := tyl dA) (ws := [(a, ce dA (eA 1 n f))]) hx1 hb hK (one_P (hat hba)) 0 1 rfl rfl hin hdg ?_
          rw [ecl]
          exact kk
        · obtain ⟨-, hT⟩ := hst (Nat.not_le.mp hba)
          exact va_tb hx1 hb hT hV hin (v := .int (Int32.ofInt (f i.toNat))) (by rw [ecl]) hdg kk
      · cases hs
    · cases hs
  · cases hs
theorem sm_lald (hx : cx s0 D dA p s m meth c y) (hd : tb y pc = some (.laload, 1)) (hs : s_ild 2 (pc + 1) L S h = some (pc', L', S', h')) (k : SW p l e R s m args below meth c Q D dA z0 t0 pc' L' S' h') : SW p l e R s m args below meth c Q D dA z0 t0 pc L S h := by
  obtain ⟨hx1, hb, hml, hown, hy, -, -, -, hC, hK⟩ := hx
  have hdg := dcd hy hd
  intro H locs ls hL hS hH hV
  unfold s_ild at hs
  split at hs
  · rename_i i a S2
    split at hs
    · rename_i kd n f hc
      split at hs
      · rename_i hg
        cases hs
        obtain ⟨rfl, hi⟩ := hg
        obtain ⟨ho, hat, hst⟩ := hH.2.2 a _ hc
        have hri : r32 i := hS.head
        have hrf : r64 (f i.toNat) := by
          rcases ho.2 with h1 | h1 | h1
          · exact absurd h1.1 (by decide)
          · exact absurd h1.1 (by decide)
          · exact h1.2 _
        have hin := inN hri hi
        have ecl := clN hri hi.1
        have kk := k H locs ls hL (hS.tail.tail.cons (v := .inr (.inl (f i.toNat))) hrf) hH hV
        by_cases hba : h.2.2.2.1 ≤ a
        · refine va_lald (D := D) (cl := vcl) (tys := tyl dA) (ws := [(a, ce dA (eA 2 n f))]) hx1 hb hK (one_P (hat hba)) 0 2 rfl rfl hin hdg ?_
          rw [ecl]
          exact kk
        · obtain ⟨h1, -⟩ := hst (Nat.not_le.mp hba)
          exact absurd h1 (by decide)
      · cases hs
    · cases hs
  · cases hs
theorem sm_qld (hx : cx s0 D dA p s m meth c y) (hd : tb y pc = some (.aaload, 1)) (hs : s_qld (pc + 1) L S h = some (pc', L', S', h')) (k : SW p l e R s m args below meth c Q D dA z0 t0 pc' L' S' h') : SW p l e R s m args below meth c Q D dA z0 t0 pc L S h := by
  obtain ⟨hx1, hb, hml, hown, hy, -, -, -, hC, hK⟩ := hx
  have hdg := dcd hy hd
  intro H locs ls hL hS hH hV
  unfold s_qld at hs
  split at hs
  · rename_i i a S2
    split at hs
    · rename_i kd n f hc
      split at hs
      · rename_i hg
        split at hs
        · rename_i x hv
          cases hs
          obtain ⟨-, hba, hi⟩ := hg
          obtain ⟨ho, hat, hst⟩ := hH.2.2 a _ hc
          obtain ⟨-, rfl⟩ := ho
          have hri : r32 i := hS.head
          have hin := inN hri hi
          have ecl := clN hri hi.1
          refine va_aldq (D := D) (cl := vcl) (tys := tyl dA) (ws := [(a, ce dA (eQ 3 n f))]) hx1 hb hK (one_P (hat hba)) 0 3 rfl (C := cNm 0) rfl hin hdg ?_
          rw [ecl, hv]
          exact k H locs ls hL (hS.tail.tail.cons (v := .inr (.inr (some x))) trivial) hH hV
        · cases hs
      · cases hs
    · cases hs
  · cases hs
theorem sm_len (hx : cx s0 D dA p s m meth c y) (hd : tb y pc = some (.arraylength, 1)) (hs : s_len (pc + 1) L S h = some (pc', L', S', h')) (k : SW p l e R s m args below meth c Q D dA z0 t0 pc' L' S' h') : SW p l e R s m args below meth c Q D dA z0 t0 pc L S h := by
  obtain ⟨hx1, hb, hml, hown, hy, -, -, -, hC, hK⟩ := hx
  have hdg := dcd hy hd
  intro H locs ls hL hS hH hV
  unfold s_len at hs
  split at hs
  · rename_i a S2
    split at hs
    · rename_i kd n f hc
      split at hs
      · rename_i hn
        cases hs
        obtain ⟨ho, hat, hst⟩ := hH.2.2 a _ hc
        have kk := k H locs ls hL (hS.tail.cons (v := .inl n) ⟨by omega, by omega⟩) hH hV
        have en : Int32.ofNat n = Int32.ofInt (n : Int) := (Int32.ofInt_eq_ofNat).symm
        by_cases hba : h.2.2.2.1 ≤ a
        · rcases f with f | f
          · have hk : kd ≤ 3 := by rcases ho.2 with h1 | h1 | h1 <;> omega
            exact va_alen (D := D) (cl := vcl) (tys := tyl dA) (ws := [(a, ce dA (eA kd n f))]) hx1 hb hK (one_P (hat hba)) 0 kd rfl (tyl_at hk) (v := Int32.ofInt n) en hdg kk
          · have hk : kd ≤ 3 := by have := ho.2; omega
            exact va_alen (D := D) (cl := vcl) (tys := tyl dA) (ws := [(a, ce dA (eQ kd n f))]) hx1 hb hK (one_P (hat hba)) 0 kd rfl (tyl_at hk) (v := Int32.ofInt n) en hdg kk
        · have h1 := hst (Nat.not_le.mp hba)
          rcases f with f | f
          · exact va_tlen hx1 hb h1.2 hV (v := Int32.ofInt n) en hdg kk
          · exact absurd h1 id
      · cases hs
    · cases hs
  · cases hs
theorem sm_iast (hx : cx s0 D dA p s m meth c y) (hd : tb y pc = some (.iastore, 1)) (hs : s_ist 0 (pc + 1) (fun x => x) L S h = some (pc', L', S', h')) (k : SW p l e R s m args below meth c Q D dA z0 t0 pc' L' S' h') : SW p l e R s m args below meth c Q D dA z0 t0 pc L S h := by
  obtain ⟨hx1, hb, hml, hown, hy, -, -, -, hC, hK⟩ := hx
  have hdg := dcd hy hd
  intro H locs ls hL hS hH hV
  unfold s_ist at hs
  split at hs
  · rename_i x i a S2
    split at hs
    · rename_i kd n f hc
      split at hs
      · rename_i hg
        cases hs
        obtain ⟨rfl, hba, hi⟩ := hg
        obtain ⟨ho, hat, hst⟩ := hH.2.2 a _ hc
        have hri : r32 i := hS.tail.head
        have hin := inN hri hi
        have ecl := clN hri hi.1
        have hat := hat hba
        refine W.iast hx1 hb hat ((hK.2 0 _ rfl).1 n (fun j => .int (Int32.ofInt (f j)))) (fun q => by cases q) (by show ¬ (_ < _ ∨ (arrV _ _ _).slots.size ≤ _); rw [arrV_size]; exact hin) rfl rfl hdg fun H1 e1 z oq => ?_
        refine k H1 _ ls hL hS.tail.tail.tail (hH.set (e1 := eA 0 n (va_up f i.toNat x)) hba ⟨ho.1, Or.inl ⟨rfl, fun j => ?_⟩⟩ ?_ z oq) (hV.put z oq hba)
        · unfold va_up
          split
          · exact hS.head
          · rcases ho.2 with h1 | h1 | h1
            · exact h1.2 _
            · exact absurd h1.1 (by decide)
            · exact absurd h1.1 (by decide)
        · show H1[a]? = some (arrV (dA 0) n (fun j => .int (Int32.ofInt (va_up f i.toNat x j))))
          rw [e1, ecl]
          show some ((arrV (dA 0) n (fun j => .int (Int32.ofInt (f j)))).setSlot i.toNat (.int (Int32.ofInt x))) = _
          rw [arrV_store]
          congr 2
          funext q
          by_cases hq : q = i.toNat <;> simp [updV, va_up, hq]
      · cases hs
    · cases hs
  · cases hs
theorem sm_bast (hx : cx s0 D dA p s m meth c y) (hd : tb y pc = some (.bastore, 1)) (hs : s_ist 1 (pc + 1) a8 L S h = some (pc', L', S', h')) (k : SW p l e R s m args below meth c Q D dA z0 t0 pc' L' S' h') : SW p l e R s m args below meth c Q D dA z0 t0 pc L S h := by
  obtain ⟨hx1, hb, hml, hown, hy, -, -, -, hC, hK⟩ := hx
  have hdg := dcd hy hd
  intro H locs ls hL hS hH hV
  unfold s_ist at hs
  split at hs
  · rename_i x i a S2
    split at hs
    · rename_i kd n f hc
      split at hs
      · rename_i hg
        cases hs
        obtain ⟨rfl, hba, hi⟩ := hg
        obtain ⟨ho, hat, hst⟩ := hH.2.2 a _ hc
        have hri : r32 i := hS.tail.head
        have hin := inN hri hi
        have ecl := clN hri hi.1
        have hat := hat hba
        refine W.bast hx1 hb hat ((hK.2 1 _ rfl).1 n (fun j => .int (Int32.ofInt (f j)))) (fun q => by cases q) (by show ¬ (_ < _ ∨ (arrV _ _ _).slots.size ≤ _); rw [arrV_size]; exact hin) rfl rfl hdg fun H1 e1 z oq => ?_
        refine k H1 _ ls hL hS.tail.tail.tail (hH.set (e1 := eA 1 n (va_up f i.toNat (a8 x))) hba ⟨ho.1, Or.inr (Or.inl ⟨rfl, fun j => ?_⟩)⟩ ?_ z oq) (hV.put z oq hba)
        · unfold va_up
          split
          · exact r8_a _
          · rcases ho.2 with h1 | h1 | h1
            · exact absurd h1.1 (by decide)
            · exact h1.2 _
            · exact absurd h1.1 (by decide)
        · show H1[a]? = some (arrV (dA 1) n (fun j => .int (Int32.ofInt (va_up f i.toNat (a8 x) j))))
          rw [e1, ecl]
          show some ((arrV (dA 1) n (fun j => .int (Int32.ofInt (f j)))).setSlot i.toNat (.int (Int32.ofInt x).toInt8.toInt32)) = _
          rw [arrV_store, ← o8]
          congr 2
          funext q
          by_cases hq : q = i.toNat <;> simp [updV, va_up, hq]
      · cases hs
    · cases hs
  · cases hs
theorem sm_last (hx : cx s0 D dA p s m meth c y) (hd : tb y pc = some (.lastore, 1)) (hs : s_lst (pc + 1) L S h = some (pc', L', S', h')) (k : SW p l e R s m args below meth c Q D dA z0 t0 pc' L' S' h') : SW p l e R s m args below meth c Q D dA z0 t0 pc L S h := by
  obtain ⟨hx1, hb, hml, hown, hy, -, -, -, hC, hK⟩ := hx
  have hdg := dcd hy hd
  intro H locs ls hL hS hH hV
  unfold s_lst at hs
  split at hs
  · rename_i x i a S2
    split at hs
    · rename_i kd n f hc
      split at hs
      · rename_i hg
        cases hs
        obtain ⟨rfl, hba, hi⟩ := hg
        obtain ⟨ho, hat, hst⟩ := hH.2.2 a _ hc
        have hri : r32 i := hS.tail.head
        have hin := inN hri hi
        have ecl := clN hri hi.1
        have hat := hat hba
        refine W.last hx1 hb hat ((hK.2 2 _ rfl).1 n (fun j => .long (Int64.ofInt (f j)))) (fun q => by cases q) (by show ¬ (_ < _ ∨ (arrV _ _ _).slots.size ≤ _); rw [arrV_size]; exact hin) rfl rfl hdg fun H1 e1 z oq => ?_
        refine k H1 _ ls hL hS.tail.tail.tail (hH.set (e1 := eA 2 n (va_up f i.toNat x)) hba ⟨ho.1, Or.inr (Or.inr ⟨rfl, fun j => ?_⟩)⟩ ?_ z oq) (hV.put z oq hba)
        · unfold va_up
          split
          · exact hS.head
          · rcases ho.2 with h1 | h1 | h1
            · exact absurd h1.1 (by decide)
            · exact absurd h1.1 (by decide)
            · exact h1.2 _
        · show H1[a]? = some (arrV (dA 2) n (fun j => .long (Int64.ofInt (va_up f i.toNat x j))))
          rw [e1, ecl]
          show some ((arrV (dA 2) n (fun j => .long (Int64.ofInt (f j)))).setSlot i.toNat (.long (Int64.ofInt x))) = _
          rw [arrV_store]
          congr 2
          funext q
          by_cases hq : q = i.toNat <;> simp [updV, va_up, hq]
      · cases hs
    · cases hs
  · cases hs
theorem sm_qst (hx : cx s0 D dA p s m meth c y) (hd : tb y pc = some (.aastore, 1)) (hs : s_qst (pc + 1) L S h = some (pc', L', S', h')) (k : SW p l e R s m args below meth c Q D dA z0 t0 pc' L' S' h') : SW p l e R s m args below meth c Q D dA z0 t0 pc L S h := by
  obtain ⟨hx1, hb, hml, hown, hy, -, -, -, hC, hK⟩ := hx
  have hdg := dcd hy hd
  intro H locs ls hL hS hH hV
  unfold s_qst at hs
  split at hs
  · rename_i x i a S2
    split at hs
    · rename_i kd n f hc
      split at hs
      · rename_i ci fs hcx
        split at hs
        · rename_i hg
          cases hs
          obtain ⟨hkd, hba, hbx, hi⟩ := hg
          obtain ⟨ho, hat, hst⟩ := hH.2.2 a _ hc
          obtain ⟨hox, hatx, -⟩ := hH.2.2 x _ hcx
          have hk3 := ho.2
          obtain rfl : ci = 0 := by omega
          subst hk3
          have hri : r32 i := hS.tail.head
          have hin := inN hri hi
          have ecl := clN hri hi.1
          have hlt : i.toNat < n := by omega
          obtain ⟨r', hr', cellV, g1, g2, g3, -⟩ := hatx hbx
          have hcls := (hK.1 0 ("TarYard$Node", FC0, 8) rfl).2
          obtain ⟨kA, comp, k1, k2, k3, -⟩ := (hK.2 3 _ rfl).2
          have hcomp : comp = D.1 0 := Option.some.inj (k3.symm.trans hcls.1)
          subst hcomp
          obtain ⟨kC, hkC, -⟩ := hcls.2
          refine W.aast hx1 hb (hat hba) (fun q h => by cases h) (fun h => by cases h) k1 k2 rfl hkC ⟨fun q => hin (Or.inl q), by show _ < (arrV _ _ _).slots.size; rw [arrV_size, ecl]; exact hlt⟩ g1 (fun q h => by rw [g3] at h; cases h) (by rw [g2]; exact hkC) (by rw [g2]; exact va_assign hcls) rfl rfl hdg fun H1 e1 z oq => ?_
          refine k H1 _ ls hL hS.tail.tail.tail (hH.set (e1 := eQ 3 n (va_up f i.toNat (some x))) hba ho ?_ z oq) (hV.put z oq hba)
          show H1[a]? = some (arrV (dA 3) n (fun j => va_rf (va_up f i.toNat (some x) j)))
          rw [e1, ecl]
          show some ((arrV (dA 3) n (fun j => va_rf (f j))).setSlot i.toNat (.ref x)) = _
          rw [arrV_store]
          congr 2
          funext q
          by_cases hq : q = i.toNat <;> simp [updV, va_up, va_rf, hq]
        · cases hs
      · cases hs
    · cases hs
  · cases hs
theorem sm_gets {x : Nat} (hx : cx s0 D dA p s m meth c y) (hB : ∀ w ∈ lw_tbl, w.before a0 s0 = true) (hZ : va_Z "TarYard$Tape" "MARK" "[B" (.ref h.2.2.2.2) (fun q => h.2.2.2.1 ≤ q) s s.heap) (hd : tb y pc = some (.getstatic x, 3)) (hs : stp y (.getstatic x) 3 pc L S h = some (pc', L', S', h')) (k : SW p l e R s m args below meth c Q D dA z0 t0 pc' L' S' h') : SW p l e R s m args below meth c Q D dA z0 t0 pc L S h := by
  obtain ⟨hx1, hb, hml, hown, hy, -, -, -, hC, hK⟩ := hx
  have hdg := dcd hy hd
  intro H locs ls hL hS hH hV
  simp only [stp] at hs
  split at hs
  · rename_i h1
    cases hs
    obtain ⟨h2, h3⟩ := tS_ok h1
    obtain ⟨w, hw⟩ := tS_w
    rw [h2] at hown
    rw [h3] at hdg
    exact va_gets hx1 hb hZ hV hown (wd hB hC hw rfl) (fun u hu => hu) hdg (k H locs ls hL (hS.cons (v := .inr (.inr (some h.2.2.2.2))) trivial) hH hV)
  · cases hs
theorem sm_new {x : Nat} (hx : cx s0 D dA p s m meth c y) (hB : ∀ w ∈ lw_tbl, w.before a0 s0 = true) (hz : z0 ≤ h.2.1 ∧ t0 ≤ h.2.2.1) (hR : h'.2.1 - z0 ≤ R.cells ∧ h'.2.2.1 - t0 ≤ R.slots) (hd : tb y pc = some (.new x, 3)) (hs : s_new y x pc L S h = some (pc', L', S', h')) (k : SW p l e R s m args below meth c Q D dA z0 t0 pc' L' S' h') : SW p l e R s m args below meth c Q D dA z0 t0 pc L S h := by
  obtain ⟨hx1, hb, hml, hown, hy, -, -, -, hC, hK⟩ := hx
  have hdg := dcd hy hd
  intro H locs ls hL hS hH hV
  unfold s_new at hs
  split at hs
  · rename_i ci hci
    cases hs
    obtain ⟨q, p1, p2, p3, hq, w1, w2, w3, hlen⟩ := tC_ok hci
    obtain ⟨hn, hin, hnm, ty0, hty, hdf⟩ := vcl_all ci q hq
    have hKn := hK.1 ci _ hq
    have hsz := hH.1
    have e1 : (hnew h (eO ci (tD ci)) (tD ci).length).2.1 = h.2.1 + 1 := rfl
    have e2 : (hnew h (eO ci (tD ci)) (tD ci).length).2.2.1 = h.2.2.1 + (tD ci).length := rfl
    rw [e1, e2] at hR
    refine W.newcK hx1 hb hown (wd hB hC w1 rfl) (wd hB hC w2 rfl) (wd hB hC w3 rfl) rfl hdg (by omega) (by rw [← hlen]; omega) hKn.2.1 hsz fun H1 kC hkC c1 z1 o1 => ?_
    refine W.cs (cells' := h.2.1 + 1 - z0) (slots' := h.2.2.1 + (tD ci).length - t0) (by omega) (by rw [← hlen]; omega) ?_
    refine k H1 locs ls hL (hS.cons (v := .inr (.inr (some h.2.1))) trivial) (hH.push (n := (tD ci).length) (e1 := eO ci (tD ci)) (tD_ok ci) ⟨q, hq, (u_born ty0 (cl_words (args := args) hB hC hq) (fun w hw => hw) hKn hkC c1 hty).to hdf⟩ (by rw [z1, hsz]) (by rw [hsz]; exact o1)) ⟨by rw [z1, ← hsz]; exact Nat.le_trans hV.1 (Nat.le_succ _), fun u h1 h2 => (o1 u (by rw [← hsz]; exact Nat.lt_of_lt_of_le h1 hV.1)).trans (hV.2.1 u h1 h2), hV.2.2⟩
  · cases hs
theorem sm_newa {t : Jvm.ClassFile.ArrayType} (hx : cx s0 D dA p s m meth c y) (hB : ∀ w ∈ lw_tbl, w.before a0 s0 = true) (hz : z0 ≤ h.2.1 ∧ t0 ≤ h.2.2.1) (hR : h'.2.1 - z0 ≤ R.cells ∧ h'.2.2.1 - t0 ≤ R.slots) (hd : tb y pc = some (.newarray t, 2)) (hs : s_newa t pc L S h = some (pc', L', S', h')) (k : SW p l e R s m args below meth c Q D dA z0 t0 pc' L' S' h') : SW p l e R s m args below meth c Q D dA z0 t0 pc L S h := by
  obtain ⟨hx1, hb, hml, hown, hy, -, -, -, hC, hK⟩ := hx
  have hdg := dcd hy hd
  intro H locs ls hL hS hH hV
  unfold s_newa at hs
  split at hs
  · rename_i n S2
    split at hs
    · rename_i kd hkd
      split at hs
      · rename_i hn
        cases hs
        have hsz := hH.1
        have hri : r32 n := hS.head
        have ecl := clN hri hn.1
        have e1 : (hnew h (eA kd n.toNat (fun _ => 0)) n.toNat).2.1 = h.2.1 + 1 := rfl
        have e2 : (hnew h (eA kd n.toNat (fun _ => 0)) n.toNat).2.2.1 = h.2.2.1 + n.toNat := rfl
        rw [e1, e2] at hR
        have hn0 : ¬ Int32.ofInt n < 0 := fun q => by
          have := (lt32 hri r0).mp q
          omega
        obtain ⟨k2, kt, kb, ko⟩ := at_ok hkd
        refine va_newaK hx1 hb (by rw [kt]; exact at_w hB hC k2) rfl hdg rfl hn0 ecl (Nat.le_trans (Nat.mul_le_mul_left _ kb) (by omega)) (by omega) (by omega) hsz fun H1 cX c1 z1 o1 _ hf => ?_
        rw [kt] at c1 hf
        obtain rfl : cX = dA kd := Option.some.inj (hf.symm.trans (at_cls hK k2))
        refine W.cs (cells' := h.2.1 + 1 - z0) (slots' := h.2.2.1 + n.toNat - t0) (by omega) (by omega) ?_
        have hV1 : va_S (fun q => h.2.2.2.1 ≤ q) s.heap H1 locs := ⟨by rw [z1, ← hsz]; exact Nat.le_trans hV.1 (Nat.le_succ _), fun u h1 h2 => (o1 u (by rw [← hsz]; exact Nat.lt_of_lt_of_le h1 hV.1)).trans (hV.2.1 u h1 h2), hV.2.2⟩
        refine k H1 locs ls hL (hS.tail.cons (v := .inr (.inr (some h.2.1))) trivial) (hH.push (n := n.toNat) (e1 := eA kd n.toNat (fun _ => 0)) ⟨by omega, ko.2⟩ ?_ (by rw [z1, hsz]) (by rw [hsz]; exact o1)) hV1
        show H1[h.2.1]? = some (vp_cell (dA kd) (n.toNat, cA kd (fun _ => 0)))
        rw [nwA k2]
        exact c1
      · cases hs
    · cases hs
  · cases hs
theorem sm_newq {x : Nat} (hx : cx s0 D dA p s m meth c y) (hB : ∀ w ∈ lw_tbl, w.before a0 s0 = true) (hz : z0 ≤ h.2.1 ∧ t0 ≤ h.2.2.1) (hR : h'.2.1 - z0 ≤ R.cells ∧ h'.2.2.1 - t0 ≤ R.slots) (hd : tb y pc = some (.anewarray x, 3)) (hs : s_newq y x pc L S h = some (pc', L', S', h')) (k : SW p l e R s m args below meth c Q D dA z0 t0 pc' L' S' h') : SW p l e R s m args below meth c Q D dA z0 t0 pc L S h := by
  obtain ⟨hx1, hb, hml, hown, hy, -, -, -, hC, hK⟩ := hx
  have hdg := dcd hy hd
  intro H locs ls hL hS hH hV
  unfold s_newq at hs
  split at hs
  · rename_i n S2
    split at hs
    · rename_i ci hci
      split at hs
      · rename_i hn
        cases hs
        obtain ⟨rfl, hn⟩ := hn
        obtain ⟨q, p1, p2, p3, hq, w1, w2, w3, hlen⟩ := tC_ok hci
        cases hq
        have hsz := hH.1
        have hri : r32 n := hS.head
        have ecl := clN hri hn.1
        have e1 : (hnew h (eQ (3 + 0) n.toNat (fun _ => none)) n.toNat).2.1 = h.2.1 + 1 := rfl
        have e2 : (hnew h (eQ (3 + 0) n.toNat (fun _ => none)) n.toNat).2.2.1 = h.2.2.1 + n.toNat := rfl
        rw [e1, e2] at hR
        have hn0 : ¬ Int32.ofInt n < 0 := fun q => by
          have := (lt32 hri r0).mp q
          omega
        refine W.anew hx1 hb hown (wd hB hC w1 rfl) (va_AO.use (wdO hB hC ao_node)) rfl hdg rfl hn0 (by rw [ecl]; omega) (by omega) (by rw [ecl]; omega) fun cX kA comp f1 f2 f3 f4 => ?_
        rw [ecl]
        generalize hH1 : H.push ({ cls := cX, slots := Array.replicate n.toNat .null, vm := .none } : Cell) = H1
        have z1 : H1.size = H.size + 1 := by rw [← hH1, Array.size_push]
        have c1 : H1[H.size]? = some (arrV cX n.toNat (fun _ => .null)) := by rw [← hH1, Array.getElem?_push_size, ← arrV_new]
        have o1 : ∀ q : Nat, q < H.size → H1[q]? = H[q]? := fun q hq => by rw [← hH1, Array.getElem?_push, if_neg (Nat.ne_of_lt hq)]
        obtain ⟨kA2, comp2, k1, k2, k3, k4⟩ := (hK.2 3 _ rfl).2
        obtain rfl : cX = dA 3 := Option.some.inj (f1.symm.trans k4)
        refine W.cs (cells' := h.2.1 + 1 - z0) (slots' := h.2.2.1 + n.toNat - t0) (by omega) (by omega) ?_
        have hV1 : va_S (fun q => h.2.2.2.1 ≤ q) s.heap H1 locs := ⟨by rw [z1]; exact Nat.le_trans hV.1 (Nat.le_succ _), fun u h1 h2 => (o1 u (Nat.lt_of_lt_of_le h1 hV.1)).trans (hV.2.1 u h1 h2), hV.2.2⟩
        rw [hsz]
        refine k H1 locs ls hL (hS.tail.cons (v := .inr (.inr (some h.2.1))) trivial) (hH.push (n := n.toNat) (e1 := eQ (3 + 0) n.toNat (fun _ => none)) ⟨by omega, rfl⟩ ?_ z1 o1) hV1
        show H1[h.2.1]? = some (vp_cell (dA 3) (n.toNat, .inr (.inr (.inr (.inr (fun _ => none))))))
        rw [vp_cell_q, ← hsz]
        exact c1
      · cases hs
    · cases hs
  · cases hs
end SimC
end
section
/-! From AM to the true machine, 5: the library's steps. -/
theorem max32 {x z : Int} (hx : r32 x) (hz : r32 z) : (if Int32.ofInt x < Int32.ofInt z then Int32.ofInt z else Int32.ofInt x) = Int32.ofInt (if x ≤ z then z else x) := by
  by_cases h1 : x < z
  · rw [if_pos ((lt32 hx hz).mpr h1), if_pos (by omega)]
  · rw [if_neg (fun q => h1 ((lt32 hx hz).mp q))]
    by_cases h2 : x = z
    · subst h2; rw [if_pos (by omega)]
    · rw [if_neg (by omega)]
theorem ok_max {x z : Int} (hx : r32 x) (hz : r32 z) : r32 (if x ≤ z then z else x) := by
  split <;> assumption
theorem ok_min {x z : Int} (hx : r32 x) (hz : r32 z) : r32 (if x ≤ z then x else z) := by
  split <;> assumption
section SimD
variable {s0 : State} {a0 : Array Value} {p : Program} {l : Launch} {e : Env} {R : Room} {s : State} {m : MethodId} {args : Array Value} {below : List Frame} {meth : Method} {c : Code} {Q : State → Prop} {D : va_G} {dA : Nat → ClassId} {z0 t0 : Nat}
variable {y : AY} {pc pc' len : Nat} {L S L' S' : List AV} {h h' : AH}
theorem sm_blt {i : Jvm.ClassFile.Instr} (hx : cx s0 D dA p s m meth c y) (hB : ∀ w ∈ lw_tbl, w.before a0 s0 = true) (hl : L.length = y.2.2.2.1) (hR : 1 ≤ R.frames ∧ 56 ≤ R.locals) (hR2 : h.2.1 - z0 ≤ R.cells ∧ h.2.2.1 - t0 ≤ R.slots) (hd : tb y pc = some (i, len)) (hs : blt y i len S h = some (S', h')) (k : SW p l e R s m args below meth c Q D dA z0 t0 (pc + 3) L S' h') : SW p l e R s m args below meth c Q D dA z0 t0 pc L S h := by
  obtain ⟨hx1, hb, hml, hown, hy, -, -, -, hC, hK⟩ := hx
  have hdg := dcd hy hd
  intro H locs ls hL hS hH hV
  have hsz : ls.size = c.maxLocals := by rw [hL.1.1, hl, hml]
  unfold blt at hs
  split at hs
  · rename_i x
    split at hs
    · rename_i hb0
      split at hs
      · rename_i a S2
        split at hs
        · rename_i hw
          cases hs
          have hw2 := wt_cv hS.tail
          rcases tB_ok hb0 with ⟨-, q, hq⟩ | ⟨h1, -⟩ | ⟨h1, -⟩ | ⟨h1, -⟩
          · refine W.objInit hx1 hb hown (wd hB hC hq rfl) (wd hB hC wp_oi rfl) (wd hB hC wp_oc rfl) (g := F0 m pc ls (cv (aR a) :: S'.map cv)) rfl hsz rfl hdg hR.1 (by show 2 * 0 + ((S'.map cv).map fun v => v.category).sum + 12 ≤ R.locals; rw [hw2]; omega) ?_
            exact k H locs ls hL hS.tail hH hV
          · exact absurd h1 (by decide)
          · exact absurd h1 (by decide)
          · exact absurd h1 (by decide)
        · cases hs
      · cases hs
    · cases hs
  · rename_i x
    split at hs
    · rename_i hb0
      split at hs
      · rename_i z u S2
        split at hs
        · rename_i hw
          cases hs
          have hw2 := wt_cv hS.tail.tail
          rcases tB_ok hb0 with ⟨h1, -⟩ | ⟨-, q, hq⟩ | ⟨h1, -⟩ | ⟨h1, -⟩
          · exact absurd h1 (by decide)
          · refine va_mmax hx1 hb hsz.symm hown (wd hB hC hq rfl) (wd hB hC wp_maxs rfl) (wd hB hC wp_mi rfl) (wd hB hC wp_maxc rfl) hR.1 (by rw [hw2]; omega) hR2.1 hR2.2 (x := Int32.ofInt u) (y := Int32.ofInt z) hdg ?_
            rw [max32 hS.tail.head hS.head]
            exact k H locs ls hL (hS.tail.tail.cons (v := .inl _) (ok_max hS.tail.head hS.head)) hH hV
          · exact absurd h1 (by decide)
          · exact absurd h1 (by decide)
        · cases hs
      · cases hs
    · rename_i hb0
      split at hs
      · rename_i z u S2
        split at hs
        · rename_i hw
          cases hs
          have hw2 := wt_cv hS.tail.tail
          rcases tB_ok hb0 with ⟨h1, -⟩ | ⟨h1, -⟩ | ⟨-, q, hq⟩ | ⟨h1, -⟩
          · exact absurd h1 (by decide)
          · exact absurd h1 (by decide)
          · refine va_mmin hx1 hb hsz.symm hown (wd hB hC hq rfl) (wd hB hC wp_mins rfl) (wd hB hC wp_mi rfl) (wd hB hC wp_minc rfl) hR.1 (by rw [hw2]; omega) hR2.1 hR2.2 (x := Int32.ofInt u) (y := Int32.ofInt z) hdg ?_
            have kk := k H locs ls hL (hS.tail.tail.cons (v := .inl _) (ok_min hS.tail.head hS.head)) hH hV
            have hu : r32 u := hS.tail.head
            have hz : r32 z := hS.head
            by_cases h2 : u ≤ z
            · rw [if_pos h2] at kk
              first
                | (rw [if_pos ((le32 hu hz).mpr h2)]; exact kk)
                | (by_cases h3 : z < u
                   · omega
                   · rw [if_neg (fun q => h3 ((lt32 hz hu).mp q))]; exact kk)
            · rw [if_neg h2] at kk
              first
                | (rw [if_neg (fun q => h2 ((le32 hu hz).mp q))]; exact kk)
                | (rw [if_pos ((lt32 hz hu).mpr (by omega))]; exact kk)
          · exact absurd h1 (by decide)
        · cases hs
      · cases hs
    · rename_i hb0
      split at hs
      · rename_i n dp b sp a S2
        split at hs
        · rename_i n0 f hca
          split at hs
          · rename_i n1 g hcb
            split at hs
            · rename_i hg
              cases hs
              obtain ⟨hw, hba, hbb, hne, h1, h2, h3, h4, h5⟩ := hg
              have hw2 := wt_cv hS.tail.tail.tail.tail.tail
              have hrn : r32 n := hS.head
              have hrd : r32 dp := hS.tail.head
              have hrs : r32 sp := hS.tail.tail.tail.head
              obtain ⟨hoa, hata, -⟩ := hH.2.2 a _ hca
              obtain ⟨hob, hatb, -⟩ := hH.2.2 b _ hcb
              have nneg : ∀ {z : Int}, r32 z → 0 ≤ z → ¬ Int32.ofInt z < 0 := fun hz h0 q => by
                have := (lt32 hz r0).mp q
                omega
              have es := clN hrs h1
              have ed := clN hrd h2
              have en := clN hrn h3
              have hc0 : H[a]? = some (vp_cell (dA 1) (n0, .inl (fun j => Int32.ofInt (f j)))) := hata hba
              have hc1 : H[b]? = some (vp_cell (dA 1) (n1, .inl (fun j => Int32.ofInt (g j)))) := hatb hbb
              rcases tB_ok hb0 with ⟨h9, -⟩ | ⟨h9, -⟩ | ⟨h9, -⟩ | ⟨-, q, hq⟩
              · exact absurd h9 (by decide)
              · exact absurd h9 (by decide)
              · exact absurd h9 (by decide)
              · intro T hT X
                obtain ⟨-, k0, hk0, cm0, hkk0⟩ := (hK.2 1 _ rfl).1 n0 (fun j => .int (Int32.ofInt (f j)))
                obtain ⟨-, k1, hk1, cm1, hkk1⟩ := (hK.2 1 _ rfl).1 n1 (fun j => .int (Int32.ofInt (g j)))
                have hrf : ∀ j, r8 (f j) := by
                  rcases hoa.2 with h9 | h9 | h9
                  · exact absurd h9.1 (by decide)
                  · exact h9.2
                  · exact absurd h9.1 (by decide)
                have hrg : ∀ j, r8 (g j) := by
                  rcases hob.2 with h9 | h9 | h9
                  · exact absurd h9.1 (by decide)
                  · exact h9.2
                  · exact absurd h9.1 (by decide)
                have hnf : nativeFrameWords "java/lang/System" "arraycopy" 5 ≤ 37 := by decide
                obtain ⟨vm', X', step⟩ := X.arraycopy hx1 hown (wd hB hC hq rfl) (wd hB hC wp_an rfl) (wd hB hC wp_as rfl) (wd hB hC wp_ai rfl) (src := a) (dst := b) (cs := vp_cell (dA 1) (n0, .inl (fun j => Int32.ofInt (f j)))) (cd := vp_cell (dA 1) (n1, .inl (fun j => Int32.ofInt (g j)))) (srcPos := Int32.ofInt sp) (destPos := Int32.ofInt dp) (n := Int32.ofInt n) (by rw [hT]; exact hc0) (by rw [hT]; exact hc1)
                  (fun _ h => by cases h) (fun _ h => by cases h) (fun h => by cases h) (fun h => by cases h) hk0 hk1 hkk0 hkk1 rfl (nneg hrs h1) (nneg hrd h2) (nneg hrn h3)
                  (by rw [toI hrs, toI hrn]; show ¬ _ > ((arrV (dA 1) n0 (fun j => .int (Int32.ofInt (f j)))).slots.size : Int); rw [arrV_size]; omega)
                  (by rw [toI hrd, toI hrn]; show ¬ _ > ((arrV (dA 1) n1 (fun j => .int (Int32.ofInt (g j)))).slots.size : Int); rw [arrV_size]; omega)
                  (fun vm₁ _ i hi => by
                    rw [en] at hi
                    rw [es]
                    have e9 : (vp_cell (dA 1) (n0, .inl (fun j => Int32.ofInt (f j)))).slots.getD (sp.toNat + i) .null = .int (Int32.ofInt (f (sp.toNat + i))) := by
                      show (arrV (dA 1) n0 (fun j => .int (Int32.ofInt (f j)))).slots.getD _ _ = _
                      rw [Array.getD_eq_getD_getElem?, arrV_read _ _ (by omega)]
                      rfl
                    refine ⟨?_, ?_⟩
                    · rw [e9]
                      have h8 := hrf (sp.toNat + i)
                      have e8 : Int32.ofInt (f (sp.toNat + i)) = (Int32.ofInt (f (sp.toNat + i))).toInt8.toInt32 := by rw [← o8, a8_id h8.1 h8.2]
                      rw [e8]
                      exact pk_fb _
                    · rw [e9]
                      exact trivial)
                  (g := F0 m pc ls (cv (aI n) :: cv (aI dp) :: cv (aR b) :: cv (aI sp) :: cv (aR a) :: S'.map cv)) rfl hsz (rest := S'.map cv) rfl (by rw [hb]; exact hdg) hR.1 (by show 2 * 0 + ((S'.map cv).map fun v => v.category).sum + (nativeFrameWords "java/lang/System" "arraycopy" 5 + 11) ≤ R.locals; rw [hw2]; omega)
                have e1 : copied (vp_cell (dA 1) (n0, .inl (fun j => Int32.ofInt (f j)))) (vp_cell (dA 1) (n1, .inl (fun j => Int32.ofInt (g j)))) (Int32.ofInt sp) (Int32.ofInt dp) (Int32.ofInt n) = vp_cell (dA 1) (n1, .inl (fun j => Int32.ofInt (va_cpy f g sp.toNat dp.toNat n.toNat j))) := by
                  have e0 : copied (vp_cell (dA 1) (n0, .inl (fun j => Int32.ofInt (f j)))) (vp_cell (dA 1) (n1, .inl (fun j => Int32.ofInt (g j)))) (Int32.ofInt sp) (Int32.ofInt dp) (Int32.ofInt n) = vp_cell (dA 1) (n1, .inl (va_cpy (fun j => Int32.ofInt (f j)) (fun j => Int32.ofInt (g j)) (Int32.ofInt sp).toNatClampNeg (Int32.ofInt dp).toNatClampNeg (Int32.ofInt n).toNatClampNeg)) := va_copied (fun z => .int z) (dA 1) (dA 1) (fun j => Int32.ofInt (f j)) (fun j => Int32.ofInt (g j)) (by rw [es, en]; omega)
                  rw [e0, es, ed, en]
                  rw [vp_cell_i, vp_cell_i]
                  congr 1
                  funext j
                  unfold va_cpy
                  split <;> rfl
                rw [e1] at X' step
                have hlb : b < H.size := (Array.getElem?_eq_some_iff.mp hc1).1
                generalize hcell : vp_cell (dA 1) (n1, .inl (fun j => Int32.ofInt (va_cpy f g sp.toNat dp.toNat n.toNat j))) = cell1 at X' step
                have oq : ∀ q : Nat, q ≠ b → (H.setIfInBounds b cell1)[q]? = H[q]? := fun q hq => by simp [Array.getElem?_setIfInBounds, Ne.symm hq]
                have okb : okE (eA 1 n1 (va_cpy f g sp.toNat dp.toNat n.toNat)) := ⟨hob.1, Or.inr (Or.inl ⟨rfl, fun j => by
                  unfold va_cpy
                  split
                  · exact hrf _
                  · exact hrg _⟩)⟩
                have hH1 := hH.set (H1 := H.setIfInBounds b cell1) hbb okb (by
                  show (H.setIfInBounds b cell1)[b]? = some (vp_cell (dA 1) (n1, .inl (fun j => Int32.ofInt (va_cpy f g sp.toNat dp.toNat n.toNat j))))
                  rw [hcell]
                  simp [Array.getElem?_setIfInBounds, hlb]) (by simp) oq
                obtain ⟨t, a1, b1⟩ := k (H.setIfInBounds b cell1) _ ls hL hS.tail.tail.tail.tail.tail hH1 ⟨by simp; exact hV.1, fun q g1 g2 => by
                    rw [oq q (fun e => g2 (by rw [e]; exact hbb))]
                    exact hV.2.1 q g1 g2, fun q hq => by
                    rcases List.mem_append.mp hq with h | h
                    · exact hV.2.2 q h
                    · obtain ⟨z, -, hz⟩ := List.mem_map.mp h
                      rw [← hz]
                      exact hbb⟩ _ (by rw [← hT]; rfl) X'
                exact ⟨t, step t a1, b1⟩
            · cases hs
          · cases hs
        · cases hs
      · cases hs
    · cases hs
  · cases hs
end SimD
end
section
/-! From AM to the true machine, 6: contracts that may end by a throw; a call by such a contract. -/
def MetX (l : Launch) (x : MethodName) (w : Jvm.Cond) (rm : Room) (Pc : Array Value → State → Prop) (Qc : State → Outcome → State → Prop) (free : Addr → Prop) : Prop :=
  MetFree l x (headSpec [w] rm) Pc (fun _ _ _ _ _ => True) (fun _ st o t => Qc st o t ∧ st.WarmedH t.vm ∧ ∃ L, st.sameButNew ({ t with vm := st.vm } : State) L rm.cells rm.slots ∧ ∀ q ∈ L, free q.base)
/-- the state behind a call: the caller's, with the callee's heap and tables -/
def bk (T t : State) : State := (({ T with heap := t.heap, slotsUsed := t.slotsUsed } : State).setVm t.vm)
theorem bk_heap (T t : State) : (bk T t).heap = t.heap := rfl
theorem bk_vm (T t : State) : (bk T t).vm = t.vm := rfl
section Call
variable {p : Program} {l : Launch} {e : Env} {R : Room} {s : State} {m : MethodId} {args : Array Value} {below : List Frame} {meth : Method} {c : Code} {T : State} {locs : List Loc} {cells slots : Nat}
theorem callX {x : MethodName} {w : Jvm.Cond} {rm : Room} {Pc : Array Value → State → Prop} {Qc : State → Outcome → State → Prop} {free : Addr → Prop} {maxL len : Nat} {mk : MethodId} {a : Array Value} {g : JFrame} {ig : Instr} {methY : Method} {cY : Code}
    (hM : MetX l x w rm Pc Qc free) (X : Stand p l e R s m args below meth c T locs cells slots) (hg : g.method = m) (hsize : g.locals.size = c.maxLocals) (hdg : decode c.code g.pc = .ok (ig, len)) (hW : 2 * g.monitorRoom + (g.stack.map fun v => v.category).sum ≤ 8)
    (hn : T.methodNamed? x = some mk) (hmY : T.vm.method? mk = some methY) (hcY : methY.code = some cY) (hlY : cY.maxLocals = maxL) (hw : w.before a T = true) (hini : (Cond.initialized x.cls).before a T = true)
    (hframes : rm.frames + 1 ≤ R.frames) (hlocals : 8 + (maxL + 11) + rm.locals ≤ R.locals) (hcells : cells + rm.cells ≤ R.cells) (hslots : slots + rm.slots ≤ R.slots) (hPc : Pc a (T.calling g mk a)) :
    ∃ (o : Outcome) (t : State) (L : List Loc), Qc (T.calling g mk a) o t ∧ (∀ q ∈ L, free q.base) ∧ Stand p l e R s m args below meth c (bk T t) (locs ++ L) (cells + rm.cells) (slots + rm.slots) ∧
      match o with
      | .returned v => Steps p.tables e below (doInvoke e (T.setTop g) [] mk a).1 ((bk T t).setTop { g with pc := g.pc + len, stack := v.toList ++ g.stack })
      | .threw z => Steps p.tables e below (doInvoke e (T.setTop g) [] mk a).1 (((bk T t).setTop g).pushFrame (.throwing z)) := by
  obtain ⟨kY, hkY, -⟩ := className_of_methodNamed hn
  have hinitY : kY.init = .initialized := Cond.initialized_spec (findClass_of_methodNamed hn) hkY hini
  have h : At T g.method c below := by rw [hg]; exact X.here
  have happ : (headSpec [w] rm).appliesLoose x e.platform (T.calling g mk a) = true :=
    Spec.appliesLoose_calling (g := g) h hdg hn hkY hinitY (X.room_calling (g := g) (R' := rm) hsize hmY hcY hframes (by rw [hlY]; omega) hcells hslots) (atoms_intro (ws := [w]) fun u hu => by rw [List.mem_singleton.mp hu]; exact hw)
  obtain ⟨mid, hmid⟩ := h.above
  have hfr : (T.setTop g).frames = (.java g :: mid) ++ below := by rw [State.frames_setTop' g h.top, hmid]; rfl
  obtain ⟨o, s₂, hsteps, -, hend, hq⟩ := Steps.callFree hM p X.admits X.cas X.clock (acts := []) hfr happ hPc trivial
  have hq : Qc (T.calling g mk a) o s₂ ∧ (T.calling g mk a).WarmedH s₂.vm ∧ ∃ L, (T.calling g mk a).sameButNew ({ s₂ with vm := (T.calling g mk a).vm } : State) L rm.cells rm.slots ∧ ∀ q ∈ L, free q.base := hq
  obtain ⟨hQ, hW₂, L, ⟨e2, q2, q3, q4, q5, q6⟩, hL⟩ := hq
  rw [State.frames_setTop' g h.top] at hend
  have e3 : s₂ = ({ (T.calling g mk a).setFrames s₂.frames with heap := s₂.heap, slotsUsed := s₂.slotsUsed } : State).setVm s₂.vm := by
    have h0 : s₂ = ({ s₂ with vm := (T.calling g mk a).vm } : State).setVm s₂.vm := rfl
    rw [e2] at h0
    exact h0
  have hW' : T.WarmedH s₂.vm := hW₂
  obtain ⟨g₀, hg0⟩ := Option.isSome_iff_exists.mp h.top
  obtain ⟨r, hr⟩ := State.topJava?_eq_some.mp hg0
  have hr' : (bk T s₂).frames = .java g₀ :: r := hr
  have hsame : T.sameButNew ({ T with heap := s₂.heap, slotsUsed := s₂.slotsUsed } : State) L rm.cells rm.slots := by
    refine ⟨?_, q2, q3, q4, q5, q6⟩
    obtain ⟨t, ht, -⟩ := State.frames_cons hr
    show ({ T with heap := s₂.heap, slotsUsed := s₂.slotsUsed } : State) = { T.setFrames T.frames with heap := s₂.heap, slotsUsed := s₂.slotsUsed }
    rw [State.setFrames_self ht]
  refine ⟨o, s₂, L, hQ, hL, ⟨X.admits, X.cas, X.clock, X.frames, X.room, X.hears, X.method, X.code, (X.here.setHeapUsed s₂.heap s₂.slotsUsed).setVm hW'.alike, X.tail, State.WarmedH.trans X.warmed hW', X.limits, X.bytes, X.same.trans (hsame.setVm s.vm)⟩, ?_⟩
  subst hg
  cases o with
  | returned v =>
    obtain ⟨c₂, i₂, len₂, hc₂, hd₂, hf₂⟩ := hend
    have hcc : c₂ = c := by
      have h1 : s₂.code? g.method = T.code? g.method := by rw [State.code?_eq, State.code?_eq, hW'.alike.method?]
      exact Option.some.inj (hc₂.symm.trans (h1.trans h.code))
    subst hcc
    have hlen : len₂ = len := by rw [hdg] at hd₂; cases hd₂; rfl
    subst hlen
    have hs₂ : s₂ = (bk T s₂).setTop { g with pc := g.pc + len₂, stack := v.toList ++ g.stack } := by
      refine e3.trans ?_
      rw [hf₂, State.calling_eq h.top, State.setFrames_setFrames, State.setTop_of_frames _ hr', hr]
      rfl
    show Steps p.tables e below _ ((bk T s₂).setTop { g with pc := g.pc + len₂, stack := v.toList ++ g.stack })
    rw [← hs₂]
    exact hsteps
  | threw z =>
    have hf₂ : s₂.frames = .throwing z :: .java g :: T.frames.tail := hend
    have hs₂ : s₂ = ((bk T s₂).setTop g).pushFrame (.throwing z) := by
      refine e3.trans ?_
      rw [hf₂, State.calling_eq h.top, State.setFrames_setFrames, State.pushFrame, State.frames_setTop _ hr', State.setTop_of_frames _ hr', State.setFrames_setFrames, hr]
      rfl
    show Steps p.tables e below _ (((bk T s₂).setTop g).pushFrame (.throwing z))
    rw [← hs₂]
    exact hsteps
/-- the three ways in: from the calling instruction to the callee's first step -/
theorem inV (X : Stand p l e R s m args below meth c T locs cells slots) (hexec : p.tables.exec = Jvm.exec) {own : String} {index : Nat} {x : MethodName} (hown : s.vm.findClass own = some m.cls) (hlink : (Cond.methodLink own index x).before args s = true) (hinst : (Cond.instanceMethod x).before args s = true) (hsel : (Cond.selects x.cls x x).before args s = true) (hx : x.cls ≠ "java/lang/invoke/MethodHandle" ∧ x.cls ≠ "java/lang/invoke/VarHandle") {n : Nat} (hpn : (parseMethodDescriptor x.desc).map (fun d => d.parameters.length) = some n)
    {b : Addr} {cellB : Cell} (hcell : T.heap[b]? = some cellB) (hobj : cellB.vm.isStatics = false) (hcls : s.vm.findClass x.cls = some cellB.cls) {g : JFrame} (hg : g.method = m) {As rest : List Value} (hlen : As.length = n) (hstack : g.stack = As.reverse ++ .ref b :: rest) (hdg : decode c.code g.pc = .ok (.invokevirtual index, 3)) (hdesc : ∀ meth2 mk2, s.methodNamed? x = some mk2 → s.vm.method? mk2 = some meth2 → parseMethodDescriptor x.desc = some meth2.sig) :
    ∃ (vm₁ : Vm) (mk : MethodId), s.WarmedH vm₁ ∧ Stand p l e R s m args below meth c (T.setVm vm₁) locs cells slots ∧ (T.setVm vm₁).methodNamed? x = some mk ∧ ∀ target, Steps p.tables e below (doInvoke e ((T.setVm vm₁).setTop { g with stack := rest }) [] mk (Value.ref b :: As).toArray).1 target → Steps p.tables e below (T.setTop g) target := by
  obtain ⟨mk, methM, hnamed, hmethM, hstM, habM⟩ := Cond.instanceMethod_spec hinst
  have hsigM := hdesc methM mk hnamed hmethM
  obtain ⟨c2, r2, m2, q1, q2, q3, q4, kP, hkP, hkPi⟩ := Cond.selects_spec hsel
  cases hcls.symm.trans q1
  cases (State.methodFound?_of_named hnamed hx).symm.trans q2
  cases hnamed.symm.trans q3
  have hselP : selectMethod e.platform s.vm cellB.cls mk = .method mk := by rw [Launch.admits_selectMethod X.admits]; exact q4
  have hl2 : As.length = methM.sig.parameters.length := by
    rw [hsigM] at hpn
    rw [hlen]
    exact (Option.some.inj hpn).symm
  obtain ⟨vm₁, X₁, hstep₁⟩ := X.invokevirtual hexec hown hlink hnamed hmethM hstM hkP hkPi hx (a := b) (cell := cellB) hcell (fun z h => by rw [h] at hobj; cases hobj) hselP hmethM habM hkP hkPi (g := g) hg (argsL := As) (rest := rest) hl2 hstack hdg
  exact ⟨vm₁, mk, X₁.warmed, X₁, X₁.named hnamed, fun target h => hstep₁ _ fun acts => by rw [doInvoke_state]; exact h⟩
theorem inS (X : Stand p l e R s m args below meth c T locs cells slots) (hexec : p.tables.exec = Jvm.exec) {own : String} {index : Nat} {x : MethodName} (hown : s.vm.findClass own = some m.cls) (hlink : (Cond.methodLink own index x).before args s = true) (hstat : (Cond.static x).before args s = true) (hinit : (Cond.initialized x.cls).before args s = true) (hx : x.cls ≠ "java/lang/invoke/MethodHandle" ∧ x.cls ≠ "java/lang/invoke/VarHandle") {n : Nat} (hpn : (parseMethodDescriptor x.desc).map (fun d => d.parameters.length) = some n)
    {mk : MethodId} {methM : Method} (hnamed : s.methodNamed? x = some mk) (hmethM : s.vm.method? mk = some methM) (hsigM : parseMethodDescriptor x.desc = some methM.sig) {g : JFrame} (hg : g.method = m) {As rest : List Value} (hlen : As.length = n) (hstack : g.stack = As.reverse ++ rest) (hdg : decode c.code g.pc = .ok (.invokestatic index, 3)) :
    ∃ (vm₁ : Vm), s.WarmedH vm₁ ∧ Stand p l e R s m args below meth c (T.setVm vm₁) locs cells slots ∧ (T.setVm vm₁).methodNamed? x = some mk ∧ ∀ target, Steps p.tables e below (doInvoke e ((T.setVm vm₁).setTop { g with stack := rest }) [] mk As.toArray).1 target → Steps p.tables e below (T.setTop g) target := by
  have hstatic : methM.isStatic = true := Cond.static_spec hnamed hmethM hstat
  obtain ⟨kP, hkP, -⟩ := className_of_methodNamed hnamed
  have hinitP : kP.init = .initialized := Cond.initialized_spec (findClass_of_methodNamed hnamed) hkP hinit
  have hl2 : As.length = methM.sig.parameters.length := by
    rw [hsigM] at hpn
    rw [hlen]
    exact (Option.some.inj hpn).symm
  obtain ⟨vm₁, X₁, hstep₁⟩ := X.invokestatic hexec hown hlink hnamed hmethM hstatic hkP hinitP hx (g := g) hg (argsL := As) (rest := rest) hl2 hstack hdg
  exact ⟨vm₁, X₁.warmed, X₁, X₁.named hnamed, fun target h => hstep₁ _ fun acts => by rw [doInvoke_state]; exact h⟩
theorem inI (X : Stand p l e R s m args below meth c T locs cells slots) (hexec : p.tables.exec = Jvm.exec) {own host : String} {index : Nat} {x : MethodName} {bytes : ByteArray} {maxL : Nat} (hown : s.vm.findClass own = some m.cls) (hx1 : x.name = "<init>") (hlink : (Cond.methodLink own index x).before args s = true ∨ (Cond.methodLinkNest own index x host).before args s = true) (hinst : (Cond.instanceMethod x).before args s = true) (hcode : (Cond.code x bytes maxL none).before args s = true) (hx : x.cls ≠ "java/lang/invoke/MethodHandle" ∧ x.cls ≠ "java/lang/invoke/VarHandle") {n : Nat} (hpn : (parseMethodDescriptor x.desc).map (fun d => d.parameters.length) = some n)
    {g : JFrame} (hg : g.method = m) {a : Addr} {As rest : List Value} (hlen : As.length = n) (hstack : g.stack = As.reverse ++ .ref a :: rest) (hdg : decode c.code g.pc = .ok (.invokespecial index, 3)) :
    ∃ (vm₁ : Vm) (mk : MethodId), s.WarmedH vm₁ ∧ Stand p l e R s m args below meth c (T.setVm vm₁) locs cells slots ∧ (T.setVm vm₁).methodNamed? x = some mk ∧ ∀ target, Steps p.tables e below (doInvoke e ((T.setVm vm₁).setTop { g with stack := rest }) [] mk (Value.ref a :: As).toArray).1 target → Steps p.tables e below (T.setTop g) target := by
  subst hg
  have hpl : e.platform.magicAccessors = ({} : Platform).magicAccessors := by rw [X.admits.platform]
  have hl2 : ∀ sig, parseMethodDescriptor x.desc = some sig → As.length = sig.parameters.length := fun sig h => by
    rw [h] at hpn
    rw [hlen]
    exact (Option.some.inj hpn).symm
  rcases hlink with hlink | hlink
  · obtain ⟨mk, methM, cM, kP, vm₁, hnamed, hmethM, hcodeM, -, hlocalsM, -, hkP, -, hW₁, hstep₁⟩ := Steps.initColdArgs (e := e) X.here hexec X.warmed hpl hown hx1 hx hlink hinst hcode (f := g) rfl hl2 hstack hdg
    have X₁ := X.noted hW₁
    exact ⟨vm₁, mk, X₁.warmed, X₁, X₁.named hnamed, fun target h => hstep₁ _ fun acts => by rw [doInvoke_state]; exact h⟩
  · obtain ⟨mk, methM, cM, kP, vm₁, hnamed, hmethM, hcodeM, -, hlocalsM, -, hkP, -, hW₁, hstep₁⟩ := Steps.initColdArgsNest (e := e) X.here hexec X.warmed hpl hown hx1 hx hlink hinst hcode (f := g) rfl hl2 hstack hdg
    have X₁ := X.noted hW₁
    exact ⟨vm₁, mk, X₁.warmed, X₁, X₁.named hnamed, fun target h => hstep₁ _ fun acts => by rw [doInvoke_state]; exact h⟩
end Call
end
section
/-! Facts of the tables, 4 (written by wip/gen/thr.py): the places where an exception is made; the methods that catch. -/
def exN (k : Nat) : String := match k with
  | 0 => "java/lang/IllegalArgumentException"
  | 1 => "java/lang/IllegalStateException"
  | _ => "java/lang/UnsupportedOperationException"
def exUp : List String := ["java/lang/RuntimeException", "java/lang/Exception"]
def exU1 : Jvm.Cond := .isRef (.static Bundle.tN "UNASSIGNED_STACK" Bundle.steD)
def exU2 : Jvm.Cond := .isRef (.static Bundle.tN "SUPPRESSED_SENTINEL" Bundle.listD)
def ownA (X : String) : List Jvm.Cond := Bundle.throwableAtoms ++ Bundle.throwableSAtoms ++ Bundle.chainSAtoms X exUp
def ownT (X : String) : List Jvm.Cond := ownA X ++ ((Bundle.ownAtoms "TarYard" 0 X exUp).drop (ownA X).length).tail
theorem exA0 : ∀ a ∈ ownT "java/lang/IllegalArgumentException", a = exU1 ∨ a = exU2 ∨ a ∈ lw_tbl := by decide +kernel
theorem exO0 : ∀ a ∈ ownT "java/lang/IllegalArgumentException", a.onTables = true ∨ a = exU1 ∨ a = exU2 ∨ a = .laysStatic Bundle.tN "UNASSIGNED_STACK" Bundle.steD ∨ a = .laysStatic Bundle.tN "SUPPRESSED_SENTINEL" Bundle.listD := by decide +kernel
theorem exI0 : lw_tbl[60]? = some (.initialized "java/lang/IllegalArgumentException") := by decide +kernel
theorem exA1 : ∀ a ∈ ownT "java/lang/IllegalStateException", a = exU1 ∨ a = exU2 ∨ a ∈ lw_tbl := by decide +kernel
theorem exO1 : ∀ a ∈ ownT "java/lang/IllegalStateException", a.onTables = true ∨ a = exU1 ∨ a = exU2 ∨ a = .laysStatic Bundle.tN "UNASSIGNED_STACK" Bundle.steD ∨ a = .laysStatic Bundle.tN "SUPPRESSED_SENTINEL" Bundle.listD := by decide +kernel
theorem exI1 : lw_tbl[64]? = some (.initialized "java/lang/IllegalStateException") := by decide +kernel
theorem exA2 : ∀ a ∈ ownT "java/lang/UnsupportedOperationException", a = exU1 ∨ a = exU2 ∨ a ∈ lw_tbl := by decide +kernel
theorem exO2 : ∀ a ∈ ownT "java/lang/UnsupportedOperationException", a.onTables = true ∨ a = exU1 ∨ a = exU2 ∨ a = .laysStatic Bundle.tN "UNASSIGNED_STACK" Bundle.steD ∨ a = .laysStatic Bundle.tN "SUPPRESSED_SENTINEL" Bundle.listD := by decide +kernel
theorem exI2 : lw_tbl[65]? = some (.initialized "java/lang/UnsupportedOperationException") := by decide +kernel
theorem ex_cls : ∀ y ∈ allY, y.1 < 67 ∨ 84 < y.1 ∨ (y.2.1 = 7 ∧ (mf y).1 ≠ 4) := by decide +kernel
def thP (id pc k : Nat) : Prop := 67 ≤ id ∧ id ≤ 84 ∧ k ≤ 2 ∧ ∃ (ia ib ic : Nat) (tx : String) (p1 p2 p3 : Nat), decode (btl.getD id ⟨#[]⟩) pc = .ok (.new ia, 3) ∧ decode (btl.getD id ⟨#[]⟩) (pc + 3) = .ok (.dup, 1) ∧ decode (btl.getD id ⟨#[]⟩) (pc + 4) = .ok (.ldc ib, 2) ∧ decode (btl.getD id ⟨#[]⟩) (pc + 6) = .ok (.invokespecial ic, 3) ∧ decode (btl.getD id ⟨#[]⟩) (pc + 9) = .ok (.athrow, 1) ∧ lw_tbl[p1]? = some (.classLink "TarYard" ia (exN k)) ∧ lw_tbl[p2]? = some (.stringRef "TarYard" ib tx) ∧ lw_tbl[p3]? = some (.methodLink "TarYard" ic (Bundle.initS (exN k)))
theorem th_67_28 : thP 67 28 0 := ⟨by decide, by decide, by decide, 53, 191, 57, "no such byte at hand, or no byte", 481, 776, 523, by decide +kernel, by decide +kernel, by decide +kernel, by decide +kernel, by decide +kernel, by decide +kernel, by decide +kernel, by decide +kernel⟩
theorem th_68_15 : thP 68 15 0 := ⟨by decide, by decide, by decide, 53, 197, 57, "there is no such whole block", 481, 785, 523, by decide +kernel, by decide +kernel, by decide +kernel, by decide +kernel, by decide +kernel, by decide +kernel, by decide +kernel, by decide +kernel⟩
theorem th_69_16 : thP 69 16 0 := ⟨by decide, by decide, by decide, 53, 136, 57, "only a file has contents", 481, 615, 523, by decide +kernel, by decide +kernel, by decide +kernel, by decide +kernel, by decide +kernel, by decide +kernel, by decide +kernel, by decide +kernel⟩
theorem th_69_48 : thP 69 48 0 := ⟨by decide, by decide, by decide, 53, 138, 57, "a length is 0 to 2000, a seed 0 to 255", 481, 616, 523, by decide +kernel, by decide +kernel, by decide +kernel, by decide +kernel, by decide +kernel, by decide +kernel, by decide +kernel, by decide +kernel⟩
theorem th_70_25 : thP 70 25 0 := ⟨by decide, by decide, by decide, 53, 121, 57, "neither a file nor a symbolic link", 481, 603, 523, by decide +kernel, by decide +kernel, by decide +kernel, by decide +kernel, by decide +kernel, by decide +kernel, by decide +kernel, by decide +kernel⟩
theorem th_70_47 : thP 70 47 0 := ⟨by decide, by decide, by decide, 53, 123, 57, "0 to 8 bytes are added", 481, 604, 523, by decide +kernel, by decide +kernel, by decide +kernel, by decide +kernel, by decide +kernel, by decide +kernel, by decide +kernel, by decide +kernel⟩
theorem th_70_94 : thP 70 94 0 := ⟨by decide, by decide, by decide, 53, 129, 57, "a target has characters 33 to 126", 481, 606, 523, by decide +kernel, by decide +kernel, by decide +kernel, by decide +kernel, by decide +kernel, by decide +kernel, by decide +kernel, by decide +kernel⟩
theorem th_70_135 : thP 70 135 1 := ⟨by decide, by decide, by decide, 84, 134, 88, "it would be too long", 562, 607, 572, by decide +kernel, by decide +kernel, by decide +kernel, by decide +kernel, by decide +kernel, by decide +kernel, by decide +kernel, by decide +kernel⟩
theorem th_72_11 : thP 72 11 0 := ⟨by decide, by decide, by decide, 53, 216, 57, "there is no such node", 481, 591, 523, by decide +kernel, by decide +kernel, by decide +kernel, by decide +kernel, by decide +kernel, by decide +kernel, by decide +kernel, by decide +kernel⟩
theorem th_73_9 : thP 73 9 0 := ⟨by decide, by decide, by decide, 53, 55, 57, "there is no such kind", 481, 522, 523, by decide +kernel, by decide +kernel, by decide +kernel, by decide +kernel, by decide +kernel, by decide +kernel, by decide +kernel, by decide +kernel⟩
theorem th_73_31 : thP 73 31 0 := ⟨by decide, by decide, by decide, 53, 64, 57, "a node lies in a directory", 481, 549, 523, by decide +kernel, by decide +kernel, by decide +kernel, by decide +kernel, by decide +kernel, by decide +kernel, by decide +kernel, by decide +kernel⟩
theorem th_73_54 : thP 73 54 0 := ⟨by decide, by decide, by decide, 53, 66, 57, "a name is made with 1 to 8 characters", 481, 550, 523, by decide +kernel, by decide +kernel, by decide +kernel, by decide +kernel, by decide +kernel, by decide +kernel, by decide +kernel, by decide +kernel⟩
theorem th_73_105 : thP 73 105 0 := ⟨by decide, by decide, by decide, 53, 79, 57, "a hard link stands for a file", 481, 561, 523, by decide +kernel, by decide +kernel, by decide +kernel, by decide +kernel, by decide +kernel, by decide +kernel, by decide +kernel, by decide +kernel⟩
theorem th_73_127 : thP 73 127 1 := ⟨by decide, by decide, by decide, 84, 86, 88, "there are 30 nodes", 562, 571, 572, by decide +kernel, by decide +kernel, by decide +kernel, by decide +kernel, by decide +kernel, by decide +kernel, by decide +kernel, by decide +kernel⟩
theorem th_74_98 : thP 74 98 0 := ⟨by decide, by decide, by decide, 53, 207, 57, "a node tells 0 to 7", 481, 802, 523, by decide +kernel, by decide +kernel, by decide +kernel, by decide +kernel, by decide +kernel, by decide +kernel, by decide +kernel, by decide +kernel⟩
theorem th_75_16 : thP 75 16 0 := ⟨by decide, by decide, by decide, 53, 209, 57, "a node has parts 0 and 1", 481, 810, 523, by decide +kernel, by decide +kernel, by decide +kernel, by decide +kernel, by decide +kernel, by decide +kernel, by decide +kernel, by decide +kernel⟩
theorem th_78_18 : thP 78 18 0 := ⟨by decide, by decide, by decide, 53, 225, 57, "that is no name", 481, 558, 523, by decide +kernel, by decide +kernel, by decide +kernel, by decide +kernel, by decide +kernel, by decide +kernel, by decide +kernel, by decide +kernel⟩
theorem th_78_52 : thP 78 52 0 := ⟨by decide, by decide, by decide, 53, 231, 57, "that name is there", 481, 560, 523, by decide +kernel, by decide +kernel, by decide +kernel, by decide +kernel, by decide +kernel, by decide +kernel, by decide +kernel, by decide +kernel⟩
theorem th_79_15 : thP 79 15 0 := ⟨by decide, by decide, by decide, 53, 160, 57, "no such node, or the root", 481, 634, 523, by decide +kernel, by decide +kernel, by decide +kernel, by decide +kernel, by decide +kernel, by decide +kernel, by decide +kernel, by decide +kernel⟩
theorem th_80_11 : thP 80 11 0 := ⟨by decide, by decide, by decide, 53, 97, 57, "the root has no name", 481, 592, 523, by decide +kernel, by decide +kernel, by decide +kernel, by decide +kernel, by decide +kernel, by decide +kernel, by decide +kernel, by decide +kernel⟩
theorem th_80_34 : thP 80 34 0 := ⟨by decide, by decide, by decide, 53, 99, 57, "a name gets 1 to 8 characters more", 481, 593, 523, by decide +kernel, by decide +kernel, by decide +kernel, by decide +kernel, by decide +kernel, by decide +kernel, by decide +kernel, by decide +kernel⟩
theorem th_80_96 : thP 80 96 1 := ⟨by decide, by decide, by decide, 84, 116, 88, "a name has at most 100 characters", 562, 595, 572, by decide +kernel, by decide +kernel, by decide +kernel, by decide +kernel, by decide +kernel, by decide +kernel, by decide +kernel, by decide +kernel⟩
theorem th_81_33 : thP 81 33 0 := ⟨by decide, by decide, by decide, 53, 145, 57, "no such mode, owner or time", 481, 626, 523, by decide +kernel, by decide +kernel, by decide +kernel, by decide +kernel, by decide +kernel, by decide +kernel, by decide +kernel, by decide +kernel⟩
theorem th_82_11 : thP 82 11 0 := ⟨by decide, by decide, by decide, 53, 202, 57, "0 to 10240 bytes are at hand", 481, 794, 523, by decide +kernel, by decide +kernel, by decide +kernel, by decide +kernel, by decide +kernel, by decide +kernel, by decide +kernel, by decide +kernel⟩
theorem th_83_55 : thP 83 55 0 := ⟨by decide, by decide, by decide, 53, 214, 57, "there are totals 0 to 2", 481, 823, 523, by decide +kernel, by decide +kernel, by decide +kernel, by decide +kernel, by decide +kernel, by decide +kernel, by decide +kernel, by decide +kernel⟩
theorem th_84_17 : thP 84 17 2 := ⟨by decide, by decide, by decide, 170, 172, 174, "a path or the whole tree is too long", 695, 704, 705, by decide +kernel, by decide +kernel, by decide +kernel, by decide +kernel, by decide +kernel, by decide +kernel, by decide +kernel, by decide +kernel⟩
theorem tX_all : ∀ e ∈ tXl, thP (e.1 / 1000) (e.1 % 1000) e.2 := List.forall_mem_cons.mpr ⟨th_67_28, List.forall_mem_cons.mpr ⟨th_68_15, List.forall_mem_cons.mpr ⟨th_69_16, List.forall_mem_cons.mpr ⟨th_69_48, List.forall_mem_cons.mpr ⟨th_70_25, List.forall_mem_cons.mpr ⟨th_70_47, List.forall_mem_cons.mpr ⟨th_70_94, List.forall_mem_cons.mpr ⟨th_70_135, List.forall_mem_cons.mpr ⟨th_72_11, List.forall_mem_cons.mpr ⟨th_73_9, List.forall_mem_cons.mpr ⟨th_73_31, List.forall_mem_cons.mpr ⟨th_73_54, List.forall_mem_cons.mpr ⟨th_73_105, List.forall_mem_cons.mpr ⟨th_73_127, List.forall_mem_cons.mpr ⟨th_74_98, List.forall_mem_cons.mpr ⟨th_75_16, List.forall_mem_cons.mpr ⟨th_78_18, List.forall_mem_cons.mpr ⟨th_78_52, List.forall_mem_cons.mpr ⟨th_79_15, List.forall_mem_cons.mpr ⟨th_80_11, List.forall_mem_cons.mpr ⟨th_80_34, List.forall_mem_cons.mpr ⟨th_80_96, List.forall_mem_cons.mpr ⟨th_81_33, List.forall_mem_cons.mpr ⟨th_82_11, List.forall_mem_cons.mpr ⟨th_83_55, List.forall_mem_cons.mpr ⟨th_84_17, fun _ h => absurd h List.not_mem_nil⟩⟩⟩⟩⟩⟩⟩⟩⟩⟩⟩⟩⟩⟩⟩⟩⟩⟩⟩⟩⟩⟩⟩⟩⟩⟩
theorem tX_ok {id pc k : Nat} (h : tX id pc = some k) : thP id pc k := by
  unfold tX at h
  split at h
  · rename_i hp
    have h1 := tX_all _ (lookup_mem h)
    have e1 : (1000 * id + pc) / 1000 = id := by omega
    have e2 : (1000 * id + pc) % 1000 = pc := by omega
    simp only [e1, e2] at h1
    exact h1
  · cases h
def hk (ct : Nat) : Nat := match ct with
  | 13 => 0
  | 15 => 1
  | _ => 2
def hdT : List (Nat × List (Nat × Nat × Nat × Nat)) := [(132, [(0, 10, 13, 13)]), (133, [(0, 9, 12, 13)]), (134, [(0, 7, 10, 13)]), (135, [(0, 13, 16, 13), (0, 13, 20, 15)]), (137, [(0, 16, 19, 13), (0, 16, 23, 15)]), (138, [(0, 10, 13, 13)]), (139, [(0, 12, 15, 13)]), (140, [(0, 9, 12, 13)]), (141, [(0, 13, 16, 13), (0, 13, 20, 15)]), (142, [(0, 9, 12, 13)]), (143, [(0, 5, 8, 13)]), (144, [(0, 9, 12, 13)]), (145, [(0, 8, 11, 40)])]
def hdl (i : Nat) : List (Nat × Nat × Nat × Nat) := (hdT.lookup i).getD []
def isInv (i : Jvm.ClassFile.Instr) : Bool := match i with
  | .invokevirtual _ => true
  | .invokespecial _ => true
  | .invokestatic _ => true
  | _ => false
theorem hkL_13 : lw_tbl[475]? = some (.classLink "TarYardLaw" 13 (exN (hk 13))) := by decide +kernel
theorem hkL_15 : lw_tbl[476]? = some (.classLink "TarYardLaw" 15 (exN (hk 15))) := by decide +kernel
theorem hkL_40 : lw_tbl[655]? = some (.classLink "TarYardLaw" 40 (exN (hk 40))) := by decide +kernel
def hwP (y : AY) : Prop := ((mf y).1 = 4 → y.2.1 = 9 ∧ lw_tbl[(mf y).2.1]? = some (.codeWith (nm y) (bt y) y.2.2.2.1 y.2.2.2.2.1 (hdl y.1)) ∧ (∀ q ∈ hdl y.1, q.1 = 0 ∧ (q.2.2.2 = 13 ∨ q.2.2.2 = 15 ∨ q.2.2.2 = 40)) ∧ (∀ q ∈ y.2.2.1.flatten, isInv q.2.1 = true → ∀ z ∈ hdl y.1, q.1 < z.2.1) ∧ ∀ k, k < 3 → tH y.1 k = ((hdl y.1).find? (fun q => hk q.2.2.2 == k)).map (fun q => q.2.2.1)) ∧ ((mf y).1 ≠ 4 → ∀ k, k < 3 → tH y.1 k = none)
theorem hw_0 : hwP yNd_init := ⟨fun h => absurd h (by decide), fun _ => by decide⟩
theorem hw_1 : hwP yNd_begin := ⟨fun h => absurd h (by decide), fun _ => by decide⟩
theorem hw_2 : hwP yNd_contentsLength := ⟨fun h => absurd h (by decide), fun _ => by decide⟩
theorem hw_3 : hwP yRd_init := ⟨fun h => absurd h (by decide), fun _ => by decide⟩
theorem hw_4 : hwP yRd_addText := ⟨fun h => absurd h (by decide), fun _ => by decide⟩
theorem hw_5 : hwP yRd_faultOfContents := ⟨fun h => absurd h (by decide), fun _ => by decide⟩
theorem hw_6 : hwP yRd_faultOfEntry := ⟨fun h => absurd h (by decide), fun _ => by decide⟩
theorem hw_7 : hwP yRd_isMarked := ⟨fun h => absurd h (by decide), fun _ => by decide⟩
theorem hw_8 : hwP yRd_takeEntry := ⟨fun h => absurd h (by decide), fun _ => by decide⟩
theorem hw_9 : hwP yRd_takeKind := ⟨fun h => absurd h (by decide), fun _ => by decide⟩
theorem hw_10 : hwP yRd_takeNumbers := ⟨fun h => absurd h (by decide), fun _ => by decide⟩
theorem hw_11 : hwP yRd_takePath := ⟨fun h => absurd h (by decide), fun _ => by decide⟩
theorem hw_12 : hwP yRd_takeTarget := ⟨fun h => absurd h (by decide), fun _ => by decide⟩
theorem hw_13 : hwP yRd_takeTree := ⟨fun h => absurd h (by decide), fun _ => by decide⟩
theorem hw_14 : hwP yRw_init := ⟨fun h => absurd h (by decide), fun _ => by decide⟩
theorem hw_15 : hwP yRw_addLetters := ⟨fun h => absurd h (by decide), fun _ => by decide⟩
theorem hw_16 : hwP yRw_at := ⟨fun h => absurd h (by decide), fun _ => by decide⟩
theorem hw_17 : hwP yRw_copySlice := ⟨fun h => absurd h (by decide), fun _ => by decide⟩
theorem hw_18 : hwP yRw_isNameOfAnyLength := ⟨fun h => absurd h (by decide), fun _ => by decide⟩
theorem hw_19 : hwP yRw_isSlice := ⟨fun h => absurd h (by decide), fun _ => by decide⟩
theorem hw_20 : hwP yRw_isTarget := ⟨fun h => absurd h (by decide), fun _ => by decide⟩
theorem hw_21 : hwP yRw_lastSlash := ⟨fun h => absurd h (by decide), fun _ => by decide⟩
theorem hw_22 : hwP yRw_order := ⟨fun h => absurd h (by decide), fun _ => by decide⟩
theorem hw_23 : hwP yRw_put := ⟨fun h => absurd h (by decide), fun _ => by decide⟩
theorem hw_24 : hwP yRw_putAll := ⟨fun h => absurd h (by decide), fun _ => by decide⟩
theorem hw_25 : hwP yRw_resize := ⟨fun h => absurd h (by decide), fun _ => by decide⟩
theorem hw_26 : hwP yTp_init := ⟨fun h => absurd h (by decide), fun _ => by decide⟩
theorem hw_27 : hwP yTp_blocksOf := ⟨fun h => absurd h (by decide), fun _ => by decide⟩
theorem hw_28 : hwP yTp_hasCheck := ⟨fun h => absurd h (by decide), fun _ => by decide⟩
theorem hw_29 : hwP yTp_hasMark := ⟨fun h => absurd h (by decide), fun _ => by decide⟩
theorem hw_30 : hwP yTp_isBlockOfZeros := ⟨fun h => absurd h (by decide), fun _ => by decide⟩
theorem hw_31 : hwP yTp_isZeros := ⟨fun h => absurd h (by decide), fun _ => by decide⟩
theorem hw_32 : hwP yTp_octal := ⟨fun h => absurd h (by decide), fun _ => by decide⟩
theorem hw_33 : hwP yTp_putCheck := ⟨fun h => absurd h (by decide), fun _ => by decide⟩
theorem hw_34 : hwP yTp_putMark := ⟨fun h => absurd h (by decide), fun _ => by decide⟩
theorem hw_35 : hwP yTp_putOctal := ⟨fun h => absurd h (by decide), fun _ => by decide⟩
theorem hw_36 : hwP yTp_sum := ⟨fun h => absurd h (by decide), fun _ => by decide⟩
theorem hw_37 : hwP yTp_wholeBlocks := ⟨fun h => absurd h (by decide), fun _ => by decide⟩
theorem hw_38 : hwP yTr_init := ⟨fun h => absurd h (by decide), fun _ => by decide⟩
theorem hw_39 : hwP yTr_add := ⟨fun h => absurd h (by decide), fun _ => by decide⟩
theorem hw_40 : hwP yTr_childNamed := ⟨fun h => absurd h (by decide), fun _ => by decide⟩
theorem hw_41 : hwP yTr_clear := ⟨fun h => absurd h (by decide), fun _ => by decide⟩
theorem hw_42 : hwP yTr_closeGaps := ⟨fun h => absurd h (by decide), fun _ => by decide⟩
theorem hw_43 : hwP yTr_comesBehind := ⟨fun h => absurd h (by decide), fun _ => by decide⟩
theorem hw_44 : hwP yTr_drop := ⟨fun h => absurd h (by decide), fun _ => by decide⟩
theorem hw_45 : hwP yTr_follower := ⟨fun h => absurd h (by decide), fun _ => by decide⟩
theorem hw_46 : hwP yTr_has := ⟨fun h => absurd h (by decide), fun _ => by decide⟩
theorem hw_47 : hwP yTr_isGone := ⟨fun h => absurd h (by decide), fun _ => by decide⟩
theorem hw_48 : hwP yTr_isOfKind := ⟨fun h => absurd h (by decide), fun _ => by decide⟩
theorem hw_49 : hwP yTr_longestPath := ⟨fun h => absurd h (by decide), fun _ => by decide⟩
theorem hw_50 : hwP yTr_lookUp := ⟨fun h => absurd h (by decide), fun _ => by decide⟩
theorem hw_51 : hwP yTr_newNumber := ⟨fun h => absurd h (by decide), fun _ => by decide⟩
theorem hw_52 : hwP yTr_nextChild := ⟨fun h => absurd h (by decide), fun _ => by decide⟩
theorem hw_53 : hwP yTr_pathLength := ⟨fun h => absurd h (by decide), fun _ => by decide⟩
theorem hw_54 : hwP yTr_spellPath := ⟨fun h => absurd h (by decide), fun _ => by decide⟩
theorem hw_55 : hwP yTt_kindOf := ⟨fun h => absurd h (by decide), fun _ => by decide⟩
theorem hw_56 : hwP yTt_typeOf := ⟨fun h => absurd h (by decide), fun _ => by decide⟩
theorem hw_57 : hwP yWr_init := ⟨fun h => absurd h (by decide), fun _ => by decide⟩
theorem hw_58 : hwP yWr_blocksFor := ⟨fun h => absurd h (by decide), fun _ => by decide⟩
theorem hw_59 : hwP yWr_cutOfPath := ⟨fun h => absurd h (by decide), fun _ => by decide⟩
theorem hw_60 : hwP yWr_isTellable := ⟨fun h => absurd h (by decide), fun _ => by decide⟩
theorem hw_61 : hwP yWr_putContents := ⟨fun h => absurd h (by decide), fun _ => by decide⟩
theorem hw_62 : hwP yWr_putEntries := ⟨fun h => absurd h (by decide), fun _ => by decide⟩
theorem hw_63 : hwP yWr_putHeader := ⟨fun h => absurd h (by decide), fun _ => by decide⟩
theorem hw_64 : hwP yWr_putPath := ⟨fun h => absurd h (by decide), fun _ => by decide⟩
theorem hw_65 : hwP yWr_putTree := ⟨fun h => absurd h (by decide), fun _ => by decide⟩
theorem hw_66 : hwP yTY_init := ⟨fun h => absurd h (by decide), fun _ => by decide⟩
theorem hw_67 : hwP yTY_alter := ⟨fun h => absurd h (by decide), fun _ => by decide⟩
theorem hw_68 : hwP yTY_check := ⟨fun h => absurd h (by decide), fun _ => by decide⟩
theorem hw_69 : hwP yTY_contents := ⟨fun h => absurd h (by decide), fun _ => by decide⟩
theorem hw_70 : hwP yTY_fill := ⟨fun h => absurd h (by decide), fun _ => by decide⟩
theorem hw_71 : hwP yTY_hand := ⟨fun h => absurd h (by decide), fun _ => by decide⟩
theorem hw_72 : hwP yTY_known := ⟨fun h => absurd h (by decide), fun _ => by decide⟩
theorem hw_73 : hwP yTY_make := ⟨fun h => absurd h (by decide), fun _ => by decide⟩
theorem hw_74 : hwP yTY_node := ⟨fun h => absurd h (by decide), fun _ => by decide⟩
theorem hw_75 : hwP yTY_part := ⟨fun h => absurd h (by decide), fun _ => by decide⟩
theorem hw_76 : hwP yTY_place := ⟨fun h => absurd h (by decide), fun _ => by decide⟩
theorem hw_77 : hwP yTY_read := ⟨fun h => absurd h (by decide), fun _ => by decide⟩
theorem hw_78 : hwP yTY_refuseName := ⟨fun h => absurd h (by decide), fun _ => by decide⟩
theorem hw_79 : hwP yTY_remove := ⟨fun h => absurd h (by decide), fun _ => by decide⟩
theorem hw_80 : hwP yTY_rename := ⟨fun h => absurd h (by decide), fun _ => by decide⟩
theorem hw_81 : hwP yTY_set := ⟨fun h => absurd h (by decide), fun _ => by decide⟩
theorem hw_82 : hwP yTY_size := ⟨fun h => absurd h (by decide), fun _ => by decide⟩
theorem hw_83 : hwP yTY_total := ⟨fun h => absurd h (by decide), fun _ => by decide⟩
theorem hw_84 : hwP yTY_write := ⟨fun h => absurd h (by decide), fun _ => by decide⟩
theorem hw_85 : hwP yMd_init := ⟨fun h => absurd h (by decide), fun _ => by decide⟩
theorem hw_86 : hwP yMd_add := ⟨fun h => absurd h (by decide), fun _ => by decide⟩
theorem hw_87 : hwP yMd_alter := ⟨fun h => absurd h (by decide), fun _ => by decide⟩
theorem hw_88 : hwP yMd_arrange := ⟨fun h => absurd h (by decide), fun _ => by decide⟩
theorem hw_89 : hwP yMd_blocksOf := ⟨fun h => absurd h (by decide), fun _ => by decide⟩
theorem hw_90 : hwP yMd_check := ⟨fun h => absurd h (by decide), fun _ => by decide⟩
theorem hw_91 : hwP yMd_clear := ⟨fun h => absurd h (by decide), fun _ => by decide⟩
theorem hw_92 : hwP yMd_compare := ⟨fun h => absurd h (by decide), fun _ => by decide⟩
theorem hw_93 : hwP yMd_contents := ⟨fun h => absurd h (by decide), fun _ => by decide⟩
theorem hw_94 : hwP yMd_copyIn := ⟨fun h => absurd h (by decide), fun _ => by decide⟩
theorem hw_95 : hwP yMd_count := ⟨fun h => absurd h (by decide), fun _ => by decide⟩
theorem hw_96 : hwP yMd_cutOf := ⟨fun h => absurd h (by decide), fun _ => by decide⟩
theorem hw_97 : hwP yMd_entry := ⟨fun h => absurd h (by decide), fun _ => by decide⟩
theorem hw_98 : hwP yMd_fails := ⟨fun h => absurd h (by decide), fun _ => by decide⟩
theorem hw_99 : hwP yMd_fill := ⟨fun h => absurd h (by decide), fun _ => by decide⟩
theorem hw_100 : hwP yMd_find := ⟨fun h => absurd h (by decide), fun _ => by decide⟩
theorem hw_101 : hwP yMd_firstFault := ⟨fun h => absurd h (by decide), fun _ => by decide⟩
theorem hw_102 : hwP yMd_hand := ⟨fun h => absurd h (by decide), fun _ => by decide⟩
theorem hw_103 : hwP yMd_head := ⟨fun h => absurd h (by decide), fun _ => by decide⟩
theorem hw_104 : hwP yMd_isCalled := ⟨fun h => absurd h (by decide), fun _ => by decide⟩
theorem hw_105 : hwP yMd_isLetter := ⟨fun h => absurd h (by decide), fun _ => by decide⟩
theorem hw_106 : hwP yMd_isName := ⟨fun h => absurd h (by decide), fun _ => by decide⟩
theorem hw_107 : hwP yMd_isNode := ⟨fun h => absurd h (by decide), fun _ => by decide⟩
theorem hw_108 : hwP yMd_isZero := ⟨fun h => absurd h (by decide), fun _ => by decide⟩
theorem hw_109 : hwP yMd_make := ⟨fun h => absurd h (by decide), fun _ => by decide⟩
theorem hw_110 : hwP yMd_markOf := ⟨fun h => absurd h (by decide), fun _ => by decide⟩
theorem hw_111 : hwP yMd_move := ⟨fun h => absurd h (by decide), fun _ => by decide⟩
theorem hw_112 : hwP yMd_next := ⟨fun h => absurd h (by decide), fun _ => by decide⟩
theorem hw_113 : hwP yMd_node := ⟨fun h => absurd h (by decide), fun _ => by decide⟩
theorem hw_114 : hwP yMd_number := ⟨fun h => absurd h (by decide), fun _ => by decide⟩
theorem hw_115 : hwP yMd_octal := ⟨fun h => absurd h (by decide), fun _ => by decide⟩
theorem hw_116 : hwP yMd_part := ⟨fun h => absurd h (by decide), fun _ => by decide⟩
theorem hw_117 : hwP yMd_place := ⟨fun h => absurd h (by decide), fun _ => by decide⟩
theorem hw_118 : hwP yMd_read := ⟨fun h => absurd h (by decide), fun _ => by decide⟩
theorem hw_119 : hwP yMd_remove := ⟨fun h => absurd h (by decide), fun _ => by decide⟩
theorem hw_120 : hwP yMd_rename := ⟨fun h => absurd h (by decide), fun _ => by decide⟩
theorem hw_121 : hwP yMd_set := ⟨fun h => absurd h (by decide), fun _ => by decide⟩
theorem hw_122 : hwP yMd_size := ⟨fun h => absurd h (by decide), fun _ => by decide⟩
theorem hw_123 : hwP yMd_spell := ⟨fun h => absurd h (by decide), fun _ => by decide⟩
theorem hw_124 : hwP yMd_sum := ⟨fun h => absurd h (by decide), fun _ => by decide⟩
theorem hw_125 : hwP yMd_tell := ⟨fun h => absurd h (by decide), fun _ => by decide⟩
theorem hw_126 : hwP yMd_textOf := ⟨fun h => absurd h (by decide), fun _ => by decide⟩
theorem hw_127 : hwP yMd_thrown := ⟨fun h => absurd h (by decide), fun _ => by decide⟩
theorem hw_128 : hwP yMd_total := ⟨fun h => absurd h (by decide), fun _ => by decide⟩
theorem hw_129 : hwP yMd_walk := ⟨fun h => absurd h (by decide), fun _ => by decide⟩
theorem hw_130 : hwP yMd_within := ⟨fun h => absurd h (by decide), fun _ => by decide⟩
theorem hw_131 : hwP yMd_write := ⟨fun h => absurd h (by decide), fun _ => by decide⟩
theorem hw_132 : hwP yLw_alter := ⟨fun _ => ⟨rfl, by decide +kernel, by decide +kernel, by decide +kernel, by decide +kernel⟩, fun h => absurd (by decide) h⟩
theorem hw_133 : hwP yLw_check := ⟨fun _ => ⟨rfl, by decide +kernel, by decide +kernel, by decide +kernel, by decide +kernel⟩, fun h => absurd (by decide) h⟩
theorem hw_134 : hwP yLw_contents := ⟨fun _ => ⟨rfl, by decide +kernel, by decide +kernel, by decide +kernel, by decide +kernel⟩, fun h => absurd (by decide) h⟩
theorem hw_135 : hwP yLw_fill := ⟨fun _ => ⟨rfl, by decide +kernel, by decide +kernel, by decide +kernel, by decide +kernel⟩, fun h => absurd (by decide) h⟩
theorem hw_136 : hwP yLw_law := ⟨fun h => absurd h (by decide), fun _ => by decide⟩
theorem hw_137 : hwP yLw_make := ⟨fun _ => ⟨rfl, by decide +kernel, by decide +kernel, by decide +kernel, by decide +kernel⟩, fun h => absurd (by decide) h⟩
theorem hw_138 : hwP yLw_node := ⟨fun _ => ⟨rfl, by decide +kernel, by decide +kernel, by decide +kernel, by decide +kernel⟩, fun h => absurd (by decide) h⟩
theorem hw_139 : hwP yLw_part := ⟨fun _ => ⟨rfl, by decide +kernel, by decide +kernel, by decide +kernel, by decide +kernel⟩, fun h => absurd (by decide) h⟩
theorem hw_140 : hwP yLw_remove := ⟨fun _ => ⟨rfl, by decide +kernel, by decide +kernel, by decide +kernel, by decide +kernel⟩, fun h => absurd (by decide) h⟩
theorem hw_141 : hwP yLw_rename := ⟨fun _ => ⟨rfl, by decide +kernel, by decide +kernel, by decide +kernel, by decide +kernel⟩, fun h => absurd (by decide) h⟩
theorem hw_142 : hwP yLw_set := ⟨fun _ => ⟨rfl, by decide +kernel, by decide +kernel, by decide +kernel, by decide +kernel⟩, fun h => absurd (by decide) h⟩
theorem hw_143 : hwP yLw_size := ⟨fun _ => ⟨rfl, by decide +kernel, by decide +kernel, by decide +kernel, by decide +kernel⟩, fun h => absurd (by decide) h⟩
theorem hw_144 : hwP yLw_total := ⟨fun _ => ⟨rfl, by decide +kernel, by decide +kernel, by decide +kernel, by decide +kernel⟩, fun h => absurd (by decide) h⟩
theorem hw_145 : hwP yLw_write := ⟨fun _ => ⟨rfl, by decide +kernel, by decide +kernel, by decide +kernel, by decide +kernel⟩, fun h => absurd (by decide) h⟩
theorem hw_146 : hwP yAr_copyOf := ⟨fun h => absurd h (by decide), fun _ => by decide⟩
theorem hwq_0 : ∀ y ∈ [yNd_init, yNd_begin, yNd_contentsLength, yRd_init, yRd_addText, yRd_faultOfContents, yRd_faultOfEntry, yRd_isMarked, yRd_takeEntry, yRd_takeKind, yRd_takeNumbers, yRd_takePath, yRd_takeTarget, yRd_takeTree, yRw_init, yRw_addLetters, yRw_at, yRw_copySlice, yRw_isNameOfAnyLength, yRw_isSlice, yRw_isTarget], hwP y := List.forall_mem_cons.mpr ⟨hw_0, List.forall_mem_cons.mpr ⟨hw_1, List.forall_mem_cons.mpr ⟨hw_2, List.forall_mem_cons.mpr ⟨hw_3, List.forall_mem_cons.mpr ⟨hw_4, List.forall_mem_cons.mpr ⟨hw_5, List.forall_mem_cons.mpr ⟨hw_6, List.forall_mem_cons.mpr ⟨hw_7, List.forall_mem_cons.mpr ⟨hw_8, List.forall_mem_cons.mpr ⟨hw_9, List.forall_mem_cons.mpr ⟨hw_10, List.forall_mem_cons.mpr ⟨hw_11, List.forall_mem_cons.mpr ⟨hw_12, List.forall_mem_cons.mpr ⟨hw_13, List.forall_mem_cons.mpr ⟨hw_14, List.forall_mem_cons.mpr ⟨hw_15, List.forall_mem_cons.mpr ⟨hw_16, List.forall_mem_cons.mpr ⟨hw_17, List.forall_mem_cons.mpr ⟨hw_18, List.forall_mem_cons.mpr ⟨hw_19, List.forall_mem_cons.mpr ⟨hw_20, fun _ h => absurd h List.not_mem_nil⟩⟩⟩⟩⟩⟩⟩⟩⟩⟩⟩⟩⟩⟩⟩⟩⟩⟩⟩⟩⟩
theorem hwq_1 : ∀ y ∈ [yRw_lastSlash, yRw_order, yRw_put, yRw_putAll, yRw_resize, yTp_init, yTp_blocksOf, yTp_hasCheck, yTp_hasMark, yTp_isBlockOfZeros, yTp_isZeros, yTp_octal, yTp_putCheck, yTp_putMark, yTp_putOctal, yTp_sum, yTp_wholeBlocks, yTr_init, yTr_add, yTr_childNamed, yTr_clear], hwP y := List.forall_mem_cons.mpr ⟨hw_21, List.forall_mem_cons.mpr ⟨hw_22, List.forall_mem_cons.mpr ⟨hw_23, List.forall_mem_cons.mpr ⟨hw_24, List.forall_mem_cons.mpr ⟨hw_25, List.forall_mem_cons.mpr ⟨hw_26, List.forall_mem_cons.mpr ⟨hw_27, List.forall_mem_cons.mpr ⟨hw_28, List.forall_mem_cons.mpr ⟨hw_29, List.forall_mem_cons.mpr ⟨hw_30, List.forall_mem_cons.mpr ⟨hw_31, List.forall_mem_cons.mpr ⟨hw_32, List.forall_mem_cons.mpr ⟨hw_33, List.forall_mem_cons.mpr ⟨hw_34, List.forall_mem_cons.mpr ⟨hw_35, List.forall_mem_cons.mpr ⟨hw_36, List.forall_mem_cons.mpr ⟨hw_37, List.forall_mem_cons.mpr ⟨hw_38, List.forall_mem_cons.mpr ⟨hw_39, List.forall_mem_cons.mpr ⟨hw_40, List.forall_mem_cons.mpr ⟨hw_41, fun _ h => absurd h List.not_mem_nil⟩⟩⟩⟩⟩⟩⟩⟩⟩⟩⟩⟩⟩⟩⟩⟩⟩⟩⟩⟩⟩
theorem hwq_2 : ∀ y ∈ [yTr_closeGaps, yTr_comesBehind, yTr_drop, yTr_follower, yTr_has, yTr_isGone, yTr_isOfKind, yTr_longestPath, yTr_lookUp, yTr_newNumber, yTr_nextChild, yTr_pathLength, yTr_spellPath, yTt_kindOf, yTt_typeOf, yWr_init, yWr_blocksFor, yWr_cutOfPath, yWr_isTellable, yWr_putContents, yWr_putEntries], hwP y := List.forall_mem_cons.mpr ⟨hw_42, List.forall_mem_cons.mpr ⟨hw_43, List.forall_mem_cons.mpr ⟨hw_44, List.forall_mem_cons.mpr ⟨hw_45, List.forall_mem_cons.mpr ⟨hw_46, List.forall_mem_cons.mpr ⟨hw_47, List.forall_mem_cons.mpr ⟨hw_48, List.forall_mem_cons.mpr ⟨hw_49, List.forall_mem_cons.mpr ⟨hw_50, List.forall_mem_cons.mpr ⟨hw_51, List.forall_mem_cons.mpr ⟨hw_52, List.forall_mem_cons.mpr ⟨hw_53, List.forall_mem_cons.mpr ⟨hw_54, List.forall_mem_cons.mpr ⟨hw_55, List.forall_mem_cons.mpr ⟨hw_56, List.forall_mem_cons.mpr ⟨hw_57, List.forall_mem_cons.mpr ⟨hw_58, List.forall_mem_cons.mpr ⟨hw_59, List.forall_mem_cons.mpr ⟨hw_60, List.forall_mem_cons.mpr ⟨hw_61, List.forall_mem_cons.mpr ⟨hw_62, fun _ h => absurd h List.not_mem_nil⟩⟩⟩⟩⟩⟩⟩⟩⟩⟩⟩⟩⟩⟩⟩⟩⟩⟩⟩⟩⟩
theorem hwq_3 : ∀ y ∈ [yWr_putHeader, yWr_putPath, yWr_putTree, yTY_init, yTY_alter, yTY_check, yTY_contents, yTY_fill, yTY_hand, yTY_known, yTY_make, yTY_node, yTY_part, yTY_place, yTY_read, yTY_refuseName, yTY_remove, yTY_rename, yTY_set, yTY_size, yTY_total], hwP y := List.forall_mem_cons.mpr ⟨hw_63, List.forall_mem_cons.mpr ⟨hw_64, List.forall_mem_cons.mpr ⟨hw_65, List.forall_mem_cons.mpr ⟨hw_66, List.forall_mem_cons.mpr ⟨hw_67, List.forall_mem_cons.mpr ⟨hw_68, List.forall_mem_cons.mpr ⟨hw_69, List.forall_mem_cons.mpr ⟨hw_70, List.forall_mem_cons.mpr ⟨hw_71, List.forall_mem_cons.mpr ⟨hw_72, List.forall_mem_cons.mpr ⟨hw_73, List.forall_mem_cons.mpr ⟨hw_74, List.forall_mem_cons.mpr ⟨hw_75, List.forall_mem_cons.mpr ⟨hw_76, List.forall_mem_cons.mpr ⟨hw_77, List.forall_mem_cons.mpr ⟨hw_78, List.forall_mem_cons.mpr ⟨hw_79, List.forall_mem_cons.mpr ⟨hw_80, List.forall_mem_cons.mpr ⟨hw_81, List.forall_mem_cons.mpr ⟨hw_82, List.forall_mem_cons.mpr ⟨hw_83, fun _ h => absurd h List.not_mem_nil⟩⟩⟩⟩⟩⟩⟩⟩⟩⟩⟩⟩⟩⟩⟩⟩⟩⟩⟩⟩⟩
theorem hwq_4 : ∀ y ∈ [yTY_write, yMd_init, yMd_add, yMd_alter, yMd_arrange, yMd_blocksOf, yMd_check, yMd_clear, yMd_compare, yMd_contents, yMd_copyIn, yMd_count, yMd_cutOf, yMd_entry, yMd_fails, yMd_fill, yMd_find, yMd_firstFault, yMd_hand, yMd_head, yMd_isCalled], hwP y := List.forall_mem_cons.mpr ⟨hw_84, List.forall_mem_cons.mpr ⟨hw_85, List.forall_mem_cons.mpr ⟨hw_86, List.forall_mem_cons.mpr ⟨hw_87, List.forall_mem_cons.mpr ⟨hw_88, List.forall_mem_cons.mpr ⟨hw_89, List.forall_mem_cons.mpr ⟨hw_90, List.forall_mem_cons.mpr ⟨hw_91, List.forall_mem_cons.mpr ⟨hw_92, List.forall_mem_cons.mpr ⟨hw_93, List.forall_mem_cons.mpr ⟨hw_94, List.forall_mem_cons.mpr ⟨hw_95, List.forall_mem_cons.mpr ⟨hw_96, List.forall_mem_cons.mpr ⟨hw_97, List.forall_mem_cons.mpr ⟨hw_98, List.forall_mem_cons.mpr ⟨hw_99, List.forall_mem_cons.mpr ⟨hw_100, List.forall_mem_cons.mpr ⟨hw_101, List.forall_mem_cons.mpr ⟨hw_102, List.forall_mem_cons.mpr ⟨hw_103, List.forall_mem_cons.mpr ⟨hw_104, fun _ h => absurd h List.not_mem_nil⟩⟩⟩⟩⟩⟩⟩⟩⟩⟩⟩⟩⟩⟩⟩⟩⟩⟩⟩⟩⟩
theorem hwq_5 : ∀ y ∈ [yMd_isLetter, yMd_isName, yMd_isNode, yMd_isZero, yMd_make, yMd_markOf, yMd_move, yMd_next, yMd_node, yMd_number, yMd_octal, yMd_part, yMd_place, yMd_read, yMd_remove, yMd_rename, yMd_set, yMd_size, yMd_spell, yMd_sum, yMd_tell], hwP y := List.forall_mem_cons.mpr ⟨hw_105, List.forall_mem_cons.mpr ⟨hw_106, List.forall_mem_cons.mpr ⟨hw_107, List.forall_mem_cons.mpr ⟨hw_108, List.forall_mem_cons.mpr ⟨hw_109, List.forall_mem_cons.mpr ⟨hw_110, List.forall_mem_cons.mpr ⟨hw_111, List.forall_mem_cons.mpr ⟨hw_112, List.forall_mem_cons.mpr ⟨hw_113, List.forall_mem_cons.mpr ⟨hw_114, List.forall_mem_cons.mpr ⟨hw_115, List.forall_mem_cons.mpr ⟨hw_116, List.forall_mem_cons.mpr ⟨hw_117, List.forall_mem_cons.mpr ⟨hw_118, List.forall_mem_cons.mpr ⟨hw_119, List.forall_mem_cons.mpr ⟨hw_120, List.forall_mem_cons.mpr ⟨hw_121, List.forall_mem_cons.mpr ⟨hw_122, List.forall_mem_cons.mpr ⟨hw_123, List.forall_mem_cons.mpr ⟨hw_124, List.forall_mem_cons.mpr ⟨hw_125, fun _ h => absurd h List.not_mem_nil⟩⟩⟩⟩⟩⟩⟩⟩⟩⟩⟩⟩⟩⟩⟩⟩⟩⟩⟩⟩⟩
theorem hwq_6 : ∀ y ∈ [yMd_textOf, yMd_thrown, yMd_total, yMd_walk, yMd_within, yMd_write, yLw_alter, yLw_check, yLw_contents, yLw_fill, yLw_law, yLw_make, yLw_node, yLw_part, yLw_remove, yLw_rename, yLw_set, yLw_size, yLw_total, yLw_write, yAr_copyOf], hwP y := List.forall_mem_cons.mpr ⟨hw_126, List.forall_mem_cons.mpr ⟨hw_127, List.forall_mem_cons.mpr ⟨hw_128, List.forall_mem_cons.mpr ⟨hw_129, List.forall_mem_cons.mpr ⟨hw_130, List.forall_mem_cons.mpr ⟨hw_131, List.forall_mem_cons.mpr ⟨hw_132, List.forall_mem_cons.mpr ⟨hw_133, List.forall_mem_cons.mpr ⟨hw_134, List.forall_mem_cons.mpr ⟨hw_135, List.forall_mem_cons.mpr ⟨hw_136, List.forall_mem_cons.mpr ⟨hw_137, List.forall_mem_cons.mpr ⟨hw_138, List.forall_mem_cons.mpr ⟨hw_139, List.forall_mem_cons.mpr ⟨hw_140, List.forall_mem_cons.mpr ⟨hw_141, List.forall_mem_cons.mpr ⟨hw_142, List.forall_mem_cons.mpr ⟨hw_143, List.forall_mem_cons.mpr ⟨hw_144, List.forall_mem_cons.mpr ⟨hw_145, List.forall_mem_cons.mpr ⟨hw_146, fun _ h => absurd h List.not_mem_nil⟩⟩⟩⟩⟩⟩⟩⟩⟩⟩⟩⟩⟩⟩⟩⟩⟩⟩⟩⟩⟩
theorem hw_all : ∀ y ∈ allY, hwP y := by
  show ∀ y ∈ [yNd_init, yNd_begin, yNd_contentsLength, yRd_init, yRd_addText, yRd_faultOfContents, yRd_faultOfEntry, yRd_isMarked, yRd_takeEntry, yRd_takeKind, yRd_takeNumbers, yRd_takePath, yRd_takeTarget, yRd_takeTree, yRw_init, yRw_addLetters, yRw_at, yRw_copySlice, yRw_isNameOfAnyLength, yRw_isSlice, yRw_isTarget] ++ ([yRw_lastSlash, yRw_order, yRw_put, yRw_putAll, yRw_resize, yTp_init, yTp_blocksOf, yTp_hasCheck, yTp_hasMark, yTp_isBlockOfZeros, yTp_isZeros, yTp_octal, yTp_putCheck, yTp_putMark, yTp_putOctal, yTp_sum, yTp_wholeBlocks, yTr_init, yTr_add, yTr_childNamed, yTr_clear] ++ ([yTr_closeGaps, yTr_comesBehind, yTr_drop, yTr_follower, yTr_has, yTr_isGone, yTr_isOfKind, yTr_longestPath, yTr_lookUp, yTr_newNumber, yTr_nextChild, yTr_pathLength, yTr_spellPath, yTt_kindOf, yTt_typeOf, yWr_init, yWr_blocksFor, yWr_cutOfPath, yWr_isTellable, yWr_putContents, yWr_putEntries] ++ ([yWr_putHeader, yWr_putPath, yWr_putTree, yTY_init, yTY_alter, yTY_check, yTY_contents, yTY_fill, yTY_hand, yTY_known, yTY_make, yTY_node, yTY_part, yTY_place, yTY_read, yTY_refuseName, yTY_remove, yTY_rename, yTY_set, yTY_size, yTY_total] ++ ([yTY_write, yMd_init, yMd_add, yMd_alter, yMd_arrange, yMd_blocksOf, yMd_check, yMd_clear, yMd_compare, yMd_contents, yMd_copyIn, yMd_count, yMd_cutOf, yMd_entry, yMd_fails, yMd_fill, yMd_find, yMd_firstFault, yMd_hand, yMd_head, yMd_isCalled] ++ ([yMd_isLetter, yMd_isName, yMd_isNode, yMd_isZero, yMd_make, yMd_markOf, yMd_move, yMd_next, yMd_node, yMd_number, yMd_octal, yMd_part, yMd_place, yMd_read, yMd_remove, yMd_rename, yMd_set, yMd_size, yMd_spell, yMd_sum, yMd_tell] ++ ([yMd_textOf, yMd_thrown, yMd_total, yMd_walk, yMd_within, yMd_write, yLw_alter, yLw_check, yLw_contents, yLw_fill, yLw_law, yLw_make, yLw_node, yLw_part, yLw_remove, yLw_rename, yLw_set, yLw_size, yLw_total, yLw_write, yAr_copyOf])))))), hwP y
  exact List.forall_mem_append.mpr ⟨hwq_0, List.forall_mem_append.mpr ⟨hwq_1, List.forall_mem_append.mpr ⟨hwq_2, List.forall_mem_append.mpr ⟨hwq_3, List.forall_mem_append.mpr ⟨hwq_4, List.forall_mem_append.mpr ⟨hwq_5, hwq_6⟩⟩⟩⟩⟩⟩
end
section
/-! From AM to the true machine, 7: an exception is made and thrown. -/
theorem ls_keep {A A' : Array Value} {u U : State} {C n d : String} (hvm : U.vm = u.vm) (hq : ∀ q : Nat, q < u.heap.size → U.heap[q]? = u.heap[q]?) (h : (Cond.laysStatic C n d).before A u = true) : (Cond.laysStatic C n d).before A' U = true := by
  obtain ⟨c, k, i, f, a, cell, hc, hi, hst, ha, hcell, hs, hcls, hlt, hty⟩ := Cond.laysStatic_spec h
  have hff : U.fieldFound? C n d = u.fieldFound? C n d := by unfold State.fieldFound?; rw [hvm]
  have hcell' : U.heap[a]? = some cell := by rw [hq a (Array.getElem?_eq_some_iff.mp hcell).1]; exact hcell
  simp [Cond.before, Cond.holds, Cond.value, hvm, hff, hc, hi, ha, hcell', hst, hs, hcls, hlt, hty]
theorem sv_keep {A A' : Array Value} {u U : State} {C n d : String} {v : Value} (hvm : U.vm = u.vm) (hq : ∀ q : Nat, q < u.heap.size → U.heap[q]? = u.heap[q]?) (h : (Term.static C n d).eval A u none [] u = some v) : (Term.static C n d).eval A' U none [] U = some v := by
  have hff : U.fieldFound? C n d = u.fieldFound? C n d := by unfold State.fieldFound?; rw [hvm]
  have hfn : U.fieldNamed? C n d true = u.fieldNamed? C n d true := by unfold State.fieldNamed?; rw [hff]
  simp only [Term.eval, hfn] at h ⊢
  cases h1 : u.fieldNamed? C n d true with
  | none => rw [h1] at h; cases h
  | some r =>
    obtain ⟨c, k, sl⟩ := r
    rw [h1] at h
    cases h2 : k.statics with
    | none => simp [h2] at h
    | some a =>
      cases h3 : u.heap[a]? with
      | none => simp [h2, h3] at h
      | some cell =>
        have h4 : U.heap[a]? = some cell := by rw [hq a (Array.getElem?_eq_some_iff.mp h3).1]; exact h3
        simp only [h2, h3, h4, Option.bind_eq_bind, Option.bind_some] at h ⊢
        exact h
theorem sr_keep {A A' : Array Value} {u U : State} {C n d : String} (hvm : U.vm = u.vm) (hq : ∀ q : Nat, q < u.heap.size → U.heap[q]? = u.heap[q]?) (h : (Cond.isRef (.static C n d)).before A u = true) : (Cond.isRef (.static C n d)).before A' U = true := by
  cases hv : (Term.static C n d).eval A u none [] u with
  | none => simp [Cond.before, Cond.holds, Cond.value, hv] at h
  | some w =>
    simp only [Cond.before, Cond.holds, Cond.value, hv] at h ⊢
    rw [sv_keep (A' := A') hvm hq hv]
    exact h
theorem own_split {own : String} {ic : Nat} {X : String} {a : Jvm.Cond} (h : a ∈ Bundle.ownAtoms own ic X exUp) : a = .methodLink own ic (Bundle.initS X) ∨ a ∈ ownT X := by
  unfold Bundle.ownAtoms at h
  rcases List.mem_append.mp h with h | h
  · exact Or.inr (List.mem_append.mpr (Or.inl h))
  · rcases List.mem_cons.mp h with h | h
    · exact Or.inl h
    · refine Or.inr (List.mem_append.mpr (Or.inr ?_))
      unfold Bundle.ownAtoms
      rw [show ownA X = Bundle.throwableAtoms ++ Bundle.throwableSAtoms ++ Bundle.chainSAtoms X exUp from rfl, List.drop_left]
      exact h
theorem exA {k : Nat} (hk : k ≤ 2) : ∀ a ∈ ownT (exN k), (a = exU1 ∨ a = exU2 ∨ a ∈ lw_tbl) ∧ (a.onTables = true ∨ a = exU1 ∨ a = exU2 ∨ a = .laysStatic Bundle.tN "UNASSIGNED_STACK" Bundle.steD ∨ a = .laysStatic Bundle.tN "SUPPRESSED_SENTINEL" Bundle.listD) := by
  match k, hk with
  | 0, _ => exact fun a ha => ⟨exA0 a ha, exO0 a ha⟩
  | 1, _ => exact fun a ha => ⟨exA1 a ha, exO1 a ha⟩
  | 2, _ => exact fun a ha => ⟨exA2 a ha, exO2 a ha⟩
  | k + 3, h => exact absurd h (by omega)
theorem exI {k : Nat} (hk : k ≤ 2) : ∃ q : Nat, lw_tbl[q]? = some (.initialized (exN k)) := by
  match k, hk with
  | 0, _ => exact ⟨_, exI0⟩
  | 1, _ => exact ⟨_, exI1⟩
  | 2, _ => exact ⟨_, exI2⟩
  | k + 3, h => exact absurd h (by omega)
theorem exFit {k : Nat} (hk : k ≤ 2) : Bundle.fit (exN k) = true := by
  match k, hk with
  | 0, _ => decide +kernel
  | 1, _ => decide +kernel
  | 2, _ => decide +kernel
  | k + 3, h => exact absurd h (by omega)
/-- the words that a throw needs, at a state behind the law's start -/
theorem own_at {s0 s : State} {a0 args : Array Value} (hB : ∀ w ∈ lw_tbl, w.before a0 s0 = true) (hU1 : exU1.before a0 s0 = true) (hU2 : exU2.before a0 s0 = true) (hC : ct s0 s) {k ic p3 : Nat} (hk : k ≤ 2) (hm : lw_tbl[p3]? = some (.methodLink "TarYard" ic (Bundle.initS (exN k)))) : ∀ a ∈ Bundle.ownAtoms "TarYard" ic (exN k) exUp, a.before args s = true := by
  intro a ha
  have hf := Bundle.ownAtoms_keepsFace a ha
  rcases own_split ha with rfl | h
  · exact wd hB hC hm rfl
  · obtain ⟨h1, h2⟩ := exA hk a h
    have h0 : a.before a0 s0 = true := by
      rcases h1 with rfl | rfl | h
      · exact hU1
      · exact hU2
      · exact hB a h
    have h3 : a.before a0 (s0.setVm s.vm) = true := Cond.before_shiftedFace (State.Shifted.of_warmed hC.1) a hf h0
    rcases h2 with h2 | rfl | rfl | rfl | rfl
    · exact va_tabs (u := s0.setVm s.vm) h2 rfl h3
    · exact sr_keep (u := s0.setVm s.vm) rfl hC.2 h3
    · exact sr_keep (u := s0.setVm s.vm) rfl hC.2 h3
    · exact ls_keep (u := s0.setVm s.vm) rfl hC.2 h3
    · exact ls_keep (u := s0.setVm s.vm) rfl hC.2 h3
/-- the walk's start laid anew at where it stands -/
theorem st_rb {p : Program} {l : Launch} {e : Env} {R : Room} {s : State} {m : MethodId} {args : Array Value} {below : List Frame} {meth : Method} {c : Code} {T : State} {locs : List Loc} {cells slots n k : Nat} (X : Stand p l e R s m args below meth c T locs cells slots) (hc : cells + n ≤ R.cells) (hs : slots + k ≤ R.slots) :
    Stand p l e { R with cells := n, slots := k } (T.setFrames (.invoking m args :: below)) m args below meth c T [] 0 0 := by
  obtain ⟨g0, hfr⟩ := X.frames_eq
  have hcur := State.cur_lt_of_frames hfr
  have hF : (T.setFrames (.invoking m args :: below)).frames = .invoking m args :: below := State.frames_setFrames _ hcur
  have hm : (T.setFrames (.invoking m args :: below)).vm.method? m = some meth := X.method'
  have hroom : (T.setFrames (.invoking m args :: below)).hasRoom e.platform { R with cells := n, slots := k } = true := by
    obtain ⟨r1, r2, r3, r4⟩ := State.hasRoom_stack X.room
    have r5 := State.hasRoom_real X.room
    have h := X.room
    simp only [State.hasRoom, Bool.and_eq_true, decide_eq_true_eq] at h
    rw [State.localsInUse_invoking X.frames X.method X.code] at r3 r4 r5
    rw [X.frames, List.length_cons] at r1 r2
    have hU : (T.setFrames (.invoking m args :: below)).localsInUse = stackWeight below + vmFrameWords + (c.maxLocals + 11) := State.localsInUse_invoking hF hm X.code
    simp only [State.hasRoom, Bool.and_eq_true, decide_eq_true_eq, hF, hU, List.length_cons, State.stackLimits_setFrames, State.stackBytes_setFrames, X.limits, X.bytes]
    refine ⟨⟨⟨⟨by omega, by omega, by omega, by omega, by omega, h.1.1.1.2.2.2.2.2⟩, ?_⟩, ?_⟩, X.book⟩
    · have h1 := h.1.1.2
      have h2 := X.heapSize
      show T.heap.size + n ≤ e.platform.maxCells
      omega
    · have h1 := h.1.2
      have h2 := X.used
      show T.slotsUsed + k ≤ e.platform.maxSlots
      omega
  have hh : (T.setFrames (.invoking m args :: below)).hears m below = true := by
    have h := X.hears
    have h1 : ∀ z, (T.setFrames (.invoking m args :: below)).code? z = s.code? z := fun z => by
      rw [State.code?_eq, State.code?_eq]
      show (T.vm.method? z).bind _ = _
      rw [X.warmed.alike.method?]
    have h2 : (T.setFrames (.invoking m args :: below)).vm.method? m = s.vm.method? m := by
      show T.vm.method? m = _
      rw [X.warmed.alike.method?]
    cases hb : below with
    | nil => rw [hb] at h h2; simp only [State.hears] at h ⊢; rw [h2]; exact h
    | cons f r =>
      rw [hb] at h h1 h2
      cases f <;> simp only [State.hears] at h ⊢ <;> first | (rw [h1]; exact h) | (rw [h2]; exact h) | exact h
  obtain ⟨t, ht, -⟩ := State.frames_cons hfr
  obtain ⟨t', ht', -⟩ := State.frames_cons hF
  refine ⟨X.admits, X.cas, X.clock, hF, hroom, hh, hm, X.code, X.here, X.tail, State.WarmedH.refl _, by rw [State.stackLimits_setFrames], by rw [State.stackBytes_setFrames], ?_⟩
  have h := (State.sameButNew.refl (T.setFrames (.invoking m args :: below)) ht').setFrames T.frames (State.cur_lt_of_frames hF)
  rw [State.setFrames_setFrames, State.setFrames_self ht] at h
  exact h
/-- cells that the frame keeps are as they were -/
theorem sbn_out {s t : State} {L : List Loc} {n k : Nat} {A : Nat → Prop} (h : s.sameButNew t L n k) (hL : ∀ x ∈ L, A x.base) : ∀ q : Nat, q < s.heap.size → ¬ A q → t.heap[q]? = s.heap[q]? := by
  intro q hq hA
  obtain ⟨c, hc⟩ : ∃ c, s.heap[q]? = some c := ⟨_, Array.getElem?_eq_getElem hq⟩
  obtain ⟨c', hc', he, -, hk⟩ := h.2.2.2.2.2 q c hc
  have hs : c'.slots = c.slots := Array.ext_getElem? fun i => hk i fun hm => hA (hL _ hm)
  rw [hc', hc, he, hs]
/-- how an outcome of AM stands to one of the machine's -/
def oc (r : AO) (o : Outcome) (t : State) : Prop := match r with
  | .inl v => o = .returned (v.map cv) ∧ ∀ x : AV, v = some x → okv x ∧ x.isSome = true
  | .inr (k, x) => k ≤ 2 ∧ o = .threw x ∧ ∃ ce : Cell, t.heap[x]? = some ce ∧ t.vm.findClass (exN k) = some ce.cls ∧ ce.vm.isStatics = false
/-- the end of an invocation -/
def En (D : va_G) (dA : Nat → ClassId) (s : State) (below : List Frame) (z0 t0 : Nat) (r : AO × AH) (t : State) : Prop :=
  ∃ o : Outcome, t.status = .running ∧ Ended t below o ∧ s.WarmedH t.vm ∧ (∃ L : List Loc, s.sameButNew ({ t with vm := s.vm } : State) L (r.2.2.1 - z0) (r.2.2.2.1 - t0) ∧ ∀ q ∈ L, r.2.2.2.2.1 ≤ q.base) ∧ HR D dA s r.2 t.heap ∧ oc r.1 o t
theorem ct_at {s0 s : State} {b : Nat} {H : Heap} {locs : List Loc} {U : State} (hC : ct s0 s) (hb : s0.heap.size ≤ b) (hW : s.WarmedH U.vm) (hV : va_S (fun q => b ≤ q) s.heap H locs) (hU : U.heap = H) : ct s0 U := by
  refine ⟨State.WarmedH.trans hC.1 hW, fun q hq => ?_⟩
  rw [hU]
  have h1 := hC.2 q hq
  have h2 : q < s.heap.size := by
    rw [Array.getElem?_eq_getElem hq] at h1
    exact (Array.getElem?_eq_some_iff.mp h1).1
  rw [hV.2.1 q h2 (by omega)]
  exact h1
section SimE
variable {s0 : State} {a0 : Array Value} {p : Program} {l : Launch} {e : Env} {R : Room} {s : State} {m : MethodId} {args : Array Value} {below : List Frame} {meth : Method} {c : Code} {Q : State → Prop} {D : va_G} {dA : Nat → ClassId} {z0 t0 : Nat}
variable {y : AY} {d pc pc' len : Nat} {L S L' S' : List AV} {h h' : AH}
set_option maxHeartbeats 4000000 in
theorem sm_throw {idx : Nat} {r : AO × AH} (hx : cx s0 D dA p s m meth c y) (hB : ∀ w ∈ lw_tbl, w.before a0 s0 = true) (hU1 : exU1.before a0 s0 = true) (hU2 : exU2.before a0 s0 = true) (htr : ∀ e : Env, l.admits e → e.platform.stackTraces = false) (hE : (mf y).1 ≠ 4 → ∀ (pc : Nat), ∀ x ∈ c.exceptionTable.toList, covers x pc = false) (hl : L.length = y.2.2.2.1) (hbase : s0.heap.size ≤ h.2.2.2.1) (hz : z0 ≤ h.2.1 ∧ t0 ≤ h.2.2.1) (hR : 6 ≤ R.frames ∧ 100 ≤ R.locals) (hR2 : h.2.1 + 1 - z0 ≤ R.cells ∧ h.2.2.1 + 6 - t0 ≤ R.slots) (hd : tb y pc = some (.new idx, 3)) (hs : fin d y (.new idx) 3 pc S h = some r) (hQ : ∀ t, En D dA s below z0 t0 r t → Q t) : SW p l e R s m args below meth c Q D dA z0 t0 pc L S h := by
  obtain ⟨hx1, hb, hml, hown, hy, hret, hlk, -, hC, hK⟩ := hx
  intro H locs ls hL hS hH hV
  have hsz : ls.size = c.maxLocals := by rw [hL.1.1, hl, hml]
  simp only [fin] at hs
  split at hs
  case h_2 => cases hs
  rename_i k hk
  split at hs
  case isFalse => cases hs
  rename_i hw
  cases hs
  obtain ⟨i1, i2, hk2, ia, ib, ic, tx, p1, p2, p3, d1, d2, d3, d4, d5, w1, w2, w3⟩ := tX_ok hk
  obtain ⟨hc7, hm4⟩ : y.2.1 = 7 ∧ (mf y).1 ≠ 4 := by
    rcases ex_cls y hy with h | h | h
    · omega
    · omega
    · exact h
  have hE := hE hm4
  rw [hc7] at hown
  intro T hT X
  have X0 := st_rb (n := 1) (k := 6) X (by omega) (by omega)
  generalize hs' : T.setFrames (.invoking m args :: below) = s' at X0
  have hvm' : s'.vm = T.vm := by rw [← hs']; rfl
  have hhp' : s'.heap = T.heap := by rw [← hs']; rfl
  have hC' : ct s0 s' := ct_at hC hbase (U := s') (by rw [hvm']; exact X.warmed) hV (by rw [hhp', hT])
  have hown' : s'.vm.findClass "TarYard" = some m.cls := by rw [hvm', X.warmed.alike.findClass]; exact hown
  have hat := own_at (args := args) hB hU1 hU2 hC' hk2 w3
  obtain ⟨p4, w4⟩ := exI hk2
  have hwt := wt_cv hS
  obtain ⟨vm₁, cX, kX, hfX, hkX, -, -, X₁, st1⟩ := X0.newCold hx1 (own := "TarYard") (C := exN k) (index := ia) (n := 6) hown' (wd hB hC' w1 rfl) (hat (.instantiable (exN k) 6) (by simp [Bundle.ownAtoms])) (wd hB hC' w4 rfl)
    (g := F0 m pc ls (S.map cv)) rfl (by rw [hb]; exact d1) (by simp) (by simp)
  generalize hT1 : (T.setVm vm₁).pushCell { cls := cX, slots := kX.instanceTypes.map defaultValue, vm := .none } = T1 at X₁ st1
  have hcellA : T1.heap[T.heap.size]? = some (freshCell cX kX) := by rw [← hT1]; exact State.heap_pushCell_size _ _
  have hown0 : s0.vm.findClass "TarYard" = some m.cls := by rw [← hC'.1.alike.findClass]; exact hown'
  obtain ⟨k9, cf9, i9, sa, -, -, -, -, -, hev⟩ := Cond.stringRef_spec hown0 (hB _ (List.mem_of_getElem? w2))
  have hR9 : vk_R "TarYard" ib tx sa s' := vk_R.warm hC'.1 (vk_R.of (hB _ (List.mem_of_getElem? w2)) hev)
  have st2 := X₁.ldcString hx1 (own := "TarYard") (text := tx) (index := ib) (a := sa) hown' hR9.1 hR9.2 (g := F0 m (pc + 4) ls (.ref T.heap.size :: .ref T.heap.size :: S.map cv)) rfl (by rw [hb]; exact d3)
  obtain ⟨U, hsteps, hrun, hend, hW, hsame, ce, hce, K⟩ := X₁.ctorThrowS hx1 (htr e X.admits) (own := "TarYard") (cls := exN k) (names := exUp) (ic := ic) hown' (exFit hk2) (by decide +kernel) hat (fun y hy => by cases hy) hfX hkX hcellA (by rw [hhp']; exact Nat.le_refl _) (msg := .ref sa) rfl
    (g := F0 m (pc + 6) ls (.ref sa :: .ref T.heap.size :: .ref T.heap.size :: S.map cv)) rfl hsz rfl rfl (rest := S.map cv) rfl (by rw [hb]; exact d4) (by rw [hb]; exact d5) (hE _) (by simp [exUp]; omega)
    (by
      simp only [List.map_cons, List.sum_cons, hwt, exUp, List.length_cons, List.length_nil]
      show 2 * 0 + (1 + a_wt S) + _ ≤ R.locals
      omega) hlk
  have hsz1 : U.heap.size = H.size + 1 := by
    have h1 : U.heap.size ≤ s'.heap.size + (0 + 1) := hsame.2.2.1
    have h2 := (Array.getElem?_eq_some_iff.mp hce).1
    rw [hhp', hT] at h1
    rw [hT] at h2
    omega
  have hkeep : ∀ q : Nat, q < H.size → U.heap[q]? = H[q]? := fun q hq => by
    have := sbn_out (A := fun _ => False) hsame (fun _ h => by cases h) q (by rw [hhp', hT]; exact hq) (fun h => h)
    rw [hhp', hT] at this
    exact this
  refine ⟨U, st1 _ ?_, hQ U ⟨.threw T.heap.size, hrun, hend, State.WarmedH.trans X.warmed (by have h9 := hW; rw [← hs'] at h9; exact h9), ⟨locs, ?_, hV.2.2⟩, ?_, ?_⟩⟩
  · show Steps p.tables e below (T1.setTop (F0 m (pc + 3) ls (.ref T.heap.size :: S.map cv))) U
    have d2' : decode c.code (pc + 3) = .ok (.dup, 1) := by rw [hb]; exact d2
    jvm_step X₁.here [X₁.here.top, hx1, d2', Value.category]
    exact st2 _ hsteps
  · have h8 := hsame
    rw [← hs'] at h8
    have h9 : T.sameButNew ({ U with vm := T.vm } : State) [] (0 + 1) (0 + 6) := by
      obtain ⟨q1, q2⟩ := h8
      exact ⟨by rw [State.setFrames_setFrames] at q1; exact q1, q2⟩
    have h10 := X.same.trans (h9.setVm s.vm)
    rw [List.append_nil] at h10
    refine h10.weaken (fun _ h _ => h) ?_ ?_
    · show h.2.1 - z0 + (0 + 1) ≤ h.2.1 + 1 - z0
      omega
    · show h.2.2.1 - t0 + (0 + 6) ≤ h.2.2.1 + tThr - t0
      unfold tThr
      omega
  · refine ⟨by rw [hsz1, hH.1]; rfl, Nat.le_succ_of_le hH.2.1, fun b e1 he => ?_⟩
    obtain ⟨g1, g2, g3⟩ := hH.2.2 b e1 he
    exact ⟨g1, fun hbb => (g2 hbb).kept (hkeep b (g2 hbb).lt), g3⟩
  · refine ⟨hk2, by rw [hT, hH.1], ce, by rw [← hH.1, ← hT]; exact hce, ?_, by rw [K.vm]; rfl⟩
    rw [hW.alike.findClass]
    exact K.cls
end SimE
end
section
/-! From AM to the true machine, 8: returns; a callee's exception, caught or handed on. -/
def exR (s : State) : Prop := ∀ k k' : Nat, k ≤ 2 → k' ≤ 2 → ∃ c c' : ClassId, s.vm.findClass (exN k) = some c ∧ s.vm.findClass (exN k') = some c' ∧ s.vm.assignable c c' = decide (k = k')
theorem exR.warm {s U : State} (h : exR s) (hW : s.WarmedH U.vm) : exR U := by
  intro k k' h1 h2
  obtain ⟨c, c', e1, e2, e3⟩ := h k k' h1 h2
  exact ⟨c, c', by rw [hW.alike.findClass]; exact e1, by rw [hW.alike.findClass]; exact e2, by rw [hW.alike.assignable]; exact e3⟩
/-- what the search for a handler gives, and the tables behind it -/
def fdT (e : Env) (s : State) (f : JFrame) (a : Addr) (h : Handler) (vm' : Vm) : Prop :=
  ∀ (Q : Handler → Pre) (E : CtlPost) (d : Bool) (acts : List Action), wp (findHandler f a) Q E e d acts s ↔ Q h d acts (s.setVm vm')
theorem fg_link {Q : Handler → Pre} {E : CtlPost} {e : Env} {d : Bool} {acts : List Action} {s : State} {f : JFrame} {a : Addr} {x : ExceptionTableEntry} {t : List ExceptionTableEntry} {c : ClassId} {cell : Cell} (hx : covers x f.pc = true) (h0 : x.catchType ≠ 0)
    (hl : s.vm.ClassLinks e.platform f.method.cls x.catchType c) (hcell : s.heap[a]? = some cell) (hobj : ∀ k, cell.vm ≠ .statics k)
    (hk : ∃ k, s.vm.classes[cell.cls]? = some k) (hc : ∃ k, s.vm.classes[c]? = some k) :
    wp (findHandler.go f a (x :: t)) Q E e d acts s ↔ if s.vm.assignable cell.cls c = true then Q (.found x.handlerPc) d acts (s.setVm (s.vm.noted f.method.cls x.catchType (.cls c))) else wp (findHandler.go f a t) Q E e d acts (s.setVm (s.vm.noted f.method.cls x.catchType (.cls c))) := by
  simp only [covers] at hx
  obtain ⟨ha, ht⟩ := (resolveClass_links e.toSetting hl).op (op := VmOp.resolveClass f.method.cls x.catchType) rfl
  have hal : s.vm.Alike (s.vm.noted f.method.cls x.catchType (.cls c)) := (Vm.Alike.refl s.vm).noted _ _ _
  obtain ⟨k1, hk1⟩ := hk
  obtain ⟨k2, hk2⟩ := hc
  obtain ⟨k1', hk1', -⟩ := hal.2.2 _ _ hk1
  obtain ⟨k2', hk2', -⟩ := hal.2.2 _ _ hk2
  cases hfit : s.vm.assignable cell.cls c with
  | true =>
    have hfit' : (s.vm.noted f.method.cls x.catchType (.cls c)).assignable cell.cls c = true := by rw [hal.assignable]; exact hfit
    simp [findHandler.go, hx, h0, ha, ht, hcell, hobj, hk1', hk2', hfit', VmOp.dirties, VmOp.acts]
  | false =>
    have hfit' : (s.vm.noted f.method.cls x.catchType (.cls c)).assignable cell.cls c = false := by rw [hal.assignable]; exact hfit
    simp [findHandler.go, hx, h0, ha, ht, hcell, hobj, hk1', hk2', hfit', VmOp.dirties, VmOp.acts]
def hRes (hs : List (Nat × Nat × Nat × Nat)) (k : Nat) : Handler := match hs.find? (fun q => hk q.2.2.2 == k) with
  | some q => .found q.2.2.1
  | none => .none
theorem fg_all {e : Env} (hpl : e.platform.magicAccessors = ({} : Platform).magicAccessors) {sB : State} {args : Array Value} {f : JFrame} {a : Addr} {k : Nat} {cell : Cell} (hk2 : k ≤ 2) (hown : sB.vm.findClass "TarYardLaw" = some f.method.cls) (hR : exR sB) (hfk : sB.vm.findClass (exN k) = some cell.cls) (hobj : ∀ k, cell.vm ≠ .statics k) (hcls : ∃ kk, sB.vm.classes[cell.cls]? = some kk) :
    ∀ (hs : List (Nat × Nat × Nat × Nat)) (s : State), sB.WarmedH s.vm → s.heap[a]? = some cell → (∀ q ∈ hs, covers ⟨q.1, q.2.1, q.2.2.1, q.2.2.2⟩ f.pc = true ∧ q.2.2.2 ≠ 0 ∧ hk q.2.2.2 ≤ 2 ∧ (Cond.classLink "TarYardLaw" q.2.2.2 (exN (hk q.2.2.2))).before args sB = true) →
      ∃ vm' : Vm, sB.WarmedH vm' ∧ ∀ (Q : Handler → Pre) (E : CtlPost) (d : Bool) (acts : List Action), wp (findHandler.go f a (tableOf hs)) Q E e d acts s ↔ Q (hRes hs k) d acts (s.setVm vm') := by
  intro hs
  induction hs with
  | nil =>
    intro s hW hcell _
    refine ⟨s.vm, hW, fun Q E d acts => ?_⟩
    rw [State.setVm_self]
    exact W.findHandler_go_nil
  | cons q hs ih =>
    intro s hW hcell hq
    obtain ⟨g1, g2, g3, g4⟩ := hq q List.mem_cons_self
    obtain ⟨c', hc', hcl⟩ := Cond.classLink_spec hown g4 e.platform hpl
    obtain ⟨dk, _, _, kt, hd, _, _, _, _, hkt, _, hopen⟩ := hcl.here
    have hcl₀ := hW.classLinks hcl
    have hW' : sB.WarmedH (s.vm.noted f.method.cls q.2.2.2 (.cls c')) := hW.noted hd hopen (State.rightAt_cls hcl)
    obtain ⟨kt', hkt', -⟩ := hW.alike.2.2 _ _ hkt
    obtain ⟨kc, hkc⟩ := hcls
    obtain ⟨kc', hkc', -⟩ := hW.alike.2.2 _ _ hkc
    obtain ⟨vm', hV, hrest⟩ := ih (s.setVm (s.vm.noted f.method.cls q.2.2.2 (.cls c'))) hW' hcell (fun z hz => hq z (List.mem_cons_of_mem _ hz))
    have has : s.vm.assignable cell.cls c' = decide (k = hk q.2.2.2) := by
      obtain ⟨c1, c2, e1, e2, e3⟩ := hR k (hk q.2.2.2) hk2 g3
      cases e1.symm.trans hfk
      cases e2.symm.trans hc'
      rw [hW.alike.assignable]
      exact e3
    by_cases hkk : k = hk q.2.2.2
    · refine ⟨_, hW', fun Q E d acts => ?_⟩
      show wp (findHandler.go f a (⟨q.1, q.2.1, q.2.2.1, q.2.2.2⟩ :: tableOf hs)) Q E e d acts s ↔ _
      rw [fg_link g1 g2 hcl₀ hcell hobj ⟨_, hkc'⟩ ⟨_, hkt'⟩, if_pos (by rw [has]; exact decide_eq_true hkk)]
      have : hRes (q :: hs) k = .found q.2.2.1 := by
        unfold hRes
        rw [List.find?_cons_of_pos (by simp [hkk])]
      rw [this]
    · refine ⟨vm', hV, fun Q E d acts => ?_⟩
      show wp (findHandler.go f a (⟨q.1, q.2.1, q.2.2.1, q.2.2.2⟩ :: tableOf hs)) Q E e d acts s ↔ _
      rw [fg_link g1 g2 hcl₀ hcell hobj ⟨_, hkc'⟩ ⟨_, hkt'⟩, if_neg (by rw [has]; simpa using hkk)]
      have : hRes (q :: hs) k = hRes hs k := by
        unfold hRes
        rw [List.find?_cons_of_neg (by simpa using fun h => hkk h.symm)]
      rw [this]
      exact hrest Q E d acts
theorem fr_sv (u : State) (vm' : Vm) (F G : List Frame) : ((u.setFrames F).setVm vm').setFrames G = (u.setVm vm').setFrames G := by
  have h1 : (u.setFrames F).setVm vm' = (u.setVm vm').setFrames F := rfl
  rw [h1, State.setFrames_setFrames]
theorem ctch {tb : Tables} {e : Env} {s target : State} {g : JFrame} {c : Code} {below : List Frame} {a : Addr} (h : At s g.method c below) {pc : Nat} {vm' : Vm}
    (hfind : fdT e ((s.setTop g).pushFrame (.throwing a)) g a (.found pc) vm') (hrest : Steps tb e below ((s.setVm vm').setTop { g with pc := pc, stack := [.ref a] }) target) :
    Steps tb e below ((s.setTop g).pushFrame (.throwing a)) target := by
  obtain ⟨hgo, hw⟩ := h.throwing a
  refine Steps.head hgo hw ?_
  have h1 : (stepThrowing e ((s.setTop g).pushFrame (.throwing a)) a (.java g :: s.frames.tail)).Is ((((s.setTop g).pushFrame (.throwing a)).setVm vm').setFrames (.java { g with pc := pc, stack := [.ref a] } :: s.frames.tail)) [] := by
    simp only [stepThrowing, searchFrame, vmDo]
    generalize hr : Sem.go _ e false [] ((s.setTop g).pushFrame (.throwing a)) = res
    obtain ⟨as, rfl, ha⟩ := Sem.eq_ok_of hr (a := Handler.found pc) (s' := ((s.setTop g).pushFrame (.throwing a)).setVm vm') (acts' := []) (by simp [hfind _ _ _ _])
    exact ⟨rfl, ha⟩
  rw [stepThread_throwing (frames_entered h.top _), h1.1]
  obtain ⟨g₀, hg⟩ := Option.isSome_iff_exists.mp h.top
  obtain ⟨r, hr⟩ := State.topJava?_eq_some.mp hg
  have hr' : (s.setVm vm').frames = .java g₀ :: r := hr
  rw [State.setTop_of_frames _ hr'] at hrest
  rw [hr, List.tail_cons, State.pushFrame, fr_sv, State.setTop_of_frames _ hr, fr_sv]
  exact hrest
theorem lvs {tb : Tables} {e : Env} {s target : State} {g : JFrame} {c : Code} {below : List Frame} {a : Addr} (h : At s g.method c below) {vm' : Vm} {meth : Method} (hm : vm'.method? g.method = some meth) (hl : meth.locks = false) (hlocked : g.locked = none) (hentered : g.entered = [])
    (hfind : fdT e ((s.setTop g).pushFrame (.throwing a)) g a .none vm') (hrest : Steps tb e below ((s.setVm vm').setFrames (.throwing a :: s.frames.tail)) target) :
    Steps tb e below ((s.setTop g).pushFrame (.throwing a)) target := by
  obtain ⟨hgo, hw⟩ := h.throwing a
  refine Steps.head hgo hw ?_
  have h1 : (stepThrowing e ((s.setTop g).pushFrame (.throwing a)) a (.java g :: s.frames.tail)).Is ((((s.setTop g).pushFrame (.throwing a)).setVm vm').setFrames (.throwing a :: s.frames.tail)) [] := by
    simp only [stepThrowing, searchFrame, vmDo]
    generalize hr : Sem.go _ e false [] ((s.setTop g).pushFrame (.throwing a)) = res
    obtain ⟨as, rfl, ha⟩ := Sem.eq_ok_of hr (a := Handler.none) (s' := ((s.setTop g).pushFrame (.throwing a)).setVm vm') (acts' := []) (by cases hp : e.platform.frameOwnsMonitors <;> simp [hfind _ _ _ _, hm, hl, hlocked, hentered, hp, leaveIfLocked])
    exact ⟨rfl, ha⟩
  rw [stepThread_throwing (frames_entered h.top _), h1.1]
  obtain ⟨g₀, hg⟩ := Option.isSome_iff_exists.mp h.top
  obtain ⟨r, hr⟩ := State.topJava?_eq_some.mp hg
  rw [State.pushFrame, fr_sv, State.setTop_of_frames _ hr, fr_sv]
  exact hrest
end
section
/-! AM only grows; what a step leaves alone. -/
def mor (h h' : AH) : Prop := h.2.1 ≤ h'.2.1 ∧ h.2.2.1 ≤ h'.2.2.1 ∧ h'.2.2.2 = h.2.2.2
theorem mor.rf {h : AH} : mor h h := ⟨Nat.le_refl _, Nat.le_refl _, rfl⟩
theorem mor.trans {h h' h'' : AH} (a : mor h h') (b : mor h' h'') : mor h h'' := ⟨Nat.le_trans a.1 b.1, Nat.le_trans a.2.1 b.2.1, b.2.2.trans a.2.2⟩
theorem mor_put {h : AH} {a : Nat} {e : AE} : mor h (hput h a e) := ⟨Nat.le_refl _, Nat.le_refl _, rfl⟩
theorem mor_new {h : AH} {e : AE} {n : Nat} : mor h (hnew h e n) := ⟨Nat.le_succ _, Nat.le_add_right _ _, rfl⟩
theorem mor_thr {h : AH} : mor h (hthr h) := ⟨Nat.le_succ _, Nat.le_add_right _ _, rfl⟩
theorem kill_len {L : List AV} {i : Nat} : (a_kill L i).length = L.length := by
  unfold a_kill
  split
  · rfl
  · split
    · simp
    · rfl
theorem st1_len {L L' : List AV} {i : Nat} {v : AV} (h : a_st1 L i v = some L') : L'.length = L.length := by
  unfold a_st1 at h
  split at h
  · cases h
    simp [kill_len]
  · cases h
theorem st2_len {L L' : List AV} {i : Nat} {v : AV} (h : a_st2 L i v = some L') : L'.length = L.length := by
  unfold a_st2 at h
  split at h
  · cases h
    simp [kill_len]
  · cases h
set_option maxHeartbeats 4000000 in
theorem stp_mor {y : AY} {i : Jvm.ClassFile.Instr} {len pc pc' : Nat} {L S L' S' : List AV} {h h' : AH} (hs : stp y i len pc L S h = some (pc', L', S', h')) : mor h h' ∧ L'.length = L.length := by
  unfold stp at hs
  split at hs
  all_goals (try simp only [s_ldi, s_ldl, s_lda, s_sti, s_stl, s_sta, s_inc, s_ii, s_ll, s_li, s_idv, s_ldv, s_lcmp, s_i2i, s_i2l, s_l2i, s_dup, s_pop, s_dup2, s_if, s_icmp, s_goto, s_tab, s_get, s_put, s_new, s_newa, s_newq, s_ild, s_qld, s_ist, s_lst, s_qst, s_len] at hs)
  all_goals (repeat' split at hs)
  all_goals first
    | (cases hs; done)
    | (cases hs; exact ⟨mor.rf, rfl⟩)
    | (cases hs; exact ⟨mor_put, rfl⟩)
    | (cases hs; exact ⟨mor_new, rfl⟩)
    | (obtain ⟨L2, e1, e2⟩ := Option.map_eq_some_iff.mp hs; cases e2; exact ⟨mor.rf, st1_len e1⟩)
    | (obtain ⟨L2, e1, e2⟩ := Option.map_eq_some_iff.mp hs; cases e2; exact ⟨mor.rf, st2_len e1⟩)
    | (obtain ⟨L2, e1, e2⟩ := Option.map_eq_some_iff.mp hs; cases e2; exact ⟨mor.rf, rfl⟩)
theorem fin_mor {d : Nat} {y : AY} {i : Jvm.ClassFile.Instr} {len pc : Nat} {S : List AV} {h : AH} {r : AO × AH} (hs : fin d y i len pc S h = some r) : mor h r.2 := by
  unfold fin at hs
  repeat' split at hs
  all_goals first
    | (cases hs; done)
    | (cases hs; exact mor.rf)
    | (cases hs; exact mor_thr)
theorem blt_mor {y : AY} {i : Jvm.ClassFile.Instr} {len : Nat} {S S' : List AV} {h h' : AH} (hs : blt y i len S h = some (S', h')) : mor h h' := by
  unfold blt at hs
  repeat' split at hs
  all_goals first
    | (cases hs; done)
    | (cases hs; exact mor.rf)
    | (cases hs; exact mor_put)
theorem go_mor : ∀ (n d : Nat) (y : AY) (pc : Nat) (L S : List AV) (h : AH) (r : AO × AH), go n d y pc L S h = some r → mor h r.2 := by
  intro n
  induction n with
  | zero => intro d y pc L S h r e; cases e
  | succ n ih =>
    intro d y pc L S h r e
    have e : gob (go n) d y pc L S h = some r := e
    unfold gob at e
    cases hd : tb y pc with
    | none => simp only [hd] at e; cases e
    | some il =>
      obtain ⟨i, len⟩ := il
      simp only [hd] at e
      cases hf : fin d y i len pc S h with
      | some q => simp only [hf] at e; cases e; exact fin_mor hf
      | none =>
        simp only [hf] at e
        cases hc : cal y i len S h with
        | some q =>
          obtain ⟨z, As, rest⟩ := q
          simp only [hc] at e
          split at e
          · cases hg : go n (d - lv z) z 0 (ent z As) [] h with
            | none => rw [hg] at e; cases e
            | some q =>
              rw [hg] at e
              have h1 := ih _ _ _ _ _ _ _ hg
              obtain ⟨o, h2⟩ := q
              refine h1.trans ?_
              rcases o with (_ | v) | ⟨k, x⟩
              · exact ih _ _ _ _ _ _ _ e
              · exact ih _ _ _ _ _ _ _ e
              · simp only [aft] at e
                cases ht : tH y.1 k with
                | some t => simp only [ht] at e; exact ih _ _ _ _ _ _ _ e
                | none => simp only [ht] at e; cases e; exact mor.rf
          · cases e
        | none =>
          simp only [hc] at e
          cases hb : blt y i len S h with
          | some q =>
            obtain ⟨S', h'⟩ := q
            simp only [hb] at e
            exact (blt_mor hb).trans (ih _ _ _ _ _ _ _ e)
          | none =>
            simp only [hb] at e
            cases hs : stp y i len pc L S h with
            | none => simp only [hs] at e; cases e
            | some q =>
              obtain ⟨pc', L', S', h'⟩ := q
              simp only [hs] at e
              exact (stp_mor hs).1.trans (ih _ _ _ _ _ _ _ e)
end
section
/-! From AM to the true machine, 9: any one step; any end. -/
section SimF
variable {s0 : State} {a0 : Array Value} {p : Program} {l : Launch} {e : Env} {R : Room} {s : State} {m : MethodId} {args : Array Value} {below : List Frame} {meth : Method} {c : Code} {Q : State → Prop} {D : va_G} {dA : Nat → ClassId} {z0 t0 : Nat}
variable {y : AY} {d pc pc' len : Nat} {L S L' S' : List AV} {h h' : AH}
theorem sm_stp {i : Jvm.ClassFile.Instr} (hx : cx s0 D dA p s m meth c y) (hB : ∀ w ∈ lw_tbl, w.before a0 s0 = true) (hZ : va_Z "TarYard$Tape" "MARK" "[B" (.ref h.2.2.2.2) (fun q => h.2.2.2.1 ≤ q) s s.heap) (hl : L.length = y.2.2.2.1) (hz : z0 ≤ h.2.1 ∧ t0 ≤ h.2.2.1) (hR : h'.2.1 - z0 ≤ R.cells ∧ h'.2.2.1 - t0 ≤ R.slots) (hd : tb y pc = some (i, len)) (hs : stp y i len pc L S h = some (pc', L', S', h')) (k : SW p l e R s m args below meth c Q D dA z0 t0 pc' L' S' h') : SW p l e R s m args below meth c Q D dA z0 t0 pc L S h := by
  have hs0 := hs
  unfold stp at hs
  split at hs
  all_goals first
    | (exact sm_simple hx hB hd hl rfl hs0 k)
    | (exact sm_get hx hB hd hs k)
    | (exact sm_put hx hB hd hs k)
    | (exact sm_gets hx hB hZ hd hs0 k)
    | (exact sm_new hx hB hz hR hd hs k)
    | (exact sm_newa hx hB hz hR hd hs k)
    | (exact sm_newq hx hB hz hR hd hs k)
    | (exact sm_iald hx hd hs k)
    | (exact sm_bald hx hd hs k)
    | (exact sm_lald hx hd hs k)
    | (exact sm_qld hx hd hs k)
    | (exact sm_len hx hd hs k)
    | (exact sm_iast hx hd hs k)
    | (exact sm_bast hx hd hs k)
    | (exact sm_last hx hd hs k)
    | (exact sm_qst hx hd hs k)
    | (cases hs; done)
theorem W_En {H : Heap} {locs : List Loc} {g : JFrame} {r : AO × AH} (k : W p l e R s m args below meth c H locs (r.2.2.1 - z0) (r.2.2.2.1 - t0) (MQ below (fun _ s o t => HR D dA s r.2 t.heap ∧ oc r.1 o t) args s (r.2.2.1 - z0) (r.2.2.2.1 - t0) (fun q => r.2.2.2.2.1 ≤ q)) g) : W p l e R s m args below meth c H locs (r.2.2.1 - z0) (r.2.2.2.1 - t0) (En D dA s below z0 t0 r) g := by
  intro T hT X
  obtain ⟨t, a, o, b1, b2, b3, L, ⟨_, c1, c2⟩, hL⟩ := k T hT X
  exact ⟨t, a, o, b1, b2, c1, ⟨L, c2, hL⟩, b3.1, b3.2⟩
theorem sm_fin {i : Jvm.ClassFile.Instr} {r : AO × AH} (hx : cx s0 D dA p s m meth c y) (hB : ∀ w ∈ lw_tbl, w.before a0 s0 = true) (hU1 : exU1.before a0 s0 = true) (hU2 : exU2.before a0 s0 = true) (htr : ∀ e : Env, l.admits e → e.platform.stackTraces = false) (hE : (mf y).1 ≠ 4 → ∀ (pc : Nat), ∀ x ∈ c.exceptionTable.toList, covers x pc = false) (hl : L.length = y.2.2.2.1) (hbase : s0.heap.size ≤ h.2.2.2.1) (hz : z0 ≤ h.2.1 ∧ t0 ≤ h.2.2.1) (hR : d + 1 ≤ R.frames ∧ 36 * d + 56 ≤ R.locals) (hR2 : r.2.2.1 - z0 ≤ R.cells ∧ r.2.2.2.1 - t0 ≤ R.slots) (hd : tb y pc = some (i, len)) (hs : fin d y i len pc S h = some r) : SW p l e R s m args below meth c (En D dA s below z0 t0 r) D dA z0 t0 pc L S h := by
  have hx0 := hx
  obtain ⟨hx1, hb, hml, hown, hy, hret, hlk, -, hC, hK⟩ := hx
  have hdg := dcd hy hd
  have hs0 := hs
  unfold fin at hs
  split at hs
  · split at hs
    · rename_i x
      split at hs
      · rename_i ht
        cases hs
        intro H locs ls hL hS hH hV
        have hq : ∀ t : State, t.heap = H → s.WarmedH t.vm → HR D dA s h t.heap ∧ oc (.inl (some (aI x))) (.returned (some (.int (Int32.ofInt x)))) t := fun t ht _ => ⟨by rw [ht]; exact hH, rfl, fun z hz => by cases hz; exact ⟨hS.head, rfl⟩⟩
        rcases ht with ht | ⟨ht, hv⟩
        · exact W_En (r := (.inl (some (aI x)), h)) (W.iret hx1 hb (hret.trans ht) hq hV.2.2 hdg)
        · refine W_En (r := (.inl (some (aI x)), h)) (W.zret (ty := .boolean) hx1 hb (hret.trans ht) ?_ hq hV.2.2 hdg)
          rcases hv with rfl | rfl <;> decide
      · cases hs
    · cases hs
  · split at hs
    · rename_i x
      split at hs
      · rename_i ht
        cases hs
        intro H locs ls hL hS hH hV
        have hq : ∀ t : State, t.heap = H → s.WarmedH t.vm → HR D dA s h t.heap ∧ oc (.inl (some (aL x))) (.returned (some (.long (Int64.ofInt x)))) t := fun t ht _ => ⟨by rw [ht]; exact hH, rfl, fun z hz => by cases hz; exact ⟨hS.head, rfl⟩⟩
        exact W_En (r := (.inl (some (aL x)), h)) (W.lret hx1 hb (hret.trans ht) hq hV.2.2 hdg)
      · cases hs
    · cases hs
  · split at hs
    · rename_i x
      split at hs
      · rename_i ht
        cases hs
        intro H locs ls hL hS hH hV
        have hq : ∀ t : State, t.heap = H → s.WarmedH t.vm → HR D dA s h t.heap ∧ oc (.inl (some (aR x))) (.returned (some (.ref x))) t := fun t ht _ => ⟨by rw [ht]; exact hH, rfl, fun z hz => by cases hz; exact ⟨trivial, rfl⟩⟩
        obtain ⟨rt, hrt, ho⟩ : ∃ rt, y.2.2.2.2.1 = some rt ∧ ((∃ n, rt = .object n) ∨ ∃ t, rt = .array t) := by
          unfold tQ at ht
          split at ht
          · rename_i n hn; exact ⟨_, hn, Or.inl ⟨n, rfl⟩⟩
          · rename_i n hn; exact ⟨_, hn, Or.inr ⟨n, rfl⟩⟩
          · cases ht
        exact W_En (r := (.inl (some (aR x)), h)) (W.aret hx1 hb (hret.trans hrt) ho (Or.inr ⟨x, rfl⟩) hq hV.2.2 hdg)
      · cases hs
    · cases hs
  · split at hs
    · split at hs
      · rename_i ht
        cases hs
        intro H locs ls hL hS hH hV
        have hq : ∀ t : State, t.heap = H → s.WarmedH t.vm → HR D dA s h t.heap ∧ oc (.inl none) (.returned none) t := fun t ht _ => ⟨by rw [ht]; exact hH, rfl, fun z hz => by cases hz⟩
        exact W_En (r := (.inl none, h)) (W.vret hx1 hb (hret.trans ht) hq hV.2.2 hdg)
      · cases hs
    · cases hs
  · have h5 : 5 ≤ d ∧ r = (.inr (r.1.elim (fun _ => (0, 0)) id), hthr h) := by
      split at hs
      · split at hs
        · rename_i hw
          cases hs
          exact ⟨hw.1, rfl⟩
        · cases hs
      · cases hs
    have hr2 : r.2 = hthr h := by rw [h5.2]
    refine sm_throw hx0 hB hU1 hU2 htr hE hl hbase hz ⟨by omega, by omega⟩ ?_ hd hs0 (fun t ht => ht)
    rw [hr2] at hR2
    exact hR2
  · cases hs
end SimF
end
section
/-! From AM to the true machine, 10: a call. -/
def cw (y : AY) : Jvm.Cond := if (mf y).1 = 4 then .codeWith (nm y) (bt y) y.2.2.2.1 y.2.2.2.2.1 (hdl y.1) else .code (nm y) (bt y) y.2.2.2.1 y.2.2.2.2.1
def mk4 (y : AY) : Prop := (mf y).1 = 0 ∨ (mf y).1 = 1 ∨ (mf y).1 = 2 ∨ (mf y).1 = 4
theorem cw_at {y : AY} (hy : y ∈ allY) (hk : mk4 y) : lw_tbl[(mf y).2.1]? = some (cw y) := by
  unfold cw
  by_cases h4 : (mf y).1 = 4
  · rw [if_pos h4]
    exact ((hw_all y hy).1 h4).2.1
  · rw [if_neg h4]
    refine (mf_all y hy).2.2.2.2.2.2.1 ?_
    rcases hk with h | h | h | h
    · exact Or.inl h
    · exact Or.inr (Or.inl h)
    · exact Or.inr (Or.inr h)
    · exact absurd h h4
theorem cw_ok (y : AY) : ((cw y).onTables && (cw y).keepsH) = true := by
  unfold cw
  split <;> rfl
def Tbl (y : AY) (c : Code) : Prop := ((mf y).1 ≠ 4 → ∀ (pc : Nat), ∀ x ∈ c.exceptionTable.toList, covers x pc = false) ∧ ((mf y).1 = 4 → c.exceptionTable.toList = tableOf (hdl y.1))
theorem cw_spec {y : AY} {s : State} {args : Array Value} {m : MethodId} (hn : s.methodNamed? (nm y) = some m) (h : (cw y).before args s = true) : ∃ meth c, s.vm.method? m = some meth ∧ meth.code = some c ∧ c.code = bt y ∧ c.maxLocals = y.2.2.2.1 ∧ meth.sig.returnType = y.2.2.2.2.1 ∧ meth.locks = false ∧ parseMethodDescriptor (nm y).desc = some meth.sig ∧ Tbl y c := by
  unfold cw at h
  by_cases h4 : (mf y).1 = 4
  · rw [if_pos h4] at h
    obtain ⟨m', meth, c, h1, h2, h3, h5, h6, h7, h8, h9, h10⟩ := Cond.codeWith_spec h
    cases hn.symm.trans h1
    exact ⟨meth, c, h2, h3, h5, h6, h8, h9, h10, fun q => absurd h4 q, fun _ => by rw [← h7]; exact (table_eq _).symm⟩
  · rw [if_neg h4] at h
    obtain ⟨meth, c, h2, h3, h5, h6, h8, h9, h7, h10⟩ := Cond.code_spec hn h
    exact ⟨meth, c, h2, h3, h5, h6, h8, h9, h10, fun _ pc => covers_of_empty h7 pc, fun q => absurd q h4⟩
theorem HR.at {D : va_G} {dA : Nat → ClassId} {s U : State} {h : AH} {H : Heap} (hH : HR D dA s h H) (hvm : s.vm.Alike U.vm) (hq : ∀ a : Nat, a < s.heap.size → ¬ h.2.2.2.1 ≤ a → U.heap[a]? = s.heap[a]?) : HR D dA U h H := by
  refine ⟨hH.1, hH.2.1, fun a e he => ?_⟩
  obtain ⟨g1, g2, g3⟩ := hH.2.2 a e he
  refine ⟨g1, g2, fun hlt => ?_⟩
  have g4 := g3 hlt
  unfold sta at g4 ⊢
  split at g4
  · exact ⟨g4.1, (g4.2.moved hvm).kept hq⟩
  · exact g4.elim
theorem ml_le : ∀ y ∈ allY, y.2.2.2.1 ≤ 40 := by decide +kernel
section SimG
variable {s0 : State} {a0 : Array Value} {l : Launch} {D : va_G} {dA : Nat → ClassId}
/-- what AM does with n steps of fuel, the machine does -/
def SimAt (s0 : State) (l : Launch) (D : va_G) (dA : Nat → ClassId) (n : Nat) : Prop :=
  ∀ (d : Nat) (y : AY) (pc : Nat) (L S : List AV) (h : AH) (r : AO × AH), go n d y pc L S h = some r → ∀ (p : Program) (e : Env) (R : Room) (s : State) (m : MethodId) (args : Array Value) (below : List Frame) (meth : Method) (c : Code) (z0 t0 : Nat),
    cx s0 D dA p s m meth c y → Tbl y c → L.length = y.2.2.2.1 → s0.heap.size ≤ h.2.2.2.1 → h.2.2.2.1 ≤ s.heap.size → va_Z "TarYard$Tape" "MARK" "[B" (.ref h.2.2.2.2) (fun q => h.2.2.2.1 ≤ q) s s.heap →
    z0 ≤ h.2.1 ∧ t0 ≤ h.2.2.1 → d + 1 ≤ R.frames ∧ 36 * d + 56 ≤ R.locals → r.2.2.1 - z0 ≤ R.cells ∧ r.2.2.2.1 - t0 ≤ R.slots → SW p l e R s m args below meth c (En D dA s below z0 t0 r) D dA z0 t0 pc L S h
theorem metx {n d : Nat} {z : AY} {As : List AV} {h : AH} {r : AO × AH} (ih : SimAt s0 l D dA n) (hg : go n d z 0 (ent z As) [] h = some r) (hz : z ∈ allY) (hA : SK As) (hl : (a_spr As).length ≤ z.2.2.2.1) (hb : s0.heap.size ≤ h.2.2.2.1) :
    MetX l (nm z) (cw z) { frames := d + 1, cells := r.2.2.1 - h.2.1, slots := r.2.2.2.1 - h.2.2.1, locals := 36 * d + 56 } (fun args s => args = (As.map cv).toArray ∧ HR D dA s h s.heap ∧ ct s0 s ∧ va_K D vcl (tyl dA) s ∧ va_Z "TarYard$Tape" "MARK" "[B" (.ref h.2.2.2.2) (fun q => h.2.2.2.1 ≤ q) s s.heap) (fun st o t => HR D dA st r.2 t.heap ∧ oc r.1 o t) (fun q => h.2.2.2.1 ≤ q) := by
  refine MetFree.of_bodyS (code := bt z) (maxLocals := z.2.2.2.1) (ret := z.2.2.2.2.1) (mf_all z hz).2.1 ?_ ?_
  · intro args s m h hn
    obtain ⟨meth, c, h1, h2, h3, h4, h5, h6, -, -⟩ := cw_spec hn (atoms_spec (ws := [cw z]) h _ List.mem_cons_self)
    exact ⟨meth, c, h1, h2, h3, h4, h5, h6⟩
  · intro p e s m args below meth c s₁ B hml hP _
    obtain ⟨ha, hH, hC, hK, hZ⟩ := hP
    subst ha
    have hcw : (cw z).before _ s = true := atoms_spec (ws := [cw z]) B.pre _ List.mem_cons_self
    obtain ⟨meth', c', h1, h2, h3, h4, h5, h6, h7, h8⟩ := cw_spec B.named hcw
    cases B.method.symm.trans h1
    cases (Stand.of_body B).code.symm.trans h2
    have hh0 : s₁.heap = s.heap := by rw [B.state]; rfl
    have hfc : s.vm.findClass (cNm z.2.1) = some m.cls := by
      rw [← (mf_all z hz).1]
      exact findClass_of_methodNamed B.named
    have hle := (LR.entry (z := z) hA hl)
    have hlen : (ent z As).length = z.2.2.2.1 := by
      unfold ent
      simp
      omega
    have k := ih d z 0 (ent z As) [] h r hg p e (headSpec [cw z] { frames := d + 1, cells := r.2.2.1 - h.2.1, slots := r.2.2.2.1 - h.2.2.1, locals := 36 * d + 56 }).room s m (As.map cv).toArray below meth c h.2.1 h.2.2.1
      ⟨B.exec, B.bytes, hml, hfc, hz, B.returns, B.notSynchronized, fun hi => (name_of_methodNamed B.named B.method).1.trans ((mf_all z hz).2.2.2.2.1.mpr hi), hC, hK⟩ h8 hlen hb (by rw [hH.1]; exact hH.2.1) hZ ⟨Nat.le_refl _, Nat.le_refl _⟩
      ⟨Nat.le_refl _, Nat.le_refl _⟩ ⟨Nat.le_refl _, Nat.le_refl _⟩
      s.heap [] _ hle.2 (fun v hv => by cases hv) hH va_S.rf
    rw [Nat.sub_self, Nat.sub_self] at k
    obtain ⟨t, a1, o, b1, b2, b3, ⟨L, b4, b5⟩, b6, b7⟩ := k s₁ hh0 (Stand.of_body B)
    have a1 : Steps p.tables e below (s₁.setTop (entryFrame m (As.map cv).toArray z.2.2.2.1)) t := by rw [lg_entry_eq]; exact a1
    have hm := (go_mor _ _ _ _ _ _ _ _ hg).2.2
    refine ⟨t, o, a1, b1, b2, ⟨b6, b7⟩, b3, L, b4, fun q hq => ?_⟩
    have := b5 q hq
    rw [hm] at this
    exact this
section
variable {p : Program} {e : Env} {R : Room} {s : State} {m : MethodId} {args : Array Value} {below : List Frame} {meth : Method} {c : Code} {z0 t0 : Nat}
variable {y z : AY} {n d pc : Nat} {L S As rest : List AV} {h : AH} {r r1 : AO × AH}
set_option maxHeartbeats 4000000 in
theorem cal_tail (ih : SimAt s0 l D dA n) (hB : ∀ w ∈ lw_tbl, w.before a0 s0 = true) (hXR : exR s0) (hx : cx s0 D dA p s m meth c y) (hTb : Tbl y c) (hl : L.length = y.2.2.2.1) (hbase : s0.heap.size ≤ h.2.2.2.1) (hbs : h.2.2.2.1 ≤ s.heap.size) (hZ : va_Z "TarYard$Tape" "MARK" "[B" (.ref h.2.2.2.2) (fun q => h.2.2.2.1 ≤ q) s s.heap) (hz : z0 ≤ h.2.1 ∧ t0 ≤ h.2.2.1) (hR : d + 1 ≤ R.frames ∧ 36 * d + 56 ≤ R.locals) (hR2 : r.2.2.1 - z0 ≤ R.cells ∧ r.2.2.2.1 - t0 ≤ R.slots)
    {i : Jvm.ClassFile.Instr} (hd : tb y pc = some (i, 3)) (hinv : isInv i = true) (hzA : z ∈ allY) (hk4 : mk4 z) (hle : lv z ≤ d) (hg : go n (d - lv z) z 0 (ent z As) [] h = some r1) (ha : aft (go n) d y pc L rest r1 = some r) (hw : a_wt rest ≤ 8) (hspr : (a_spr As).length ≤ z.2.2.2.1)
    {H : Heap} {locs : List Loc} {ls : Array Slot} (hL : LR ls L) (hSr : SK rest) (hA : SK As) (hH : HR D dA s h H) (hV : va_S (fun q => h.2.2.2.1 ≤ q) s.heap H locs) {T : State} (hT : T.heap = H) {mk : MethodId} (X1 : Stand p l e R s m args below meth c T locs (h.2.1 - z0) (h.2.2.1 - t0)) (hn : T.methodNamed? (nm z) = some mk) :
    ∃ t, Steps p.tables e below (doInvoke e (T.setTop (F0 m pc ls (rest.map cv))) [] mk (As.map cv).toArray).1 t ∧ En D dA s below z0 t0 r t := by
  have hx0 := hx
  obtain ⟨hx1, hb, hml, hown, hy, hret, hlk, -, hC, hK⟩ := hx
  have hdg : decode c.code pc = .ok (i, 3) := by rw [hb]; exact dcd hy hd
  have hC1 : ct s0 T := ct_at hC hbase X1.warmed hV hT
  have hcw : (cw z).before (As.map cv).toArray T = true := wd hB hC1 (cw_at hzA hk4) (cw_ok z)
  obtain ⟨methY, cY, hmY, hcY, -, hlY, -, -, -, -⟩ := cw_spec hn hcw
  have hm3 : (mf z).1 ≠ 3 := by
    rcases hk4 with h | h | h | h <;> omega
  have hini : (Cond.initialized (nm z).cls).before (As.map cv).toArray T = true := wd hB hC1 ((mf_all z hzA).2.2.2.2.2.2.2.2.2.2 hm3) rfl
  have hM := metx ih hg hzA hA hspr hbase
  have mo1 := go_mor _ _ _ _ _ _ _ _ hg
  have mo2 : mor r1.2 r.2 := by
    obtain ⟨o, h2⟩ := r1
    rcases o with (_ | v) | ⟨k, x⟩
    · exact go_mor _ _ _ _ _ _ _ _ ha
    · exact go_mor _ _ _ _ _ _ _ _ ha
    · simp only [aft] at ha
      cases ht : tH y.1 k with
      | some t => simp only [ht] at ha; exact go_mor _ _ _ _ _ _ _ _ ha
      | none => simp only [ht] at ha; cases ha; exact mor.rf
  have hlv : z.2.2.2.1 ≤ 36 * lv z - 19 := by
    have := ml_le z hzA
    unfold lv
    split <;> omega
  have hlv1 : 1 ≤ lv z := by
    unfold lv
    split <;> omega
  have m1 := mo1.1
  have m2 := mo1.2.1
  have m3 := mo2.1
  have m4 := mo2.2.1
  have hst9 : (T.calling (F0 m pc ls (rest.map cv)) mk (As.map cv).toArray) = T.setFrames (.invoking mk (As.map cv).toArray :: .java (F0 m pc ls (rest.map cv)) :: T.frames.tail) := State.calling_eq X1.here.top _ _ _
  have hvm9 : (T.calling (F0 m pc ls (rest.map cv)) mk (As.map cv).toArray).vm = T.vm := by rw [hst9]; rfl
  have hhp9 : (T.calling (F0 m pc ls (rest.map cv)) mk (As.map cv).toArray).heap = H := by rw [hst9]; exact hT
  have hq9 : ∀ a : Nat, a < s.heap.size → ¬ h.2.2.2.1 ≤ a → (T.calling (F0 m pc ls (rest.map cv)) mk (As.map cv).toArray).heap[a]? = s.heap[a]? := fun a h1 h2 => by rw [hhp9]; exact hV.2.1 a h1 h2
  have hal9 : s.vm.Alike (T.calling (F0 m pc ls (rest.map cv)) mk (As.map cv).toArray).vm := by rw [hvm9]; exact X1.warmed.alike
  obtain ⟨o, t, L2, ⟨hHR, hoc⟩, hfree, X2, hst⟩ := callX hM X1 (g := F0 m pc ls (rest.map cv)) rfl (by rw [hml, ← hl]; exact hL.1.1) hdg (by show 2 * 0 + ((rest.map cv).map fun v => v.category).sum ≤ 8; rw [wt_cv hSr]; omega) hn hmY hcY hlY hcw hini
    (by show d - lv z + 1 + 1 ≤ R.frames; omega) (by show 8 + (z.2.2.2.1 + 11) + (36 * (d - lv z) + 56) ≤ R.locals; omega) (by show h.2.1 - z0 + (r1.2.2.1 - h.2.1) ≤ R.cells; omega) (by show h.2.2.1 - t0 + (r1.2.2.2.1 - h.2.2.1) ≤ R.slots; omega)
    ⟨rfl, by rw [hhp9]; exact hH.at hal9 hq9, ⟨by rw [hvm9]; exact hC1.1, by rw [hhp9, ← hT]; exact hC1.2⟩, hK.moved hal9, (hZ.moved hal9).kept hq9⟩
  have hc2 : h.2.1 - z0 + (r1.2.2.1 - h.2.1) = r1.2.2.1 - z0 := by omega
  have hs2 : h.2.2.1 - t0 + (r1.2.2.2.1 - h.2.2.1) = r1.2.2.2.1 - t0 := by omega
  have X2 : Stand p l e R s m args below meth c (bk T t) (locs ++ L2) (r1.2.2.1 - z0) (r1.2.2.2.1 - t0) := by
    have := X2
    rw [hc2, hs2] at this
    exact this
  have hbm : r1.2.2.2.2 = h.2.2.2 := mo1.2.2
  have hHs : HR D dA s r1.2 t.heap := by
    refine hHR.at hal9.symm fun a h1 h2 => ?_
    rw [hhp9]
    rw [hbm] at h2
    exact (hV.2.1 a (by omega) h2).symm
  have hfr : ∀ q ∈ locs ++ L2, h.2.2.2.1 ≤ q.base := fun q hq => by
    rcases List.mem_append.mp hq with h | h
    · exact hV.2.2 q h
    · exact hfree q h
  have hV2 : va_S (fun q => r1.2.2.2.2.1 ≤ q) s.heap t.heap (locs ++ L2) := by
    rw [hbm]
    exact ⟨X2.same.2.1, sbn_out (t := (bk T t).setVm s.vm) X2.same hfr, hfr⟩
  have hZ2 : va_Z "TarYard$Tape" "MARK" "[B" (.ref r1.2.2.2.2.2) (fun q => r1.2.2.2.2.1 ≤ q) s s.heap := by rw [hbm]; exact hZ
  have hz2 : z0 ≤ r1.2.2.1 ∧ t0 ≤ r1.2.2.2.1 := ⟨by omega, by omega⟩
  have hb2 : s0.heap.size ≤ r1.2.2.2.2.1 := by rw [hbm]; exact hbase
  have hbs2 : r1.2.2.2.2.1 ≤ s.heap.size := by rw [hbm]; exact hbs
  obtain ⟨ro, h2⟩ := r1
  rcases ro with (_ | v) | ⟨k, x⟩
  · obtain ⟨ho, -⟩ := hoc
    subst ho
    obtain ⟨t2, a1, b1⟩ := ih d y (pc + 3) L rest h2 r ha p e R s m args below meth c z0 t0 hx0 hTb hl hb2 hbs2 hZ2 hz2 hR hR2 t.heap (locs ++ L2) ls hL hSr hHs hV2 (bk T t) rfl X2
    exact ⟨t2, hst.trans a1, b1⟩
  · obtain ⟨ho, hov⟩ := hoc
    subst ho
    have hSv : SK (v :: rest) := fun w hw => (List.mem_cons.mp hw).elim (fun e => by rw [e]; exact hov v rfl) (fun hw => hSr w hw)
    obtain ⟨t2, a1, b1⟩ := ih d y (pc + 3) L (v :: rest) h2 r ha p e R s m args below meth c z0 t0 hx0 hTb hl hb2 hbs2 hZ2 hz2 hR hR2 t.heap (locs ++ L2) ls hL hSv hHs hV2 (bk T t) rfl X2
    exact ⟨t2, hst.trans a1, b1⟩
  · obtain ⟨hk2, ho, ce, hce, hcn, hcs⟩ := hoc
    subst ho
    have hst : Steps p.tables e below (doInvoke e (T.setTop (F0 m pc ls (rest.map cv))) [] mk (As.map cv).toArray).1 (((bk T t).setTop (F0 m pc ls (rest.map cv))).pushFrame (.throwing x)) := hst
    have hin := (lookup_in (l := y.2.2.1) hd)
    simp only [aft] at ha
    by_cases h4 : (mf y).1 = 4
    · obtain ⟨hc9, -, hq1, hq2, hq3⟩ := (hw_all y hy).1 h4
      have hown9 : s.vm.findClass "TarYardLaw" = some m.cls := by rw [hc9] at hown; exact hown
      have hWt : s.WarmedH t.vm := X2.warmed
      have hfk : s.vm.findClass (exN k) = some ce.cls := by rw [← hWt.alike.findClass]; exact hcn
      have hpl : e.platform.magicAccessors = ({} : Platform).magicAccessors := by rw [X2.admits.platform]
      obtain ⟨vm', hW', hfd⟩ := fg_all (e := e) hpl (sB := s) (args := args) (f := F0 m pc ls (rest.map cv)) (a := x) (k := k) (cell := ce) hk2 hown9 (hXR.warm hC.1) hfk (VmData.ne_statics_of hcs) (Vm.classAt_of_findClass hfk) (hdl y.1) (((bk T t).setTop (F0 m pc ls (rest.map cv))).pushFrame (.throwing x)) (by rw [Stand.throwing_vm]; exact hWt) (by rw [Stand.throwing_heap]; exact hce)
        (fun q hq => by
          obtain ⟨u1, u2⟩ := hq1 q hq
          have u3 := hq2 _ hin hinv q hq
          refine ⟨?_, ?_, ?_, ?_⟩
          · show (decide (q.1 ≤ pc) && decide (pc < q.2.1)) = true
            rw [u1]
            simpa using u3
          · rcases u2 with h | h | h <;> rw [h] <;> decide
          · rcases u2 with h | h | h <;> rw [h] <;> decide
          · rcases u2 with h | h | h <;> rw [h]
            · exact wd hB hC hkL_13 rfl
            · exact wd hB hC hkL_15 rfl
            · exact wd hB hC hkL_40 rfl)
      have hfind : fdT e (((bk T t).setTop (F0 m pc ls (rest.map cv))).pushFrame (.throwing x)) (F0 m pc ls (rest.map cv)) x (hRes (hdl y.1) k) vm' := by
        intro Q E dd acts
        rw [W.findHandler_eq (meth := meth) (code := c) (by rw [Stand.throwing_vm]; exact X2.method') X2.code, hTb.2 h4]
        exact hfd Q E dd acts
      have X3 := X2.noted hW'
      have htk := hq3 k (by omega)
      cases ht : tH y.1 k with
      | some t9 =>
        simp only [ht] at ha
        have hres : hRes (hdl y.1) k = .found t9 := by
          rw [ht] at htk
          unfold hRes
          cases hff : (hdl y.1).find? (fun q => hk q.2.2.2 == k) with
          | none => rw [hff] at htk; cases htk
          | some q =>
            rw [hff] at htk
            simp at htk
            simp only [← htk]
        rw [hres] at hfind
        obtain ⟨t2, a1, b1⟩ := ih d y t9 L [aR x] h2 r ha p e R s m args below meth c z0 t0 hx0 hTb hl hb2 hbs2 hZ2 hz2 hR hR2 t.heap (locs ++ L2) ls hL (fun w hw => by rw [List.mem_singleton.mp hw]; exact ⟨trivial, rfl⟩) hHs hV2 ((bk T t).setVm vm') rfl X3
        exact ⟨t2, hst.trans (ctch (s := bk T t) (g := F0 m pc ls (rest.map cv)) X2.here hfind a1), b1⟩
      | none =>
        simp only [ht] at ha
        cases ha
        have hres : hRes (hdl y.1) k = .none := by
          rw [ht] at htk
          unfold hRes
          cases hff : (hdl y.1).find? (fun q => hk q.2.2.2 == k) with
          | none => rfl
          | some q => rw [hff] at htk; cases htk
        rw [hres] at hfind
        obtain ⟨g0, hfr0⟩ := X3.frames_eq
        refine ⟨((bk T t).setVm vm').setFrames (.throwing x :: below), hst.trans (lvs (s := bk T t) (g := F0 m pc ls (rest.map cv)) X2.here (meth := meth) X3.method' hlk rfl rfl hfind ?_), .threw x, X3.here.running, State.frames_setFrames _ (State.cur_lt_of_frames hfr0), (X3.ends _).1, ⟨locs ++ L2, (X3.ends _).2, hV2.2.2⟩, hHs, hk2, rfl, ce, hce, ?_, hcs⟩
        · rw [X2.tail]
          exact Steps.refl _
        · show vm'.findClass (exN k) = _
          rw [hW'.alike.findClass]
          exact hfk
    · have ht := (hw_all y hy).2 h4 k (by omega)
      simp only [ht] at ha
      cases ha
      obtain ⟨s1, s2, s3, s4, s5⟩ := X2.leaveThrown x (g := F0 m pc ls (rest.map cv)) rfl rfl rfl (hTb.1 h4 pc) hlk
      exact ⟨_, hst.trans s1, .threw x, s2, s3, s4, ⟨locs ++ L2, s5, hV2.2.2⟩, hHs, hk2, rfl, ce, hce, hcn, hcs⟩
end
end SimG
end
section
/-! From AM to the true machine, 11: the whole simulation. -/
section SimH
variable {s0 : State} {a0 : Array Value} {l : Launch} {D : va_G} {dA : Nat → ClassId}
variable {p : Program} {e : Env} {R : Room} {s : State} {m : MethodId} {args : Array Value} {below : List Frame} {meth : Method} {c : Code} {z0 t0 : Nat}
variable {y z : AY} {n d pc len : Nat} {L S As rest : List AV} {h : AH} {r r1 : AO × AH}
theorem wdF {s0 s : State} {a0 args : Array Value} (hB : ∀ w ∈ lw_tbl, w.before a0 s0 = true) (hC : ct s0 s) {p : Nat} {w : Jvm.Cond} (h : lw_tbl[p]? = some w) (hk : (w.onTables && w.keepsFace) = true) : w.before args s = true := by
  simp only [Bool.and_eq_true] at hk
  exact va_tabs (u := s0.setVm s.vm) hk.1 rfl (Cond.before_shiftedFace (State.Shifted.of_warmed hC.1) w hk.2 (hB w (List.mem_of_getElem? h)))
theorem SK.take {S : List AV} (h : SK S) (n : Nat) : SK (S.take n) := fun v hv => h v (List.mem_of_mem_take hv)
theorem SK.drop {S : List AV} (h : SK S) (n : Nat) : SK (S.drop n) := fun v hv => h v (List.mem_of_mem_drop hv)
theorem SK.rev {S : List AV} (h : SK S) : SK S.reverse := fun v hv => h v (List.mem_reverse.mp hv)
theorem vir5 : ∀ y ∈ allY, y.2.1 = 5 → (mf y).1 ≠ 0 := by decide +kernel
theorem vcl_pos {ci : Nat} {q : vw_C} (h : vcl[ci]? = some q) (h5 : ci ≠ 5) : 0 < q.2.2 := by
  match ci, h with
  | 0, h => cases h; decide
  | 1, h => cases h; decide
  | 2, h => cases h; decide
  | 3, h => cases h; decide
  | 4, h => cases h; decide
  | 5, h => exact absurd rfl h5
  | 6, h => cases h; decide
  | 7, h => cases h; decide
  | 8, h => cases h; decide
  | n + 9, h => simp [vcl] at h
theorem hinit : ∀ y ∈ allY, (mf y).1 = 1 → y.2.2.2.2.2 = true ∧ y.2.2.2.2.1 = none := by decide +kernel
set_option maxHeartbeats 4000000 in
theorem sm_cal (ih : SimAt s0 l D dA n) (hB : ∀ w ∈ lw_tbl, w.before a0 s0 = true) (hXR : exR s0) (hx : cx s0 D dA p s m meth c y) (hTb : Tbl y c) (hl : L.length = y.2.2.2.1) (hbase : s0.heap.size ≤ h.2.2.2.1) (hbs : h.2.2.2.1 ≤ s.heap.size) (hZ : va_Z "TarYard$Tape" "MARK" "[B" (.ref h.2.2.2.2) (fun q => h.2.2.2.1 ≤ q) s s.heap) (hz : z0 ≤ h.2.1 ∧ t0 ≤ h.2.2.1) (hR : d + 1 ≤ R.frames ∧ 36 * d + 56 ≤ R.locals) (hR2 : r.2.2.1 - z0 ≤ R.cells ∧ r.2.2.2.1 - t0 ≤ R.slots)
    {i : Jvm.ClassFile.Instr} (hd : tb y pc = some (i, len)) (hs : cal y i len S h = some (z, As, rest)) (hle : lv z ≤ d) (hg : go n (d - lv z) z 0 (ent z As) [] h = some r1) (ha : aft (go n) d y pc L rest r1 = some r) : SW p l e R s m args below meth c (En D dA s below z0 t0 r) D dA z0 t0 pc L S h := by
  have hx0 := hx
  obtain ⟨hx1, hb, hml, hown, hy, hret, hlk, -, hC, hK⟩ := hx
  have hdg := dcd hy hd
  unfold cal at hs
  split at hs
  · rename_i x
    split at hs
    · rename_i nn z' hm
      split at hs
      · rename_i a rest' hdr
        split at hs
        · rename_i ci fs hc
          split at hs
          · rename_i hcond
            cases hs
            obtain ⟨hci, hba, htl, hw, hspr, hsome⟩ := hcond
            subst hci
            obtain ⟨hzA, hk0, -, -, -, hnn, q, hq⟩ := tM_ok hm
            have hk0 : (mf z).1 = 0 := hk0 rfl
            have hmf := mf_all z hzA
            intro H locs ls hL hS hH hV T hT X
            have hst : S = S.take nn ++ aR a :: rest := by rw [← hdr]; exact (List.take_append_drop nn S).symm
            have hSr : SK rest := by have := hS.drop nn; rw [hdr] at this; exact this.tail
            have hSa : okv (aR a) := trivial
            have hA : SK (aR a :: (S.take nn).reverse) := (hS.take nn).rev.cons (v := .inr (.inr (some a))) trivial
            obtain ⟨-, hat, -⟩ := hH.2.2 a _ hc
            obtain ⟨rv, hrv, hOB⟩ := hat hba
            have hqL : lw_tbl[q]? = some (.methodLink (cNm y.2.1) x (nm z)) := by
              rcases hq with h | h
              · exact h
              · exact absurd (show (0 : Nat) = 1 from h.1) (by decide)
            have hcl := (hK.1 z.2.1 rv hrv).2.1
            have hvn := (vcl_all z.2.1 rv hrv).1 (vcl_pos hrv (fun h5 => absurd hk0 (vir5 z hzA h5)))
            obtain ⟨cell, hc1, hc2, hc3, -⟩ := hOB
            have hcls : s.vm.findClass (nm z).cls = some cell.cls := by rw [hmf.1, ← hvn, hc2]; exact hcl
            have hdesc : ∀ meth2 mk2, s.methodNamed? (nm z) = some mk2 → s.vm.method? mk2 = some meth2 → parseMethodDescriptor (nm z).desc = some meth2.sig := fun meth2 mk2 h1 h2 => by
              obtain ⟨meth', c', g1, -, -, -, -, -, g2, -⟩ := cw_spec (args := args) h1 (wd hB hC (cw_at hzA (Or.inl hk0)) (cw_ok z))
              cases h2.symm.trans g1
              exact g2
            have hnn : nn = (mf z).2.2.2.2.2 := hnn
            obtain ⟨vm₁, mk, hW1, X1, hn, hstep⟩ := inV X hx1 (own := cNm y.2.1) (index := x) (x := nm z) hown (wd hB hC hqL rfl) (wd hB hC (hmf.2.2.2.2.2.2.2.1 (Or.inl hk0)) rfl) (wdF hB hC (hmf.2.2.2.2.2.2.2.2.2.1 hk0) rfl) hmf.2.2.1 (n := nn) (by rw [hnn]; exact hmf.2.2.2.1)
              (b := a) (cellB := cell) (by rw [hT]; exact hc1) (by rw [hc3]; rfl) hcls (g := F0 m pc ls (S.map cv)) rfl (As := ((S.take nn).reverse).map cv) (rest := rest.map cv) (by simpa using htl) (by
                show S.map cv = _
                rw [← List.map_reverse, List.reverse_reverse]
                conv => lhs; rw [hst]
                rw [List.map_append]
                rfl) (by rw [hb]; exact hdg) hdesc
            obtain ⟨t, a1, b1⟩ := cal_tail ih hB hXR hx0 hTb hl hbase hbs hZ hz hR hR2 hd rfl hzA (Or.inl hk0) hle hg ha hw hspr hL hSr hA hH hV (T := T.setVm vm₁) hT X1 hn
            exact ⟨t, hstep t a1, b1⟩
          · cases hs
        · cases hs
      · cases hs
    · cases hs
  · rename_i x
    split at hs
    · rename_i nn z' hm
      split at hs
      · rename_i a rest' hdr
        split at hs
        · rename_i hcond
          cases hs
          obtain ⟨htl, hw, hspr, hsome⟩ := hcond
          obtain ⟨hzA, -, hk0, -, -, hnn, q, hq⟩ := tM_ok hm
          have hk0 : (mf z).1 = 1 := hk0 rfl
          have hmf := mf_all z hzA
          intro H locs ls hL hS hH hV T hT X
          have hst : S = S.take nn ++ aR a :: rest := by rw [← hdr]; exact (List.take_append_drop nn S).symm
          have hSr : SK rest := by have := hS.drop nn; rw [hdr] at this; exact this.tail
          have hA : SK (aR a :: (S.take nn).reverse) := (hS.take nn).rev.cons (v := .inr (.inr (some a))) trivial
          have hnn : nn = (mf z).2.2.2.2.2 := hnn
          have hini : (nm z).name = "<init>" := hmf.2.2.2.2.1.mpr (hinit z hzA hk0).1
          have hlk2 : (Cond.methodLink (cNm y.2.1) x (nm z)).before args s = true ∨ (Cond.methodLinkNest (cNm y.2.1) x (nm z) "TarYard").before args s = true := by
            rcases hq with h | h
            · exact Or.inl (wd hB hC h rfl)
            · exact Or.inr (wd hB hC h.2 rfl)
          have hcode := hmf.2.2.2.2.2.2.1 (Or.inr (Or.inl hk0))
          rw [(hinit z hzA hk0).2] at hcode
          obtain ⟨vm₁, mk, hW1, X1, hn, hstep⟩ := inI X hx1 (own := cNm y.2.1) (host := "TarYard") (index := x) (x := nm z) hown hini hlk2 (wd hB hC (hmf.2.2.2.2.2.2.2.1 (Or.inr hk0)) rfl) (wd hB hC hcode rfl) hmf.2.2.1 (n := nn) (by rw [hnn]; exact hmf.2.2.2.1)
            (g := F0 m pc ls (S.map cv)) rfl (a := a) (As := ((S.take nn).reverse).map cv) (rest := rest.map cv) (by simpa using htl) (by
                show S.map cv = _
                rw [← List.map_reverse, List.reverse_reverse]
                conv => lhs; rw [hst]
                rw [List.map_append]
                rfl) (by rw [hb]; exact hdg)
          obtain ⟨t, a1, b1⟩ := cal_tail ih hB hXR hx0 hTb hl hbase hbs hZ hz hR hR2 hd rfl hzA (Or.inr (Or.inl hk0)) hle hg ha hw hspr hL hSr hA hH hV (T := T.setVm vm₁) hT X1 hn
          exact ⟨t, hstep t a1, b1⟩
        · cases hs
      · cases hs
    · cases hs
  · rename_i x
    split at hs
    · rename_i nn z' hm
      split at hs
      · rename_i hcond
        cases hs
        obtain ⟨htl, hw, hspr, hsome⟩ := hcond
        obtain ⟨hzA, -, -, hk0, -, hnn, q, hq⟩ := tM_ok hm
        have hk0 : (mf z).1 = 2 ∨ (mf z).1 = 4 := hk0 rfl
        have hk4 : mk4 z := by
          rcases hk0 with h | h
          · exact Or.inr (Or.inr (Or.inl h))
          · exact Or.inr (Or.inr (Or.inr h))
        have hm3 : (mf z).1 ≠ 3 := by omega
        have hmf := mf_all z hzA
        intro H locs ls hL hS hH hV T hT X
        have hSr : SK (S.drop nn) := hS.drop nn
        have hA : SK (S.take nn).reverse := (hS.take nn).rev
        have hnn : nn = (mf z).2.2.2.2.2 := hnn
        have hqL : lw_tbl[q]? = some (.methodLink (cNm y.2.1) x (nm z)) := by
          rcases hq with h | h
          · exact h
          · exact absurd (show (2 : Nat) = 1 from h.1) (by decide)
        have hstat : (Cond.static (nm z)).before args s = true := wd hB hC (hmf.2.2.2.2.2.2.2.2.1 hk0) rfl
        obtain ⟨mk, methM, hnamed, hmethM, hsigM⟩ : ∃ mk methM, s.methodNamed? (nm z) = some mk ∧ s.vm.method? mk = some methM ∧ parseMethodDescriptor (nm z).desc = some methM.sig := by
          obtain ⟨mk, hmk⟩ : ∃ mk, s.methodNamed? (nm z) = some mk := by
            cases hmm : s.methodNamed? (nm z) with
            | some mk => exact ⟨mk, rfl⟩
            | none => simp [Cond.before, Cond.holds, Cond.value, hmm] at hstat
          obtain ⟨meth', c', g1, -, -, -, -, -, g2, -⟩ := cw_spec (args := args) hmk (wd hB hC (cw_at hzA hk4) (cw_ok z))
          exact ⟨mk, meth', hmk, g1, g2⟩
        obtain ⟨vm₁, hW1, X1, hn, hstep⟩ := inS X hx1 (own := cNm y.2.1) (index := x) (x := nm z) hown (wd hB hC hqL rfl) hstat (wd hB hC (hmf.2.2.2.2.2.2.2.2.2.2 hm3) rfl) hmf.2.2.1 (n := nn) (by rw [hnn]; exact hmf.2.2.2.1) hnamed hmethM hsigM
            (g := F0 m pc ls (S.map cv)) rfl (As := ((S.take nn).reverse).map cv) (rest := (S.drop nn).map cv) (by simpa using htl) (by
                show S.map cv = _
                rw [← List.map_reverse, List.reverse_reverse, ← List.map_append, List.take_append_drop]) (by rw [hb]; exact hdg)
        obtain ⟨t, a1, b1⟩ := cal_tail ih hB hXR hx0 hTb hl hbase hbs hZ hz hR hR2 hd rfl hzA hk4 hle hg ha hw hspr hL hSr hA hH hV (T := T.setVm vm₁) hT X1 hn
        exact ⟨t, hstep t a1, b1⟩
      · cases hs
    · cases hs
  · cases hs
/-- the whole: what AM does, the machine does -/
theorem sim (hB : ∀ w ∈ lw_tbl, w.before a0 s0 = true) (hU1 : exU1.before a0 s0 = true) (hU2 : exU2.before a0 s0 = true) (hXR : exR s0) (htr : ∀ e : Env, l.admits e → e.platform.stackTraces = false) : ∀ n : Nat, SimAt s0 l D dA n := by
  intro n
  induction n with
  | zero => intro d y pc L S h r hgo; cases hgo
  | succ n ih =>
    intro d y pc L S h r hgo p e R s m args below meth c z0 t0 hx hTb hl hbase hbs hZ hz hR hR2
    have hgo : gob (go n) d y pc L S h = some r := hgo
    unfold gob at hgo
    cases hd : tb y pc with
    | none => simp only [hd] at hgo; cases hgo
    | some il =>
      obtain ⟨i, len⟩ := il
      simp only [hd] at hgo
      cases hf : fin d y i len pc S h with
      | some q =>
        simp only [hf] at hgo
        cases hgo
        exact sm_fin hx hB hU1 hU2 htr hTb.1 hl hbase hz hR hR2 hd hf
      | none =>
        simp only [hf] at hgo
        cases hc : cal y i len S h with
        | some q =>
          obtain ⟨z, As, rest⟩ := q
          simp only [hc] at hgo
          split at hgo
          · rename_i hle
            cases hg : go n (d - lv z) z 0 (ent z As) [] h with
            | none => rw [hg] at hgo; cases hgo
            | some r1 =>
              rw [hg] at hgo
              exact sm_cal ih hB hXR hx hTb hl hbase hbs hZ hz hR hR2 hd hc hle hg hgo
          · cases hgo
        | none =>
          simp only [hc] at hgo
          cases hb : blt y i len S h with
          | some q =>
            obtain ⟨S', h'⟩ := q
            simp only [hb] at hgo
            have mo := blt_mor hb
            have mo2 := go_mor _ _ _ _ _ _ _ _ hgo
            have m1 := mo.1
            have m2 := mo.2.1
            have m3 := mo.2.2
            have m4 := mo2.1
            have m5 := mo2.2.1
            refine sm_blt hx hB hl ⟨by omega, by omega⟩ ⟨by omega, by omega⟩ hd hb ?_
            exact ih d y (pc + 3) L S' h' r hgo p e R s m args below meth c z0 t0 hx hTb hl (by rw [m3]; exact hbase) (by rw [m3]; exact hbs) (by rw [m3]; exact hZ) ⟨by omega, by omega⟩ hR hR2
          | none =>
            simp only [hb] at hgo
            cases hs : stp y i len pc L S h with
            | none => simp only [hs] at hgo; cases hgo
            | some q =>
              obtain ⟨pc', L', S', h'⟩ := q
              simp only [hs] at hgo
              obtain ⟨mo, hl'⟩ := stp_mor hs
              have mo2 := go_mor _ _ _ _ _ _ _ _ hgo
              have m1 := mo.1
              have m2 := mo.2.1
              have m3 := mo.2.2
              have m4 := mo2.1
              have m5 := mo2.2.1
              refine sm_stp hx hB hZ hl hz ⟨by omega, by omega⟩ hd hs ?_
              exact ih d y pc' L' S' h' r hgo p e R s m args below meth c z0 t0 hx hTb (hl'.trans hl) (by rw [m3]; exact hbase) (by rw [m3]; exact hbs) (by rw [m3]; exact hZ) ⟨by omega, by omega⟩ hR hR2
end SimH
end
section
/-! From a run of the law on AM to the claim's own walk. -/
def mkf (j : Nat) : Int := ([117, 115, 116, 97, 114, 0, 48, 48] : List Int).getD j 0
/-- the heap at the law's start: the script at b, the marks at mk, N cells in all -/
def h00 (b mk N L : Nat) (xs : Nat → Int) : AH := (fun a => if a = mk then some (eA 1 8 mkf) else if a = b then some (eA 0 L xs) else none, N, 0, N, mk)
def LawOK : Prop := ∀ (b mk N L : Nat) (xs : Nat → Int), b < N → mk < N → b ≠ mk → L ≤ 3584 → (∀ j, r32 (xs j)) →
  Go 10 yLw_law 0 (ent yLw_law [aR b]) [] (h00 b mk N L xs) (fun o h' => o = .inl (some (aI 1)) ∧ h'.2.1 ≤ N + 601024 ∧ h'.2.2.1 ≤ 7293034)
def R_law : String := "TarYardLaw"
def lw_P (b : Addr) (xs : List Int32) (args : Array Value) (s : State) : Prop := args = #[.ref b] ∧ s.IntsAt b xs ∧ xs.length ≤ 3584 ∧ (Jvm.Cond.and given_1 narrow_1).before args s = true
def lw_Q (_ : Array Value) (s : State) (o : Outcome) (t : State) : Prop := o = .returned (some (.int 1)) ∧ Framed s o t [] 601024 7293034
def lw_Z (below : List Frame) (a : Array Value) (s : State) : State → Prop := fun t => ∃ o, t.status = .running ∧ Ended t below o ∧ lw_Q a s o t
def lw_At (p : Program) (s : State) (m : MethodId) (meth : Method) (c : Code) (b L : Nat) (xs : Nat → Int32) : Prop :=
  p.tables.exec = Jvm.exec ∧ c.code = code ∧ meth.sig.returnType = ret ∧ c.maxLocals = 7 ∧ s.vm.findClass R_law = some m.cls ∧ (∀ w ∈ lw_tbl, w.before #[Value.ref b] s = true) ∧ va_X b L xs s s.heap ∧ b < s.heap.size ∧ meth.locks = false ∧ (Jvm.Cond.and given_1 narrow_1).before #[Value.ref b] s = true ∧ Tbl yLw_law c
theorem exC0 : ∀ k, k < 3 → Jvm.Cond.castable (exN k) (exN k) ∈ lw_tbl := by decide +kernel
theorem not_cast {args : Array Value} {s : State} {A B : String} {c c' : ClassId} (h : (Jvm.Cond.not (.castable A B)).before args s = true) (h1 : s.vm.findClass A = some c) (h2 : s.vm.findClass B = some c') : s.vm.assignable c c' = false := by
  cases hh : s.vm.assignable c c' with
  | false => rfl
  | true => simp [Cond.before, Cond.holds, Cond.value, h1, h2, hh] at h
theorem exR_of {b : Nat} {s : State} (hts : ∀ w ∈ lw_tbl, w.before #[Value.ref b] s = true) (hgv : (Jvm.Cond.and given_1 narrow_1).before #[Value.ref b] s = true) : exR s := by
  have hs := flat_of_before _ hgv
  have hc : ∀ k, k < 3 → ∃ c, s.vm.findClass (exN k) = some c ∧ s.vm.assignable c c = true := fun k hk => by
    obtain ⟨c, c', h1, h2, h3⟩ := Cond.castable_spec (hts _ (exC0 k hk))
    cases h1.symm.trans h2
    exact ⟨c, h1, h3⟩
  have n01 : (Jvm.Cond.not (.castable (exN 0) (exN 1))).before #[Value.ref b] s = true := hs _ (by decide +kernel)
  have n02 : (Jvm.Cond.not (.castable (exN 0) (exN 2))).before #[Value.ref b] s = true := hs _ (by decide +kernel)
  have n10 : (Jvm.Cond.not (.castable (exN 1) (exN 0))).before #[Value.ref b] s = true := hs _ (by decide +kernel)
  have n12 : (Jvm.Cond.not (.castable (exN 1) (exN 2))).before #[Value.ref b] s = true := hs _ (by decide +kernel)
  have n20 : (Jvm.Cond.not (.castable (exN 2) (exN 0))).before #[Value.ref b] s = true := hs _ (by decide +kernel)
  have n21 : (Jvm.Cond.not (.castable (exN 2) (exN 1))).before #[Value.ref b] s = true := hs _ (by decide +kernel)
  intro k k' hk hk'
  obtain ⟨c, h1, h2⟩ := hc k (by omega)
  obtain ⟨c', h3, h4⟩ := hc k' (by omega)
  refine ⟨c, c', h1, h3, ?_⟩
  have e3 : ∀ j : Nat, j ≤ 2 → j = 0 ∨ j = 1 ∨ j = 2 := fun j hj => by omega
  rcases e3 k hk with rfl | rfl | rfl <;> rcases e3 k' hk' with rfl | rfl | rfl
  all_goals first
    | (cases h1.symm.trans h3; rw [h2]; rfl)
    | (rw [not_cast n01 h1 h3]; rfl)
    | (rw [not_cast n02 h1 h3]; rfl)
    | (rw [not_cast n10 h1 h3]; rfl)
    | (rw [not_cast n12 h1 h3]; rfl)
    | (rw [not_cast n20 h1 h3]; rfl)
    | (rw [not_cast n21 h1 h3]; rfl)
theorem inst_at : ∀ q ∈ vcl, ∃ n : Nat, Jvm.Cond.instantiable q.1 n ∈ lw_tbl := by
  have h : ∀ q ∈ vcl, (lw_tbl.any fun w => match w with | .instantiable C _ => C == q.1 | _ => false) = true := by decide +kernel
  intro q hq
  obtain ⟨w, hw, hb⟩ := List.any_eq_true.mp (h q hq)
  split at hb
  · rename_i C n
    rw [beq_iff_eq] at hb
    subst hb
    exact ⟨n, hw⟩
  · cases hb
theorem known_of {b : Nat} {s : State} (hts : ∀ w ∈ lw_tbl, w.before #[Value.ref b] s = true) : ∃ (D : va_G) (dA : Nat → ClassId), va_K D vcl (tyl dA) s := by
  have h1 : ∀ c : Nat, ∃ (cC : ClassId) (iS : Nat → Nat), ∀ q : vw_C, vcl[c]? = some q → u_Kn s q.1 q.2.1 q.2.2 cC iS := fun c => by
    cases hq : vcl[c]? with
    | none => exact ⟨0, fun _ => 0, fun q h => by cases h⟩
    | some q =>
      obtain ⟨n, hn⟩ := inst_at q (List.mem_of_getElem? hq)
      obtain ⟨cC, iS, hk⟩ := u_known hts (vcl_all c q hq).2.1 (hts _ hn)
      exact ⟨cC, iS, fun q' h => by cases h; exact hk⟩
  have h2 : ∀ k : Nat, ∃ cA : ClassId, k ≤ 3 → ArrOfT s cA (arT k) ∧ va_RA s cA (arT k) := fun k => by
    match k with
    | 0 =>
      obtain ⟨c, k, comp, e1, e2, e3⟩ := Cond.arrayClass_spec (hts _ (List.mem_of_getElem? ac_int))
      exact ⟨c, fun _ => ⟨fun n z => ⟨fun k h => (by cases h), k, e2, comp, e3⟩, e1⟩⟩
    | 1 =>
      obtain ⟨c, k, comp, e1, e2, e3⟩ := Cond.arrayClass_spec (hts _ (List.mem_of_getElem? ac_byte))
      exact ⟨c, fun _ => ⟨fun n z => ⟨fun k h => (by cases h), k, e2, comp, e3⟩, e1⟩⟩
    | 2 =>
      obtain ⟨c, k, comp, e1, e2, e3⟩ := Cond.arrayClass_spec (hts _ (List.mem_of_getElem? ac_long))
      exact ⟨c, fun _ => ⟨fun n z => ⟨fun k h => (by cases h), k, e2, comp, e3⟩, e1⟩⟩
    | 3 =>
      obtain ⟨comp, c, k, e0, -, e2, e3, e4⟩ := Cond.arrayOver_spec (hts _ (List.mem_of_getElem? ao_node))
      exact ⟨c, fun _ => ⟨fun n z => ⟨fun k h => (by cases h), k, e2, comp, e3⟩, k, comp, e2, e3, e0, e4⟩⟩
    | k + 4 => exact ⟨0, fun h => absurd h (by omega)⟩
  refine ⟨(fun c => (h1 c).choose, fun c => (h1 c).choose_spec.choose), fun k => (h2 k).choose, fun c q hq => (h1 c).choose_spec.choose_spec q hq, fun k q hq => ?_⟩
  have hlt : k < 4 := (List.getElem?_eq_some_iff.mp hq).1
  rw [tyl_at (by omega)] at hq
  cases hq
  exact (h2 k).choose_spec (by omega)
theorem mark_lay : Jvm.Cond.laysStatic "TarYard$Tape" "MARK" "[B" ∈ lw_tbl ∧ Jvm.Cond.initialized "TarYard$Tape" ∈ lw_tbl := by decide +kernel
theorem mark_of {b : Nat} {s : State} (hgv : (Jvm.Cond.and given_1 narrow_1).before #[Value.ref b] s = true) : ∃ t : Nat, (Term.static "TarYard$Tape" "MARK" "[B").eval #[Value.ref b] s none [] s = some (.ref t) ∧ va_T .byte t 8 (fun j => .int (Int32.ofInt (mkf j))) (fun q => s.heap.size ≤ q) s s.heap := by
  have hs := flat_of_before _ hgv
  refine va_Tof (tm := .static "TarYard$Tape" "MARK" "[B") (by decide) (hs _ (by decide +kernel)) (va_eqt (hs _ (by decide +kernel))) (fun j hj => ?_) (fun a h => Nat.not_le.mpr h)
  have e8 : j = 0 ∨ j = 1 ∨ j = 2 ∨ j = 3 ∨ j = 4 ∨ j = 5 ∨ j = 6 ∨ j = 7 := by omega
  rcases e8 with rfl | rfl | rfl | rfl | rfl | rfl | rfl | rfl
  · exact va_eqt (z := 117) (hs _ (by decide +kernel))
  · exact va_eqt (z := 115) (hs _ (by decide +kernel))
  · exact va_eqt (z := 116) (hs _ (by decide +kernel))
  · exact va_eqt (z := 97) (hs _ (by decide +kernel))
  · exact va_eqt (z := 114) (hs _ (by decide +kernel))
  · exact va_eqt (z := 0) (hs _ (by decide +kernel))
  · exact va_eqt (z := 48) (hs _ (by decide +kernel))
  · exact va_eqt (z := 48) (hs _ (by decide +kernel))
set_option maxHeartbeats 4000000 in
theorem whole_start (hlaw : LawOK) {p : Program} {e : Env} {s : State} {m : MethodId} {below : List Frame} {meth : Method} {c : Code} (l : Launch) (hfl : l.flags = flags0) {b L : Nat} {xs : Nat → Int32} (hL : L ≤ 3584) (C0 : lw_At p s m meth c b L xs) : W p l e room_1 s m #[Value.ref b] below meth c s.heap [] 0 0 (lw_Z below #[Value.ref b] s) (entryFrame m ([Value.ref b] : List Value).toArray 7) := by
  obtain ⟨hx, hb, hr, hml, hown, hts, hX, hbl, hlocks, hgv, hTb⟩ := C0
  have hs := flat_of_before _ hgv
  obtain ⟨D, dA, hK⟩ := known_of hts
  obtain ⟨mk, hev, hMk⟩ := mark_of hgv
  have hZ := va_Zref (A := fun q => s.heap.size ≤ q) (hts _ mark_lay.1) (hts _ mark_lay.2) hev (fun a h => Nat.not_le.mpr h)
  obtain ⟨scr, x1, x2, x3, x4, x5⟩ := hX
  obtain ⟨cell, y1, y2, y3, y4, y5, y6, y7⟩ := id hMk
  have hmk : mk < s.heap.size := Nat.not_le.mp y7
  have hne : b ≠ mk := fun h => by
    subst h
    cases x1.symm.trans y1
    obtain ⟨-, k1, e1, c1, e2⟩ := x2
    obtain ⟨-, k2, e3, c2, e4⟩ := y2
    cases e1.symm.trans e3
    rw [e2] at e4
    cases e4
  obtain ⟨n, r, hgo, ho, hr1, hr2⟩ := hlaw b mk s.heap.size L (fun j => (xs j).toInt) hbl hmk hne hL (fun j => r32_of (xs j))
  have hC : ct s s := ⟨State.WarmedH.refl s, fun _ _ => rfl⟩
  have hle := LR.entry (z := yLw_law) (As := [aR b]) (fun v hv => by rw [List.mem_singleton.mp hv]; exact ⟨trivial, rfl⟩) (show 1 ≤ 7 by decide)
  have hy : yLw_law ∈ allY := by
    have := List.mem_of_getElem? (l := allY) (i := yLw_law.1) (a := yLw_law) rfl
    exact this
  have hH : HR D dA s (h00 b mk s.heap.size L (fun j => (xs j).toInt)) s.heap := by
    refine ⟨rfl, Nat.le_refl _, fun a e he => ?_⟩
    simp only [h00] at he
    split at he
    · rename_i ha
      cases he
      subst ha
      refine ⟨⟨by decide, Or.inr (Or.inl ⟨rfl, fun j => ?_⟩)⟩, fun h => absurd h (Nat.not_le.mpr hmk), fun _ => ⟨by decide, hMk⟩⟩
      unfold mkf
      by_cases hj : j < 8
      · have e8 : j = 0 ∨ j = 1 ∨ j = 2 ∨ j = 3 ∨ j = 4 ∨ j = 5 ∨ j = 6 ∨ j = 7 := by omega
        rcases e8 with rfl | rfl | rfl | rfl | rfl | rfl | rfl | rfl <;> exact ⟨by decide, by decide⟩
      · rw [List.getD_eq_getElem?_getD, List.getElem?_eq_none (by simp; omega)]
        exact ⟨by decide, by decide⟩
    · split at he
      · rename_i ha
        cases he
        subst ha
        refine ⟨⟨by omega, Or.inl ⟨rfl, fun j => r32_of (xs j)⟩⟩, fun h => absurd h (Nat.not_le.mpr hbl), fun _ => ⟨by decide, scr, x1, x2, x3, ?_, ?_, fun j hj => ?_, Nat.not_le.mpr hbl⟩⟩
        · rw [x4]; exact Nat.le_refl _
        · simp only [x4]
          try rfl
        · rw [x5 j hj]
          show some (Value.int (xs j)) = some (Value.int (Int32.ofInt (xs j).toInt))
          rw [Int32.ofInt_toInt]
      · cases he
  have k := sim (a0 := #[Value.ref b]) (l := l) (D := D) (dA := dA) hts (hs exU1 (by decide +kernel)) (hs exU2 (by decide +kernel)) (exR_of hts hgv) (fun e he => Launch.traces_off hfl he) n 10 yLw_law 0 (ent yLw_law [aR b]) [] (h00 b mk s.heap.size L (fun j => (xs j).toInt)) r hgo p e room_1 s m #[Value.ref b] below meth c s.heap.size 0
    ⟨hx, hb, hml, hown, hy, hr, hlocks, fun h => (by cases h), hC, hK⟩ hTb rfl (Nat.le_refl _) (Nat.le_refl _) hZ ⟨Nat.le_refl _, Nat.le_refl _⟩ ⟨by decide, by decide⟩ ⟨by show r.2.2.1 - s.heap.size ≤ 601024; omega, by show r.2.2.2.1 - 0 ≤ 7293034; omega⟩
    s.heap [] _ hle.2 (fun v hv => by cases hv) hH va_S.rf
  intro T hT X
  rw [lg_entry_eq]
  have X' : Stand p l e room_1 s m #[Value.ref b] below meth c T [] (s.heap.size - s.heap.size) (0 - 0) := by
    rw [Nat.sub_self]
    exact X
  obtain ⟨t, a1, o, b1, b2, b3, ⟨Lc, b4, b5⟩, b6, b7⟩ := k T hT X'
  refine ⟨t, a1, o, b1, b2, ?_, ?_⟩
  · rw [ho] at b7
    exact b7.1
  · have hm := (go_mor _ _ _ _ _ _ _ _ hgo).2.2
    rw [ho] at b7
    obtain ⟨rfl, -⟩ := b7
    refine ⟨⟨_, rfl⟩, b3, b4.weaken (fun q hq hlt => ?_) ?_ ?_⟩
    · have h5 := b5 q hq
      rw [hm] at h5
      exact absurd hlt (Nat.not_lt.mpr h5)
    · omega
    · omega
end
section
/-! The claim out of the law's run. -/
set_option maxHeartbeats 4000000 in
theorem lw_walk (hlaw : LawOK) (l : Launch) (hfl : l.flags = flags0) (b : Addr) (xs : List Int32) : MetFree l x (headSpec (Jvm.Cond.code x code maxLocals ret :: tables_1) room_1) (lw_P b xs) (fun _ _ _ _ _ => True) lw_Q := by
  refine MetFree.of_bodyS (code := code) (maxLocals := maxLocals) (ret := ret) (by decide) ?_ ?_
  · intro args s m h hn
    obtain ⟨meth, c, h1, h2, h3, h4, h5, h6, -, -⟩ := Cond.code_spec hn (atoms_spec (ws := Jvm.Cond.code x code maxLocals ret :: tables_1) h _ List.mem_cons_self)
    exact ⟨meth, c, h1, h2, h3, h4, h5, h6⟩
  · intro p e s m args below meth c s₁ B hml0 hP _
    obtain ⟨rfl, hx, hbd, hgv⟩ := hP
    obtain ⟨scr, harrAt, hlist, hof, hsmall⟩ := hx
    obtain ⟨hcb, hkn, -, -⟩ := State.arrayAt?_spec harrAt
    have hown : s.vm.findClass R_law = some m.cls := findClass_of_methodNamed B.named
    have hts0 : ∀ c ∈ (Jvm.Cond.code x code maxLocals ret :: tables_1), c.before #[Value.ref b] s = true := atoms_spec (ws := Jvm.Cond.code x code maxLocals ret :: tables_1) B.pre
    have hts : ∀ w ∈ lw_tbl, w.before #[Value.ref b] s = true := k2_hts_sels lw_privs (fun w hw => hts0 w (List.mem_cons_of_mem _ hw)) lw_privs_ok
    have hml : c.maxLocals = 7 := B.maxLocals_eq (hts0 _ List.mem_cons_self)
    have X₀ : Stand p l e room_1 s m #[Value.ref b] below meth c s₁ [] 0 0 := Stand.of_body B
    have hTb : Tbl yLw_law c := by
      obtain ⟨meth', c', h1, h2, -, -, -, -, h7, -⟩ := Cond.code_spec B.named (hts0 _ List.mem_cons_self)
      cases B.method.symm.trans h1
      cases X₀.code.symm.trans h2
      exact ⟨fun _ pc => covers_of_empty h7 pc, fun q => absurd q (by decide)⟩
    have hh0 : s₁.heap = s.heap := by rw [B.state]; rfl
    have hsz : scr.slots.size = xs.length := by rw [← Array.length_toList, hlist, List.length_map]
    have hval : ∀ j : Nat, j < xs.length → scr.slots[j]? = some (.int (xs.getD j 0)) := fun j hj => by
      rw [← Array.getElem?_toList, hlist]
      simp [hj]
    have hbl : b < s.heap.size := (Array.getElem?_eq_some_iff.mp hcb).1
    have hX : va_X b xs.length (fun j => xs.getD j 0) s s.heap := ⟨scr, hcb, hof, hkn, hsz, hval⟩
    have K : W p l e room_1 s m #[Value.ref b] below meth c s₁.heap [] 0 0 (lw_Z below #[Value.ref b] s) (entryFrame m ([Value.ref b] : List Value).toArray 7) := by
      rw [hh0]
      exact whole_start hlaw l hfl hbd ⟨B.exec, B.bytes, B.returns, hml, hown, hts, hX, hbl, B.notSynchronized, hgv, hTb⟩
    obtain ⟨t, a1, o, b1, b2, b3⟩ := K s₁ rfl X₀
    exact ⟨t, o, a1, b1, b2, b3⟩
theorem lw_pre_spec {args : Array Value} {s : State} (h : (Jvm.Cond.and given_1 narrow_1).before args s = true) (hr : rest_1_c.before args s = true) : ∃ (b : Addr) (xs : List Int32), lw_P b xs args s := by
  have hs := flat_of_before _ h
  have hq := flat_of_before _ hr
  have hc : (Cond.count 1).before args s = true := hs _ (by decide +kernel)
  have harr : (Cond.arrayOf (.arg 0) .int).before args s = true := hs _ (by decide +kernel)
  have hle : (Cond.le (.length (.arg 0)) (.int 3584)).before args s = true := hs _ (by decide +kernel)
  have hlen : (Cond.isInt (.length (.arg 0))).before args s = true := hq _ (by decide +kernel)
  have hall : (Cond.all (.arg 0) (.isInt (.elem (.arg 0) (.index 0)))).before args s = true := hq _ (by decide +kernel)
  obtain ⟨b, xs, hb, hx⟩ := State.ints_of_pre rfl harr hlen hall
  have hsm : xs.length < 2 ^ 31 := hx.choose_spec.2.2.2
  have hev : (Term.length (.arg 0)).eval args s none [] s = some (.int xs.length.toInt32) := hx.length_eval hb
  have hv := Cond.le_ints hev (show (Term.int 3584).eval args s none [] s = some (.int 3584) from rfl)
  have hd : xs.length.toInt32 ≤ 3584 := by
    simpa [Cond.before, Cond.holds, hv] using hle
  have hN : xs.length ≤ 3584 := (Int32.ofNat_le_ofNat hsm (by decide)).mp (show Int32.ofNat xs.length ≤ Int32.ofNat 3584 from hd)
  exact ⟨b, xs, Cond.one_arg hc (show args[0]? = some (.ref b) from hb), hx, hN, h⟩
theorem lw_comes (hlaw : LawOK) (l : Launch) (hfl : l.flags = flags0) : Comes l x (Jvm.Cond.code x code maxLocals ret :: tables_1) room_1 (fun tb e args s => Calls_1 tb e args s ∧ rest_1 tb e args s ∧ Pre_1 tb e args s)
    (fun _ _ args s o t => lw_Q args s o t) := by
  intro p e ha hc hk s m args below hf hfit hheap happ hpre
  obtain ⟨b, xs, hP⟩ := lw_pre_spec hpre.2.2 hpre.2.1
  obtain ⟨k, o, h1, h2, h3, hQ⟩ := lw_walk hlaw l hfl b xs p e ha hc hk s m args below hf ((Spec.applies_iff_loose hf).mp happ).1 hP trivial
  exact ⟨k, o, h1, h2, h3, hQ⟩
theorem lw_frame {s t : State} {o : Outcome} {args : Array Value} (h : Framed s o t [] 601024 7293034) :
    Framed s o t (fieldLocs frame_1_writes args s ++ arrayLocs frame_1_arrays args s ++ staticLocs frame_1_statics s) 601024 7293034 := h
theorem lw_limb (hlaw : LawOK) (L : Cond) (hL : ∀ (args : Array Value) (s t : State), L.after args s (.returned (some (.int 1))) t = true) :
    ArmFor flags0 classFile x code maxLocals ret World_1 tables_1 room_1 Calls_1 rest_1 Pre_1
      (fun tb e a s o t => postC L tb e a s o t ∧ Framed s o t (fieldLocs frame_1_writes a s ++ arrayLocs frame_1_arrays a s ++ staticLocs frame_1_statics s) 601024 7293034) := by
  intro l q1 q2 q3 p e ha hc hk s m args below hf hfit hheap happ hpre
  have hfl : l.flags = flags0 := by first | exact q1 | exact q2 | exact q3
  obtain ⟨k, o, h1, h2, h3, rfl, hF⟩ := lw_comes hlaw l hfl p e ha hc hk s m args below hf hfit hheap happ hpre
  exact ⟨k, _, h1, h2, h3, hL args s _, lw_frame hF⟩
theorem claim_of (hlaw : LawOK) : Claimed_1_1 ∧ Claimed_1_2 := ⟨lw_limb hlaw limb_1_1 (fun args s t => by simp [limb_1_1, Cond.after, Cond.holds, Cond.value]), lw_limb hlaw limb_1_2 (fun args s t => Cond.after_iff.mpr (by
  first | (rw [show limb_1_2 = Cond.eq .result (.int 1) from rfl, Cond.eq_ints (x := 1) (y := 1) rfl rfl]; simp; done) | (simp [limb_1_2, Cond.value, Term.eval]; done)))⟩
end
section
/-! Numbers: what AM's own operations are on whole numbers. -/
theorem a8_b (x : Int) : a8 x = Int.bmod x 256 := Int8.toInt_ofInt ..
theorem a32_b (x : Int) : a32 x = Int.bmod x 4294967296 := Int32.toInt_ofInt ..
theorem a64_b (x : Int) : a64 x = Int.bmod x 18446744073709551616 := Int64.toInt_ofInt ..
theorem bm8 (x : Int) : Int.bmod x 256 = if x % 256 < 128 then x % 256 else x % 256 - 256 := rfl
theorem bm32 (x : Int) : Int.bmod x 4294967296 = if x % 4294967296 < 2147483648 then x % 4294967296 else x % 4294967296 - 4294967296 := rfl
theorem bm64 (x : Int) : Int.bmod x 18446744073709551616 = if x % 18446744073709551616 < 9223372036854775808 then x % 18446744073709551616 else x % 18446744073709551616 - 18446744073709551616 := rfl
theorem a8_mod {x y : Int} (h : x % 256 = y % 256) : a8 x = a8 y := by
  rw [a8_b, a8_b, bm8, bm8, h]
theorem a8_256 (x : Int) : a8 x % 256 = x % 256 := by
  rw [a8_b, bm8]
  split <;> omega
theorem a8_r (x : Int) : r8 (a8 x) := by
  rw [a8_b, bm8]
  unfold r8
  split <;> constructor <;> omega
theorem a8_of {x : Int} (h : r8 x) : a8 x = x := a8_id h.1 h.2
theorem a32_256 (x : Int) : a32 x % 256 = x % 256 := by
  rw [a32_b, bm32]
  split <;> omega
theorem nat_of_ofInt (x : Int) : (BitVec.ofInt 32 x).toNat = (x % 4294967296).toNat := by simp [BitVec.toNat_ofInt]
theorem a_and_gen {x : Int} {k m : Nat} (hk : k ≤ 30) (hm : m = 2 ^ k - 1) : a_and x (m : Int) = ((x % 4294967296).toNat % 2 ^ k : Nat) := by
  unfold a_and
  have h2 : 2 ^ k ≤ 2 ^ 30 := Nat.pow_le_pow_right (by omega) hk
  have h1 : (Int32.ofInt x &&& Int32.ofInt (m : Int)).toBitVec.toNat = (x % 4294967296).toNat % 2 ^ k := by
    rw [Int32.toBitVec_and, BitVec.toNat_and]
    show (BitVec.ofInt 32 x).toNat &&& (BitVec.ofInt 32 (m : Int)).toNat = _
    rw [nat_of_ofInt, nat_of_ofInt]
    have e : (((m : Nat) : Int) % 4294967296).toNat = 2 ^ k - 1 := by
      have : ((m : Nat) : Int) % 4294967296 = m := by omega
      rw [this]
      simp [hm]
    rw [e, Nat.and_two_pow_sub_one_eq_mod]
  show (Int32.ofInt x &&& Int32.ofInt (m : Int)).toBitVec.toInt = _
  have h3 : (x % 4294967296).toNat % 2 ^ k < 2 ^ k := Nat.mod_lt _ (Nat.two_pow_pos k)
  rw [BitVec.toInt_eq_toNat_of_lt (by rw [h1]; omega), h1]
theorem a_and255 (x : Int) : a_and x 255 = x % 256 := by
  have := a_and_gen (x := x) (k := 8) (m := 255) (by omega) rfl
  rw [show ((255 : Nat) : Int) = 255 from rfl] at this
  rw [this]
  omega
theorem a_and7 (x : Int) : a_and x 7 = x % 8 := by
  have := a_and_gen (x := x) (k := 3) (m := 7) (by omega) rfl
  rw [show ((7 : Nat) : Int) = 7 from rfl] at this
  rw [this]
  omega
theorem a_and15 (x : Int) : a_and x 15 = x % 16 := by
  have := a_and_gen (x := x) (k := 4) (m := 15) (by omega) rfl
  rw [show ((15 : Nat) : Int) = 15 from rfl] at this
  rw [this]
  omega
theorem bm32_id {x : Int} (h1 : -2147483648 ≤ x) (h2 : x ≤ 2147483647) : Int.bmod x 4294967296 = x := by
  rw [bm32]
  split <;> omega
theorem bm64_id {x : Int} (h1 : -9223372036854775808 ≤ x) (h2 : x ≤ 9223372036854775807) : Int.bmod x 18446744073709551616 = x := by
  rw [bm64]
  split <;> omega
theorem a_div512 {x : Int} (h : 0 ≤ x) (h2 : x ≤ 2147483647) : a_div x 512 = x / 512 := by
  unfold a_div
  rw [Int32.toInt_div, toI ⟨by omega, h2⟩, toI ⟨by omega, by omega⟩, Int.tdiv_eq_ediv_of_nonneg h]
  exact bm32_id (by omega) (by omega)
theorem a_div30 {x : Int} (h : 0 ≤ x) (h2 : x ≤ 2147483647) : a_div x 30 = x / 30 := by
  unfold a_div
  rw [Int32.toInt_div, toI ⟨by omega, h2⟩, toI ⟨by omega, by omega⟩, Int.tdiv_eq_ediv_of_nonneg h]
  exact bm32_id (by omega) (by omega)
theorem a_ldiv8 {x : Int} (h : 0 ≤ x) (h2 : x ≤ 9223372036854775807) : a_ldiv x 8 = x / 8 := by
  unfold a_ldiv
  rw [Int64.toInt_div, toL ⟨by omega, h2⟩, toL ⟨by omega, by omega⟩, Int.tdiv_eq_ediv_of_nonneg h]
  exact bm64_id (by omega) (by omega)
theorem a_lrem8 {x : Int} (h : 0 ≤ x) (h2 : x ≤ 9223372036854775807) : a_lrem x 8 = x % 8 := by
  unfold a_lrem
  rw [Int64.toInt_sub, Int64.toInt_mul, Int64.toInt_div, toL ⟨by omega, h2⟩, toL ⟨by omega, by omega⟩, Int.tdiv_eq_ediv_of_nonneg h]
  have e1 : Int.bmod (x / 8) (2 ^ 64) = x / 8 := bm64_id (by omega) (by omega)
  rw [e1]
  have e2 : Int.bmod (x / 8 * 8) (2 ^ 64) = x / 8 * 8 := bm64_id (by omega) (by omega)
  rw [e2]
  have e3 : Int.bmod (x - x / 8 * 8) (2 ^ 64) = x - x / 8 * 8 := bm64_id (by omega) (by omega)
  rw [e3]
  omega
theorem a_ushr3 {x : Int} (h : 0 ≤ x) (h2 : x ≤ 2147483647) : a_ushr x 3 = x / 8 := by
  unfold a_ushr
  have e1 : ((Int32.ofInt x).toUInt32 >>> ((Int32.ofInt 3).toUInt32 &&& Int32.toUInt32 31)).toNat = (x % 4294967296).toNat / 8 := by
    rw [UInt32.toNat_shiftRight]
    have : ((Int32.ofInt 3).toUInt32 &&& Int32.toUInt32 31).toNat % 32 = 3 := by decide
    rw [this, Nat.shiftRight_eq_div_pow]
    show (BitVec.ofInt 32 x).toNat / 2 ^ 3 = _
    rw [nat_of_ofInt]
  generalize ((Int32.ofInt x).toUInt32 >>> ((Int32.ofInt 3).toUInt32 &&& Int32.toUInt32 31)) = u at e1
  show u.toBitVec.toInt = x / 8
  have e2 : u.toBitVec.toNat = (x % 4294967296).toNat / 8 := e1
  rw [BitVec.toInt_eq_toNat_of_lt (by omega), e2]
  omega
theorem sh_amt : ∀ i : Fin 8, (((Int32.ofInt (8 * (i.val : Int))).toInt64 &&& 63).toBitVec.smod 64).toNat = 8 * i.val ∧ ((Int32.ofInt (8 * (i.val : Int))).toInt64.toUInt64 &&& Int64.toUInt64 63).toNat % 64 = 8 * i.val := by decide +kernel
theorem a_lshr8 {w : Int} (hw : r64 w) {i : Nat} (hi : i < 8) : a_lshr w (8 * (i : Int)) = w / 2 ^ (8 * i) := by
  unfold a_lshr
  have h1 := (sh_amt ⟨i, hi⟩).1
  show ((Int64.ofInt w).toBitVec.sshiftRight ((((Int32.ofInt (8 * (i : Int))).toInt64 &&& 63).toBitVec.smod 64).toNat)).toInt = _
  rw [h1, BitVec.toInt_sshiftRight, Int.shiftRight_eq_div_pow]
  show (Int64.ofInt w).toInt / _ = _
  rw [toL hw]
  rfl
theorem a_lushr8 {w : Int} {i : Nat} (hi : i < 8) : a_lushr w (8 * (i : Int)) % 256 = w / 2 ^ (8 * i) % 256 := by
  unfold a_lushr
  have h1 := (sh_amt ⟨i, hi⟩).2
  have e1 : ((Int64.ofInt w).toUInt64 >>> ((Int32.ofInt (8 * (i : Int))).toInt64.toUInt64 &&& Int64.toUInt64 63)).toNat = (w % 18446744073709551616).toNat / 2 ^ (8 * i) := by
    rw [UInt64.toNat_shiftRight, h1, Nat.shiftRight_eq_div_pow]
    show (BitVec.ofInt 64 w).toNat / _ = _
    simp [BitVec.toNat_ofInt]
  generalize ((Int64.ofInt w).toUInt64 >>> ((Int32.ofInt (8 * (i : Int))).toInt64.toUInt64 &&& Int64.toUInt64 63)) = u at e1
  have e2 : u.toInt64.toInt = Int.bmod u.toNat 18446744073709551616 := by
    show u.toBitVec.toInt = _
    rw [BitVec.toInt_eq_toNat_bmod]
    rfl
  rw [e2, bm64, e1]
  have e8 : i = 0 ∨ i = 1 ∨ i = 2 ∨ i = 3 ∨ i = 4 ∨ i = 5 ∨ i = 6 ∨ i = 7 := by omega
  rcases e8 with rfl | rfl | rfl | rfl | rfl | rfl | rfl | rfl <;> simp only [Nat.reduceMul, Nat.reducePow, Int.reducePow] <;> split <;> omega
theorem a_land255 {x : Int} : a_land x 255 = x % 256 := by
  unfold a_land
  have h1 : (Int64.ofInt x &&& Int64.ofInt 255).toBitVec.toNat = (x % 18446744073709551616).toNat % 256 := by
    rw [Int64.toBitVec_and, BitVec.toNat_and]
    show (BitVec.ofInt 64 x).toNat &&& 255 = _
    rw [show (255 : Nat) = 2 ^ 8 - 1 from rfl, Nat.and_two_pow_sub_one_eq_mod]
    simp [BitVec.toNat_ofInt]
  show (Int64.ofInt x &&& Int64.ofInt 255).toBitVec.toInt = _
  rw [BitVec.toInt_eq_toNat_of_lt (by rw [h1]; omega), h1]
  omega
/-- a letter of a word: its i-th byte -/
def lb (w : Int) (i : Nat) : Int := w / 2 ^ (8 * i) % 256
theorem lb_r (w : Int) (i : Nat) : 0 ≤ lb w i ∧ lb w i ≤ 255 := by
  unfold lb
  omega
end
section
/-! Rules of AM for calls by contracts; ends. -/
def ckA (A : List AV) (n a : Nat) (rest : List AV) (z : AY) : Bool := A.length == n && Nat.ble (a_wt rest) 8 && Nat.ble (a_spr (aR a :: A.reverse)).length z.2.2.2.1 && A.all Option.isSome
def ckS (A : List AV) (n : Nat) (rest : List AV) (z : AY) : Bool := A.length == n && Nat.ble (a_wt rest) 8 && Nat.ble (a_spr A.reverse).length z.2.2.2.1 && A.all Option.isSome
theorem ckA_ok {A rest : List AV} {n a : Nat} {z : AY} (h : ckA A n a rest z = true) : A.length = n ∧ a_wt rest ≤ 8 ∧ (a_spr (aR a :: A.reverse)).length ≤ z.2.2.2.1 ∧ A.all Option.isSome = true := by
  unfold ckA at h
  simp only [Bool.and_eq_true, beq_iff_eq, Nat.ble_eq] at h
  exact ⟨h.1.1.1, h.1.1.2, h.1.2, h.2⟩
theorem ckS_ok {A rest : List AV} {n : Nat} {z : AY} (h : ckS A n rest z = true) : A.length = n ∧ a_wt rest ≤ 8 ∧ (a_spr A.reverse).length ≤ z.2.2.2.1 ∧ A.all Option.isSome = true := by
  unfold ckS at h
  simp only [Bool.and_eq_true, beq_iff_eq, Nat.ble_eq] at h
  exact ⟨h.1.1.1, h.1.1.2, h.1.2, h.2⟩
/-- returns v; P holds of the heap then -/
abbrev RV (v : Option AV) (P : AH → Prop) : AO → AH → Prop := fun o h2 => o = .inl v ∧ P h2
/-- throws; P holds of the heap then -/
abbrev RT (k x : Nat) (P : AH → Prop) : AO → AH → Prop := fun o h2 => o = .inr (k, x) ∧ P h2
section GoCalls
variable {d : Nat} {y : AY} {pc : Nat} {L S : List AV} {h : AH} {Q : AO → AH → Prop} {P : AH → Prop}
theorem g_V {x n a e : Nat} {z : AY} {A rest fs : List AV} {v : AV} (hd : tb y pc = some (.invokevirtual x, 3)) (hm : tM y.2.1 x = some (0, n, z)) (h1 : S.take n = A) (h2 : S.drop n = aR a :: rest) (hk : ckA A n a rest z = true) (hl : lv z = e) (he : e ≤ d) (hc : h.1 a = some (eO z.2.1 fs)) (hb : h.2.2.2.1 ≤ a) (k : Cal (d - e) z (aR a :: A.reverse) h (RV (some v) P)) (kk : ∀ h2, P h2 → Go d y (pc + 3) L (v :: rest) h2 Q) : Go d y pc L S h Q :=
  g_callV hd hm h1 h2 hc hb (ckA_ok hk) hl he (k.mono fun o h' hh => by
    obtain ⟨ho, hp⟩ := hh
    subst ho
    exact kk h' hp)
theorem g_Vn {x n a e : Nat} {z : AY} {A rest fs : List AV} (hd : tb y pc = some (.invokevirtual x, 3)) (hm : tM y.2.1 x = some (0, n, z)) (h1 : S.take n = A) (h2 : S.drop n = aR a :: rest) (hk : ckA A n a rest z = true) (hl : lv z = e) (he : e ≤ d) (hc : h.1 a = some (eO z.2.1 fs)) (hb : h.2.2.2.1 ≤ a) (k : Cal (d - e) z (aR a :: A.reverse) h (RV none P)) (kk : ∀ h2, P h2 → Go d y (pc + 3) L rest h2 Q) : Go d y pc L S h Q :=
  g_callV hd hm h1 h2 hc hb (ckA_ok hk) hl he (k.mono fun o h' hh => by
    obtain ⟨ho, hp⟩ := hh
    subst ho
    exact kk h' hp)
theorem g_Vt {x n a e kd ex : Nat} {z : AY} {A rest fs : List AV} (hd : tb y pc = some (.invokevirtual x, 3)) (hm : tM y.2.1 x = some (0, n, z)) (h1 : S.take n = A) (h2 : S.drop n = aR a :: rest) (hk : ckA A n a rest z = true) (hl : lv z = e) (he : e ≤ d) (hc : h.1 a = some (eO z.2.1 fs)) (hb : h.2.2.2.1 ≤ a) (hH : tH y.1 kd = none) (k : Cal (d - e) z (aR a :: A.reverse) h (RT kd ex P)) (kk : ∀ h2, P h2 → Q (.inr (kd, ex)) h2) : Go d y pc L S h Q :=
  g_callV hd hm h1 h2 hc hb (ckA_ok hk) hl he (k.mono fun o h' hh => by
    obtain ⟨ho, hp⟩ := hh
    subst ho
    simp only [aftQ, hH]
    exact kk h' hp)
theorem g_Vc {x n a e kd ex t : Nat} {z : AY} {A rest fs : List AV} (hd : tb y pc = some (.invokevirtual x, 3)) (hm : tM y.2.1 x = some (0, n, z)) (h1 : S.take n = A) (h2 : S.drop n = aR a :: rest) (hk : ckA A n a rest z = true) (hl : lv z = e) (he : e ≤ d) (hc : h.1 a = some (eO z.2.1 fs)) (hb : h.2.2.2.1 ≤ a) (hH : tH y.1 kd = some t) (k : Cal (d - e) z (aR a :: A.reverse) h (RT kd ex P)) (kk : ∀ h2, P h2 → Go d y t L [aR ex] h2 Q) : Go d y pc L S h Q :=
  g_callV hd hm h1 h2 hc hb (ckA_ok hk) hl he (k.mono fun o h' hh => by
    obtain ⟨ho, hp⟩ := hh
    subst ho
    simp only [aftQ, hH]
    exact kk h' hp)
theorem g_I {x n a e : Nat} {z : AY} {A rest : List AV} (hd : tb y pc = some (.invokespecial x, 3)) (hm : tM y.2.1 x = some (1, n, z)) (h1 : S.take n = A) (h2 : S.drop n = aR a :: rest) (hk : ckA A n a rest z = true) (hl : lv z = e) (he : e ≤ d) (k : Cal (d - e) z (aR a :: A.reverse) h (RV none P)) (kk : ∀ h2, P h2 → Go d y (pc + 3) L rest h2 Q) : Go d y pc L S h Q :=
  g_callI hd hm h1 h2 (ckA_ok hk) hl he (k.mono fun o h' hh => by
    obtain ⟨ho, hp⟩ := hh
    subst ho
    exact kk h' hp)
theorem g_S {x n e : Nat} {z : AY} {A rest : List AV} {v : AV} (hd : tb y pc = some (.invokestatic x, 3)) (hm : tM y.2.1 x = some (2, n, z)) (h1 : S.take n = A) (h2 : S.drop n = rest) (hk : ckS A n rest z = true) (hl : lv z = e) (he : e ≤ d) (k : Cal (d - e) z A.reverse h (RV (some v) P)) (kk : ∀ h2, P h2 → Go d y (pc + 3) L (v :: rest) h2 Q) : Go d y pc L S h Q :=
  g_callS hd hm h1 h2 (ckS_ok hk) hl he (k.mono fun o h' hh => by
    obtain ⟨ho, hp⟩ := hh
    subst ho
    exact kk h' hp)
theorem r_i {x v : Int} (hd : tb y pc = some (.ireturn, 1)) (hr : y.2.2.2.2.1 = some .int) (hv : x = v) (hp : P h) : Go d y pc L [aI x] h (RV (some (aI v)) P) := by
  subst hv
  exact g_ireturn hd hr ⟨rfl, hp⟩
theorem r_z {x v : Int} (hd : tb y pc = some (.ireturn, 1)) (hr : y.2.2.2.2.1 = some .boolean) (hx : x = 0 ∨ x = 1) (hv : x = v) (hp : P h) : Go d y pc L [aI x] h (RV (some (aI v)) P) := by
  subst hv
  exact g_zreturn hd hr hx ⟨rfl, hp⟩
theorem r_l {x v : Int} (hd : tb y pc = some (.lreturn, 1)) (hr : y.2.2.2.2.1 = some .long) (hv : x = v) (hp : P h) : Go d y pc L [aL x] h (RV (some (aL v)) P) := by
  subst hv
  exact g_lreturn hd hr ⟨rfl, hp⟩
theorem r_a {x : Nat} (hd : tb y pc = some (.areturn, 1)) (hr : tQ y.2.2.2.2.1 = true) (hp : P h) : Go d y pc L [aR x] h (RV (some (aR x)) P) := g_areturn hd hr ⟨rfl, hp⟩
theorem r_v (hd : tb y pc = some (.return_, 1)) (hr : y.2.2.2.2.1 = none) (hp : P h) : Go d y pc L [] h (RV none P) := g_return hd hr ⟨rfl, hp⟩
theorem r_t {x kd : Nat} (hd : tb y pc = some (.new x, 3)) (hx : tX y.1 pc = some kd) (h6 : 5 ≤ d) (hw : Nat.ble (a_wt S) 7 = true) (hp : P (hthr h)) : Go d y pc L S h (RT kd h.2.1 P) := g_throw hd hx h6 (Nat.le_of_ble_eq_true hw) ⟨rfl, hp⟩
end GoCalls
/-- a truth as a number -/
def bz (b : Bool) : Int := if b then 1 else 0
theorem bz01 (b : Bool) : bz b = 0 ∨ bz b = 1 := by cases b <;> simp [bz]
theorem bz_f {b : Bool} (h : bz b = 0) : b = false := by cases b <;> simp_all [bz]
theorem bz_t {b : Bool} (h : bz b ≠ 0) : b = true := by cases b <;> simp_all [bz]
theorem hput_eq {h : AH} {a : Nat} {e : AE} : (hput h a e).1 a = some e := by simp [hput, hup]
theorem hput_ne {h : AH} {a b : Nat} {e : AE} (hb : b ≠ a) : (hput h a e).1 b = h.1 b := by simp [hput, hup, hb]
theorem hnew_eq {h : AH} {n : Nat} {e : AE} : (hnew h e n).1 h.2.1 = some e := by simp [hnew, hup]
theorem hnew_ne {h : AH} {b n : Nat} {e : AE} (hb : b ≠ h.2.1) : (hnew h e n).1 b = h.1 b := by simp [hnew, hup, hb]
end
section
/-! The class's cells as a world: what each cell holds, by a code for each cell. -/
/-- rows (0 to 124), nodes' numbers, trees: order of nodes, count, new numbers; the rest -/
abbrev CS : Type := (Nat → List Int) × (Nat → Nat → Int) × (Nat → Nat → Nat) × (Nat → Nat) × (Nat → Nat → Int) × (Nat → Int)
abbrev HD : Type := Nat → Nat × Nat × (Nat → Int)
/-- the fixed surroundings: which cells stay as they are, what they hold, base and marks -/
abbrev KE : Type := (Nat → Prop) × (Nat → Option AE) × Nat × Nat
def uR (st : CS) (r : Nat) (l : List Int) : CS := (va_up st.1 r l, st.2)
def uN (st : CS) (j k : Nat) (v : Int) : CS := (st.1, va_up st.2.1 j (va_up (st.2.1 j) k v), st.2.2)
def uP (st : CS) (t : Nat) (f : Nat → Nat) : CS := (st.1, st.2.1, va_up st.2.2.1 t f, st.2.2.2)
def uC (st : CS) (t n : Nat) : CS := (st.1, st.2.1, st.2.2.1, va_up st.2.2.2.1 t n, st.2.2.2.2)
def uW (st : CS) (t i : Nat) (v : Int) : CS := (st.1, st.2.1, st.2.2.1, st.2.2.2.1, va_up st.2.2.2.2.1 t (va_up (st.2.2.2.2.1 t) i v), st.2.2.2.2.2)
def uM (st : CS) (k : Nat) (v : Int) : CS := (st.1, st.2.1, st.2.2.1, st.2.2.2.1, st.2.2.2.2.1, va_up st.2.2.2.2.2 k v)
def dm (c : Nat) : Prop := c < 125 ∨ (200 ≤ c ∧ c < 325) ∨ (400 ≤ c ∧ c < 460) ∨ c = 500 ∨ c = 501 ∨ c = 510 ∨ c = 511 ∨ c = 520 ∨ c = 521 ∨ (530 ≤ c ∧ c < 534)
def ad (g : Nat → Nat) (hd : HD) (c : Nat) : Nat := if 200 ≤ c ∧ c < 325 then (hd (c - 200)).1 else g c
def cel (g : Nat → Nat) (hd : HD) (st : CS) (c : Nat) : AE :=
  if c < 125 then eO 2 [aR (hd c).1, aI (st.1 c).length]
  else if c < 325 then eA 1 (hd (c - 200)).2.1 (hd (c - 200)).2.2
  else if c < 460 then eO 0 [aR (g (2 * (c - 400))), aR (g (2 * (c - 400) + 1)), aI (st.2.1 (c - 400) 0), aI (st.2.1 (c - 400) 1), aI (st.2.1 (c - 400) 2), aI (st.2.1 (c - 400) 3), aI (st.2.1 (c - 400) 4), aI (st.2.1 (c - 400) 5)]
  else if c < 502 then eO 4 [aR (g (c + 10)), aI (st.2.2.2.1 (c - 500)), aR (g (c + 20))]
  else if c < 512 then eQ 3 30 (fun i => some (g (400 + st.2.2.1 (c - 510) i)))
  else if c < 522 then eA 0 30 (st.2.2.2.2.1 (c - 520))
  else if c = 530 then eO 3 [aR (g 121)]
  else if c = 531 then eO 6 [aR (g 530), aR (g 122), aI (st.2.2.2.2.2 2)]
  else if c = 532 then eO 1 [aR (g 530), aR (g 123), aR (g 124), aI (st.2.2.2.2.2 13), aI (st.2.2.2.2.2 14), aL (st.2.2.2.2.2 15), aL (st.2.2.2.2.2 16), aL (st.2.2.2.2.2 17), aL (st.2.2.2.2.2 18), aI (st.2.2.2.2.2 19), aI (st.2.2.2.2.2 20), aI (st.2.2.2.2.2 21), aI (st.2.2.2.2.2 22), aI (st.2.2.2.2.2 23)]
  else eO 7 [aR (g 530), aR (g 531), aR (g 532), aR (g 120), aR (g (500 + (st.2.2.2.2.2 0).toNat)), aR (g (501 - (st.2.2.2.2.2 0).toNat)), aI (st.2.2.2.2.2 1)]
def sumN (f : Nat → Nat) : Nat → Nat
  | 0 => 0
  | n + 1 => sumN f n + f n
def gl (cap : Nat) : Nat := if cap ≤ 16 then 3 else if cap ≤ 128 then 2 else if cap ≤ 2048 then 1 else 0
def gs (cap : Nat) : Nat := if cap ≤ 16 then 12416 else if cap ≤ 128 then 12288 else if cap ≤ 2048 then 10240 else 0
def capok (c : Nat) : Prop := c = 16 ∨ c = 128 ∨ c = 2048 ∨ c = 10240
def rowok (hd : HD) (st : CS) (r : Nat) : Prop := (st.1 r).length ≤ (hd r).2.1 ∧ capok (hd r).2.1 ∧ (∀ i, i < (st.1 r).length → (hd r).2.2 i = (st.1 r).getD i 0) ∧ ∀ v ∈ st.1 r, r8 v
def shp (st : CS) : Prop := (∀ t i, t < 2 → i < 30 → 30 * t ≤ st.2.2.1 t i ∧ st.2.2.1 t i < 30 * t + 30) ∧ (∀ t i j, t < 2 → i < 30 → j < 30 → st.2.2.1 t i = st.2.2.1 t j → i = j) ∧ (∀ t, t < 2 → 1 ≤ st.2.2.2.1 t ∧ st.2.2.2.1 t ≤ 30) ∧ (st.2.2.2.2.2 0 = 0 ∨ st.2.2.2.2.2 0 = 1)
def WC0 (K : KE) (h : AH) (g : Nat → Nat) (hd : HD) (st : CS) (cb sb : Nat) : Prop :=
  (∀ c, dm c → h.1 (ad g hd c) = some (cel g hd st c) ∧ K.2.2.1 ≤ ad g hd c ∧ ad g hd c < h.2.1 ∧ ¬ K.1 (ad g hd c)) ∧
  (∀ c c', dm c → dm c' → ad g hd c = ad g hd c' → c = c') ∧ (∀ r, r < 125 → rowok hd st r) ∧ shp st ∧ h.2.2.2 = K.2.2 ∧ (∀ a, K.1 a → h.1 a = K.2.1 a ∧ a < h.2.1) ∧
  h.2.1 + sumN (fun r => gl (hd r).2.1) 125 ≤ cb ∧ h.2.2.1 + sumN (fun r => gs (hd r).2.1) 125 ≤ sb
def WC (K : KE) (h : AH) (g : Nat → Nat) (st : CS) (cb sb : Nat) : Prop := ∃ hd, WC0 K h g hd st cb sb
theorem ad_g {g : Nat → Nat} {hd : HD} {c : Nat} (h : c < 200 ∨ 325 ≤ c) : ad g hd c = g c := by
  unfold ad
  rw [if_neg (by omega)]
theorem ad_b {g : Nat → Nat} {hd : HD} {r : Nat} (h : r < 125) : ad g hd (200 + r) = (hd r).1 := by
  unfold ad
  rw [if_pos (by omega), Nat.add_sub_cancel_left]
theorem sumN_up {f f' : Nat → Nat} {r : Nat} (ho : ∀ j, j ≠ r → f' j = f j) : ∀ n, r < n → sumN f' n + f r = sumN f n + f' r := by
  have low : ∀ n, n ≤ r → sumN f' n = sumN f n := by
    intro n
    induction n with
    | zero => intro _; rfl
    | succ n ih =>
      intro hn
      show sumN f' n + f' n = sumN f n + f n
      rw [ih (by omega), ho n (by omega)]
  intro n
  induction n with
  | zero => intro h; omega
  | succ n ih =>
    intro hn
    show sumN f' n + f' n + f r = sumN f n + f n + f' r
    by_cases hr : r = n
    · subst hr
      rw [low r (Nat.le_refl _)]
      omega
    · have := ih (by omega)
      rw [ho n (fun h => hr h.symm)]
      omega
theorem sumN_eq {f f' : Nat → Nat} (ho : ∀ j, f' j = f j) (n : Nat) : sumN f' n = sumN f n := by
  have : f' = f := funext ho
  rw [this]
theorem gl_lt {a b : Nat} (ha : capok a) (hb : capok b) (h : a < b) : gl b + 1 ≤ gl a ∧ gs b + b ≤ gs a := by
  rcases ha with rfl | rfl | rfl | rfl <;> rcases hb with rfl | rfl | rfl | rfl <;> first | (exfalso; omega) | decide
section World
variable {K : KE} {h : AH} {g : Nat → Nat} {hd hd' : HD} {st st' : CS} {cb sb : Nat}
/-- one cell of ours is written -/
theorem WC0.put (hW : WC0 K h g hd st cb sb) {c0 : Nat} {e : AE} (hc0 : dm c0) (hB : ∀ r, (hd' r).1 = (hd r).1 ∧ (hd' r).2.1 = (hd r).2.1) (he : cel g hd' st' c0 = e) (ho : ∀ c, dm c → c ≠ c0 → cel g hd' st' c = cel g hd st c) (hr : ∀ r, r < 125 → rowok hd' st' r) (hs : shp st') : WC0 K (hput h (ad g hd c0) e) g hd' st' cb sb := by
  obtain ⟨w1, w2, w3, w4, w5, w6, w7, w8⟩ := hW
  have had : ∀ c, ad g hd' c = ad g hd c := fun c => by
    unfold ad
    rw [(hB _).1]
  refine ⟨fun c hc => ?_, fun c c' h1 h2 h3 => w2 c c' h1 h2 (by rw [← had, ← had]; exact h3), hr, hs, w5, fun a ha => ?_, ?_, ?_⟩
  · rw [had]
    obtain ⟨q1, q2, q3, q4⟩ := w1 c hc
    refine ⟨?_, q2, q3, q4⟩
    by_cases h1 : c = c0
    · subst h1
      rw [hput_eq, he]
    · rw [hput_ne (fun h2 => h1 (w2 c c0 hc hc0 h2)), ho c hc h1]
      exact q1
  · obtain ⟨q1, q2⟩ := w6 a ha
    refine ⟨?_, q2⟩
    rw [hput_ne (fun h2 => (w1 c0 hc0).2.2.2 (by rw [← h2]; exact ha))]
    exact q1
  · rw [sumN_eq (f := fun r => gl (hd r).2.1) (fun j => by rw [(hB j).2])]
    exact w7
  · rw [sumN_eq (f := fun r => gs (hd r).2.1) (fun j => by rw [(hB j).2])]
    exact w8
theorem WC0.thr (hW : WC0 K h g hd st cb sb) : WC0 K (hthr h) g hd st (cb + 1) (sb + 6) := by
  obtain ⟨w1, w2, w3, w4, w5, w6, w7, w8⟩ := hW
  refine ⟨fun c hc => ?_, w2, w3, w4, w5, fun a ha => ?_, ?_, ?_⟩
  · obtain ⟨q1, q2, q3, q4⟩ := w1 c hc
    exact ⟨q1, q2, Nat.lt_succ_of_lt q3, q4⟩
  · obtain ⟨q1, q2⟩ := w6 a ha
    exact ⟨q1, Nat.lt_succ_of_lt q2⟩
  · show h.2.1 + 1 + _ ≤ _
    omega
  · show h.2.2.1 + tThr + _ ≤ _
    unfold tThr
    omega
theorem WC.thr (hW : WC K h g st cb sb) : WC K (hthr h) g st (cb + 1) (sb + 6) := by
  obtain ⟨hd, hW⟩ := hW
  exact ⟨hd, hW.thr⟩
/-- the row r is at new bytes -/
theorem WC0.grow (hW : WC0 K h g hd st cb sb) {r cap : Nat} {F : Nat → Int} (hr : r < 125) (hc : capok cap) (hlt : (hd r).2.1 < cap) (hF : ∀ i, i < (st.1 r).length → F i = (st.1 r).getD i 0) : WC0 K (hput (hnew h (eA 1 cap F) cap) (g r) (eO 2 [aR h.2.1, aI (st.1 r).length])) g (va_up hd r (h.2.1, cap, F)) st cb sb := by
  obtain ⟨w1, w2, w3, w4, w5, w6, w7, w8⟩ := hW
  have hup : ∀ j, j ≠ r → va_up hd r (h.2.1, cap, F) j = hd j := fun j hj => by simp [va_up, hj]
  have hur : va_up hd r (h.2.1, cap, F) r = (h.2.1, cap, F) := by simp [va_up]
  have hne : ∀ c, c ≠ 200 + r → ad g (va_up hd r (h.2.1, cap, F)) c = ad g hd c := fun c hc => by
    unfold ad
    by_cases h1 : 200 ≤ c ∧ c < 325
    · rw [if_pos h1, if_pos h1, hup _ (by omega)]
    · rw [if_neg h1, if_neg h1]
  have hdr : dm r := Or.inl hr
  have hgr : ad g hd r = g r := ad_g (by omega)
  have hnew1 : ad g (va_up hd r (h.2.1, cap, F)) (200 + r) = h.2.1 := by rw [ad_b hr, hur]
  refine ⟨fun c hc => ?_, fun c c' h1 h2 h3 => ?_, fun j hj => ?_, w4, w5, fun a ha => ?_, ?_, ?_⟩
  · by_cases h1 : c = 200 + r
    · subst h1
      rw [hnew1]
      have hb : K.2.2.1 ≤ h.2.1 := by have := w1 r hdr; omega
      refine ⟨?_, hb, Nat.lt_succ_self _, fun hK => by have := (w6 _ hK).2; omega⟩
      rw [hput_ne (by have := (w1 r hdr).2.2.1; rw [hgr] at this; omega), hnew_eq]
      unfold cel
      rw [if_neg (by omega), if_pos (by omega), Nat.add_sub_cancel_left, hur]
    · rw [hne c h1]
      obtain ⟨q1, q2, q3, q4⟩ := w1 c hc
      refine ⟨?_, q2, Nat.lt_succ_of_lt q3, q4⟩
      by_cases h2 : c = r
      · subst h2
        rw [hgr, hput_eq]
        unfold cel
        rw [if_pos hr, hur]
      · rw [hput_ne (fun h3 => h2 (w2 c r hc hdr (by rw [hgr]; exact h3))), hnew_ne (by omega), q1]
        unfold cel
        by_cases h3 : c < 125
        · rw [if_pos h3, if_pos h3, hup c h2]
        · rw [if_neg h3, if_neg h3]
          by_cases h4 : c < 325
          · rw [if_pos h4, if_pos h4, hup _ (by rcases hc with h | h | h | h <;> omega)]
          · rw [if_neg h4, if_neg h4]
  · by_cases e1 : c = 200 + r
    · by_cases e2 : c' = 200 + r
      · omega
      · rw [e1, hnew1, hne c' e2] at h3
        have := (w1 c' h2).2.2.1
        omega
    · by_cases e2 : c' = 200 + r
      · rw [e2, hnew1, hne c e1] at h3
        have := (w1 c h1).2.2.1
        omega
      · rw [hne c e1, hne c' e2] at h3
        exact w2 c c' h1 h2 h3
  · by_cases e1 : j = r
    · subst e1
      obtain ⟨r1, r2, r3, r4⟩ := w3 j hj
      refine ⟨?_, ?_, ?_, r4⟩
      · rw [hur]; show _ ≤ cap; omega
      · rw [hur]; exact hc
      · rw [hur]; exact hF
    · obtain ⟨r1, r2, r3, r4⟩ := w3 j hj
      unfold rowok
      rw [hup j e1]
      exact ⟨r1, r2, r3, r4⟩
  · obtain ⟨q1, q2⟩ := w6 a ha
    refine ⟨?_, Nat.lt_succ_of_lt q2⟩
    rw [hput_ne (fun h2 => (w1 r hdr).2.2.2 (by rw [hgr, ← h2]; exact ha)), hnew_ne (by omega)]
    exact q1
  · have e := sumN_up (f := fun j => gl (hd j).2.1) (f' := fun j => gl (va_up hd r (h.2.1, cap, F) j).2.1) (r := r) (fun j hj => by rw [hup j hj]) 125 hr
    simp only [hur] at e
    show h.2.1 + 1 + _ ≤ _
    have := (gl_lt (w3 r hr).2.1 hc hlt).1
    omega
  · have e := sumN_up (f := fun j => gs (hd j).2.1) (f' := fun j => gs (va_up hd r (h.2.1, cap, F) j).2.1) (r := r) (fun j hj => by rw [hup j hj]) 125 hr
    simp only [hur] at e
    show h.2.2.1 + cap + _ ≤ _
    have := (gl_lt (w3 r hr).2.1 hc hlt).2
    omega
end World
end
section
/-! Contracts of the rows' methods. -/
section RowW
variable {K : KE} {h : AH} {g : Nat → Nat} {hd : HD} {st : CS} {cb sb : Nat} {r : Nat}
theorem WC0.row (hW : WC0 K h g hd st cb sb) (hr : r < 125) : h.1 (g r) = some (eO 2 [aR (hd r).1, aI (st.1 r).length]) := by
  have := (hW.1 r (Or.inl hr)).1
  rw [ad_g (by omega)] at this
  rw [this]
  unfold cel
  rw [if_pos hr]
theorem WC0.rowb (hW : WC0 K h g hd st cb sb) (hr : r < 125) : h.2.2.2.1 ≤ g r := by
  have := (hW.1 r (Or.inl hr)).2.1
  rw [ad_g (by omega)] at this
  rw [hW.2.2.2.2.1]
  exact this
theorem WC0.byt (hW : WC0 K h g hd st cb sb) (hr : r < 125) : h.1 (hd r).1 = some (eA 1 (hd r).2.1 (hd r).2.2) := by
  have := (hW.1 (200 + r) (Or.inr (Or.inl (by omega)))).1
  rw [ad_b hr] at this
  rw [this]
  unfold cel
  rw [if_neg (by omega), if_pos (by omega), Nat.add_sub_cancel_left]
theorem WC0.bytb (hW : WC0 K h g hd st cb sb) (hr : r < 125) : h.2.2.2.1 ≤ (hd r).1 := by
  have := (hW.1 (200 + r) (Or.inr (Or.inl (by omega)))).2.1
  rw [ad_b hr] at this
  rw [hW.2.2.2.2.1]
  exact this
theorem WC0.cap (hW : WC0 K h g hd st cb sb) (hr : r < 125) : (st.1 r).length ≤ (hd r).2.1 ∧ (hd r).2.1 ≤ 10240 := by
  have := hW.2.2.1 r hr
  refine ⟨this.1, ?_⟩
  rcases this.2.1 with h | h | h | h <;> omega
theorem WC.row (hW : WC K h g st cb sb) (hr : r < 125) : h.1 (g r) = some (eO 2 [aR (hW.choose r).1, aI (st.1 r).length]) := hW.choose_spec.row hr
theorem WC.rowb (hW : WC K h g st cb sb) (hr : r < 125) : h.2.2.2.1 ≤ g r := hW.choose_spec.rowb hr
theorem WC.len (hW : WC K h g st cb sb) (hr : r < 125) : (st.1 r).length ≤ 10240 := by
  obtain ⟨hd, hW⟩ := hW
  have := hW.cap hr
  omega
theorem WC.r8 (hW : WC K h g st cb sb) (hr : r < 125) : ∀ v ∈ st.1 r, r8 v := by
  obtain ⟨hd, hW⟩ := hW
  exact (hW.2.2.1 r hr).2.2.2
theorem uR_self (st : CS) (r : Nat) : uR st r (st.1 r) = st := by
  have : va_up st.1 r (st.1 r) = st.1 := funext fun j => by
    unfold va_up
    split
    · rename_i h; rw [h]
    · rfl
  unfold uR
  rw [this]
theorem uR_get (st : CS) (r : Nat) (l : List Int) : (uR st r l).1 r = l := by simp [uR, va_up]
theorem uR_ne (st : CS) {r j : Nat} (l : List Int) (hj : j ≠ r) : (uR st r l).1 j = st.1 j := by simp [uR, va_up, hj]
theorem uR_uR (st : CS) (r : Nat) (l m : List Int) : uR (uR st r l) r m = uR st r m := by
  unfold uR
  have : va_up (va_up st.1 r l) r m = va_up st.1 r m := funext fun j => by
    unfold va_up
    split <;> rfl
  simp only [this]
/-- bytes of a row are written, its length may change -/
theorem WC0.bytes (hW : WC0 K h g hd st cb sb) (hr : r < 125) {F : Nat → Int} (hF : ∀ i, i < (st.1 r).length → F i = (st.1 r).getD i 0) : WC0 K (hput h (hd r).1 (eA 1 (hd r).2.1 F)) g (va_up hd r ((hd r).1, (hd r).2.1, F)) st cb sb := by
  have hdm : dm (200 + r) := Or.inr (Or.inl (by omega))
  have hu : ∀ j, j ≠ r → va_up hd r ((hd r).1, (hd r).2.1, F) j = hd j := fun j hj => by simp [va_up, hj]
  have hur : va_up hd r ((hd r).1, (hd r).2.1, F) r = ((hd r).1, (hd r).2.1, F) := by simp [va_up]
  have k := hW.put (c0 := 200 + r) (hd' := va_up hd r ((hd r).1, (hd r).2.1, F)) (st' := st) (e := eA 1 (hd r).2.1 F) hdm (fun j => by
    by_cases hj : j = r
    · subst hj; rw [hur]; exact ⟨rfl, rfl⟩
    · rw [hu j hj]; exact ⟨rfl, rfl⟩) (by
    unfold cel
    rw [if_neg (by omega), if_pos (by omega), Nat.add_sub_cancel_left, hur]) (fun c hc hne => by
    unfold cel
    by_cases h3 : c < 125
    · rw [if_pos h3, if_pos h3]
      by_cases hj : c = r
      · subst hj; rw [hur]
      · rw [hu c hj]
    · rw [if_neg h3, if_neg h3]
      by_cases h4 : c < 325
      · rw [if_pos h4, if_pos h4, hu _ (by rcases hc with h | h | h | h <;> omega)]
      · rw [if_neg h4, if_neg h4]) (fun j hj => by
    obtain ⟨q1, q2, q3, q4⟩ := hW.2.2.1 j hj
    by_cases e : j = r
    · subst e
      unfold rowok
      rw [hur]
      exact ⟨q1, q2, hF, q4⟩
    · unfold rowok
      rw [hu j e]
      exact ⟨q1, q2, q3, q4⟩) hW.2.2.2.1
  rw [ad_b hr] at k
  exact k
theorem shp_uR {st : CS} {r : Nat} {l : List Int} (h : shp st) : shp (uR st r l) := h
theorem cel_uR {g : Nat → Nat} {hd : HD} {st : CS} {r c : Nat} {l : List Int} (hc : c ≠ r) : cel g hd (uR st r l) c = cel g hd st c := by
  unfold cel uR
  have h1 : va_up st.1 r l c = st.1 c := by simp [va_up, hc]
  simp only [h1]
/-- the row's own cell: its length, what the bytes are then -/
theorem WC0.setlen (hW : WC0 K h g hd st cb sb) (hr : r < 125) {l : List Int} (h1 : l.length ≤ (hd r).2.1) (h2 : ∀ i, i < l.length → (hd r).2.2 i = l.getD i 0) (h3 : ∀ v ∈ l, r8 v) : WC0 K (hput h (g r) (eO 2 [aR (hd r).1, aI l.length])) g hd (uR st r l) cb sb := by
  have k := hW.put (c0 := r) (hd' := hd) (st' := uR st r l) (e := eO 2 [aR (hd r).1, aI l.length]) (Or.inl hr) (fun j => ⟨rfl, rfl⟩) (by
    unfold cel
    rw [if_pos hr, uR_get]) (fun c hc hne => cel_uR hne) (fun j hj => by
    by_cases e : j = r
    · subst e
      unfold rowok
      rw [uR_get]
      exact ⟨h1, (hW.2.2.1 j hj).2.1, h2, h3⟩
    · unfold rowok
      rw [uR_ne _ _ e]
      exact hW.2.2.1 j hj) (shp_uR hW.2.2.2.1)
  rw [ad_g (by omega)] at k
  exact k
/-- bytes in the row's length: the row is another one -/
theorem WC0.setb (hW : WC0 K h g hd st cb sb) (hr : r < 125) {F : Nat → Int} {l : List Int} (hl : l.length = (st.1 r).length) (hF : ∀ i, i < l.length → F i = l.getD i 0) (h8 : ∀ v ∈ l, r8 v) : WC0 K (hput h (hd r).1 (eA 1 (hd r).2.1 F)) g (va_up hd r ((hd r).1, (hd r).2.1, F)) (uR st r l) cb sb := by
  have hdm : dm (200 + r) := Or.inr (Or.inl (by omega))
  have hu : ∀ j, j ≠ r → va_up hd r ((hd r).1, (hd r).2.1, F) j = hd j := fun j hj => by simp [va_up, hj]
  have hur : va_up hd r ((hd r).1, (hd r).2.1, F) r = ((hd r).1, (hd r).2.1, F) := by simp [va_up]
  have k := hW.put (c0 := 200 + r) (hd' := va_up hd r ((hd r).1, (hd r).2.1, F)) (st' := uR st r l) (e := eA 1 (hd r).2.1 F) hdm (fun j => by
    by_cases hj : j = r
    · subst hj; rw [hur]; exact ⟨rfl, rfl⟩
    · rw [hu j hj]; exact ⟨rfl, rfl⟩) (by
    unfold cel
    rw [if_neg (by omega), if_pos (by omega), Nat.add_sub_cancel_left, hur]) (fun c hc hne => by
    by_cases hj : c = r
    · subst hj
      unfold cel
      rw [if_pos hr, if_pos hr, hur, uR_get, hl]
    · rw [cel_uR hj]
      unfold cel
      by_cases h3 : c < 125
      · rw [if_pos h3, if_pos h3, hu c hj]
      · rw [if_neg h3, if_neg h3]
        by_cases h4 : c < 325
        · rw [if_pos h4, if_pos h4, hu _ (by rcases hc with h | h | h | h <;> omega)]
        · rw [if_neg h4, if_neg h4]) (fun j hj => by
    obtain ⟨q1, q2, q3, q4⟩ := hW.2.2.1 j hj
    by_cases e : j = r
    · subst e
      unfold rowok
      rw [hur, uR_get]
      exact ⟨by rw [hl]; exact q1, q2, hF, h8⟩
    · unfold rowok
      rw [hu j e, uR_ne _ _ e]
      exact ⟨q1, q2, q3, q4⟩) (shp_uR hW.2.2.2.1)
  rw [ad_b hr] at k
  exact k
end RowW
/-- what a row has at an index; what it is with a byte put -/
def rat (l : List Int) (i : Int) : Int := if 0 ≤ i ∧ i < l.length then l.getD i.toNat 0 % 256 else -1
def rput (l : List Int) (i b : Int) : List Int := if 0 ≤ i ∧ i < l.length then l.set i.toNat (a8 b) else l
theorem rput_len (l : List Int) (i b : Int) : (rput l i b).length = l.length := by
  unfold rput
  split
  · simp
  · rfl
theorem rput_r8 {l : List Int} {i b : Int} (h : ∀ v ∈ l, r8 v) : ∀ v ∈ rput l i b, r8 v := by
  unfold rput
  split
  · intro v hv
    rcases List.mem_or_eq_of_mem_set hv with h1 | h1
    · exact h v h1
    · rw [h1]; exact a8_r b
  · exact h
theorem getD_set {l : List Int} {i j : Nat} {v : Int} (hi : i < l.length) : (l.set i v).getD j 0 = if j = i then v else l.getD j 0 := by
  simp only [List.getD_eq_getElem?_getD, List.getElem?_set]
  by_cases h : j = i
  · subst h
    simp [hi]
  · simp [h, Ne.symm h]
section RowC
variable {K : KE} {h : AH} {g : Nat → Nat} {hd : HD} {st : CS} {cb sb : Nat} {r d : Nat}
theorem c_at (hW : WC K h g st cb sb) (hr : r < 125) (i : Int) : Cal d yRw_at [aR (g r), aI i] h (RV (some (aI (rat (st.1 r) i))) (fun h2 => h2 = h)) := by
  obtain ⟨hd, hW⟩ := hW
  have hcap := hW.cap hr
  have hF := (hW.2.2.1 r hr).2.2.1
  show Go _ _ 0 [aR (g r), aI i] [] _ _
  refine g_iload_n rfl rfl ?_
  refine g_iflt rfl rfl (fun c1 => ?_) (fun c1 => ?_)
  · skip
    refine g_iconst (n := -1) rfl (by decide) ?_
    exact r_i rfl rfl (by unfold rat; rw [if_neg (by omega)]) rfl
  · skip
    refine g_iload_n rfl rfl ?_
    refine g_aload_n rfl rfl ?_
    refine g_get (ci := 2) (kk := 1) rfl rfl (hW.row hr) (hW.rowb hr) rfl ?_
    refine g_icmpge rfl rfl (fun c2 => ?_) (fun c2 => ?_)
    · skip
      refine g_iconst (n := -1) rfl (by decide) ?_
      exact r_i rfl rfl (by unfold rat; rw [if_neg (by omega)]) rfl
    · skip
      refine g_aload_n rfl rfl ?_
      refine g_get (ci := 2) (kk := 0) rfl rfl (hW.row hr) (hW.rowb hr) rfl ?_
      refine g_iload_n rfl rfl ?_
      refine g_bald rfl (hW.byt hr) (by omega) ?_
      refine g_sipush (n := 255) rfl (by decide) ?_
      refine g_iand (v := ((hd r).2.2 (i).toNat) % 256) rfl (a_and255 _) ?_
      refine g_goto rfl rfl ?_
      exact r_i rfl rfl (by unfold rat; rw [if_pos (by omega), hF _ (by omega)]) rfl
theorem c_put (hW : WC K h g st cb sb) (hr : r < 125) (i b : Int) : Cal d yRw_put [aR (g r), aI i, aI b] h (RV none (fun h2 => WC K h2 g (uR st r (rput (st.1 r) i b)) cb sb)) := by
  obtain ⟨hd, hW⟩ := hW
  have hcap := hW.cap hr
  have hF := (hW.2.2.1 r hr).2.2.1
  show Go _ _ 0 [aR (g r), aI i, aI b] [] _ _
  refine g_iload_n rfl rfl ?_
  refine g_iflt rfl rfl (fun c1 => ?_) (fun c1 => ?_)
  · skip
    exact r_v rfl rfl (by rw [show rput (st.1 r) i b = st.1 r from by unfold rput; rw [if_neg (by omega)], uR_self]; exact ⟨hd, hW⟩)
  · skip
    refine g_iload_n rfl rfl ?_
    refine g_aload_n rfl rfl ?_
    refine g_get (ci := 2) (kk := 1) rfl rfl (hW.row hr) (hW.rowb hr) rfl ?_
    refine g_icmpge rfl rfl (fun c2 => ?_) (fun c2 => ?_)
    · skip
      exact r_v rfl rfl (by rw [show rput (st.1 r) i b = st.1 r from by unfold rput; rw [if_neg (by omega)], uR_self]; exact ⟨hd, hW⟩)
    · skip
      refine g_aload_n rfl rfl ?_
      refine g_get (ci := 2) (kk := 0) rfl rfl (hW.row hr) (hW.rowb hr) rfl ?_
      refine g_iload_n rfl rfl ?_
      refine g_iload_n rfl rfl ?_
      refine g_i2b rfl ?_
      refine g_bast rfl (hW.byt hr) (hW.bytb hr) (by omega) ?_
      generalize hg_hh3 : hput h ((hd r).1) (eA 1 ((hd r).2.1) (va_up (hd r).2.2 (i).toNat (a8 (a8 b)))) = hh3
      have hW2 : WC0 K hh3 g (va_up hd r ((hd r).1, (hd r).2.1, va_up (hd r).2.2 i.toNat (a8 (a8 b)))) (uR st r (rput (st.1 r) i b)) cb sb := by
        rw [← hg_hh3]
        refine hW.setb hr (rput_len _ _ _) (fun j hj => ?_) (rput_r8 (hW.2.2.1 r hr).2.2.2)
        rw [rput_len] at hj
        unfold rput
        rw [if_pos (by omega), getD_set (by omega), a8_of (a8_r b)]
        unfold va_up
        split
        · rfl
        · exact hF j hj
      exact r_v rfl rfl ⟨_, hW2⟩
theorem hput_hnew (h : AH) (e e' : AE) (n : Nat) : hput (hnew h e n) h.2.1 e' = hnew h e' n := by
  unfold hput hnew
  have : hup (hup h.1 h.2.1 e) h.2.1 e' = hup h.1 h.2.1 e' := funext fun j => by
    unfold hup
    split <;> rfl
  simp only [this]
theorem c_copyOf {a cap m : Nat} {F : Nat → Int} (hc : h.1 a = some (eA 1 cap F)) (hb : h.2.2.2.1 ≤ a) (ha : a < h.2.1) (h1 : cap < m) (h2 : m ≤ 10240) : Cal d yAr_copyOf [aR a, aI m] h (RV (some (aR h.2.1)) (fun h2 => h2 = hnew h (eA 1 m (va_cpy F (fun _ => 0) 0 0 cap)) m)) := by
  have hc1 : (hnew h (eA 1 m (fun _ => 0)) m).1 a = some (eA 1 cap F) := by rw [hnew_ne (by omega)]; exact hc
  rw [← hput_hnew h (eA 1 m (fun _ => 0))]
  obtain ⟨n, hn0⟩ : ∃ n : Int, n = (m : Int) := ⟨_, rfl⟩
  have hn : n.toNat = m := by omega
  rw [← hn0]
  show Go _ _ 0 [aR a, aI n, none] [] _ _
  refine g_iload_n rfl rfl ?_
  refine g_aload_n rfl rfl ?_
  refine g_alen rfl hc (by omega) ?_
  refine g_icmpne rfl rfl (fun c1 => ?_) (fun c => absurd c (by omega))
  refine g_iload_n rfl rfl ?_
  refine g_newa (kd := 1) rfl rfl (by omega) ?_
  rw [hn]
  refine g_astore_n (L' := [aR a, aI n, aR h.2.1]) rfl rfl ?_
  refine g_aload_n rfl rfl ?_
  refine g_iconst (n := 0) rfl (by decide) ?_
  refine g_aload_n rfl rfl ?_
  refine g_iconst (n := 0) rfl (by decide) ?_
  refine g_aload_n rfl rfl ?_
  refine g_alen rfl hc1 (by omega) ?_
  refine g_iload_n rfl rfl ?_
  refine g_min rfl rfl rfl (Nat.le_of_ble_eq_true rfl) ?_
  rw [if_pos (by omega)]
  refine g_copy (n0 := cap) (n1 := m) rfl rfl rfl hc1 hnew_eq ⟨Nat.le_of_ble_eq_true rfl, hb, Nat.le_trans hb (Nat.le_of_lt ha), by omega, by omega, by omega, by omega, by omega, by omega⟩ ?_
  refine g_aload_n rfl rfl ?_
  exact r_a rfl rfl rfl
def rcl (n : Int) : Int := if n ≤ 0 then 0 else if 10240 ≤ n then 10240 else n
def rsz (l : List Int) (n : Int) : List Int := l.take (rcl n).toNat ++ List.replicate ((rcl n).toNat - l.length) 0
theorem rcl_r (n : Int) : 0 ≤ rcl n ∧ rcl n ≤ 10240 := by
  unfold rcl
  split
  · omega
  · split <;> omega
theorem rsz_len (l : List Int) (n : Int) : (rsz l n).length = (rcl n).toNat := by
  unfold rsz
  simp
  omega
theorem rsz_get (l : List Int) (n : Int) (j : Nat) : (rsz l n).getD j 0 = if j < (rcl n).toNat then l.getD j 0 else 0 := by
  unfold rsz
  generalize (rcl n).toNat = m
  simp only [List.getD_eq_getElem?_getD, List.getElem?_append, List.length_take, List.getElem?_take, List.getElem?_replicate]
  by_cases h1 : j < m
  · by_cases h2 : j < l.length
    · rw [if_pos (by omega), if_pos h1, if_pos h1]
    · rw [if_neg (by omega), if_pos (by omega), if_pos h1, List.getElem?_eq_none (by omega)]
      rfl
  · rw [if_neg (by omega), if_neg (by omega), if_neg h1]
    rfl
theorem rsz_r8 {l : List Int} {n : Int} (h : ∀ v ∈ l, r8 v) : ∀ v ∈ rsz l n, r8 v := by
  intro v hv
  unfold rsz at hv
  rcases List.mem_append.mp hv with h1 | h1
  · exact h v (List.mem_of_mem_take h1)
  · rw [(List.mem_replicate.mp h1).2]
    exact ⟨by decide, by decide⟩
theorem getD_ge {l : List Int} {j : Nat} (h : l.length ≤ j) : l.getD j 0 = 0 := by
  rw [List.getD_eq_getElem?_getD, List.getElem?_eq_none h]
  rfl
theorem rs_loop (hr : r < 125) (n : Int) (cap : Nat) (hm : (rcl n).toNat ≤ cap) : ∀ (k : Nat) (i : Int) (hd : HD) (h : AH), (st.1 r).length ≤ i → i ≤ 10240 → (rcl n - i).toNat ≤ k → WC0 K h g hd st cb sb → True → (∀ j, j < i.toNat → (hd r).2.2 j = (st.1 r).getD j 0) → (hd r).2.1 = cap → Go d yRw_resize 66 [aR (g r), aI n, aI (rcl n), aI i] [] h (RV none (fun h2 => WC K h2 g (uR st r (rsz (st.1 r) n)) cb sb)) := by
  have hcl := rcl_r n
  intro k
  induction k with
  | zero =>
    intro i hd h h0 h1 hk hW _ hF hcp
    have hcap := hW.cap hr
    refine g_iload_n rfl rfl ?_
    refine g_iload_n rfl rfl ?_
    refine g_icmpge rfl rfl (fun c1 => ?_) (fun c => absurd c (by omega))
    refine g_aload_n rfl rfl ?_
    refine g_iload_n rfl rfl ?_
    refine g_put (ci := 2) (kk := 1) (fs' := [aR ((hd r).1), aI (rcl n)]) rfl rfl (hW.row hr) (hW.rowb hr) (Nat.le_of_ble_eq_true rfl) rfl (by decide) rfl ?_
    generalize hg_hh2 : hput h (g r) (eO 2 [aR ((hd r).1), aI (rcl n)]) = hh2
    have hW2 : WC0 K hh2 g hd (uR st r (rsz (st.1 r) n)) cb sb := by
      have e : (((rsz (st.1 r) n).length : Nat) : Int) = rcl n := by rw [rsz_len]; omega
      rw [← hg_hh2, ← e]
      refine hW.setlen hr (by rw [rsz_len]; omega) (fun j hj => ?_) (rsz_r8 (hW.2.2.1 r hr).2.2.2)
      rw [rsz_len] at hj
      rw [rsz_get, if_pos hj]
      exact hF j (by omega)
    exact r_v rfl rfl ⟨_, hW2⟩
  | succ k ih =>
    intro i hd h h0 h1 hk hW _ hF hcp
    have hcap := hW.cap hr
    refine g_iload_n rfl rfl ?_
    refine g_iload_n rfl rfl ?_
    refine g_icmpge rfl rfl (fun c1 => ?_) (fun c1 => ?_)
    · skip
      refine g_aload_n rfl rfl ?_
      refine g_iload_n rfl rfl ?_
      refine g_put (ci := 2) (kk := 1) (fs' := [aR ((hd r).1), aI (rcl n)]) rfl rfl (hW.row hr) (hW.rowb hr) (Nat.le_of_ble_eq_true rfl) rfl (by decide) rfl ?_
      generalize hg_hh2 : hput h (g r) (eO 2 [aR ((hd r).1), aI (rcl n)]) = hh2
      have hW2 : WC0 K hh2 g hd (uR st r (rsz (st.1 r) n)) cb sb := by
        have e : (((rsz (st.1 r) n).length : Nat) : Int) = rcl n := by rw [rsz_len]; omega
        rw [← hg_hh2, ← e]
        refine hW.setlen hr (by rw [rsz_len]; omega) (fun j hj => ?_) (rsz_r8 (hW.2.2.1 r hr).2.2.2)
        rw [rsz_len] at hj
        rw [rsz_get, if_pos hj]
        exact hF j (by omega)
      exact r_v rfl rfl ⟨_, hW2⟩
    · skip
      refine g_aload_n rfl rfl ?_
      refine g_get (ci := 2) (kk := 0) rfl rfl (hW.row hr) (hW.rowb hr) rfl ?_
      refine g_iload_n rfl rfl ?_
      refine g_iconst (n := 0) rfl (by decide) ?_
      refine g_bast rfl (hW.byt hr) (hW.bytb hr) (by omega) ?_
      generalize hg_hh3 : hput h ((hd r).1) (eA 1 ((hd r).2.1) (va_up (hd r).2.2 (i).toNat (a8 0))) = hh3
      have hW2 : WC0 K hh3 g (va_up hd r ((hd r).1, (hd r).2.1, va_up (hd r).2.2 i.toNat (a8 0))) st cb sb := by
        rw [← hg_hh3]
        refine hW.bytes hr (fun j hj => ?_)
        unfold va_up
        rw [if_neg (by omega)]
        exact hF j (by omega)
      have hc2 : (va_up hd r ((hd r).1, (hd r).2.1, va_up (hd r).2.2 i.toNat (a8 0)) r).2.1 = cap := by simp [va_up, hcp]
      have hF2 : ∀ j, j < (i + 1).toNat → (va_up hd r ((hd r).1, (hd r).2.1, va_up (hd r).2.2 i.toNat (a8 0)) r).2.2 j = (st.1 r).getD j 0 := fun j hj => by
        simp only [va_up, if_true]
        split
        · rename_i e
          rw [e, getD_ge (by omega)]
          decide
        · exact hF j (by omega)
      refine g_iinc (L' := [aR (g r), aI n, aI (rcl n), aI (i + 1)]) rfl rfl (by omega) rfl ?_
      refine g_goto rfl rfl ?_
      exact ih (i + 1) _ _ (by omega) (by omega) (by omega) hW2 trivial hF2 hc2
theorem c_resize (hd1 : 1 ≤ d) (hW : WC K h g st cb sb) (hr : r < 125) (n : Int) : Cal d yRw_resize [aR (g r), aI n] h (RV none (fun h2 => WC K h2 g (uR st r (rsz (st.1 r) n)) cb sb)) := by
  obtain ⟨hd, hW⟩ := hW
  have hcap := hW.cap hr
  have hcl := rcl_r n
  show Go _ _ 0 [aR (g r), aI n, none, none] [] _ _
  refine g_iconst (n := 0) rfl (by decide) ?_
  refine g_iload_n rfl rfl ?_
  refine g_sipush (n := 10240) rfl (by decide) ?_
  refine g_min rfl rfl rfl (Nat.le_of_ble_eq_true rfl) ?_
  rw [show (if n ≤ 10240 then n else 10240) = (if n ≤ 10240 then n else 10240) from rfl]
  refine g_max rfl rfl rfl (Nat.le_of_ble_eq_true rfl) ?_
  rw [show (if 0 ≤ (if n ≤ 10240 then n else 10240) then (if n ≤ 10240 then n else 10240) else 0) = rcl n from (by unfold rcl; split <;> split <;> (try split) <;> omega)]
  refine g_istore_n (L' := [aR (g r), aI n, aI (rcl n), none]) rfl rfl ?_
  refine g_iload_n rfl rfl ?_
  refine g_aload_n rfl rfl ?_
  refine g_get (ci := 2) (kk := 0) rfl rfl (hW.row hr) (hW.rowb hr) rfl ?_
  refine g_alen rfl (hW.byt hr) (by omega) ?_
  refine g_icmple rfl rfl (fun c1 => ?_) (fun c1 => ?_)
  · skip
    refine g_aload_n rfl rfl ?_
    refine g_get (ci := 2) (kk := 1) rfl rfl (hW.row hr) (hW.rowb hr) rfl ?_
    refine g_istore_n (L' := [aR (g r), aI n, aI (rcl n), aI (((st.1 r).length : Nat) : Int)]) rfl rfl ?_
    exact rs_loop hr n _ (by omega) ((rcl n).toNat) _ hd _ (by omega) (by omega) (by omega) hW trivial (fun j hj => (hW.2.2.1 r hr).2.2.1 j (by omega)) rfl
  · skip
    refine g_aload_n rfl rfl ?_
    refine g_aload_n rfl rfl ?_
    refine g_get (ci := 2) (kk := 0) rfl rfl (hW.row hr) (hW.rowb hr) rfl ?_
    refine g_iload_n rfl rfl ?_
    refine g_sipush (n := 128) rfl (by decide) ?_
    refine g_icmpgt rfl rfl (fun c2 => ?_) (fun c2 => ?_)
    · skip
      refine g_iload_n rfl rfl ?_
      refine g_sipush (n := 2048) rfl (by decide) ?_
      refine g_icmpgt rfl rfl (fun c3 => ?_) (fun c3 => ?_)
      · skip
        refine g_sipush (n := 10240) rfl (by decide) ?_
        have hcc := hW.2.2.1 r hr
        refine g_S (z := yAr_copyOf) (e := 1) (A := [aI 10240, aR (hd r).1]) (rest := [aR (g r)]) (v := aR h.2.1) rfl rfl rfl rfl rfl rfl (by omega) (c_copyOf (m := 10240) (hW.byt hr) (hW.bytb hr) (by have := (hW.1 (200 + r) (Or.inr (Or.inl (by omega)))).2.2.1; rw [ad_b hr] at this; exact this) (by omega) (by omega)) ?_
        rintro _ rfl
        have hgr : g r < h.2.1 := by have := (hW.1 r (Or.inl hr)).2.2.1; rw [ad_g (by omega)] at this; exact this
        refine g_put (ci := 2) (kk := 0) (fs' := [aR h.2.1, aI (((st.1 r).length : Nat) : Int)]) rfl rfl (by rw [hnew_ne (by omega)]; exact hW.row hr) (hW.rowb hr) (Nat.le_of_ble_eq_true rfl) rfl (by decide) rfl ?_
        have hW2 := hW.grow (r := r) (cap := 10240) (F := va_cpy (hd r).2.2 (fun _ => 0) 0 0 (hd r).2.1) hr (by unfold capok; omega) (by omega) (fun j hj => by unfold va_cpy; rw [if_pos (by omega)]; simpa using hcc.2.2.1 j hj)
        have hu : (va_up hd r (h.2.1, 10240, va_cpy (hd r).2.2 (fun _ => 0) 0 0 (hd r).2.1) r).2.1 = 10240 := by simp [va_up]
        generalize va_up hd r (h.2.1, 10240, va_cpy (hd r).2.2 (fun _ => 0) 0 0 (hd r).2.1) = hd2 at hW2 hu
        generalize hput (hnew h (eA 1 10240 (va_cpy (hd r).2.2 (fun _ => 0) 0 0 (hd r).2.1)) 10240) (g r) (eO 2 [aR h.2.1, aI (((st.1 r).length : Nat) : Int)]) = h3 at hW2 ⊢
        have hcap2 := hW2.cap hr
        refine g_aload_n rfl rfl ?_
        refine g_get (ci := 2) (kk := 1) rfl rfl (hW2.row hr) (hW2.rowb hr) rfl ?_
        refine g_istore_n (L' := [aR (g r), aI n, aI (rcl n), aI (((st.1 r).length : Nat) : Int)]) rfl rfl ?_
        exact rs_loop hr n _ (by omega) ((rcl n).toNat) _ hd2 _ (by omega) (by omega) (by omega) hW2 trivial (fun j hj => (hW2.2.2.1 r hr).2.2.1 j (by omega)) rfl
      · skip
        refine g_sipush (n := 2048) rfl (by decide) ?_
        refine g_goto rfl rfl ?_
        have hcc := hW.2.2.1 r hr
        refine g_S (z := yAr_copyOf) (e := 1) (A := [aI 2048, aR (hd r).1]) (rest := [aR (g r)]) (v := aR h.2.1) rfl rfl rfl rfl rfl rfl (by omega) (c_copyOf (m := 2048) (hW.byt hr) (hW.bytb hr) (by have := (hW.1 (200 + r) (Or.inr (Or.inl (by omega)))).2.2.1; rw [ad_b hr] at this; exact this) (by omega) (by omega)) ?_
        rintro _ rfl
        have hgr : g r < h.2.1 := by have := (hW.1 r (Or.inl hr)).2.2.1; rw [ad_g (by omega)] at this; exact this
        refine g_put (ci := 2) (kk := 0) (fs' := [aR h.2.1, aI (((st.1 r).length : Nat) : Int)]) rfl rfl (by rw [hnew_ne (by omega)]; exact hW.row hr) (hW.rowb hr) (Nat.le_of_ble_eq_true rfl) rfl (by decide) rfl ?_
        have hW2 := hW.grow (r := r) (cap := 2048) (F := va_cpy (hd r).2.2 (fun _ => 0) 0 0 (hd r).2.1) hr (by unfold capok; omega) (by omega) (fun j hj => by unfold va_cpy; rw [if_pos (by omega)]; simpa using hcc.2.2.1 j hj)
        have hu : (va_up hd r (h.2.1, 2048, va_cpy (hd r).2.2 (fun _ => 0) 0 0 (hd r).2.1) r).2.1 = 2048 := by simp [va_up]
        generalize va_up hd r (h.2.1, 2048, va_cpy (hd r).2.2 (fun _ => 0) 0 0 (hd r).2.1) = hd2 at hW2 hu
        generalize hput (hnew h (eA 1 2048 (va_cpy (hd r).2.2 (fun _ => 0) 0 0 (hd r).2.1)) 2048) (g r) (eO 2 [aR h.2.1, aI (((st.1 r).length : Nat) : Int)]) = h3 at hW2 ⊢
        have hcap2 := hW2.cap hr
        refine g_aload_n rfl rfl ?_
        refine g_get (ci := 2) (kk := 1) rfl rfl (hW2.row hr) (hW2.rowb hr) rfl ?_
        refine g_istore_n (L' := [aR (g r), aI n, aI (rcl n), aI (((st.1 r).length : Nat) : Int)]) rfl rfl ?_
        exact rs_loop hr n _ (by omega) ((rcl n).toNat) _ hd2 _ (by omega) (by omega) (by omega) hW2 trivial (fun j hj => (hW2.2.2.1 r hr).2.2.1 j (by omega)) rfl
    · skip
      refine g_sipush (n := 128) rfl (by decide) ?_
      refine g_goto rfl rfl ?_
      have hcc := hW.2.2.1 r hr
      refine g_S (z := yAr_copyOf) (e := 1) (A := [aI 128, aR (hd r).1]) (rest := [aR (g r)]) (v := aR h.2.1) rfl rfl rfl rfl rfl rfl (by omega) (c_copyOf (m := 128) (hW.byt hr) (hW.bytb hr) (by have := (hW.1 (200 + r) (Or.inr (Or.inl (by omega)))).2.2.1; rw [ad_b hr] at this; exact this) (by omega) (by omega)) ?_
      rintro _ rfl
      have hgr : g r < h.2.1 := by have := (hW.1 r (Or.inl hr)).2.2.1; rw [ad_g (by omega)] at this; exact this
      refine g_put (ci := 2) (kk := 0) (fs' := [aR h.2.1, aI (((st.1 r).length : Nat) : Int)]) rfl rfl (by rw [hnew_ne (by omega)]; exact hW.row hr) (hW.rowb hr) (Nat.le_of_ble_eq_true rfl) rfl (by decide) rfl ?_
      have hW2 := hW.grow (r := r) (cap := 128) (F := va_cpy (hd r).2.2 (fun _ => 0) 0 0 (hd r).2.1) hr (by unfold capok; omega) (by omega) (fun j hj => by unfold va_cpy; rw [if_pos (by omega)]; simpa using hcc.2.2.1 j hj)
      have hu : (va_up hd r (h.2.1, 128, va_cpy (hd r).2.2 (fun _ => 0) 0 0 (hd r).2.1) r).2.1 = 128 := by simp [va_up]
      generalize va_up hd r (h.2.1, 128, va_cpy (hd r).2.2 (fun _ => 0) 0 0 (hd r).2.1) = hd2 at hW2 hu
      generalize hput (hnew h (eA 1 128 (va_cpy (hd r).2.2 (fun _ => 0) 0 0 (hd r).2.1)) 128) (g r) (eO 2 [aR h.2.1, aI (((st.1 r).length : Nat) : Int)]) = h3 at hW2 ⊢
      have hcap2 := hW2.cap hr
      refine g_aload_n rfl rfl ?_
      refine g_get (ci := 2) (kk := 1) rfl rfl (hW2.row hr) (hW2.rowb hr) rfl ?_
      refine g_istore_n (L' := [aR (g r), aI n, aI (rcl n), aI (((st.1 r).length : Nat) : Int)]) rfl rfl ?_
      exact rs_loop hr n _ (by omega) ((rcl n).toNat) _ hd2 _ (by omega) (by omega) (by omega) hW2 trivial (fun j hj => (hW2.2.2.1 r hr).2.2.1 j (by omega)) rfl
end RowC
end
section
/-! Contracts of the rows' methods, 2. -/
/-- a truth as a number -/
noncomputable def pz (p : Prop) : Int := @ite Int p (Classical.propDecidable p) 1 0
theorem pz_t {p : Prop} (h : p) : pz p = 1 := @if_pos p (Classical.propDecidable p) h Int 1 0
theorem pz_f {p : Prop} (h : ¬ p) : pz p = 0 := @if_neg p (Classical.propDecidable p) h Int 1 0
theorem pz01 (p : Prop) : pz p = 0 ∨ pz p = 1 := by
  by_cases h : p
  · exact Or.inr (pz_t h)
  · exact Or.inl (pz_f h)
theorem pz_ne {p : Prop} (h : pz p ≠ 0) : p := by
  by_cases hp : p
  · exact hp
  · exact absurd (pz_f hp) h
theorem pz_eq {p : Prop} (h : pz p = 0) : ¬ p := by
  intro hp
  rw [pz_t hp] at h
  exact absurd h (by decide)
theorem pz_congr {p q : Prop} (h : p ↔ q) : pz p = pz q := by rw [propext h]
theorem pz_1 {p : Prop} (h : pz p = 1) : p := pz_ne (by rw [h]; decide)
def oF (m : Nat) (f : Nat → Int) : List Int := (List.range m).map f
theorem oF_len (m : Nat) (f : Nat → Int) : (oF m f).length = m := by simp [oF]
theorem oF_get {m j : Nat} {f : Nat → Int} (h : j < m) : (oF m f).getD j 0 = f j := by simp [oF, List.getD_eq_getElem?_getD, h]
theorem oF_ext {m : Nat} {f f' : Nat → Int} (h : ∀ j, j < m → f j = f' j) : oF m f = oF m f' := List.map_congr_left fun j hj => h j (List.mem_range.mp hj)
theorem li_ext {l m : List Int} (hl : l.length = m.length) (h : ∀ j, j < l.length → l.getD j 0 = m.getD j 0) : l = m := by
  refine List.ext_getElem hl fun j h1 h2 => ?_
  have := h j h1
  simpa [List.getD_eq_getElem?_getD, h1, h2] using this
theorem oF_of (l : List Int) : oF l.length (fun j => l.getD j 0) = l := li_ext (oF_len _ _) fun j hj => oF_get (by rw [oF_len] at hj; exact hj)
theorem rat_in {l : List Int} {i : Int} (h0 : 0 ≤ i) (h1 : i < l.length) : rat l i = l.getD i.toNat 0 % 256 := by
  unfold rat
  rw [if_pos ⟨h0, h1⟩]
theorem rat_out {l : List Int} {i : Int} (h : ¬ (0 ≤ i ∧ i < l.length)) : rat l i = -1 := by
  unfold rat
  rw [if_neg h]
theorem rat_r (l : List Int) (i : Int) : -1 ≤ rat l i ∧ rat l i ≤ 255 := by
  unfold rat
  split <;> omega
theorem rput_oF {m : Nat} {f : Nat → Int} {i b : Int} (h0 : 0 ≤ i) (h1 : i < m) : rput (oF m f) i b = oF m (va_up f i.toNat (a8 b)) := by
  refine li_ext (by rw [rput_len, oF_len, oF_len]) fun j hj => ?_
  rw [rput_len, oF_len] at hj
  unfold rput
  rw [if_pos (by rw [oF_len]; exact ⟨h0, h1⟩), getD_set (by rw [oF_len]; omega), oF_get hj, oF_get hj]
  unfold va_up
  rfl
theorem rsz_oF (l : List Int) {n : Int} (h0 : 0 ≤ n) (h1 : n ≤ 10240) : rsz l n = oF n.toNat (fun j => l.getD j 0) := by
  have e : rcl n = n := by
    unfold rcl
    split
    · omega
    · split <;> omega
  refine li_ext (by rw [rsz_len, oF_len, e]) fun j hj => ?_
  rw [rsz_len, e] at hj
  rw [rsz_get, e, if_pos hj, oF_get hj]
theorem rsz_0 (l : List Int) : rsz l 0 = [] := by
  rw [rsz_oF l (by decide) (by decide)]
  rfl
theorem getD_r8 {l : List Int} (h : ∀ v ∈ l, r8 v) (j : Nat) : r8 (l.getD j 0) := by
  rw [List.getD_eq_getElem?_getD]
  cases hj : l[j]? with
  | none => exact ⟨by decide, by decide⟩
  | some v => exact h v (List.mem_of_getElem? hj)
theorem a8_mod256 {v : Int} (h : r8 v) : a8 (v % 256) = v := by
  rw [← a8_of h]
  exact a8_mod (by rw [a8_256]; omega)
/-- letters behind a row -/
def addl (l : List Int) (w n : Int) : List Int := oF (l.length + n.toNat) (fun j => if j < l.length then l.getD j 0 else a8 (lb w (j - l.length)))
def cps (m : List Int) (f t : Int) : List Int := oF (t - f).toNat (fun j => m.getD (f.toNat + j) 0)
def ovl (l : List Int) (p : Int) (m : List Int) : List Int := oF l.length (fun j => if p.toNat ≤ j ∧ j < p.toNat + m.length then m.getD (j - p.toNat) 0 else l.getD j 0)
def sli (l m : List Int) (f t : Int) : Prop := 0 ≤ f ∧ t ≤ m.length ∧ (l.length : Int) = t - f ∧ ∀ j, j < l.length → l.getD j 0 = m.getD (f.toNat + j) 0
def cmpv : List Int → List Int → Int
  | a :: l, b :: m => if a % 256 = b % 256 then cmpv l m else a % 256 - b % 256
  | l, m => (l.length : Int) - m.length
def ltr (v : Int) : Prop := 33 ≤ v % 256 ∧ v % 256 ≤ 126 ∧ v % 256 ≠ 47
def tgt (l : List Int) : Prop := ∀ j, j < l.length → 33 ≤ l.getD j 0 % 256 ∧ l.getD j 0 % 256 ≤ 126
def nmix (l : List Int) (f t : Int) : Prop := (∀ j : Nat, f ≤ j → (j : Int) < t → ltr (l.getD j 0)) ∧ f < t ∧ ¬ ((∀ j : Nat, f ≤ j → (j : Int) < t → l.getD j 0 % 256 = 46) ∧ t - f ≤ 2)
def lsl (l : List Int) : Nat → Int
  | 0 => -1
  | k + 1 => if l.getD k 0 % 256 = 47 then k else lsl l k
theorem drop_cons {l : List Int} {i : Nat} (h : i < l.length) : l.drop i = l.getD i 0 :: l.drop (i + 1) := by
  rw [List.drop_eq_getElem_cons h]
  simp [List.getD_eq_getElem?_getD, h]
theorem cmpv_nil {l m : List Int} (h : l = [] ∨ m = []) : cmpv l m = (l.length : Int) - m.length := by
  rcases h with rfl | rfl
  · cases m <;> rfl
  · cases l <;> rfl
theorem a8_let {w : Int} {i : Int} (h0 : 0 ≤ i) (h1 : i < 8) : a8 (a32 (a_lushr w (8 * i))) = a8 (lb w i.toNat) := by
  have e : (8 * i) = 8 * ((i.toNat : Nat) : Int) := by omega
  refine a8_mod ?_
  rw [a32_256, e, a_lushr8 (by omega)]
  unfold lb
  omega
section RowC2
variable {K : KE} {h : AH} {g : Nat → Nat} {st : CS} {cb sb : Nat} {r r2 d : Nat}
theorem al_loop (hr : r < 125) (w n : Int) (l : List Int) (hn0 : 0 ≤ n) (hn8 : n ≤ 8) (hl : l.length + n ≤ 10240) (h8 : ∀ v ∈ l, r8 v) : ∀ (k : Nat) (i : Int) (h : AH), 0 ≤ i → i ≤ n → (n - i).toNat ≤ k → WC K h g (uR st r (oF (l.length + n.toNat) (fun j => if j < l.length then l.getD j 0 else if j < l.length + i.toNat then a8 (lb w (j - l.length)) else 0))) cb sb → Go (d + 1) yRw_addLetters 17 [aR (g r), aL w, none, aI n, aI l.length, aI i] [] h (RV none (fun h2 => WC K h2 g (uR st r (addl l w n)) cb sb)) := by
  intro k
  induction k with
  | zero =>
    intro i h h0 h1 hk hW
    have e : (addl l w n) = (oF (l.length + n.toNat) (fun j => if j < l.length then l.getD j 0 else if j < l.length + i.toNat then a8 (lb w (j - l.length)) else 0)) := oF_ext fun j hj => by
      split
      · rfl
      · rw [if_pos (by omega)]
    rw [e]
    refine g_iload rfl rfl ?_
    refine g_iload_n rfl rfl ?_
    refine g_icmpge rfl rfl (fun c1 => ?_) (fun c => absurd c (by omega))
    exact r_v rfl rfl hW
  | succ k ih =>
    intro i h h0 h1 hk hW
    by_cases hi : i = n
    · have e : (addl l w n) = (oF (l.length + n.toNat) (fun j => if j < l.length then l.getD j 0 else if j < l.length + i.toNat then a8 (lb w (j - l.length)) else 0)) := oF_ext fun j hj => by
        split
        · rfl
        · rw [if_pos (by omega)]
      rw [e]
      refine g_iload rfl rfl ?_
      refine g_iload_n rfl rfl ?_
      refine g_icmpge rfl rfl (fun c1 => ?_) (fun c => absurd c (by omega))
      exact r_v rfl rfl hW
    · skip
      refine g_iload rfl rfl ?_
      refine g_iload_n rfl rfl ?_
      refine g_icmpge rfl rfl (fun c => absurd c (by omega)) (fun c1 => ?_)
      refine g_iload rfl rfl ?_
      refine g_bipush (n := 8) rfl (by decide) ?_
      refine g_icmpge rfl rfl (fun c => absurd c (by omega)) (fun c2 => ?_)
      refine g_aload_n rfl rfl ?_
      refine g_iload rfl rfl ?_
      refine g_iload rfl rfl ?_
      refine g_iadd rfl (by omega) ?_
      refine g_lload_n rfl rfl ?_
      refine g_bipush (n := 8) rfl (by decide) ?_
      refine g_iload rfl rfl ?_
      refine g_imul rfl (by omega) ?_
      refine g_lushr (v := a_lushr w (8 * i)) rfl rfl ?_
      refine g_l2i (v := a32 (a_lushr w (8 * i))) rfl rfl ?_
      refine g_Vn (z := yRw_put) (e := 1) (A := [aI (a32 (a_lushr w (8 * i))), aI ((((l.length : Nat) : Int)) + i)]) (rest := [])  rfl rfl rfl rfl rfl rfl (by omega) (hW.row hr) (hW.rowb hr) (c_put hW hr _ _) ?_
      intro hh3 hW2
      rw [uR_uR, uR_get, rput_oF (by omega) (by omega)] at hW2
      have e : oF (l.length + n.toNat) (va_up (fun j => if j < l.length then l.getD j 0 else if j < l.length + i.toNat then a8 (lb w (j - l.length)) else 0) (((l.length : Nat) : Int) + i).toNat (a8 (a32 (a_lushr w (8 * i))))) = oF (l.length + n.toNat) (fun j => if j < l.length then l.getD j 0 else if j < l.length + (i + 1).toNat then a8 (lb w (j - l.length)) else 0) := oF_ext fun j hj => by
        unfold va_up
        by_cases h3 : j = (((l.length : Nat) : Int) + i).toNat
        · rw [if_pos h3, if_neg (by omega), if_pos (by omega), a8_let h0 (by omega)]
          congr 2
          omega
        · rw [if_neg h3]
          dsimp only
          by_cases h5 : j < l.length
          · rw [if_pos h5, if_pos h5]
          · rw [if_neg h5, if_neg h5]
            by_cases h4 : j < l.length + i.toNat
            · rw [if_pos h4, if_pos (by omega)]
            · rw [if_neg h4, if_neg (by omega)]
      rw [e] at hW2
      refine g_iinc (L' := [aR (g r), aL w, none, aI n, aI (((l.length : Nat) : Int)), aI (i + 1)]) rfl rfl (by omega) rfl ?_
      refine g_goto rfl rfl ?_
      exact ih (i + 1) _ (by omega) (by omega) (by omega) hW2
theorem c_addLetters (hd2 : 2 ≤ d) (hW : WC K h g st cb sb) (hr : r < 125) (w n : Int) (hn0 : 0 ≤ n) (hn8 : n ≤ 8) (hl : (st.1 r).length + n ≤ 10240) : Cal d yRw_addLetters [aR (g r), aL w, aI n] h (RV none (fun h2 => WC K h2 g (uR st r (addl (st.1 r) w n)) cb sb)) := by
  obtain ⟨d, rfl⟩ : ∃ e, d = e + 1 := ⟨d - 1, by omega⟩
  have h8 := hW.r8 hr
  show Go _ _ 0 [aR (g r), aL w, none, aI n, none, none] [] _ _
  refine g_aload_n rfl rfl ?_
  refine g_get (ci := 2) (kk := 1) rfl rfl (hW.row hr) (hW.rowb hr) rfl ?_
  refine g_istore (L' := [aR (g r), aL w, none, aI n, aI ((((st.1 r).length : Nat) : Int)), none]) rfl rfl ?_
  refine g_aload_n rfl rfl ?_
  refine g_iload rfl rfl ?_
  refine g_iload_n rfl rfl ?_
  refine g_iadd rfl (by omega) ?_
  refine g_Vn (z := yRw_resize) (e := 1) (A := [aI (((((st.1 r).length : Nat) : Int)) + n)]) (rest := [])  rfl rfl rfl rfl rfl rfl (by omega) (hW.row hr) (hW.rowb hr) (c_resize (by omega) hW hr _) ?_
  intro hh1 hW2
  rw [rsz_oF _ (by omega) (by omega)] at hW2
  have e : oF ((((st.1 r).length : Nat) : Int) + n).toNat (fun j => (st.1 r).getD j 0) = oF ((st.1 r).length + n.toNat) (fun j => if j < (st.1 r).length then (st.1 r).getD j 0 else if j < (st.1 r).length + (0 : Int).toNat then a8 (lb w (j - (st.1 r).length)) else 0) := by
    rw [show ((((st.1 r).length : Nat) : Int) + n).toNat = (st.1 r).length + n.toNat by omega]
    refine oF_ext fun j hj => ?_
    split
    · rfl
    · rw [if_neg (by simp; omega), getD_ge (by omega)]
  rw [e] at hW2
  refine g_iconst (n := 0) rfl (by decide) ?_
  refine g_istore (L' := [aR (g r), aL w, none, aI n, aI ((((st.1 r).length : Nat) : Int)), aI 0]) rfl rfl ?_
  exact al_loop (d := d) hr w n (st.1 r) hn0 hn8 hl h8 (n.toNat) 0 _ (by omega) (by omega) (by omega) hW2
theorem cp_loop (hr : r < 125) (hr2 : r2 < 125) (hne : r2 ≠ r) (f t : Int) (m : List Int) (h8 : ∀ v ∈ m, r8 v) (hm : st.1 r2 = m) (h0 : 0 ≤ f) (h1 : f ≤ t) (h2 : t ≤ m.length) (hml : m.length ≤ 10240) (ht : t - f ≤ 10240) (q : Nat → Int) : ∀ (k : Nat) (i : Int) (h : AH), 0 ≤ i → i ≤ t - f → (t - f - i).toNat ≤ k → WC K h g (uR st r (oF (t - f).toNat (fun j => if j < i.toNat then m.getD (f.toNat + j) 0 else q j))) cb sb → Go (d + 1) yRw_copySlice 10 [aR (g r), aR (g r2), aI f, aI t, aI i] [] h (RV none (fun h2 => WC K h2 g (uR st r (cps m f t)) cb sb)) := by
  intro k
  induction k with
  | zero =>
    intro i h hi0 hi1 hk hW
    have e : cps m f t = oF (t - f).toNat (fun j => if j < i.toNat then m.getD (f.toNat + j) 0 else q j) := oF_ext fun j hj => by rw [if_pos (by omega)]
    rw [e]
    refine g_iload rfl rfl ?_
    refine g_aload_n rfl rfl ?_
    refine g_get (ci := 2) (kk := 1) rfl rfl (hW.row hr) (hW.rowb hr) rfl ?_
    rw [uR_get, oF_len]
    refine g_icmpge rfl rfl (fun c1 => ?_) (fun c => absurd c (by omega))
    exact r_v rfl rfl hW
  | succ k ih =>
    intro i h hi0 hi1 hk hW
    by_cases hi : i = t - f
    · have e : cps m f t = oF (t - f).toNat (fun j => if j < i.toNat then m.getD (f.toNat + j) 0 else q j) := oF_ext fun j hj => by rw [if_pos (by omega)]
      rw [e]
      refine g_iload rfl rfl ?_
      refine g_aload_n rfl rfl ?_
      refine g_get (ci := 2) (kk := 1) rfl rfl (hW.row hr) (hW.rowb hr) rfl ?_
      rw [uR_get, oF_len]
      refine g_icmpge rfl rfl (fun c1 => ?_) (fun c => absurd c (by omega))
      exact r_v rfl rfl hW
    · skip
      refine g_iload rfl rfl ?_
      refine g_aload_n rfl rfl ?_
      refine g_get (ci := 2) (kk := 1) rfl rfl (hW.row hr) (hW.rowb hr) rfl ?_
      rw [uR_get, oF_len]
      refine g_icmpge rfl rfl (fun c => absurd c (by omega)) (fun c1 => ?_)
      refine g_aload_n rfl rfl ?_
      refine g_iload rfl rfl ?_
      refine g_aload_n rfl rfl ?_
      refine g_iload_n rfl rfl ?_
      refine g_iload rfl rfl ?_
      refine g_iadd rfl (by omega) ?_
      refine g_V (z := yRw_at) (e := 1) (A := [aI (f + i)]) (rest := [aI i, aR (g r)]) (v := aI (rat ((uR st r (oF (t - f).toNat (fun j => if j < i.toNat then m.getD (f.toNat + j) 0 else q j))).1 r2) (f + i))) (P := fun h2 => h2 = h) rfl rfl rfl rfl rfl rfl (by omega) (hW.row hr2) (hW.rowb hr2) (c_at hW hr2 _) ?_
      intro hh9 he9
      rw [he9]
      clear he9 hh9
      refine g_Vn (z := yRw_put) (e := 1) (A := [aI (rat ((uR st r (oF (t - f).toNat (fun j => if j < i.toNat then m.getD (f.toNat + j) 0 else q j))).1 r2) (f + i)), aI i]) (rest := [])  rfl rfl rfl rfl rfl rfl (by omega) (hW.row hr) (hW.rowb hr) (c_put hW hr _ _) ?_
      intro hh2 hW2
      rw [uR_uR, uR_get, uR_ne _ _ hne, hm, rat_in (by omega) (by omega), rput_oF (by omega) (by omega), a8_mod256 (getD_r8 h8 _)] at hW2
      have e : oF (t - f).toNat (va_up (fun j => if j < i.toNat then m.getD (f.toNat + j) 0 else q j) i.toNat (m.getD (f + i).toNat 0)) = oF (t - f).toNat (fun j => if j < (i + 1).toNat then m.getD (f.toNat + j) 0 else q j) := oF_ext fun j hj => by
        unfold va_up
        by_cases h3 : j = i.toNat
        · rw [if_pos h3, if_pos (by omega)]
          congr 1
          omega
        · rw [if_neg h3]
          dsimp only
          by_cases h4 : j < i.toNat
          · rw [if_pos h4, if_pos (by omega)]
          · rw [if_neg h4, if_neg (by omega)]
      rw [e] at hW2
      refine g_iinc (L' := [aR (g r), aR (g r2), aI f, aI t, aI (i + 1)]) rfl rfl (by omega) rfl ?_
      refine g_goto rfl rfl ?_
      exact ih (i + 1) _ (by omega) (by omega) (by omega) hW2
theorem c_copySlice (hd2 : 2 ≤ d) (hW : WC K h g st cb sb) (hr : r < 125) (hr2 : r2 < 125) (hne : r2 ≠ r) (f t : Int) (h0 : 0 ≤ f) (h1 : f ≤ t) (h2 : t ≤ (st.1 r2).length) : Cal d yRw_copySlice [aR (g r), aR (g r2), aI f, aI t] h (RV none (fun h2 => WC K h2 g (uR st r (cps (st.1 r2) f t)) cb sb)) := by
  obtain ⟨d, rfl⟩ : ∃ e, d = e + 1 := ⟨d - 1, by omega⟩
  have hl2 := hW.len hr2
  show Go _ _ 0 [aR (g r), aR (g r2), aI f, aI t, none] [] _ _
  refine g_aload_n rfl rfl ?_
  refine g_iload_n rfl rfl ?_
  refine g_iload_n rfl rfl ?_
  refine g_isub rfl (by omega) ?_
  refine g_Vn (z := yRw_resize) (e := 1) (A := [aI (t - f)]) (rest := [])  rfl rfl rfl rfl rfl rfl (by omega) (hW.row hr) (hW.rowb hr) (c_resize (by omega) hW hr _) ?_
  intro hh1 hW2
  rw [rsz_oF _ (by omega) (by omega)] at hW2
  have e : oF (t - f).toNat (fun j => (st.1 r).getD j 0) = oF (t - f).toNat (fun j => if j < (0 : Int).toNat then (st.1 r2).getD (f.toNat + j) 0 else (st.1 r).getD j 0) := oF_ext fun j hj => by rw [if_neg (by simp)]
  rw [e] at hW2
  refine g_iconst (n := 0) rfl (by decide) ?_
  refine g_istore (L' := [aR (g r), aR (g r2), aI f, aI t, aI 0]) rfl rfl ?_
  exact cp_loop (d := d) hr hr2 hne f t (st.1 r2) (hW.r8 hr2) rfl h0 h1 h2 hl2 (by omega) (fun j => (st.1 r).getD j 0) (t - f).toNat 0 _ (by omega) (by omega) (by omega) hW2
theorem pa_loop (hr : r < 125) (hr2 : r2 < 125) (hne : r2 ≠ r) (p : Int) (l m : List Int) (h8 : ∀ v ∈ m, r8 v) (hm : st.1 r2 = m) (h0 : 0 ≤ p) (h1 : p + m.length ≤ l.length) (hl : l.length ≤ 10240) : ∀ (k : Nat) (i : Int) (h : AH), 0 ≤ i → i ≤ m.length → (m.length - i).toNat ≤ k → WC K h g (uR st r (oF l.length (fun j => if p.toNat ≤ j ∧ j < p.toNat + i.toNat then m.getD (j - p.toNat) 0 else l.getD j 0))) cb sb → Go (d + 1) yRw_putAll 2 [aR (g r), aI p, aR (g r2), aI i] [] h (RV none (fun h2 => WC K h2 g (uR st r (ovl l p m)) cb sb)) := by
  intro k
  induction k with
  | zero =>
    intro i h hi0 hi1 hk hW
    have e : ovl l p m = oF l.length (fun j => if p.toNat ≤ j ∧ j < p.toNat + i.toNat then m.getD (j - p.toNat) 0 else l.getD j 0) := by rw [show i.toNat = m.length by omega]; rfl
    rw [e]
    refine g_iload_n rfl rfl ?_
    refine g_aload_n rfl rfl ?_
    refine g_get (ci := 2) (kk := 1) rfl rfl (hW.row hr2) (hW.rowb hr2) rfl ?_
    rw [uR_ne _ _ hne, hm]
    refine g_icmpge rfl rfl (fun c1 => ?_) (fun c => absurd c (by omega))
    exact r_v rfl rfl hW
  | succ k ih =>
    intro i h hi0 hi1 hk hW
    by_cases hi : i = m.length
    · have e : ovl l p m = oF l.length (fun j => if p.toNat ≤ j ∧ j < p.toNat + i.toNat then m.getD (j - p.toNat) 0 else l.getD j 0) := by rw [show i.toNat = m.length by omega]; rfl
      rw [e]
      refine g_iload_n rfl rfl ?_
      refine g_aload_n rfl rfl ?_
      refine g_get (ci := 2) (kk := 1) rfl rfl (hW.row hr2) (hW.rowb hr2) rfl ?_
      rw [uR_ne _ _ hne, hm]
      refine g_icmpge rfl rfl (fun c1 => ?_) (fun c => absurd c (by omega))
      exact r_v rfl rfl hW
    · skip
      refine g_iload_n rfl rfl ?_
      refine g_aload_n rfl rfl ?_
      refine g_get (ci := 2) (kk := 1) rfl rfl (hW.row hr2) (hW.rowb hr2) rfl ?_
      rw [uR_ne _ _ hne, hm]
      refine g_icmpge rfl rfl (fun c => absurd c (by omega)) (fun c1 => ?_)
      refine g_aload_n rfl rfl ?_
      refine g_iload_n rfl rfl ?_
      refine g_iload_n rfl rfl ?_
      refine g_iadd rfl (by omega) ?_
      refine g_aload_n rfl rfl ?_
      refine g_iload_n rfl rfl ?_
      refine g_V (z := yRw_at) (e := 1) (A := [aI i]) (rest := [aI (p + i), aR (g r)]) (v := aI (rat ((uR st r (oF l.length (fun j => if p.toNat ≤ j ∧ j < p.toNat + i.toNat then m.getD (j - p.toNat) 0 else l.getD j 0))).1 r2) i)) (P := fun h2 => h2 = h) rfl rfl rfl rfl rfl rfl (by omega) (hW.row hr2) (hW.rowb hr2) (c_at hW hr2 _) ?_
      intro hh9 he9
      rw [he9]
      clear he9 hh9
      refine g_Vn (z := yRw_put) (e := 1) (A := [aI (rat ((uR st r (oF l.length (fun j => if p.toNat ≤ j ∧ j < p.toNat + i.toNat then m.getD (j - p.toNat) 0 else l.getD j 0))).1 r2) i), aI (p + i)]) (rest := [])  rfl rfl rfl rfl rfl rfl (by omega) (hW.row hr) (hW.rowb hr) (c_put hW hr _ _) ?_
      intro hh2 hW2
      rw [uR_uR, uR_get, uR_ne _ _ hne, hm, rat_in (by omega) (by omega), rput_oF (by omega) (by omega), a8_mod256 (getD_r8 h8 _)] at hW2
      have e : oF l.length (va_up (fun j => if p.toNat ≤ j ∧ j < p.toNat + i.toNat then m.getD (j - p.toNat) 0 else l.getD j 0) (p + i).toNat (m.getD i.toNat 0)) = oF l.length (fun j => if p.toNat ≤ j ∧ j < p.toNat + (i + 1).toNat then m.getD (j - p.toNat) 0 else l.getD j 0) := oF_ext fun j hj => by
        unfold va_up
        by_cases h3 : j = (p + i).toNat
        · rw [if_pos h3, if_pos (by omega)]
          congr 1
          omega
        · rw [if_neg h3]
          dsimp only
          by_cases h4 : p.toNat ≤ j ∧ j < p.toNat + i.toNat
          · rw [if_pos h4, if_pos (by omega)]
          · rw [if_neg h4, if_neg (by omega)]
      rw [e] at hW2
      refine g_iinc (L' := [aR (g r), aI p, aR (g r2), aI (i + 1)]) rfl rfl (by omega) rfl ?_
      refine g_goto rfl rfl ?_
      exact ih (i + 1) _ (by omega) (by omega) (by omega) hW2
theorem c_putAll (hd1 : 1 ≤ d) (hW : WC K h g st cb sb) (hr : r < 125) (hr2 : r2 < 125) (hne : r2 ≠ r) (p : Int) (h0 : 0 ≤ p) (h1 : p + (st.1 r2).length ≤ (st.1 r).length) : Cal d yRw_putAll [aR (g r), aI p, aR (g r2)] h (RV none (fun h2 => WC K h2 g (uR st r (ovl (st.1 r) p (st.1 r2))) cb sb)) := by
  obtain ⟨d, rfl⟩ : ∃ e, d = e + 1 := ⟨d - 1, by omega⟩
  have hl := hW.len hr
  have hW2 : WC K h g (uR st r (oF (st.1 r).length (fun j => if p.toNat ≤ j ∧ j < p.toNat + (0 : Int).toNat then (st.1 r2).getD (j - p.toNat) 0 else (st.1 r).getD j 0))) cb sb := by
    have e : oF (st.1 r).length (fun j => if p.toNat ≤ j ∧ j < p.toNat + (0 : Int).toNat then (st.1 r2).getD (j - p.toNat) 0 else (st.1 r).getD j 0) = st.1 r := by
      conv => rhs; rw [← oF_of (st.1 r)]
      exact oF_ext fun j hj => by rw [if_neg (by omega)]
    rw [e, uR_self]
    exact hW
  show Go _ _ 0 [aR (g r), aI p, aR (g r2), none] [] _ _
  refine g_iconst (n := 0) rfl (by decide) ?_
  refine g_istore_n (L' := [aR (g r), aI p, aR (g r2), aI 0]) rfl rfl ?_
  exact pa_loop (d := d) hr hr2 hne p (st.1 r) (st.1 r2) (hW.r8 hr2) rfl h0 h1 hl (st.1 r2).length 0 _ (by omega) (by omega) (by omega) hW2
theorem is_loop (hW : WC K h g st cb sb) (hr : r < 125) (hr2 : r2 < 125) (f t : Int) (h0 : 0 ≤ f) (h2 : t ≤ (st.1 r2).length) (hl : ((st.1 r).length : Int) = t - f) : ∀ (k : Nat) (i : Int), 0 ≤ i → i ≤ (st.1 r).length → ((st.1 r).length - i).toNat ≤ k → (∀ j : Nat, (j : Int) < i → (st.1 r).getD j 0 = (st.1 r2).getD (f.toNat + j) 0) → Go d yRw_isSlice 27 [aR (g r), aR (g r2), aI f, aI t, aI i] [] h (RV (some (aI (pz (sli (st.1 r) (st.1 r2) f t)))) (fun h2 => h2 = h)) := by
  have hc := hW.choose_spec.cap hr
  have hc2 := hW.choose_spec.cap hr2
  have hF := (hW.choose_spec.2.2.1 r hr).2.2.1
  have hF2 := (hW.choose_spec.2.2.1 r2 hr2).2.2.1
  intro k
  induction k with
  | zero =>
    intro i hi0 hi1 hk hp
    refine g_iload rfl rfl ?_
    refine g_aload_n rfl rfl ?_
    refine g_get (ci := 2) (kk := 1) rfl rfl (hW.row hr) (hW.rowb hr) rfl ?_
    refine g_icmpge rfl rfl (fun c1 => ?_) (fun c => absurd c (by omega))
    refine g_iconst (n := 1) rfl (by decide) ?_
    exact r_z rfl rfl (by decide) (pz_t ⟨h0, h2, hl, fun j hj => hp j (by omega)⟩).symm rfl
  | succ k ih =>
    intro i hi0 hi1 hk hp
    refine g_iload rfl rfl ?_
    refine g_aload_n rfl rfl ?_
    refine g_get (ci := 2) (kk := 1) rfl rfl (hW.row hr) (hW.rowb hr) rfl ?_
    refine g_icmpge rfl rfl (fun c1 => ?_) (fun c1 => ?_)
    · skip
      refine g_iconst (n := 1) rfl (by decide) ?_
      exact r_z rfl rfl (by decide) (pz_t ⟨h0, h2, hl, fun j hj => hp j (by omega)⟩).symm rfl
    · skip
      refine g_aload_n rfl rfl ?_
      refine g_get (ci := 2) (kk := 0) rfl rfl (hW.row hr) (hW.rowb hr) rfl ?_
      refine g_iload rfl rfl ?_
      refine g_bald rfl (hW.choose_spec.byt hr) (by omega) ?_
      rw [show (hW.choose r).2.2 (i).toNat = (st.1 r).getD i.toNat 0 from (hF _ (by omega))]
      refine g_aload_n rfl rfl ?_
      refine g_get (ci := 2) (kk := 0) rfl rfl (hW.row hr2) (hW.rowb hr2) rfl ?_
      refine g_iload_n rfl rfl ?_
      refine g_iload rfl rfl ?_
      refine g_iadd rfl (by omega) ?_
      refine g_bald rfl (hW.choose_spec.byt hr2) (by omega) ?_
      rw [show (hW.choose r2).2.2 (f + i).toNat = (st.1 r2).getD (f.toNat + i.toNat) 0 from (by rw [hF2 _ (by omega), show (f + i).toNat = f.toNat + i.toNat by omega])]
      refine g_icmpeq rfl rfl (fun c2 => ?_) (fun c2 => ?_)
      · skip
        refine g_iinc (L' := [aR (g r), aR (g r2), aI f, aI t, aI (i + 1)]) rfl rfl (by omega) rfl ?_
        refine g_goto rfl rfl ?_
        exact ih (i + 1) (by omega) (by omega) (by omega) (fun j hj => (Nat.lt_or_ge j i.toNat).elim (fun h => hp j (by omega)) (fun h => by rw [show j = i.toNat by omega]; exact c2))
      · skip
        refine g_iconst (n := 0) rfl (by decide) ?_
        exact r_z rfl rfl (by decide) (pz_f (fun q => c2 (q.2.2.2 _ (by omega)))).symm rfl
theorem c_isSlice (hW : WC K h g st cb sb) (hr : r < 125) (hr2 : r2 < 125) (f t : Int) (hf : r32 f) (ht : r32 t) (hft : 0 ≤ f → r32 (t - f)) : Cal d yRw_isSlice [aR (g r), aR (g r2), aI f, aI t] h (RV (some (aI (pz (sli (st.1 r) (st.1 r2) f t)))) (fun h2 => h2 = h)) := by
  have hc := hW.len hr
  unfold r32 at hft
  show Go _ _ 0 [aR (g r), aR (g r2), aI f, aI t, none] [] _ _
  refine g_iload_n rfl rfl ?_
  refine g_iflt rfl rfl (fun c1 => ?_) (fun c1 => ?_)
  · skip
    refine g_iconst (n := 0) rfl (by decide) ?_
    exact r_z rfl rfl (by decide) (pz_f (fun q => by have := q.1; have := q.2.1; have := q.2.2.1; omega)).symm rfl
  · skip
    refine g_iload_n rfl rfl ?_
    refine g_aload_n rfl rfl ?_
    refine g_get (ci := 2) (kk := 1) rfl rfl (hW.row hr2) (hW.rowb hr2) rfl ?_
    refine g_icmpgt rfl rfl (fun c2 => ?_) (fun c2 => ?_)
    · skip
      refine g_iconst (n := 0) rfl (by decide) ?_
      exact r_z rfl rfl (by decide) (pz_f (fun q => by have := q.1; have := q.2.1; have := q.2.2.1; omega)).symm rfl
    · skip
      refine g_aload_n rfl rfl ?_
      refine g_get (ci := 2) (kk := 1) rfl rfl (hW.row hr) (hW.rowb hr) rfl ?_
      refine g_iload_n rfl rfl ?_
      refine g_iload_n rfl rfl ?_
      refine g_isub rfl (by omega) ?_
      refine g_icmpeq rfl rfl (fun c3 => ?_) (fun c3 => ?_)
      · skip
        refine g_iconst (n := 0) rfl (by decide) ?_
        refine g_istore (L' := [aR (g r), aR (g r2), aI f, aI t, aI 0]) rfl rfl ?_
        exact is_loop hW hr hr2 f t (by omega) (by omega) (by omega) ((st.1 r).length) 0 (by omega) (by omega) (by omega) (fun j hj => by omega)
      · skip
        refine g_iconst (n := 0) rfl (by decide) ?_
        exact r_z rfl rfl (by decide) (pz_f (fun q => by have := q.1; have := q.2.1; have := q.2.2.1; omega)).symm rfl
theorem or_loop (hW : WC K h g st cb sb) (hr : r < 125) (hr2 : r2 < 125) (s : Int) (hs : s = if ((st.1 r).length : Int) ≤ (st.1 r2).length then ((st.1 r).length : Int) else (st.1 r2).length) : ∀ (k : Nat) (i : Int), 0 ≤ i → i ≤ s → (s - i).toNat ≤ k → cmpv (st.1 r) (st.1 r2) = cmpv ((st.1 r).drop i.toNat) ((st.1 r2).drop i.toNat) → Go (d + 1) yRw_order 14 [aR (g r), aR (g r2), aI s, aI i] [] h (RV (some (aI (cmpv (st.1 r) (st.1 r2)))) (fun h2 => h2 = h)) := by
  have hc := hW.len hr
  have hc2 := hW.len hr2
  have hs1 : s ≤ (st.1 r).length ∧ s ≤ (st.1 r2).length ∧ (s = (st.1 r).length ∨ s = (st.1 r2).length) := by
    rw [hs]
    split <;> omega
  intro k
  induction k with
  | zero =>
    intro i hi0 hi1 hk hp
    refine g_iload_n rfl rfl ?_
    refine g_iload_n rfl rfl ?_
    refine g_icmpge rfl rfl (fun c1 => ?_) (fun c => absurd c (by omega))
    refine g_aload_n rfl rfl ?_
    refine g_get (ci := 2) (kk := 1) rfl rfl (hW.row hr) (hW.rowb hr) rfl ?_
    refine g_aload_n rfl rfl ?_
    refine g_get (ci := 2) (kk := 1) rfl rfl (hW.row hr2) (hW.rowb hr2) rfl ?_
    refine g_isub rfl (by omega) ?_
    exact r_i rfl rfl (by rw [hp, cmpv_nil (hs1.2.2.elim (fun h => Or.inl (List.drop_eq_nil_of_le (by omega))) (fun h => Or.inr (List.drop_eq_nil_of_le (by omega)))), List.length_drop, List.length_drop]; omega) rfl
  | succ k ih =>
    intro i hi0 hi1 hk hp
    refine g_iload_n rfl rfl ?_
    refine g_iload_n rfl rfl ?_
    refine g_icmpge rfl rfl (fun c1 => ?_) (fun c1 => ?_)
    · skip
      refine g_aload_n rfl rfl ?_
      refine g_get (ci := 2) (kk := 1) rfl rfl (hW.row hr) (hW.rowb hr) rfl ?_
      refine g_aload_n rfl rfl ?_
      refine g_get (ci := 2) (kk := 1) rfl rfl (hW.row hr2) (hW.rowb hr2) rfl ?_
      refine g_isub rfl (by omega) ?_
      exact r_i rfl rfl (by rw [hp, cmpv_nil (hs1.2.2.elim (fun h => Or.inl (List.drop_eq_nil_of_le (by omega))) (fun h => Or.inr (List.drop_eq_nil_of_le (by omega)))), List.length_drop, List.length_drop]; omega) rfl
    · skip
      refine g_aload_n rfl rfl ?_
      refine g_iload_n rfl rfl ?_
      refine g_V (z := yRw_at) (e := 1) (A := [aI i]) (rest := []) (v := aI (rat (st.1 r) i)) (P := fun h2 => h2 = h) rfl rfl rfl rfl rfl rfl (by omega) (hW.row hr) (hW.rowb hr) (c_at hW hr _) ?_
      intro hh9 he9
      rw [he9]
      clear he9 hh9
      refine g_aload_n rfl rfl ?_
      refine g_iload_n rfl rfl ?_
      refine g_V (z := yRw_at) (e := 1) (A := [aI i]) (rest := [aI (rat (st.1 r) i)]) (v := aI (rat (st.1 r2) i)) (P := fun h2 => h2 = h) rfl rfl rfl rfl rfl rfl (by omega) (hW.row hr2) (hW.rowb hr2) (c_at hW hr2 _) ?_
      intro hh9 he9
      rw [he9]
      clear he9 hh9
      have hcv : cmpv ((st.1 r).drop i.toNat) ((st.1 r2).drop i.toNat) = if (st.1 r).getD i.toNat 0 % 256 = (st.1 r2).getD i.toNat 0 % 256 then cmpv ((st.1 r).drop (i.toNat + 1)) ((st.1 r2).drop (i.toNat + 1)) else (st.1 r).getD i.toNat 0 % 256 - (st.1 r2).getD i.toNat 0 % 256 := by rw [drop_cons (l := st.1 r) (i := i.toNat) (by omega), drop_cons (l := st.1 r2) (i := i.toNat) (by omega)]; rfl
      rw [rat_in (by omega) (by omega), rat_in (by omega) (by omega)]
      refine g_icmpeq rfl rfl (fun c2 => ?_) (fun c2 => ?_)
      · skip
        refine g_iinc (L' := [aR (g r), aR (g r2), aI s, aI (i + 1)]) rfl rfl (by omega) rfl ?_
        refine g_goto rfl rfl ?_
        exact ih (i + 1) (by omega) (by omega) (by omega) (by rw [hp, hcv, if_pos c2, show (i + 1).toNat = i.toNat + 1 by omega])
      · skip
        refine g_aload_n rfl rfl ?_
        refine g_iload_n rfl rfl ?_
        refine g_V (z := yRw_at) (e := 1) (A := [aI i]) (rest := []) (v := aI (rat (st.1 r) i)) (P := fun h2 => h2 = h) rfl rfl rfl rfl rfl rfl (by omega) (hW.row hr) (hW.rowb hr) (c_at hW hr _) ?_
        intro hh9 he9
        rw [he9]
        clear he9 hh9
        refine g_aload_n rfl rfl ?_
        refine g_iload_n rfl rfl ?_
        refine g_V (z := yRw_at) (e := 1) (A := [aI i]) (rest := [aI (rat (st.1 r) i)]) (v := aI (rat (st.1 r2) i)) (P := fun h2 => h2 = h) rfl rfl rfl rfl rfl rfl (by omega) (hW.row hr2) (hW.rowb hr2) (c_at hW hr2 _) ?_
        intro hh9 he9
        rw [he9]
        clear he9 hh9
        rw [rat_in (by omega) (by omega), rat_in (by omega) (by omega)]
        refine g_isub rfl (by omega) ?_
        exact r_i rfl rfl (by rw [hp, hcv, if_neg c2]) rfl
theorem c_order (hd1 : 1 ≤ d) (hW : WC K h g st cb sb) (hr : r < 125) (hr2 : r2 < 125) : Cal d yRw_order [aR (g r), aR (g r2)] h (RV (some (aI (cmpv (st.1 r) (st.1 r2)))) (fun h2 => h2 = h)) := by
  obtain ⟨d, rfl⟩ : ∃ e, d = e + 1 := ⟨d - 1, by omega⟩
  have hc := hW.len hr
  have hc2 := hW.len hr2
  show Go _ _ 0 [aR (g r), aR (g r2), none, none] [] _ _
  refine g_aload_n rfl rfl ?_
  refine g_get (ci := 2) (kk := 1) rfl rfl (hW.row hr) (hW.rowb hr) rfl ?_
  refine g_aload_n rfl rfl ?_
  refine g_get (ci := 2) (kk := 1) rfl rfl (hW.row hr2) (hW.rowb hr2) rfl ?_
  refine g_min rfl rfl rfl (Nat.le_of_ble_eq_true rfl) ?_
  refine g_istore_n (L' := [aR (g r), aR (g r2), aI (if (((st.1 r).length : Nat) : Int) ≤ (((st.1 r2).length : Nat) : Int) then (((st.1 r).length : Nat) : Int) else (((st.1 r2).length : Nat) : Int)), none]) rfl rfl ?_
  refine g_iconst (n := 0) rfl (by decide) ?_
  refine g_istore_n (L' := [aR (g r), aR (g r2), aI (if (((st.1 r).length : Nat) : Int) ≤ (((st.1 r2).length : Nat) : Int) then (((st.1 r).length : Nat) : Int) else (((st.1 r2).length : Nat) : Int)), aI 0]) rfl rfl ?_
  exact or_loop (d := d) hW hr hr2 _ rfl 10240 0 (by omega) (by split <;> omega) (by split <;> omega) rfl
theorem it_loop (hW : WC K h g st cb sb) (hr : r < 125) : ∀ (k : Nat) (i : Int), 0 ≤ i → i ≤ (st.1 r).length → ((st.1 r).length - i).toNat ≤ k → (∀ j : Nat, (j : Int) < i → 33 ≤ (st.1 r).getD j 0 % 256 ∧ (st.1 r).getD j 0 % 256 ≤ 126) → Go (d + 1) yRw_isTarget 2 [aR (g r), aI i] [] h (RV (some (aI (pz (tgt (st.1 r))))) (fun h2 => h2 = h)) := by
  have hc := hW.len hr
  intro k
  induction k with
  | zero =>
    intro i hi0 hi1 hk hp
    refine g_iload_n rfl rfl ?_
    refine g_aload_n rfl rfl ?_
    refine g_get (ci := 2) (kk := 1) rfl rfl (hW.row hr) (hW.rowb hr) rfl ?_
    refine g_icmpge rfl rfl (fun c1 => ?_) (fun c => absurd c (by omega))
    refine g_iconst (n := 1) rfl (by decide) ?_
    exact r_z rfl rfl (by decide) (pz_t (fun j hj => hp j (by omega))).symm rfl
  | succ k ih =>
    intro i hi0 hi1 hk hp
    refine g_iload_n rfl rfl ?_
    refine g_aload_n rfl rfl ?_
    refine g_get (ci := 2) (kk := 1) rfl rfl (hW.row hr) (hW.rowb hr) rfl ?_
    refine g_icmpge rfl rfl (fun c1 => ?_) (fun c1 => ?_)
    · skip
      refine g_iconst (n := 1) rfl (by decide) ?_
      exact r_z rfl rfl (by decide) (pz_t (fun j hj => hp j (by omega))).symm rfl
    · skip
      refine g_aload_n rfl rfl ?_
      refine g_iload_n rfl rfl ?_
      refine g_V (z := yRw_at) (e := 1) (A := [aI i]) (rest := []) (v := aI (rat (st.1 r) i)) (P := fun h2 => h2 = h) rfl rfl rfl rfl rfl rfl (by omega) (hW.row hr) (hW.rowb hr) (c_at hW hr _) ?_
      intro hh9 he9
      rw [he9]
      clear he9 hh9
      refine g_bipush (n := 33) rfl (by decide) ?_
      rw [rat_in (by omega) (by omega)]
      refine g_icmplt rfl rfl (fun c2 => ?_) (fun c2 => ?_)
      · skip
        refine g_iconst (n := 0) rfl (by decide) ?_
        exact r_z rfl rfl (by decide) (pz_f (fun q => by have := q i.toNat (by omega); omega)).symm rfl
      · skip
        refine g_aload_n rfl rfl ?_
        refine g_iload_n rfl rfl ?_
        refine g_V (z := yRw_at) (e := 1) (A := [aI i]) (rest := []) (v := aI (rat (st.1 r) i)) (P := fun h2 => h2 = h) rfl rfl rfl rfl rfl rfl (by omega) (hW.row hr) (hW.rowb hr) (c_at hW hr _) ?_
        intro hh9 he9
        rw [he9]
        clear he9 hh9
        refine g_bipush (n := 126) rfl (by decide) ?_
        rw [rat_in (by omega) (by omega)]
        refine g_icmple rfl rfl (fun c3 => ?_) (fun c3 => ?_)
        · skip
          refine g_iinc (L' := [aR (g r), aI (i + 1)]) rfl rfl (by omega) rfl ?_
          refine g_goto rfl rfl ?_
          exact ih (i + 1) (by omega) (by omega) (by omega) (fun j hj => (Nat.lt_or_ge j i.toNat).elim (fun h => hp j (by omega)) (fun h => by rw [show j = i.toNat by omega]; omega))
        · skip
          refine g_iconst (n := 0) rfl (by decide) ?_
          exact r_z rfl rfl (by decide) (pz_f (fun q => by have := q i.toNat (by omega); omega)).symm rfl
theorem c_isTarget (hd1 : 1 ≤ d) (hW : WC K h g st cb sb) (hr : r < 125) : Cal d yRw_isTarget [aR (g r)] h (RV (some (aI (pz (tgt (st.1 r))))) (fun h2 => h2 = h)) := by
  obtain ⟨d, rfl⟩ : ∃ e, d = e + 1 := ⟨d - 1, by omega⟩
  show Go _ _ 0 [aR (g r), none] [] _ _
  refine g_iconst (n := 0) rfl (by decide) ?_
  refine g_istore_n (L' := [aR (g r), aI 0]) rfl rfl ?_
  exact it_loop (d := d) hW hr _ 0 (by omega) (by omega) (Nat.le_refl _) (fun j hj => by omega)
theorem ls_loop (hW : WC K h g st cb sb) (hr : r < 125) (b : Int) : ∀ (k : Nat), (k : Int) ≤ (st.1 r).length → Go (d + 1) yRw_lastSlash 4 [aR (g r), aI b, aI ((k : Int) - 1)] [] h (RV (some (aI (lsl (st.1 r) k))) (fun h2 => h2 = h)) := by
  have hc := hW.len hr
  intro k
  induction k with
  | zero =>
    intro hk
    refine g_iload_n rfl rfl ?_
    refine g_iflt rfl rfl (fun c1 => ?_) (fun c => absurd c (by omega))
    refine g_iconst (n := -1) rfl (by decide) ?_
    exact r_i rfl rfl rfl rfl
  | succ k ih =>
    intro hk
    have e : (((k + 1 : Nat) : Int) - 1) = k := by omega
    rw [e]
    refine g_iload_n rfl rfl ?_
    refine g_iflt rfl rfl (fun c => absurd c (by omega)) (fun c1 => ?_)
    refine g_aload_n rfl rfl ?_
    refine g_iload_n rfl rfl ?_
    refine g_V (z := yRw_at) (e := 1) (A := [aI ((k : Int))]) (rest := []) (v := aI (rat (st.1 r) (k : Int))) (P := fun h2 => h2 = h) rfl rfl rfl rfl rfl rfl (by omega) (hW.row hr) (hW.rowb hr) (c_at hW hr _) ?_
    intro hh9 he9
    rw [he9]
    clear he9 hh9
    refine g_bipush (n := 47) rfl (by decide) ?_
    rw [rat_in (by omega) (by omega), Int.toNat_natCast]
    refine g_icmpne rfl rfl (fun c2 => ?_) (fun c2 => ?_)
    · skip
      refine g_iinc (L' := [aR (g r), aI b, aI ((k : Int) + (-1))]) rfl rfl (by omega) rfl ?_
      refine g_goto rfl rfl ?_
      have h9 := ih (by omega)
      rw [show lsl (st.1 r) (k + 1) = lsl (st.1 r) k from if_neg c2]
      exact h9
    · skip
      refine g_iload_n rfl rfl ?_
      exact r_i rfl rfl (by show (k : Int) = lsl (st.1 r) (k + 1); exact (if_pos c2).symm) rfl
theorem c_lastSlash (hd1 : 1 ≤ d) (hW : WC K h g st cb sb) (hr : r < 125) (b : Int) (h0 : 0 ≤ b) (h1 : b ≤ (st.1 r).length) : Cal d yRw_lastSlash [aR (g r), aI b] h (RV (some (aI (lsl (st.1 r) b.toNat))) (fun h2 => h2 = h)) := by
  obtain ⟨d, rfl⟩ : ∃ e, d = e + 1 := ⟨d - 1, by omega⟩
  have hc := hW.len hr
  show Go _ _ 0 [aR (g r), aI b, none] [] _ _
  refine g_iload_n rfl rfl ?_
  refine g_iconst (n := 1) rfl (by decide) ?_
  refine g_isub rfl (by omega) ?_
  refine g_istore_n (L' := [aR (g r), aI b, aI (b - 1)]) rfl rfl ?_
  have h9 := ls_loop (d := d) hW hr b b.toNat (by omega)
  rw [show ((b.toNat : Nat) : Int) = b by omega] at h9
  exact h9
theorem nm_loop (hW : WC K h g st cb sb) (hr : r < 125) (f t : Int) (h0 : 0 ≤ f) (h1 : t ≤ (st.1 r).length) (hft : f ≤ t) : ∀ (k : Nat) (i : Int) (v5 : AV), f ≤ i → i ≤ t → (t - i).toNat ≤ k → (∀ j : Nat, f ≤ j → (j : Int) < i → ltr ((st.1 r).getD j 0)) → Go (d + 1) yRw_isNameOfAnyLength 5 [aR (g r), aI f, aI t, aI (pz (∀ j : Nat, f ≤ j → (j : Int) < i → (st.1 r).getD j 0 % 256 = 46)), aI i, v5] [] h (RV (some (aI (pz (nmix (st.1 r) f t)))) (fun h2 => h2 = h)) := by
  have hc := hW.len hr
  intro k
  induction k with
  | zero =>
    intro i v5 hi0 hi1 hk hp
    obtain rfl : i = t := by omega
    refine g_iload rfl rfl ?_
    refine g_iload_n rfl rfl ?_
    refine g_icmpge rfl rfl (fun c1 => ?_) (fun c => absurd c (by omega))
    refine g_iload_n rfl rfl ?_
    refine g_iload_n rfl rfl ?_
    refine g_icmple rfl rfl (fun c2 => ?_) (fun c2 => ?_)
    · skip
      refine g_iconst (n := 0) rfl (by decide) ?_
      exact r_z rfl rfl (by decide) (pz_f (fun q => by first | (have := q.2.1; omega) | exact q.2.2 ⟨pz_ne (by assumption), by omega⟩)).symm rfl
    · skip
      refine g_iload_n rfl rfl ?_
      refine g_ifeq rfl rfl (fun c3 => ?_) (fun c3 => ?_)
      · skip
        have cE := c3
        refine g_iconst (n := 1) rfl (by decide) ?_
        refine g_goto rfl rfl ?_
        exact r_z rfl rfl (by decide) (pz_t ⟨hp, by omega, fun q => by first | exact absurd q.1 (pz_eq (by assumption)) | (have := q.2; omega)⟩).symm rfl
      · skip
        have cE := c3
        refine g_iload_n rfl rfl ?_
        refine g_iload_n rfl rfl ?_
        refine g_isub rfl (by omega) ?_
        refine g_iconst (n := 2) rfl (by decide) ?_
        refine g_icmple rfl rfl (fun c4 => ?_) (fun c4 => ?_)
        · skip
          refine g_iconst (n := 0) rfl (by decide) ?_
          exact r_z rfl rfl (by decide) (pz_f (fun q => by first | (have := q.2.1; omega) | exact q.2.2 ⟨pz_ne (by assumption), by omega⟩)).symm rfl
        · skip
          refine g_iconst (n := 1) rfl (by decide) ?_
          refine g_goto rfl rfl ?_
          exact r_z rfl rfl (by decide) (pz_t ⟨hp, by omega, fun q => by first | exact absurd q.1 (pz_eq (by assumption)) | (have := q.2; omega)⟩).symm rfl
  | succ k ih =>
    intro i v5 hi0 hi1 hk hp
    by_cases hit : i = t
    · subst hit
      refine g_iload rfl rfl ?_
      refine g_iload_n rfl rfl ?_
      refine g_icmpge rfl rfl (fun c1 => ?_) (fun c => absurd c (by omega))
      refine g_iload_n rfl rfl ?_
      refine g_iload_n rfl rfl ?_
      refine g_icmple rfl rfl (fun c2 => ?_) (fun c2 => ?_)
      · skip
        refine g_iconst (n := 0) rfl (by decide) ?_
        exact r_z rfl rfl (by decide) (pz_f (fun q => by first | (have := q.2.1; omega) | exact q.2.2 ⟨pz_ne (by assumption), by omega⟩)).symm rfl
      · skip
        refine g_iload_n rfl rfl ?_
        refine g_ifeq rfl rfl (fun c3 => ?_) (fun c3 => ?_)
        · skip
          have cE := c3
          refine g_iconst (n := 1) rfl (by decide) ?_
          refine g_goto rfl rfl ?_
          exact r_z rfl rfl (by decide) (pz_t ⟨hp, by omega, fun q => by first | exact absurd q.1 (pz_eq (by assumption)) | (have := q.2; omega)⟩).symm rfl
        · skip
          have cE := c3
          refine g_iload_n rfl rfl ?_
          refine g_iload_n rfl rfl ?_
          refine g_isub rfl (by omega) ?_
          refine g_iconst (n := 2) rfl (by decide) ?_
          refine g_icmple rfl rfl (fun c4 => ?_) (fun c4 => ?_)
          · skip
            refine g_iconst (n := 0) rfl (by decide) ?_
            exact r_z rfl rfl (by decide) (pz_f (fun q => by first | (have := q.2.1; omega) | exact q.2.2 ⟨pz_ne (by assumption), by omega⟩)).symm rfl
          · skip
            refine g_iconst (n := 1) rfl (by decide) ?_
            refine g_goto rfl rfl ?_
            exact r_z rfl rfl (by decide) (pz_t ⟨hp, by omega, fun q => by first | exact absurd q.1 (pz_eq (by assumption)) | (have := q.2; omega)⟩).symm rfl
    · skip
      refine g_iload rfl rfl ?_
      refine g_iload_n rfl rfl ?_
      refine g_icmpge rfl rfl (fun c => absurd c (by omega)) (fun c1 => ?_)
      refine g_aload_n rfl rfl ?_
      refine g_iload rfl rfl ?_
      refine g_V (z := yRw_at) (e := 1) (A := [aI i]) (rest := []) (v := aI (rat (st.1 r) i)) (P := fun h2 => h2 = h) rfl rfl rfl rfl rfl rfl (by omega) (hW.row hr) (hW.rowb hr) (c_at hW hr _) ?_
      intro hh9 he9
      rw [he9]
      clear he9 hh9
      have hrt : rat (st.1 r) i = (st.1 r).getD i.toNat 0 % 256 := rat_in (by omega) (by omega)
      refine g_istore (L' := [aR (g r), aI f, aI t, aI (pz (∀ j : Nat, f ≤ j → (j : Int) < i → (st.1 r).getD j 0 % 256 = 46)), aI i, aI (rat (st.1 r) i)]) rfl rfl ?_
      refine g_iload rfl rfl ?_
      refine g_bipush (n := 33) rfl (by decide) ?_
      refine g_icmplt rfl rfl (fun c2 => ?_) (fun c2 => ?_)
      · skip
        refine g_iconst (n := 0) rfl (by decide) ?_
        exact r_z rfl rfl (by decide) (pz_f (fun q => by have := q.1 i.toNat (by omega) (by omega); unfold ltr at this; omega)).symm rfl
      · skip
        refine g_iload rfl rfl ?_
        refine g_bipush (n := 126) rfl (by decide) ?_
        refine g_icmpgt rfl rfl (fun c3 => ?_) (fun c3 => ?_)
        · skip
          refine g_iconst (n := 0) rfl (by decide) ?_
          exact r_z rfl rfl (by decide) (pz_f (fun q => by have := q.1 i.toNat (by omega) (by omega); unfold ltr at this; omega)).symm rfl
        · skip
          refine g_iload rfl rfl ?_
          refine g_bipush (n := 47) rfl (by decide) ?_
          refine g_icmpne rfl rfl (fun c4 => ?_) (fun c4 => ?_)
          · skip
            refine g_iload_n rfl rfl ?_
            refine g_ifeq rfl rfl (fun c5 => ?_) (fun c5 => ?_)
            · skip
              have cD := c5
              refine g_iconst (n := 0) rfl (by decide) ?_
              refine g_istore_n (L' := [aR (g r), aI f, aI t, aI 0, aI i, aI (rat (st.1 r) i)]) rfl rfl ?_
              refine g_iinc (L' := [aR (g r), aI f, aI t, aI 0, aI (i + 1), aI (rat (st.1 r) i)]) rfl rfl (by omega) rfl ?_
              refine g_goto rfl rfl ?_
              have h9 := ih (i + 1) (aI (rat (st.1 r) i)) (by omega) (by omega) (by omega) (fun j h3 h4 => (Nat.lt_or_ge j i.toNat).elim (fun h => hp j h3 (by omega)) (fun h => by rw [show j = i.toNat by omega]; exact ⟨by omega, by omega, by omega⟩))
              rw [pz_f (fun q => by first | exact pz_eq cD (fun j h3 h4 => q j h3 (by omega)) | (have := q i.toNat (by omega) (by omega); omega))] at h9
              exact h9
            · skip
              have cD := c5
              refine g_iload rfl rfl ?_
              refine g_bipush (n := 46) rfl (by decide) ?_
              refine g_icmpne rfl rfl (fun c6 => ?_) (fun c6 => ?_)
              · skip
                refine g_iconst (n := 0) rfl (by decide) ?_
                refine g_istore_n (L' := [aR (g r), aI f, aI t, aI 0, aI i, aI (rat (st.1 r) i)]) rfl rfl ?_
                refine g_iinc (L' := [aR (g r), aI f, aI t, aI 0, aI (i + 1), aI (rat (st.1 r) i)]) rfl rfl (by omega) rfl ?_
                refine g_goto rfl rfl ?_
                have h9 := ih (i + 1) (aI (rat (st.1 r) i)) (by omega) (by omega) (by omega) (fun j h3 h4 => (Nat.lt_or_ge j i.toNat).elim (fun h => hp j h3 (by omega)) (fun h => by rw [show j = i.toNat by omega]; exact ⟨by omega, by omega, by omega⟩))
                rw [pz_f (fun q => by first | exact pz_eq cD (fun j h3 h4 => q j h3 (by omega)) | (have := q i.toNat (by omega) (by omega); omega))] at h9
                exact h9
              · skip
                refine g_iconst (n := 1) rfl (by decide) ?_
                refine g_goto rfl rfl ?_
                refine g_istore_n (L' := [aR (g r), aI f, aI t, aI 1, aI i, aI (rat (st.1 r) i)]) rfl rfl ?_
                refine g_iinc (L' := [aR (g r), aI f, aI t, aI 1, aI (i + 1), aI (rat (st.1 r) i)]) rfl rfl (by omega) rfl ?_
                refine g_goto rfl rfl ?_
                have h9 := ih (i + 1) (aI (rat (st.1 r) i)) (by omega) (by omega) (by omega) (fun j h3 h4 => (Nat.lt_or_ge j i.toNat).elim (fun h => hp j h3 (by omega)) (fun h => by rw [show j = i.toNat by omega]; exact ⟨by omega, by omega, by omega⟩))
                rw [pz_t (fun j h3 h4 => (Nat.lt_or_ge j i.toNat).elim (fun h => pz_ne cD j h3 (by omega)) (fun h => by rw [show j = i.toNat by omega]; omega))] at h9
                exact h9
          · skip
            refine g_iconst (n := 0) rfl (by decide) ?_
            exact r_z rfl rfl (by decide) (pz_f (fun q => by have := q.1 i.toNat (by omega) (by omega); unfold ltr at this; omega)).symm rfl
theorem c_isName (hd1 : 1 ≤ d) (hW : WC K h g st cb sb) (hr : r < 125) (f t : Int) (h0 : 0 ≤ f) (h1 : t ≤ (st.1 r).length) (hft : f ≤ t) : Cal d yRw_isNameOfAnyLength [aR (g r), aI f, aI t] h (RV (some (aI (pz (nmix (st.1 r) f t)))) (fun h2 => h2 = h)) := by
  obtain ⟨d, rfl⟩ : ∃ e, d = e + 1 := ⟨d - 1, by omega⟩
  show Go _ _ 0 [aR (g r), aI f, aI t, none, none, none] [] _ _
  refine g_iconst (n := 1) rfl (by decide) ?_
  refine g_istore_n (L' := [aR (g r), aI f, aI t, aI 1, none, none]) rfl rfl ?_
  refine g_iload_n rfl rfl ?_
  refine g_istore (L' := [aR (g r), aI f, aI t, aI 1, aI f, none]) rfl rfl ?_
  have h9 := nm_loop (d := d) hW hr f t h0 h1 hft (t - f).toNat f none (by omega) hft (Nat.le_refl _) (fun j h3 h4 => by omega)
  rw [pz_t (fun j h3 h4 => by omega)] at h9
  exact h9
end RowC2
end
section
/-! Contracts of the tape's methods. -/
section ObjW
variable {K : KE} {h : AH} {g : Nat → Nat} {st : CS} {cb sb : Nat}
def hd0 : HD := fun _ => (0, 0, fun _ => 0)
theorem cel_325 {hd : HD} {c : Nat} (hc : 325 ≤ c) : cel g hd st c = cel g hd0 st c := by
  have h1 : ¬ c < 125 := by omega
  have h2 : ¬ c < 325 := by omega
  unfold cel
  simp only [if_neg h1, if_neg h2]
theorem WC.obj (hW : WC K h g st cb sb) {c : Nat} (hc : dm c) (h3 : 325 ≤ c) : h.1 (g c) = some (cel g hd0 st c) := by
  obtain ⟨hd, hW⟩ := hW
  have := (hW.1 c hc).1
  rw [ad_g (by omega), cel_325 h3] at this
  exact this
theorem WC.objb (hW : WC K h g st cb sb) {c : Nat} (hc : dm c) (h3 : 325 ≤ c) : h.2.2.2.1 ≤ g c := by
  obtain ⟨hd, hW⟩ := hW
  have := (hW.1 c hc).2.1
  rw [ad_g (by omega)] at this
  rw [hW.2.2.2.2.1]
  exact this
theorem dm_530 : dm 530 := by unfold dm; omega
theorem dm_531 : dm 531 := by unfold dm; omega
theorem dm_532 : dm 532 := by unfold dm; omega
theorem dm_533 : dm 533 := by unfold dm; omega
theorem dm_500 {t : Nat} (ht : t < 2) : dm (500 + t) := by unfold dm; omega
theorem dm_510 {t : Nat} (ht : t < 2) : dm (510 + t) := by unfold dm; omega
theorem dm_520 {t : Nat} (ht : t < 2) : dm (520 + t) := by unfold dm; omega
theorem dm_400 {j : Nat} (hj : j < 60) : dm (400 + j) := by unfold dm; omega
theorem WC.tape (hW : WC K h g st cb sb) : h.1 (g 530) = some (eO 3 [aR (g 121)]) := hW.obj dm_530 (by omega)
theorem WC.tapeb (hW : WC K h g st cb sb) : h.2.2.2.1 ≤ g 530 := hW.objb dm_530 (by omega)
theorem WC.tree (hW : WC K h g st cb sb) {t : Nat} (ht : t < 2) : h.1 (g (500 + t)) = some (eO 4 [aR (g (510 + t)), aI (st.2.2.2.1 t), aR (g (520 + t))]) := by
  rw [hW.obj (dm_500 ht) (by omega)]
  unfold cel
  rw [if_neg (by omega), if_neg (by omega), if_neg (by omega), if_pos (by omega), Nat.add_sub_cancel_left, show 500 + t + 10 = 510 + t by omega, show 500 + t + 20 = 520 + t by omega]
theorem WC.treeb (hW : WC K h g st cb sb) {t : Nat} (ht : t < 2) : h.2.2.2.1 ≤ g (500 + t) := hW.objb (dm_500 ht) (by omega)
theorem WC.arr (hW : WC K h g st cb sb) {t : Nat} (ht : t < 2) : h.1 (g (510 + t)) = some (eQ 3 30 (fun i => some (g (400 + st.2.2.1 t i)))) := by
  rw [hW.obj (dm_510 ht) (by omega)]
  unfold cel
  rw [if_neg (by omega), if_neg (by omega), if_neg (by omega), if_neg (by omega), if_pos (by omega), Nat.add_sub_cancel_left]
theorem WC.arrb (hW : WC K h g st cb sb) {t : Nat} (ht : t < 2) : h.2.2.2.1 ≤ g (510 + t) := hW.objb (dm_510 ht) (by omega)
theorem WC.num (hW : WC K h g st cb sb) {t : Nat} (ht : t < 2) : h.1 (g (520 + t)) = some (eA 0 30 (st.2.2.2.2.1 t)) := by
  rw [hW.obj (dm_520 ht) (by omega)]
  unfold cel
  rw [if_neg (by omega), if_neg (by omega), if_neg (by omega), if_neg (by omega), if_neg (by omega), if_pos (by omega), Nat.add_sub_cancel_left]
theorem WC.numb (hW : WC K h g st cb sb) {t : Nat} (ht : t < 2) : h.2.2.2.1 ≤ g (520 + t) := hW.objb (dm_520 ht) (by omega)
theorem WC.node (hW : WC K h g st cb sb) {j : Nat} (hj : j < 60) : h.1 (g (400 + j)) = some (eO 0 [aR (g (2 * j)), aR (g (2 * j + 1)), aI (st.2.1 j 0), aI (st.2.1 j 1), aI (st.2.1 j 2), aI (st.2.1 j 3), aI (st.2.1 j 4), aI (st.2.1 j 5)]) := by
  rw [hW.obj (dm_400 hj) (by omega)]
  unfold cel
  rw [if_neg (by omega), if_neg (by omega), if_pos (by omega), Nat.add_sub_cancel_left]
theorem WC.nodeb (hW : WC K h g st cb sb) {j : Nat} (hj : j < 60) : h.2.2.2.1 ≤ g (400 + j) := hW.objb (dm_400 hj) (by omega)
theorem WC.shq (hW : WC K h g st cb sb) : shp st := by
  obtain ⟨hd, hW⟩ := hW
  exact hW.2.2.2.1
/-- the marks stand where the surroundings say -/
def KOK (K : KE) : Prop := K.1 K.2.2.2 ∧ K.2.1 K.2.2.2 = some (eA 1 8 mkf)
theorem WC.mark (hW : WC K h g st cb sb) (hK : KOK K) : h.1 h.2.2.2.2 = some (eA 1 8 mkf) := by
  obtain ⟨hd, hW⟩ := hW
  rw [hW.2.2.2.2.1, (hW.2.2.2.2.2.1 _ hK.1).1]
  exact hK.2
end ObjW
def zrs (l : List Int) (f t : Int) : Prop := ∀ j : Int, f ≤ j → j < t → rat l j = 0
def octs (l : List Int) (f : Int) : Nat → Int
  | 0 => 0
  | k + 1 => octs l f k * 8 + (rat l (f + k) - 48)
def octok (l : List Int) (f : Int) (n : Nat) : Prop := ∀ i : Nat, i < n → 48 ≤ rat l (f + i) ∧ rat l (f + i) ≤ 55
noncomputable def octv (l : List Int) (f : Int) (n : Nat) : Int := @ite Int (octok l f n ∧ rat l (f + n) = 0) (Classical.propDecidable _) (octs l f n) (-1)
def sums (l : List Int) (b : Int) : Nat → Int
  | 0 => 0
  | k + 1 => sums l b k + (if 148 ≤ k ∧ k < 156 then 32 else rat l (b * 512 + k))
def poct (l : List Int) (f : Int) (n : Nat) (v : Int) : List Int := oF l.length (fun j => if f ≤ j ∧ (j : Int) < f + n then 48 + v / 8 ^ (f + n - 1 - j).toNat % 8 else if (j : Int) = f + n then 0 else l.getD j 0)
def pmrk (l : List Int) (f : Int) : List Int := oF l.length (fun j => if f ≤ j ∧ (j : Int) < f + 8 then mkf (j - f).toNat else l.getD j 0)
theorem octs_r {l : List Int} {f : Int} {n : Nat} (h : octok l f n) : 0 ≤ octs l f n ∧ octs l f n < 8 ^ n := by
  induction n with
  | zero => exact (show (0 : Int) ≤ 0 ∧ (0 : Int) < 8 ^ 0 by decide)
  | succ k ih =>
    have h1 := ih (fun i hi => h i (by omega))
    have h2 := h k (by omega)
    have e : (8 : Int) ^ (k + 1) = 8 ^ k * 8 := by rw [Int.pow_succ]
    show 0 ≤ octs l f k * 8 + (rat l (f + k) - 48) ∧ octs l f k * 8 + (rat l (f + k) - 48) < 8 ^ (k + 1)
    rw [e]
    omega
theorem sums_r (l : List Int) (b : Int) (n : Nat) : -(n : Int) ≤ sums l b n ∧ sums l b n ≤ 255 * n := by
  induction n with
  | zero => exact (show -((0 : Nat) : Int) ≤ 0 ∧ (0 : Int) ≤ 255 * ((0 : Nat) : Int) by decide)
  | succ k ih =>
    have := rat_r l (b * 512 + k)
    show -((k + 1 : Nat) : Int) ≤ sums l b k + _ ∧ sums l b k + _ ≤ 255 * ((k + 1 : Nat) : Int)
    split <;> omega
theorem mkf_r (j : Nat) : 0 ≤ mkf j ∧ mkf j ≤ 127 := by
  unfold mkf
  by_cases hj : j < 8
  · have e8 : j = 0 ∨ j = 1 ∨ j = 2 ∨ j = 3 ∨ j = 4 ∨ j = 5 ∨ j = 6 ∨ j = 7 := by omega
    rcases e8 with rfl | rfl | rfl | rfl | rfl | rfl | rfl | rfl <;> exact ⟨by decide, by decide⟩
  · rw [List.getD_eq_getElem?_getD, List.getElem?_eq_none (by simp; omega)]
    exact ⟨by decide, by decide⟩
theorem pow8_le {n : Nat} (h : n ≤ 11) : (8 : Int) ^ n ≤ 8589934592 := by
  have e : (n = 0 ∨ n = 1 ∨ n = 2 ∨ n = 3 ∨ n = 4 ∨ n = 5 ∨ n = 6 ∨ n = 7 ∨ n = 8 ∨ n = 9 ∨ n = 10 ∨ n = 11) := by omega
  rcases e with rfl | rfl | rfl | rfl | rfl | rfl | rfl | rfl | rfl | rfl | rfl | rfl <;> decide
theorem lc_eq {x y : Int} (h : a_lcmp x y = 0) : x = y := by
  unfold a_lcmp at h
  split at h
  · cases h
  · split at h
    · assumption
    · cases h
theorem lc_ne {x y : Int} (h : a_lcmp x y ≠ 0) : x ≠ y := by
  intro e
  apply h
  unfold a_lcmp
  rw [if_neg (by omega), if_pos e]
theorem lc_lt {x y : Int} (h : a_lcmp x y < 0) : x < y := by
  unfold a_lcmp at h
  split at h
  · omega
  · split at h <;> omega
theorem lc_ge {x y : Int} (h : 0 ≤ a_lcmp x y) : y ≤ x := by
  unfold a_lcmp at h
  split at h
  · omega
  · split at h <;> omega
theorem lc_gt {x y : Int} (h : 0 < a_lcmp x y) : y < x := by
  unfold a_lcmp at h
  split at h
  · omega
  · split at h <;> omega
theorem lc_le {x y : Int} (h : a_lcmp x y ≤ 0) : x ≤ y := by
  unfold a_lcmp at h
  split at h
  · omega
  · split at h <;> omega
section TapeC
variable {K : KE} {h : AH} {g : Nat → Nat} {st : CS} {cb sb : Nat} {d : Nat}
theorem c_wholeBlocks (hW : WC K h g st cb sb) : Cal d yTp_wholeBlocks [aR (g 530)] h (RV (some (aI (((st.1 121).length : Int) / 512))) (fun h2 => h2 = h)) := by
  have hl := hW.len (r := 121) (by decide)
  show Go _ _ 0 [aR (g 530)] [] _ _
  refine g_aload_n rfl rfl ?_
  refine g_get (ci := 3) (kk := 0) rfl rfl hW.tape hW.tapeb rfl ?_
  refine g_get (ci := 2) (kk := 1) rfl rfl (hW.row (by decide)) (hW.rowb (by decide)) rfl ?_
  refine g_sipush (n := 512) rfl (by decide) ?_
  refine g_idiv (v := ((((st.1 121).length : Nat) : Int)) / 512) rfl (by decide) (a_div512 (by omega) (by omega)) ?_
  exact r_i rfl rfl rfl rfl
theorem c_blocksOf (n : Int) (h0 : 0 ≤ n) (h1 : n ≤ 100000) : Cal d yTp_blocksOf [aI n] h (RV (some (aI ((n + 511) / 512))) (fun h2 => h2 = h)) := by
  show Go _ _ 0 [aI n] [] _ _
  refine g_iload_n rfl rfl ?_
  refine g_sipush (n := 512) rfl (by decide) ?_
  refine g_iadd rfl (by omega) ?_
  refine g_iconst (n := 1) rfl (by decide) ?_
  refine g_isub rfl (by omega) ?_
  refine g_sipush (n := 512) rfl (by decide) ?_
  refine g_idiv (v := ((n + 512) - 1) / 512) rfl (by decide) (a_div512 (by omega) (by omega)) ?_
  exact r_i rfl rfl (by congr 1; omega) rfl
theorem iz_loop (hW : WC K h g st cb sb) (f t : Int) (ht : t ≤ 100000) : ∀ (k : Nat) (i : Int), f ≤ i → -1 ≤ i → (t - i).toNat ≤ k → (∀ j : Int, f ≤ j → j < i → rat (st.1 121) j = 0) → Go (d + 1) yTp_isZeros 2 [aR (g 530), aI f, aI t, aI i] [] h (RV (some (aI (pz (zrs (st.1 121) f t)))) (fun h2 => h2 = h)) := by
  intro k
  induction k with
  | zero =>
    intro i hi hi0 hk hp
    refine g_iload_n rfl rfl ?_
    refine g_iload_n rfl rfl ?_
    refine g_icmpge rfl rfl (fun c1 => ?_) (fun c => absurd c (by omega))
    refine g_iconst (n := 1) rfl (by decide) ?_
    exact r_z rfl rfl (by decide) (pz_t (fun j h3 h4 => hp j h3 (by omega))).symm rfl
  | succ k ih =>
    intro i hi hi0 hk hp
    refine g_iload_n rfl rfl ?_
    refine g_iload_n rfl rfl ?_
    refine g_icmpge rfl rfl (fun c1 => ?_) (fun c1 => ?_)
    · skip
      refine g_iconst (n := 1) rfl (by decide) ?_
      exact r_z rfl rfl (by decide) (pz_t (fun j h3 h4 => hp j h3 (by omega))).symm rfl
    · skip
      refine g_aload_n rfl rfl ?_
      refine g_get (ci := 3) (kk := 0) rfl rfl hW.tape hW.tapeb rfl ?_
      refine g_iload_n rfl rfl ?_
      refine g_V (z := yRw_at) (e := 1) (A := [aI i]) (rest := []) (v := aI (rat (st.1 121) i)) (P := fun h2 => h2 = h) rfl rfl rfl rfl rfl rfl (by omega) (hW.row (by decide)) (hW.rowb (by decide)) (c_at hW (by decide) _) ?_
      intro hh9 he9
      rw [he9]
      clear he9 hh9
      refine g_ifeq rfl rfl (fun c2 => ?_) (fun c2 => ?_)
      · skip
        refine g_iinc (L' := [aR (g 530), aI f, aI t, aI (i + 1)]) rfl rfl (by omega) rfl ?_
        refine g_goto rfl rfl ?_
        exact ih (i + 1) (by omega) (by omega) (by omega) (fun j h3 h4 => (Int.lt_or_le j i).elim (fun h => hp j h3 h) (fun h => by rw [show j = i by omega]; exact c2))
      · skip
        refine g_iconst (n := 0) rfl (by decide) ?_
        exact r_z rfl rfl (by decide) (pz_f (fun q => c2 (q i hi (by omega)))).symm rfl
theorem c_isZeros (hd1 : 1 ≤ d) (hW : WC K h g st cb sb) (f t : Int) (hf : -1 ≤ f) (ht : t ≤ 100000) : Cal d yTp_isZeros [aR (g 530), aI f, aI t] h (RV (some (aI (pz (zrs (st.1 121) f t)))) (fun h2 => h2 = h)) := by
  obtain ⟨d, rfl⟩ : ∃ e, d = e + 1 := ⟨d - 1, by omega⟩
  show Go _ _ 0 [aR (g 530), aI f, aI t, none] [] _ _
  refine g_iload_n rfl rfl ?_
  refine g_istore_n (L' := [aR (g 530), aI f, aI t, aI f]) rfl rfl ?_
  exact iz_loop (d := d) hW f t ht (t - f).toNat f (Int.le_refl _) hf (Nat.le_refl _) (fun j h3 h4 => by omega)
theorem c_isBlockOfZeros (hd2 : 2 ≤ d) (hW : WC K h g st cb sb) (b : Int) (h0 : 0 ≤ b) (h1 : b ≤ 100) : Cal d yTp_isBlockOfZeros [aR (g 530), aI b] h (RV (some (aI (pz (b < ((st.1 121).length : Int) / 512 ∧ zrs (st.1 121) (b * 512) (b * 512 + 512))))) (fun h2 => h2 = h)) := by
  show Go _ _ 0 [aR (g 530), aI b] [] _ _
  refine g_iload_n rfl rfl ?_
  refine g_aload_n rfl rfl ?_
  refine g_V (z := yTp_wholeBlocks) (e := 1) (A := []) (rest := [aI b]) (v := aI (((st.1 121).length : Int) / 512)) (P := fun h2 => h2 = h) rfl rfl rfl rfl rfl rfl (by omega) hW.tape hW.tapeb (c_wholeBlocks hW) ?_
  intro hh9 he9
  rw [he9]
  clear he9 hh9
  refine g_icmpge rfl rfl (fun c1 => ?_) (fun c1 => ?_)
  · skip
    refine g_iconst (n := 0) rfl (by decide) ?_
    exact r_z rfl rfl (by decide) (pz_f (fun q => by first | omega | exact pz_eq c2 q.2)).symm rfl
  · skip
    refine g_aload_n rfl rfl ?_
    refine g_iload_n rfl rfl ?_
    refine g_sipush (n := 512) rfl (by decide) ?_
    refine g_imul rfl (by omega) ?_
    refine g_iload_n rfl rfl ?_
    refine g_sipush (n := 512) rfl (by decide) ?_
    refine g_imul rfl (by omega) ?_
    refine g_sipush (n := 512) rfl (by decide) ?_
    refine g_iadd rfl (by omega) ?_
    refine g_V (z := yTp_isZeros) (e := 1) (A := [aI ((b * 512) + 512), aI (b * 512)]) (rest := []) (v := aI (pz (zrs (st.1 121) (b * 512) (b * 512 + 512)))) (P := fun h2 => h2 = h) rfl rfl rfl rfl rfl rfl (by omega) hW.tape hW.tapeb (c_isZeros (by omega) hW _ _ (by omega) (by omega)) ?_
    intro hh9 he9
    rw [he9]
    clear he9 hh9
    refine g_ifeq rfl rfl (fun c2 => ?_) (fun c2 => ?_)
    · skip
      refine g_iconst (n := 0) rfl (by decide) ?_
      exact r_z rfl rfl (by decide) (pz_f (fun q => by first | omega | exact pz_eq c2 q.2)).symm rfl
    · skip
      refine g_iconst (n := 1) rfl (by decide) ?_
      refine g_goto rfl rfl ?_
      exact r_z rfl rfl (by decide) (pz_t ⟨by omega, pz_ne c2⟩).symm rfl
theorem oc_loop (hW : WC K h g st cb sb) (f : Int) (n : Nat) (hn : n ≤ 11) (hf : 0 ≤ f) (hf2 : f ≤ 100000) : ∀ (k i : Nat) (v6 : AV), i ≤ n → n - i ≤ k → octok (st.1 121) f i → Go (d + 1) yTp_octal 5 [aR (g 530), aI f, aI n, aL (octs (st.1 121) f i), none, aI i, v6] [] h (RV (some (aL (octv (st.1 121) f n))) (fun h2 => h2 = h)) := by
  intro k
  induction k with
  | zero =>
    intro i v6 hi hk hp
    obtain rfl : i = n := by omega
    have hv : ∀ q : rat (st.1 121) (f + (i : Int)) = 0, octs (st.1 121) f i = octv (st.1 121) f i := fun q => (@if_pos _ (Classical.propDecidable _) ⟨hp, q⟩ _ _ _).symm
    have hv2 : ∀ q : rat (st.1 121) (f + (i : Int)) ≠ 0, -1 = octv (st.1 121) f i := fun q => (@if_neg _ (Classical.propDecidable _) (fun z => q z.2) _ _ _).symm
    refine g_iload rfl rfl ?_
    refine g_iload_n rfl rfl ?_
    refine g_icmpge rfl rfl (fun c1 => ?_) (fun c => absurd c (by omega))
    refine g_aload_n rfl rfl ?_
    refine g_get (ci := 3) (kk := 0) rfl rfl hW.tape hW.tapeb rfl ?_
    refine g_iload_n rfl rfl ?_
    refine g_iload_n rfl rfl ?_
    refine g_iadd rfl (by omega) ?_
    refine g_V (z := yRw_at) (e := 1) (A := [aI (f + ((i : Int)))]) (rest := []) (v := aI (rat (st.1 121) (f + (i : Int)))) (P := fun h2 => h2 = h) rfl rfl rfl rfl rfl rfl (by omega) (hW.row (by decide)) (hW.rowb (by decide)) (c_at hW (by decide) _) ?_
    intro hh9 he9
    rw [he9]
    clear he9 hh9
    refine g_ifne rfl rfl (fun c2 => ?_) (fun c2 => ?_)
    · skip
      refine g_ldc2 (v := -1) rfl rfl ?_
      exact r_l rfl rfl (hv2 c2) rfl
    · skip
      refine g_lload_n rfl rfl ?_
      refine g_goto rfl rfl ?_
      exact r_l rfl rfl (hv c2) rfl
  | succ k ih =>
    intro i v6 hi hk hp
    by_cases hin : i = n
    · subst hin
      have hv : ∀ q : rat (st.1 121) (f + (i : Int)) = 0, octs (st.1 121) f i = octv (st.1 121) f i := fun q => (@if_pos _ (Classical.propDecidable _) ⟨hp, q⟩ _ _ _).symm
      have hv2 : ∀ q : rat (st.1 121) (f + (i : Int)) ≠ 0, -1 = octv (st.1 121) f i := fun q => (@if_neg _ (Classical.propDecidable _) (fun z => q z.2) _ _ _).symm
      refine g_iload rfl rfl ?_
      refine g_iload_n rfl rfl ?_
      refine g_icmpge rfl rfl (fun c1 => ?_) (fun c => absurd c (by omega))
      refine g_aload_n rfl rfl ?_
      refine g_get (ci := 3) (kk := 0) rfl rfl hW.tape hW.tapeb rfl ?_
      refine g_iload_n rfl rfl ?_
      refine g_iload_n rfl rfl ?_
      refine g_iadd rfl (by omega) ?_
      refine g_V (z := yRw_at) (e := 1) (A := [aI (f + ((i : Int)))]) (rest := []) (v := aI (rat (st.1 121) (f + (i : Int)))) (P := fun h2 => h2 = h) rfl rfl rfl rfl rfl rfl (by omega) (hW.row (by decide)) (hW.rowb (by decide)) (c_at hW (by decide) _) ?_
      intro hh9 he9
      rw [he9]
      clear he9 hh9
      refine g_ifne rfl rfl (fun c2 => ?_) (fun c2 => ?_)
      · skip
        refine g_ldc2 (v := -1) rfl rfl ?_
        exact r_l rfl rfl (hv2 c2) rfl
      · skip
        refine g_lload_n rfl rfl ?_
        refine g_goto rfl rfl ?_
        exact r_l rfl rfl (hv c2) rfl
    · have ho := octs_r hp
      have hp8 := pow8_le (n := i) (by omega)
      have hrr := rat_r (st.1 121) (f + (i : Int))
      refine g_iload rfl rfl ?_
      refine g_iload_n rfl rfl ?_
      refine g_icmpge rfl rfl (fun c => absurd c (by omega)) (fun c1 => ?_)
      refine g_aload_n rfl rfl ?_
      refine g_get (ci := 3) (kk := 0) rfl rfl hW.tape hW.tapeb rfl ?_
      refine g_iload_n rfl rfl ?_
      refine g_iload rfl rfl ?_
      refine g_iadd rfl (by omega) ?_
      refine g_V (z := yRw_at) (e := 1) (A := [aI (f + ((i : Int)))]) (rest := []) (v := aI (rat (st.1 121) (f + (i : Int)))) (P := fun h2 => h2 = h) rfl rfl rfl rfl rfl rfl (by omega) (hW.row (by decide)) (hW.rowb (by decide)) (c_at hW (by decide) _) ?_
      intro hh9 he9
      rw [he9]
      clear he9 hh9
      refine g_istore (L' := [aR (g 530), aI f, aI ((n : Int)), aL (octs (st.1 121) f i), none, aI ((i : Int)), aI (rat (st.1 121) (f + (i : Int)))]) rfl rfl ?_
      refine g_iload rfl rfl ?_
      refine g_bipush (n := 48) rfl (by decide) ?_
      refine g_icmplt rfl rfl (fun c2 => ?_) (fun c2 => ?_)
      · skip
        refine g_ldc2 (v := -1) rfl rfl ?_
        exact r_l rfl rfl (by exact (@if_neg _ (Classical.propDecidable _) (fun z => by have := z.1 i (by omega); omega) _ _ _).symm) rfl
      · skip
        refine g_iload rfl rfl ?_
        refine g_bipush (n := 55) rfl (by decide) ?_
        refine g_icmple rfl rfl (fun c3 => ?_) (fun c3 => ?_)
        · skip
          refine g_lload_n rfl rfl ?_
          refine g_ldc2 (v := 8) rfl rfl ?_
          refine g_lmul rfl (by omega) ?_
          refine g_iload rfl rfl ?_
          refine g_bipush (n := 48) rfl (by decide) ?_
          refine g_isub rfl (by omega) ?_
          refine g_i2l rfl ?_
          refine g_ladd rfl (by omega) ?_
          refine g_lstore_n (L' := [aR (g 530), aI f, aI ((n : Int)), aL (((octs (st.1 121) f i) * 8) + ((rat (st.1 121) (f + (i : Int))) - 48)), none, aI ((i : Int)), aI (rat (st.1 121) (f + (i : Int)))]) rfl rfl ?_
          refine g_iinc (L' := [aR (g 530), aI f, aI ((n : Int)), aL (((octs (st.1 121) f i) * 8) + ((rat (st.1 121) (f + (i : Int))) - 48)), none, aI ((i : Int) + 1), aI (rat (st.1 121) (f + (i : Int)))]) rfl rfl (by omega) rfl ?_
          refine g_goto rfl rfl ?_
          exact ih (i + 1) _ (by omega) (by omega) (fun j hj => (Nat.lt_or_ge j i).elim (fun h => hp j h) (fun h => by rw [show j = i by omega]; exact ⟨by omega, by omega⟩))
        · skip
          refine g_ldc2 (v := -1) rfl rfl ?_
          exact r_l rfl rfl (by exact (@if_neg _ (Classical.propDecidable _) (fun z => by have := z.1 i (by omega); omega) _ _ _).symm) rfl
theorem c_octal (hd1 : 1 ≤ d) (hW : WC K h g st cb sb) (f : Int) (n : Nat) (hn : n ≤ 11) (hf : 0 ≤ f) (hf2 : f ≤ 100000) : Cal d yTp_octal [aR (g 530), aI f, aI (n : Int)] h (RV (some (aL (octv (st.1 121) f n))) (fun h2 => h2 = h)) := by
  obtain ⟨d, rfl⟩ : ∃ e, d = e + 1 := ⟨d - 1, by omega⟩
  show Go _ _ 0 [aR (g 530), aI f, aI (n : Int), none, none, none, none] [] _ _
  refine g_lconst (m := 0) rfl rfl ?_
  refine g_lstore_n (L' := [aR (g 530), aI f, aI ((n : Int)), aL 0, none, none, none]) rfl rfl ?_
  refine g_iconst (n := 0) rfl (by decide) ?_
  refine g_istore (L' := [aR (g 530), aI f, aI ((n : Int)), aL 0, none, aI 0, none]) rfl rfl ?_
  exact oc_loop (d := d) hW f n hn hf hf2 n 0 none (by omega) (by omega) (fun j hj => by omega)
theorem hm_loop (hK : KOK K) (hW : WC K h g st cb sb) (f : Int) (hf : 0 ≤ f) (hf2 : f ≤ 100000) : ∀ (k : Nat) (i : Int), 0 ≤ i → i ≤ 8 → (8 - i).toNat ≤ k → (∀ j : Nat, (j : Int) < i → rat (st.1 121) (f + j) = mkf j) → Go (d + 1) yTp_hasMark 2 [aR (g 530), aI f, aI i] [] h (RV (some (aI (pz (∀ j : Nat, j < 8 → rat (st.1 121) (f + j) = mkf j)))) (fun h2 => h2 = h)) := by
  intro k
  induction k with
  | zero =>
    intro i hi hi0 hk hp
    refine g_iload_n rfl rfl ?_
    refine g_gets rfl rfl ?_
    refine g_alen rfl (hW.mark hK) (by decide) ?_
    refine g_icmpge rfl rfl (fun c1 => ?_) (fun c => absurd c (by omega))
    refine g_iconst (n := 1) rfl (by decide) ?_
    exact r_z rfl rfl (by decide) (pz_t (fun j h3 => hp j (by omega))).symm rfl
  | succ k ih =>
    intro i hi hi0 hk hp
    refine g_iload_n rfl rfl ?_
    refine g_gets rfl rfl ?_
    refine g_alen rfl (hW.mark hK) (by decide) ?_
    refine g_icmpge rfl rfl (fun c1 => ?_) (fun c1 => ?_)
    · skip
      refine g_iconst (n := 1) rfl (by decide) ?_
      exact r_z rfl rfl (by decide) (pz_t (fun j h3 => hp j (by omega))).symm rfl
    · skip
      refine g_aload_n rfl rfl ?_
      refine g_get (ci := 3) (kk := 0) rfl rfl hW.tape hW.tapeb rfl ?_
      refine g_iload_n rfl rfl ?_
      refine g_iload_n rfl rfl ?_
      refine g_iadd rfl (by omega) ?_
      refine g_V (z := yRw_at) (e := 1) (A := [aI (f + i)]) (rest := []) (v := aI (rat (st.1 121) (f + i))) (P := fun h2 => h2 = h) rfl rfl rfl rfl rfl rfl (by omega) (hW.row (by decide)) (hW.rowb (by decide)) (c_at hW (by decide) _) ?_
      intro hh9 he9
      rw [he9]
      clear he9 hh9
      refine g_gets rfl rfl ?_
      refine g_iload_n rfl rfl ?_
      refine g_bald rfl (hW.mark hK) (by omega) ?_
      refine g_icmpeq rfl rfl (fun c2 => ?_) (fun c2 => ?_)
      · skip
        refine g_iinc (L' := [aR (g 530), aI f, aI (i + 1)]) rfl rfl (by omega) rfl ?_
        refine g_goto rfl rfl ?_
        exact ih (i + 1) (by omega) (by omega) (by omega) (fun j h3 => (Int.lt_or_le j i).elim (fun h => hp j h) (fun h => by rw [show j = i.toNat by omega, show ((i.toNat : Nat) : Int) = i by omega]; exact c2))
      · skip
        refine g_iconst (n := 0) rfl (by decide) ?_
        exact r_z rfl rfl (by decide) (pz_f (fun q => c2 (by have := q i.toNat (by omega); rw [show ((i.toNat : Nat) : Int) = i by omega] at this; exact this))).symm rfl
theorem c_hasMark (hd1 : 1 ≤ d) (hK : KOK K) (hW : WC K h g st cb sb) (f : Int) (hf : 0 ≤ f) (hf2 : f ≤ 100000) : Cal d yTp_hasMark [aR (g 530), aI f] h (RV (some (aI (pz (∀ j : Nat, j < 8 → rat (st.1 121) (f + j) = mkf j)))) (fun h2 => h2 = h)) := by
  obtain ⟨d, rfl⟩ : ∃ e, d = e + 1 := ⟨d - 1, by omega⟩
  show Go _ _ 0 [aR (g 530), aI f, none] [] _ _
  refine g_iconst (n := 0) rfl (by decide) ?_
  refine g_istore_n (L' := [aR (g 530), aI f, aI 0]) rfl rfl ?_
  exact hm_loop (d := d) hK hW f hf hf2 8 0 (by omega) (by omega) (by omega) (fun j h3 => by omega)
theorem sm_loop (hW : WC K h g st cb sb) (b : Int) (h0 : 0 ≤ b) (h1 : b ≤ 100) : ∀ (k i : Nat), i ≤ 512 → 512 - i ≤ k → Go (d + 1) yTp_sum 4 [aR (g 530), aI b, aI (sums (st.1 121) b i), aI i] [] h (RV (some (aI (sums (st.1 121) b 512))) (fun h2 => h2 = h)) := by
  intro k
  induction k with
  | zero =>
    intro i hi hk
    obtain rfl : i = 512 := by omega
    refine g_iload_n rfl rfl ?_
    refine g_sipush (n := 512) rfl (by decide) ?_
    refine g_icmpge rfl rfl (fun c1 => ?_) (fun c => absurd c (by decide))
    refine g_iload_n rfl rfl ?_
    exact r_i rfl rfl rfl rfl
  | succ k ih =>
    intro i hi hk
    by_cases hin : i = 512
    · subst hin
      refine g_iload_n rfl rfl ?_
      refine g_sipush (n := 512) rfl (by decide) ?_
      refine g_icmpge rfl rfl (fun c1 => ?_) (fun c => absurd c (by decide))
      refine g_iload_n rfl rfl ?_
      exact r_i rfl rfl rfl rfl
    · have hsr := sums_r (st.1 121) b i
      have hrr := rat_r (st.1 121) (b * 512 + (i : Int))
      refine g_iload_n rfl rfl ?_
      refine g_sipush (n := 512) rfl (by decide) ?_
      refine g_icmpge rfl rfl (fun c => absurd c (by omega)) (fun c1 => ?_)
      refine g_iload_n rfl rfl ?_
      refine g_iload_n rfl rfl ?_
      refine g_sipush (n := 148) rfl (by decide) ?_
      refine g_icmplt rfl rfl (fun c2 => ?_) (fun c2 => ?_)
      · skip
        refine g_aload_n rfl rfl ?_
        refine g_get (ci := 3) (kk := 0) rfl rfl hW.tape hW.tapeb rfl ?_
        refine g_iload_n rfl rfl ?_
        refine g_sipush (n := 512) rfl (by decide) ?_
        refine g_imul rfl (by omega) ?_
        refine g_iload_n rfl rfl ?_
        refine g_iadd rfl (by omega) ?_
        refine g_V (z := yRw_at) (e := 1) (A := [aI ((b * 512) + ((i : Int)))]) (rest := [aI (sums (st.1 121) b i)]) (v := aI (rat (st.1 121) (b * 512 + (i : Int)))) (P := fun h2 => h2 = h) rfl rfl rfl rfl rfl rfl (by omega) (hW.row (by decide)) (hW.rowb (by decide)) (c_at hW (by decide) _) ?_
        intro hh9 he9
        rw [he9]
        clear he9 hh9
        refine g_iadd rfl (by omega) ?_
        refine g_istore_n (L' := [aR (g 530), aI b, aI ((sums (st.1 121) b i) + (rat (st.1 121) (b * 512 + (i : Int)))), aI ((i : Int))]) rfl rfl ?_
        refine g_iinc (L' := [aR (g 530), aI b, aI ((sums (st.1 121) b i) + (rat (st.1 121) (b * 512 + (i : Int)))), aI ((i : Int) + 1)]) rfl rfl (by omega) rfl ?_
        refine g_goto rfl rfl ?_
        have h9 := ih (i + 1) (by omega) (by omega)
        rw [show sums (st.1 121) b (i + 1) = (sums (st.1 121) b i) + (rat (st.1 121) (b * 512 + (i : Int))) from by show sums (st.1 121) b i + _ = _; rw [if_neg (by omega)]] at h9
        exact h9
      · skip
        refine g_iload_n rfl rfl ?_
        refine g_sipush (n := 156) rfl (by decide) ?_
        refine g_icmpge rfl rfl (fun c3 => ?_) (fun c3 => ?_)
        · skip
          refine g_aload_n rfl rfl ?_
          refine g_get (ci := 3) (kk := 0) rfl rfl hW.tape hW.tapeb rfl ?_
          refine g_iload_n rfl rfl ?_
          refine g_sipush (n := 512) rfl (by decide) ?_
          refine g_imul rfl (by omega) ?_
          refine g_iload_n rfl rfl ?_
          refine g_iadd rfl (by omega) ?_
          refine g_V (z := yRw_at) (e := 1) (A := [aI ((b * 512) + ((i : Int)))]) (rest := [aI (sums (st.1 121) b i)]) (v := aI (rat (st.1 121) (b * 512 + (i : Int)))) (P := fun h2 => h2 = h) rfl rfl rfl rfl rfl rfl (by omega) (hW.row (by decide)) (hW.rowb (by decide)) (c_at hW (by decide) _) ?_
          intro hh9 he9
          rw [he9]
          clear he9 hh9
          refine g_iadd rfl (by omega) ?_
          refine g_istore_n (L' := [aR (g 530), aI b, aI ((sums (st.1 121) b i) + (rat (st.1 121) (b * 512 + (i : Int)))), aI ((i : Int))]) rfl rfl ?_
          refine g_iinc (L' := [aR (g 530), aI b, aI ((sums (st.1 121) b i) + (rat (st.1 121) (b * 512 + (i : Int)))), aI ((i : Int) + 1)]) rfl rfl (by omega) rfl ?_
          refine g_goto rfl rfl ?_
          have h9 := ih (i + 1) (by omega) (by omega)
          rw [show sums (st.1 121) b (i + 1) = (sums (st.1 121) b i) + (rat (st.1 121) (b * 512 + (i : Int))) from by show sums (st.1 121) b i + _ = _; rw [if_neg (by omega)]] at h9
          exact h9
        · skip
          refine g_bipush (n := 32) rfl (by decide) ?_
          refine g_goto rfl rfl ?_
          refine g_iadd rfl (by omega) ?_
          refine g_istore_n (L' := [aR (g 530), aI b, aI ((sums (st.1 121) b i) + 32), aI ((i : Int))]) rfl rfl ?_
          refine g_iinc (L' := [aR (g 530), aI b, aI ((sums (st.1 121) b i) + 32), aI ((i : Int) + 1)]) rfl rfl (by omega) rfl ?_
          refine g_goto rfl rfl ?_
          have h9 := ih (i + 1) (by omega) (by omega)
          rw [show sums (st.1 121) b (i + 1) = (sums (st.1 121) b i) + 32 from by show sums (st.1 121) b i + _ = _; rw [if_pos (by omega)]] at h9
          exact h9
theorem c_sum (hd1 : 1 ≤ d) (hW : WC K h g st cb sb) (b : Int) (h0 : 0 ≤ b) (h1 : b ≤ 100) : Cal d yTp_sum [aR (g 530), aI b] h (RV (some (aI (sums (st.1 121) b 512))) (fun h2 => h2 = h)) := by
  obtain ⟨d, rfl⟩ : ∃ e, d = e + 1 := ⟨d - 1, by omega⟩
  show Go _ _ 0 [aR (g 530), aI b, none, none] [] _ _
  refine g_iconst (n := 0) rfl (by decide) ?_
  refine g_istore_n (L' := [aR (g 530), aI b, aI 0, none]) rfl rfl ?_
  refine g_iconst (n := 0) rfl (by decide) ?_
  refine g_istore_n (L' := [aR (g 530), aI b, aI 0, aI 0]) rfl rfl ?_
  exact sm_loop (d := d) hW b h0 h1 512 0 (by omega) (by omega)
theorem c_hasCheck (hd2 : 2 ≤ d) (hW : WC K h g st cb sb) (b : Int) (h0 : 0 ≤ b) (h1 : b ≤ 100) : Cal d yTp_hasCheck [aR (g 530), aI b] h (RV (some (aI (pz (octv (st.1 121) (b * 512 + 148) 6 = sums (st.1 121) b 512 ∧ rat (st.1 121) (b * 512 + 155) = 32)))) (fun h2 => h2 = h)) := by
  have e55 : b * 512 + 156 - 1 = b * 512 + 155 := by omega
  show Go _ _ 0 [aR (g 530), aI b] [] _ _
  refine g_aload_n rfl rfl ?_
  refine g_iload_n rfl rfl ?_
  refine g_sipush (n := 512) rfl (by decide) ?_
  refine g_imul rfl (by omega) ?_
  refine g_sipush (n := 148) rfl (by decide) ?_
  refine g_iadd rfl (by omega) ?_
  refine g_bipush (n := 6) rfl (by decide) ?_
  refine g_V (z := yTp_octal) (e := 1) (A := [aI 6, aI ((b * 512) + 148)]) (rest := []) (v := aL (octv (st.1 121) (b * 512 + 148) 6)) (P := fun h2 => h2 = h) rfl rfl rfl rfl rfl rfl (by omega) hW.tape hW.tapeb (c_octal (n := 6) (by omega) hW _ (by omega) (by omega) (by omega)) ?_
  intro hh9 he9
  rw [he9]
  clear he9 hh9
  refine g_aload_n rfl rfl ?_
  refine g_iload_n rfl rfl ?_
  refine g_V (z := yTp_sum) (e := 1) (A := [aI b]) (rest := [aL (octv (st.1 121) (b * 512 + 148) 6)]) (v := aI (sums (st.1 121) b 512)) (P := fun h2 => h2 = h) rfl rfl rfl rfl rfl rfl (by omega) hW.tape hW.tapeb (c_sum (by omega) hW b h0 h1) ?_
  intro hh9 he9
  rw [he9]
  clear he9 hh9
  refine g_i2l rfl ?_
  refine g_lcmp rfl ?_
  refine g_ifne rfl rfl (fun c1 => ?_) (fun c1 => ?_)
  · skip
    have c1 := lc_ne c1
    refine g_iconst (n := 0) rfl (by decide) ?_
    exact r_z rfl rfl (by decide) (pz_f (fun q => by first | exact absurd q.1 (by assumption) | (rw [← e55] at q; exact absurd q.2 (by assumption)))).symm rfl
  · skip
    have c1 := lc_eq c1
    refine g_aload_n rfl rfl ?_
    refine g_get (ci := 3) (kk := 0) rfl rfl hW.tape hW.tapeb rfl ?_
    refine g_iload_n rfl rfl ?_
    refine g_sipush (n := 512) rfl (by decide) ?_
    refine g_imul rfl (by omega) ?_
    refine g_sipush (n := 156) rfl (by decide) ?_
    refine g_iadd rfl (by omega) ?_
    refine g_iconst (n := 1) rfl (by decide) ?_
    refine g_isub rfl (by omega) ?_
    refine g_V (z := yRw_at) (e := 1) (A := [aI (((b * 512) + 156) - 1)]) (rest := []) (v := aI (rat (st.1 121) (b * 512 + 156 - 1))) (P := fun h2 => h2 = h) rfl rfl rfl rfl rfl rfl (by omega) (hW.row (by decide)) (hW.rowb (by decide)) (c_at hW (by decide) _) ?_
    intro hh9 he9
    rw [he9]
    clear he9 hh9
    refine g_bipush (n := 32) rfl (by decide) ?_
    refine g_icmpne rfl rfl (fun c2 => ?_) (fun c2 => ?_)
    · skip
      refine g_iconst (n := 0) rfl (by decide) ?_
      exact r_z rfl rfl (by decide) (pz_f (fun q => by first | exact absurd q.1 (by assumption) | (rw [← e55] at q; exact absurd q.2 (by assumption)))).symm rfl
    · skip
      refine g_iconst (n := 1) rfl (by decide) ?_
      refine g_goto rfl rfl ?_
      exact r_z rfl rfl (by decide) (pz_t ⟨c1, by rw [← e55]; exact c2⟩).symm rfl
theorem rat_nn {l : List Int} {i : Int} (h0 : 0 ≤ i) (h1 : i < l.length) : 0 ≤ rat l i := by
  rw [rat_in h0 h1]
  omega
theorem sums_nn {l : List Int} {b : Int} (h0 : 0 ≤ b) : ∀ n : Nat, b * 512 + n ≤ l.length → 0 ≤ sums l b n := by
  intro n
  induction n with
  | zero => intro _; exact Int.le_refl _
  | succ k ih =>
    intro hk
    have h1 := ih (by omega)
    have h2 := rat_nn (l := l) (i := b * 512 + k) (by omega) (by omega)
    show 0 ≤ sums l b k + _
    split <;> omega
theorem div8 (v : Int) (c : Nat) : v / 8 ^ c / 8 = v / 8 ^ (c + 1) := by
  rw [Int.pow_succ, Int.ediv_ediv_of_nonneg (by exact Int.pow_nonneg (by decide))]
def pox (l : List Int) (f : Int) (n c : Nat) (v : Int) : List Int := oF l.length (fun j => if f + n - c ≤ j ∧ (j : Int) < f + n then 48 + v / 8 ^ (f + n - 1 - j).toNat % 8 else l.getD j 0)
theorem po_loop (f v : Int) (n : Nat) (l : List Int) (hn : n ≤ 11) (hf : 0 ≤ f) (hl : f + n < l.length) (hl2 : l.length ≤ 10240) (hv : 0 ≤ v) (hv2 : v ≤ 2147483647) : ∀ (k c : Nat) (h : AH), c ≤ n → n - c ≤ k → WC K h g (uR st 121 (pox l f n c v)) cb sb → Go (d + 1) yTp_putOctal 8 [aR (g 530), aI f, aI n, aI v, aI (v / 8 ^ c), aI ((n : Int) - 1 - c)] [] h (RV none (fun h2 => WC K h2 g (uR st 121 (poct l f n v)) cb sb)) := by
  intro k
  induction k with
  | zero =>
    intro c h hc hk hW
    obtain rfl : c = n := by omega
    refine g_iload rfl rfl ?_
    refine g_iflt rfl rfl (fun c1 => ?_) (fun c => absurd c (by omega))
    refine g_aload_n rfl rfl ?_
    refine g_get (ci := 3) (kk := 0) rfl rfl hW.tape hW.tapeb rfl ?_
    refine g_iload_n rfl rfl ?_
    refine g_iload_n rfl rfl ?_
    refine g_iadd rfl (by omega) ?_
    refine g_iconst (n := 0) rfl (by decide) ?_
    refine g_Vn (z := yRw_put) (e := 1) (A := [aI 0, aI (f + ((c : Int)))]) (rest := [])  rfl rfl rfl rfl rfl rfl (by omega) (hW.row (by decide)) (hW.rowb (by decide)) (c_put hW (by decide) _ _) ?_
    intro hh2 hW2
    rw [uR_uR, uR_get] at hW2
    have e : rput (pox l f c c v) (f + (c : Int)) 0 = poct l f c v := by
      unfold pox poct
      rw [rput_oF (by omega) (by omega)]
      refine oF_ext fun j hj => ?_
      unfold va_up
      by_cases h3 : j = (f + (c : Int)).toNat
      · rw [if_pos h3, if_neg (by omega), if_pos (by omega)]
        decide
      · rw [if_neg h3]
        dsimp only
        by_cases h4 : f ≤ j ∧ (j : Int) < f + c
        · rw [if_pos (by omega), if_pos h4]
        · rw [if_neg (by omega), if_neg h4, if_neg (by omega)]
    rw [e] at hW2
    exact r_v rfl rfl hW2
  | succ k ih =>
    intro c h hc hk hW
    by_cases hcn : c = n
    · subst hcn
      refine g_iload rfl rfl ?_
      refine g_iflt rfl rfl (fun c1 => ?_) (fun c => absurd c (by omega))
      refine g_aload_n rfl rfl ?_
      refine g_get (ci := 3) (kk := 0) rfl rfl hW.tape hW.tapeb rfl ?_
      refine g_iload_n rfl rfl ?_
      refine g_iload_n rfl rfl ?_
      refine g_iadd rfl (by omega) ?_
      refine g_iconst (n := 0) rfl (by decide) ?_
      refine g_Vn (z := yRw_put) (e := 1) (A := [aI 0, aI (f + ((c : Int)))]) (rest := [])  rfl rfl rfl rfl rfl rfl (by omega) (hW.row (by decide)) (hW.rowb (by decide)) (c_put hW (by decide) _ _) ?_
      intro hh2 hW2
      rw [uR_uR, uR_get] at hW2
      have e : rput (pox l f c c v) (f + (c : Int)) 0 = poct l f c v := by
        unfold pox poct
        rw [rput_oF (by omega) (by omega)]
        refine oF_ext fun j hj => ?_
        unfold va_up
        by_cases h3 : j = (f + (c : Int)).toNat
        · rw [if_pos h3, if_neg (by omega), if_pos (by omega)]
          decide
        · rw [if_neg h3]
          dsimp only
          by_cases h4 : f ≤ j ∧ (j : Int) < f + c
          · rw [if_pos (by omega), if_pos h4]
          · rw [if_neg (by omega), if_neg h4, if_neg (by omega)]
      rw [e] at hW2
      exact r_v rfl rfl hW2
    · have hq : 0 ≤ v / 8 ^ c := Int.ediv_nonneg hv (Int.pow_nonneg (by decide))
      have hq2 : v / 8 ^ c ≤ 2147483647 := Int.le_trans (Int.ediv_le_self _ hv) hv2
      refine g_iload rfl rfl ?_
      refine g_iflt rfl rfl (fun c => absurd c (by omega)) (fun c1 => ?_)
      refine g_aload_n rfl rfl ?_
      refine g_get (ci := 3) (kk := 0) rfl rfl hW.tape hW.tapeb rfl ?_
      refine g_iload_n rfl rfl ?_
      refine g_iload rfl rfl ?_
      refine g_iadd rfl (by omega) ?_
      refine g_bipush (n := 48) rfl (by decide) ?_
      refine g_iload rfl rfl ?_
      refine g_bipush (n := 7) rfl (by decide) ?_
      refine g_iand (v := (v / 8 ^ c) % 8) rfl (a_and7 _) ?_
      refine g_iadd rfl (by omega) ?_
      refine g_Vn (z := yRw_put) (e := 1) (A := [aI (48 + ((v / 8 ^ c) % 8)), aI (f + ((n : Int) - 1 - c))]) (rest := [])  rfl rfl rfl rfl rfl rfl (by omega) (hW.row (by decide)) (hW.rowb (by decide)) (c_put hW (by decide) _ _) ?_
      intro hh2 hW2
      rw [uR_uR, uR_get] at hW2
      have e : rput (pox l f n c v) (f + ((n : Int) - 1 - c)) (48 + v / 8 ^ c % 8) = pox l f n (c + 1) v := by
        unfold pox
        rw [rput_oF (by omega) (by omega)]
        refine oF_ext fun j hj => ?_
        unfold va_up
        by_cases h3 : j = (f + ((n : Int) - 1 - c)).toNat
        · rw [if_pos h3, if_pos (by omega), show (f + n - 1 - (j : Int)).toNat = c by omega]
          exact a8_id (by omega) (by omega)
        · rw [if_neg h3]
          dsimp only
          by_cases h4 : f + n - c ≤ j ∧ (j : Int) < f + n
          · rw [if_pos h4, if_pos (by omega)]
          · rw [if_neg h4, if_neg (by omega)]
      rw [e] at hW2
      refine g_iload rfl rfl ?_
      refine g_iconst (n := 3) rfl (by decide) ?_
      refine g_iushr (v := (v / 8 ^ c) / 8) rfl (a_ushr3 (by omega) (by omega)) ?_
      refine g_istore (L' := [aR (g 530), aI f, aI ((n : Int)), aI v, aI ((v / 8 ^ c) / 8), aI ((n : Int) - 1 - c)]) rfl rfl ?_
      refine g_iinc (L' := [aR (g 530), aI f, aI ((n : Int)), aI v, aI ((v / 8 ^ c) / 8), aI ((n : Int) - 1 - c + (-1))]) rfl rfl (by omega) rfl ?_
      refine g_goto rfl rfl ?_
      have h9 := ih (c + 1) _ (by omega) (by omega) hW2
      rw [← div8, show (n : Int) - 1 - ((c + 1 : Nat) : Int) = (n : Int) - 1 - c + -1 by omega] at h9
      exact h9
theorem c_putOctal (hd1 : 1 ≤ d) (hW : WC K h g st cb sb) (f v : Int) (n : Nat) (hn : n ≤ 11) (hf : 0 ≤ f) (hl : f + n < (st.1 121).length) (hv : 0 ≤ v) (hv2 : v ≤ 2147483647) : Cal d yTp_putOctal [aR (g 530), aI f, aI (n : Int), aI v] h (RV none (fun h2 => WC K h2 g (uR st 121 (poct (st.1 121) f n v)) cb sb)) := by
  obtain ⟨d, rfl⟩ : ∃ e, d = e + 1 := ⟨d - 1, by omega⟩
  have hl2 := hW.len (r := 121) (by decide)
  have hW2 : WC K h g (uR st 121 (pox (st.1 121) f n 0 v)) cb sb := by
    have e : pox (st.1 121) f n 0 v = st.1 121 := by
      conv => rhs; rw [← oF_of (st.1 121)]
      exact oF_ext fun j hj => by rw [if_neg (by omega)]
    rw [e, uR_self]
    exact hW
  show Go _ _ 0 [aR (g 530), aI f, aI (n : Int), aI v, none, none] [] _ _
  refine g_iload_n rfl rfl ?_
  refine g_istore (L' := [aR (g 530), aI f, aI ((n : Int)), aI v, aI v, none]) rfl rfl ?_
  refine g_iload_n rfl rfl ?_
  refine g_iconst (n := 1) rfl (by decide) ?_
  refine g_isub rfl (by omega) ?_
  refine g_istore (L' := [aR (g 530), aI f, aI ((n : Int)), aI v, aI v, aI (((n : Int)) - 1)]) rfl rfl ?_
  have h9 := po_loop (d := d) f v n (st.1 121) hn hf hl hl2 hv hv2 n 0 _ (by omega) (by omega) hW2
  rw [show v / 8 ^ 0 = v by simp, show (n : Int) - 1 - ((0 : Nat) : Int) = (n : Int) - 1 by omega] at h9
  exact h9
theorem pm_loop (hK : KOK K) (f : Int) (l : List Int) (hf : 0 ≤ f) (hl : f + 8 ≤ l.length) (hl2 : l.length ≤ 10240) : ∀ (k : Nat) (i : Int) (h : AH), 0 ≤ i → i ≤ 8 → (8 - i).toNat ≤ k → WC K h g (uR st 121 (oF l.length (fun j => if f ≤ j ∧ (j : Int) < f + i then mkf (j - f).toNat else l.getD j 0))) cb sb → Go (d + 1) yTp_putMark 2 [aR (g 530), aI f, aI i] [] h (RV none (fun h2 => WC K h2 g (uR st 121 (pmrk l f)) cb sb)) := by
  intro k
  induction k with
  | zero =>
    intro i h hi0 hi8 hk hW
    obtain rfl : i = 8 := by omega
    refine g_iload_n rfl rfl ?_
    refine g_gets rfl rfl ?_
    refine g_alen rfl (hW.mark hK) (by decide) ?_
    refine g_icmpge rfl rfl (fun c1 => ?_) (fun c => absurd c (by decide))
    exact r_v rfl rfl hW
  | succ k ih =>
    intro i h hi0 hi8 hk hW
    by_cases hi : i = 8
    · subst hi
      refine g_iload_n rfl rfl ?_
      refine g_gets rfl rfl ?_
      refine g_alen rfl (hW.mark hK) (by decide) ?_
      refine g_icmpge rfl rfl (fun c1 => ?_) (fun c => absurd c (by decide))
      exact r_v rfl rfl hW
    · skip
      refine g_iload_n rfl rfl ?_
      refine g_gets rfl rfl ?_
      refine g_alen rfl (hW.mark hK) (by decide) ?_
      refine g_icmpge rfl rfl (fun c => absurd c (by omega)) (fun c1 => ?_)
      refine g_aload_n rfl rfl ?_
      refine g_get (ci := 3) (kk := 0) rfl rfl hW.tape hW.tapeb rfl ?_
      refine g_iload_n rfl rfl ?_
      refine g_iload_n rfl rfl ?_
      refine g_iadd rfl (by omega) ?_
      refine g_gets rfl rfl ?_
      refine g_iload_n rfl rfl ?_
      refine g_bald rfl (hW.mark hK) (by omega) ?_
      refine g_Vn (z := yRw_put) (e := 1) (A := [aI (mkf (i).toNat), aI (f + i)]) (rest := [])  rfl rfl rfl rfl rfl rfl (by omega) (hW.row (by decide)) (hW.rowb (by decide)) (c_put hW (by decide) _ _) ?_
      intro hh2 hW2
      rw [uR_uR, uR_get] at hW2
      have e : rput (oF l.length (fun j => if f ≤ j ∧ (j : Int) < f + i then mkf (j - f).toNat else l.getD j 0)) (f + i) (mkf i.toNat) = oF l.length (fun j => if f ≤ j ∧ (j : Int) < f + (i + 1) then mkf (j - f).toNat else l.getD j 0) := by
        rw [rput_oF (by omega) (by omega)]
        refine oF_ext fun j hj => ?_
        unfold va_up
        have hmr := mkf_r i.toNat
        by_cases h3 : j = (f + i).toNat
        · rw [if_pos h3, if_pos (by omega), show ((j : Int) - f).toNat = i.toNat by omega]
          exact a8_id (by omega) (by omega)
        · rw [if_neg h3]
          dsimp only
          by_cases h4 : f ≤ j ∧ (j : Int) < f + i
          · rw [if_pos h4, if_pos (by omega)]
          · rw [if_neg h4, if_neg (by omega)]
      rw [e] at hW2
      refine g_iinc (L' := [aR (g 530), aI f, aI (i + 1)]) rfl rfl (by omega) rfl ?_
      refine g_goto rfl rfl ?_
      exact ih (i + 1) _ (by omega) (by omega) (by omega) hW2
theorem c_putMark (hd1 : 1 ≤ d) (hK : KOK K) (hW : WC K h g st cb sb) (f : Int) (hf : 0 ≤ f) (hl : f + 8 ≤ (st.1 121).length) : Cal d yTp_putMark [aR (g 530), aI f] h (RV none (fun h2 => WC K h2 g (uR st 121 (pmrk (st.1 121) f)) cb sb)) := by
  obtain ⟨d, rfl⟩ : ∃ e, d = e + 1 := ⟨d - 1, by omega⟩
  have hl2 := hW.len (r := 121) (by decide)
  have hW2 : WC K h g (uR st 121 (oF (st.1 121).length (fun j => if f ≤ j ∧ (j : Int) < f + 0 then mkf (j - f).toNat else (st.1 121).getD j 0))) cb sb := by
    have e : oF (st.1 121).length (fun j => if f ≤ j ∧ (j : Int) < f + 0 then mkf (j - f).toNat else (st.1 121).getD j 0) = st.1 121 := by
      conv => rhs; rw [← oF_of (st.1 121)]
      exact oF_ext fun j hj => by rw [if_neg (by omega)]
    rw [e, uR_self]
    exact hW
  show Go _ _ 0 [aR (g 530), aI f, none] [] _ _
  refine g_iconst (n := 0) rfl (by decide) ?_
  refine g_istore_n (L' := [aR (g 530), aI f, aI 0]) rfl rfl ?_
  exact pm_loop (d := d) hK f (st.1 121) hf hl hl2 8 0 _ (by omega) (by omega) (by omega) hW2
def pchk (l : List Int) (b : Int) : List Int := rput (poct l (b * 512 + 148) 6 (sums l b 512)) (b * 512 + 155) 32
theorem c_putCheck (hd2 : 2 ≤ d) (hW : WC K h g st cb sb) (b : Int) (h0 : 0 ≤ b) (h1 : b * 512 + 512 ≤ (st.1 121).length) : Cal d yTp_putCheck [aR (g 530), aI b] h (RV (some (aI (sums (st.1 121) b 512))) (fun h2 => WC K h2 g (uR st 121 (pchk (st.1 121) b)) cb sb)) := by
  have hl2 := hW.len (r := 121) (by decide)
  have hs1 := sums_nn (l := st.1 121) h0 512 (by omega)
  have hs2 := (sums_r (st.1 121) b 512).2
  show Go _ _ 0 [aR (g 530), aI b, none] [] _ _
  refine g_aload_n rfl rfl ?_
  refine g_iload_n rfl rfl ?_
  refine g_V (z := yTp_sum) (e := 1) (A := [aI b]) (rest := []) (v := aI (sums (st.1 121) b 512)) (P := fun h2 => h2 = h) rfl rfl rfl rfl rfl rfl (by omega) hW.tape hW.tapeb (c_sum (by omega) hW b h0 (by omega)) ?_
  intro hh9 he9
  rw [he9]
  clear he9 hh9
  refine g_istore_n (L' := [aR (g 530), aI b, aI (sums (st.1 121) b 512)]) rfl rfl ?_
  refine g_aload_n rfl rfl ?_
  refine g_iload_n rfl rfl ?_
  refine g_sipush (n := 512) rfl (by decide) ?_
  refine g_imul rfl (by omega) ?_
  refine g_sipush (n := 148) rfl (by decide) ?_
  refine g_iadd rfl (by omega) ?_
  refine g_bipush (n := 6) rfl (by decide) ?_
  refine g_iload_n rfl rfl ?_
  refine g_Vn (z := yTp_putOctal) (e := 1) (A := [aI (sums (st.1 121) b 512), aI 6, aI ((b * 512) + 148)]) (rest := [])  rfl rfl rfl rfl rfl rfl (by omega) hW.tape hW.tapeb (c_putOctal (n := 6) (by omega) hW _ _ (by omega) (by omega) (by omega) (by omega) (by omega)) ?_
  intro hh1 hW
  refine g_aload_n rfl rfl ?_
  refine g_get (ci := 3) (kk := 0) rfl rfl hW.tape hW.tapeb rfl ?_
  refine g_iload_n rfl rfl ?_
  refine g_sipush (n := 512) rfl (by decide) ?_
  refine g_imul rfl (by omega) ?_
  refine g_sipush (n := 156) rfl (by decide) ?_
  refine g_iadd rfl (by omega) ?_
  refine g_iconst (n := 1) rfl (by decide) ?_
  refine g_isub rfl (by omega) ?_
  refine g_bipush (n := 32) rfl (by decide) ?_
  refine g_Vn (z := yRw_put) (e := 1) (A := [aI 32, aI (((b * 512) + 156) - 1)]) (rest := [])  rfl rfl rfl rfl rfl rfl (by omega) (hW.row (by decide)) (hW.rowb (by decide)) (c_put hW (by decide) _ _) ?_
  intro hh2 hW
  rw [uR_uR, uR_get, show b * 512 + 156 - 1 = b * 512 + 155 by omega] at hW
  refine g_iload_n rfl rfl ?_
  exact r_i rfl rfl rfl hW
end TapeC
end
section
/-! Contracts of the tree's methods that change nothing. -/
noncomputable def ffst (p : Nat → Prop) : Nat → Nat → Int
  | 0, _ => -1
  | n + 1, i => @ite Int (p i) (Classical.propDecidable _) (i : Int) (ffst p n (i + 1))
theorem ffst_t {p : Nat → Prop} {n i : Nat} (h : p i) : ffst p (n + 1) i = i := @if_pos _ (Classical.propDecidable _) h _ _ _
theorem ffst_f {p : Nat → Prop} {n i : Nat} (h : ¬ p i) : ffst p (n + 1) i = ffst p n (i + 1) := @if_neg _ (Classical.propDecidable _) h _ _ _
theorem ffst_r (p : Nat → Prop) : ∀ n i : Nat, ffst p n i = -1 ∨ ((i : Int) ≤ ffst p n i ∧ ffst p n i < i + n) := by
  intro n
  induction n with
  | zero => intro i; exact Or.inl rfl
  | succ n ih =>
    intro i
    by_cases h : p i
    · rw [ffst_t h]
      omega
    · rw [ffst_f h]
      have := ih (i + 1)
      omega
/-- the child of that name -/
noncomputable def chn (st : CS) (t r : Nat) (dir f e : Int) : Int := ffst (fun i => (st.2.1 (st.2.2.1 t i) 1) = dir ∧ sli ((st.1 (2 * st.2.2.1 t i))) (st.1 r) f e) ((st.2.2.2.1 t) - 1) 1
/-- the way down a path -/
noncomputable def lkF (st : CS) (t r : Nat) (e : Int) : Nat → Int → Int → Int → Int
  | 0, _, a, _ => a
  | n + 1, i, a, f => if a = -1 then a else if i = e ∨ rat (st.1 r) i = 47 then lkF st t r e n (i + 1) (chn st t r a f i) (i + 1) else lkF st t r e n (i + 1) a f
def hs (st : CS) (t : Nat) (i : Int) : Prop := 0 ≤ i ∧ i < (st.2.2.2.1 t)
def cbh (st : CS) (t : Nat) (i o : Int) : Prop := ¬ hs st t o ∨ (hs st t i ∧ 0 < cmpv ((st.1 (2 * st.2.2.1 t i.toNat))) ((st.1 (2 * st.2.2.1 t o.toNat))))
noncomputable def nxF (st : CS) (t : Nat) (dir bh : Int) : Nat → Nat → Int → Int
  | 0, _, x => x
  | n + 1, i, x => @ite Int ((st.2.1 (st.2.2.1 t i) 1) = dir ∧ cbh st t i bh ∧ (x = -1 ∨ cbh st t x i)) (Classical.propDecidable _) (nxF st t dir bh n (i + 1) i) (nxF st t dir bh n (i + 1) x)
noncomputable def nxt (st : CS) (t : Nat) (dir bh : Int) : Int := nxF st t dir bh ((st.2.2.2.1 t) - 1) 1 (-1)
noncomputable def fwF (st : CS) (t : Nat) : Nat → Int → Int → Int
  | 0, x, _ => x
  | n + 1, x, a => if x = -1 ∧ 0 < a ∧ a < (st.2.2.2.1 t) then fwF st t n (nxt st t ((st.2.1 (st.2.2.1 t a.toNat) 1)) a) ((st.2.1 (st.2.2.1 t a.toNat) 1)) else x
noncomputable def fol (st : CS) (t : Nat) (i : Int) : Int := fwF st t 30 (nxt st t i (-1)) i
def plF (st : CS) (t : Nat) : Nat → Int → Int → Int
  | 0, _, x => x
  | n + 1, a, x => if 0 < a ∧ a < (st.2.2.2.1 t) then plF st t n ((st.2.1 (st.2.2.1 t a.toNat) 1)) (x + (((st.1 (2 * st.2.2.1 t a.toNat))).length + (if 0 < 30 - ((n + 1 : Nat) : Int) then 1 else 0))) else x
def isK (st : CS) (t : Nat) (i k : Int) : Prop := 0 ≤ i ∧ i < (st.2.2.2.1 t) ∧ (st.2.1 (st.2.2.1 t i.toNat) 0) = k
noncomputable def pln (st : CS) (t : Nat) (i : Int) : Int := plF st t 30 i (pz (isK st t i 0))
noncomputable def lgF (st : CS) (t : Nat) : Nat → Nat → Int → Int
  | 0, _, x => x
  | n + 1, i, x => lgF st t n (i + 1) (if x ≤ pln st t i then pln st t i else x)
theorem cmpv_r : ∀ l m : List Int, -(256 + m.length : Int) ≤ cmpv l m ∧ cmpv l m ≤ 256 + l.length := by
  intro l
  induction l with
  | nil => intro m; rw [cmpv_nil (Or.inl rfl)]; simp; omega
  | cons a l ih =>
    intro m
    cases m with
    | nil => rw [cmpv_nil (Or.inr rfl)]; simp; omega
    | cons b m =>
      have := ih m
      show -(256 + ((b :: m).length : Nat) : Int) ≤ (if a % 256 = b % 256 then cmpv l m else a % 256 - b % 256) ∧ (if a % 256 = b % 256 then cmpv l m else a % 256 - b % 256) ≤ 256 + ((a :: l).length : Nat)
      simp only [List.length_cons]
      split <;> omega
theorem nxF_r (st : CS) (t : Nat) (dir bh : Int) : ∀ (n i : Nat) (x : Int), nxF st t dir bh n i x = x ∨ ((i : Int) ≤ nxF st t dir bh n i x ∧ nxF st t dir bh n i x < i + n) := by
  intro n
  induction n with
  | zero => intro i x; exact Or.inl rfl
  | succ n ih =>
    intro i x
    unfold nxF
    by_cases h : (st.2.1 (st.2.2.1 t i) 1) = dir ∧ cbh st t i bh ∧ (x = -1 ∨ cbh st t x i)
    · rw [@if_pos _ (Classical.propDecidable _) h]
      have := ih (i + 1) i
      omega
    · rw [@if_neg _ (Classical.propDecidable _) h]
      have := ih (i + 1) x
      omega
section TreeC
variable {K : KE} {h : AH} {g : Nat → Nat} {st : CS} {cb sb : Nat} {d t r : Nat}
theorem WC.pm (hW : WC K h g st cb sb) (ht : t < 2) {i : Nat} (hi : i < 30) : st.2.2.1 t i < 60 := by
  have := hW.shq.1 t i ht hi
  omega
theorem WC.cnt (hW : WC K h g st cb sb) (ht : t < 2) : 1 ≤ (st.2.2.2.1 t) ∧ (st.2.2.2.1 t) ≤ 30 := hW.shq.2.2.1 t ht
theorem c_has (hW : WC K h g st cb sb) (ht : t < 2) (i : Int) : Cal d yTr_has [aR (g (500 + t)), aI i] h (RV (some (aI (pz (hs st t i)))) (fun h2 => h2 = h)) := by
  show Go _ _ 0 [aR (g (500 + t)), aI i] [] _ _
  refine g_iload_n rfl rfl ?_
  refine g_iflt rfl rfl (fun c1 => ?_) (fun c1 => ?_)
  · skip
    refine g_iconst (n := 0) rfl (by decide) ?_
    exact r_z rfl rfl (by decide) (pz_f (fun q => by have := q.1; have := q.2; omega)).symm rfl
  · skip
    refine g_iload_n rfl rfl ?_
    refine g_aload_n rfl rfl ?_
    refine g_get (ci := 4) (kk := 1) rfl rfl (hW.tree ht) (hW.treeb ht) rfl ?_
    refine g_icmpge rfl rfl (fun c2 => ?_) (fun c2 => ?_)
    · skip
      refine g_iconst (n := 0) rfl (by decide) ?_
      exact r_z rfl rfl (by decide) (pz_f (fun q => by have := q.1; have := q.2; omega)).symm rfl
    · skip
      refine g_iconst (n := 1) rfl (by decide) ?_
      refine g_goto rfl rfl ?_
      exact r_z rfl rfl (by decide) (pz_t ⟨by omega, by omega⟩).symm rfl
theorem c_isOfKind (hW : WC K h g st cb sb) (ht : t < 2) (i k : Int) : Cal d yTr_isOfKind [aR (g (500 + t)), aI i, aI k] h (RV (some (aI (pz (isK st t i k)))) (fun h2 => h2 = h)) := by
  have hc := hW.cnt ht
  show Go _ _ 0 [aR (g (500 + t)), aI i, aI k] [] _ _
  refine g_iload_n rfl rfl ?_
  refine g_iflt rfl rfl (fun c1 => ?_) (fun c1 => ?_)
  · skip
    refine g_iconst (n := 0) rfl (by decide) ?_
    exact r_z rfl rfl (by decide) (pz_f (fun q => by have := q.1; have := q.2.1; have := q.2.2; omega)).symm rfl
  · skip
    refine g_iload_n rfl rfl ?_
    refine g_aload_n rfl rfl ?_
    refine g_get (ci := 4) (kk := 1) rfl rfl (hW.tree ht) (hW.treeb ht) rfl ?_
    refine g_icmpge rfl rfl (fun c2 => ?_) (fun c2 => ?_)
    · skip
      refine g_iconst (n := 0) rfl (by decide) ?_
      exact r_z rfl rfl (by decide) (pz_f (fun q => by have := q.1; have := q.2.1; have := q.2.2; omega)).symm rfl
    · skip
      refine g_aload_n rfl rfl ?_
      refine g_get (ci := 4) (kk := 0) rfl rfl (hW.tree ht) (hW.treeb ht) rfl ?_
      refine g_iload_n rfl rfl ?_
      refine g_aald (b := g (400 + st.2.2.1 t i.toNat)) rfl (hW.arr ht) (by decide) (hW.arrb ht) (by omega) rfl ?_
      refine g_get (ci := 0) (kk := 2) rfl rfl (hW.node (hW.pm ht (by omega))) (hW.nodeb (hW.pm ht (by omega))) rfl ?_
      refine g_iload_n rfl rfl ?_
      refine g_icmpne rfl rfl (fun c3 => ?_) (fun c3 => ?_)
      · skip
        refine g_iconst (n := 0) rfl (by decide) ?_
        exact r_z rfl rfl (by decide) (pz_f (fun q => by have := q.1; have := q.2.1; have := q.2.2; omega)).symm rfl
      · skip
        refine g_iconst (n := 1) rfl (by decide) ?_
        refine g_goto rfl rfl ?_
        exact r_z rfl rfl (by decide) (pz_t ⟨by omega, by omega, c3⟩).symm rfl
theorem cn_loop (hW : WC K h g st cb sb) (ht : t < 2) (hr : r < 125) (dir f e : Int) (hf : r32 f) (he : r32 e) (hfe : 0 ≤ f → r32 (e - f)) : ∀ (n i : Nat), i + n = (st.2.2.2.1 t) → Go (d + 1) yTr_childNamed 3 [aR (g (500 + t)), aI dir, aR (g r), aI f, aI e, aI i] [] h (RV (some (aI (ffst (fun i => (st.2.1 (st.2.2.1 t i) 1) = dir ∧ sli ((st.1 (2 * st.2.2.1 t i))) (st.1 r) f e) n i))) (fun h2 => h2 = h)) := by
  have hc := hW.cnt ht
  intro n
  induction n with
  | zero =>
    intro i hi
    refine g_iload rfl rfl ?_
    refine g_aload_n rfl rfl ?_
    refine g_get (ci := 4) (kk := 1) rfl rfl (hW.tree ht) (hW.treeb ht) rfl ?_
    refine g_icmpge rfl rfl (fun c1 => ?_) (fun c => absurd c (by omega))
    refine g_iconst (n := -1) rfl (by decide) ?_
    exact r_i rfl rfl rfl rfl
  | succ n ih =>
    intro i hi
    refine g_iload rfl rfl ?_
    refine g_aload_n rfl rfl ?_
    refine g_get (ci := 4) (kk := 1) rfl rfl (hW.tree ht) (hW.treeb ht) rfl ?_
    refine g_icmpge rfl rfl (fun c => absurd c (by omega)) (fun c1 => ?_)
    refine g_aload_n rfl rfl ?_
    refine g_get (ci := 4) (kk := 0) rfl rfl (hW.tree ht) (hW.treeb ht) rfl ?_
    refine g_iload rfl rfl ?_
    refine g_aald (b := g (400 + st.2.2.1 t i)) rfl (hW.arr ht) (by decide) (hW.arrb ht) (by omega) rfl ?_
    refine g_get (ci := 0) (kk := 3) rfl rfl (hW.node (hW.pm ht (by omega))) (hW.nodeb (hW.pm ht (by omega))) rfl ?_
    refine g_iload_n rfl rfl ?_
    refine g_icmpne rfl rfl (fun c2 => ?_) (fun c2 => ?_)
    · skip
      refine g_iinc (L' := [aR (g (500 + t)), aI dir, aR (g r), aI f, aI e, aI ((i : Int) + 1)]) rfl rfl (by omega) rfl ?_
      refine g_goto rfl rfl ?_
      have h9 := ih (i + 1) (by omega)
      rw [← ffst_f (p := fun i => (st.2.1 (st.2.2.1 t i) 1) = dir ∧ sli ((st.1 (2 * st.2.2.1 t i))) (st.1 r) f e) (n := n) (i := i) (fun q => by first | exact c2 q.1 | exact pz_eq c3 q.2)] at h9
      exact h9
    · skip
      refine g_aload_n rfl rfl ?_
      refine g_get (ci := 4) (kk := 0) rfl rfl (hW.tree ht) (hW.treeb ht) rfl ?_
      refine g_iload rfl rfl ?_
      refine g_aald (b := g (400 + st.2.2.1 t i)) rfl (hW.arr ht) (by decide) (hW.arrb ht) (by omega) rfl ?_
      refine g_get (ci := 0) (kk := 0) rfl rfl (hW.node (hW.pm ht (by omega))) (hW.nodeb (hW.pm ht (by omega))) rfl ?_
      refine g_aload_n rfl rfl ?_
      refine g_iload_n rfl rfl ?_
      refine g_iload rfl rfl ?_
      refine g_V (z := yRw_isSlice) (e := 1) (A := [aI e, aI f, aR (g r)]) (rest := []) (v := aI (pz (sli ((st.1 (2 * st.2.2.1 t i))) (st.1 r) f e))) (P := fun h2 => h2 = h) rfl rfl rfl rfl rfl rfl (by omega) (hW.row (by have := hW.pm ht (i := i) (by omega); omega)) (hW.rowb (by have := hW.pm ht (i := i) (by omega); omega)) (c_isSlice hW (by have := hW.pm ht (i := i) (by omega); omega) hr f e hf he hfe) ?_
      intro hh9 he9
      rw [he9]
      clear he9 hh9
      refine g_ifeq rfl rfl (fun c3 => ?_) (fun c3 => ?_)
      · skip
        refine g_iinc (L' := [aR (g (500 + t)), aI dir, aR (g r), aI f, aI e, aI ((i : Int) + 1)]) rfl rfl (by omega) rfl ?_
        refine g_goto rfl rfl ?_
        have h9 := ih (i + 1) (by omega)
        rw [← ffst_f (p := fun i => (st.2.1 (st.2.2.1 t i) 1) = dir ∧ sli ((st.1 (2 * st.2.2.1 t i))) (st.1 r) f e) (n := n) (i := i) (fun q => by first | exact c2 q.1 | exact pz_eq c3 q.2)] at h9
        exact h9
      · skip
        refine g_iload rfl rfl ?_
        exact r_i rfl rfl (ffst_t (p := fun i => (st.2.1 (st.2.2.1 t i) 1) = dir ∧ sli ((st.1 (2 * st.2.2.1 t i))) (st.1 r) f e) ⟨c2, pz_ne c3⟩).symm rfl
theorem c_childNamed (hd1 : 1 ≤ d) (hW : WC K h g st cb sb) (ht : t < 2) (hr : r < 125) (dir f e : Int) (hf : r32 f) (he : r32 e) (hfe : 0 ≤ f → r32 (e - f)) : Cal d yTr_childNamed [aR (g (500 + t)), aI dir, aR (g r), aI f, aI e] h (RV (some (aI (chn st t r dir f e))) (fun h2 => h2 = h)) := by
  obtain ⟨d, rfl⟩ : ∃ e, d = e + 1 := ⟨d - 1, by omega⟩
  have hc := hW.cnt ht
  show Go _ _ 0 [aR (g (500 + t)), aI dir, aR (g r), aI f, aI e, none] [] _ _
  refine g_iconst (n := 1) rfl (by decide) ?_
  refine g_istore (L' := [aR (g (500 + t)), aI dir, aR (g r), aI f, aI e, aI 1]) rfl rfl ?_
  exact cn_loop (d := d) hW ht hr dir f e hf he hfe ((st.2.2.2.1 t) - 1) 1 (by omega)
theorem lk_loop (hW : WC K h g st cb sb) (ht : t < 2) (hr : r < 125) (e : Int) (he0 : 0 ≤ e) (he : e ≤ (st.1 r).length) : ∀ (n : Nat) (i a f : Int), 0 ≤ i → 0 ≤ f → f ≤ i → i + n = e + 1 → Go (d + 2) yTr_lookUp 8 [aR (g (500 + t)), aR (g r), aI e, aI a, aI f, aI i] [] h (RV (some (aI (lkF st t r e n i a f))) (fun h2 => h2 = h)) := by
  have hl := hW.len hr
  intro n
  induction n with
  | zero =>
    intro i a f h0 h1 h2 h3
    refine g_iload rfl rfl ?_
    refine g_iload_n rfl rfl ?_
    refine g_icmpgt rfl rfl (fun c1 => ?_) (fun c => absurd c (by omega))
    refine g_iload_n rfl rfl ?_
    exact r_i rfl rfl rfl rfl
  | succ n ih =>
    intro i a f h0 h1 h2 h3
    refine g_iload rfl rfl ?_
    refine g_iload_n rfl rfl ?_
    refine g_icmpgt rfl rfl (fun c => absurd c (by omega)) (fun c1 => ?_)
    refine g_iload_n rfl rfl ?_
    refine g_iconst (n := -1) rfl (by decide) ?_
    refine g_icmpeq rfl rfl (fun c2 => ?_) (fun c2 => ?_)
    · skip
      refine g_iload_n rfl rfl ?_
      exact r_i rfl rfl (by unfold lkF; rw [if_pos c2]) rfl
    · skip
      refine g_iload rfl rfl ?_
      refine g_iload_n rfl rfl ?_
      refine g_icmpeq rfl rfl (fun c3 => ?_) (fun c3 => ?_)
      · skip
        refine g_aload_n rfl rfl ?_
        refine g_iload_n rfl rfl ?_
        refine g_aload_n rfl rfl ?_
        refine g_iload rfl rfl ?_
        refine g_iload rfl rfl ?_
        refine g_V (z := yTr_childNamed) (e := 1) (A := [aI i, aI f, aR (g r), aI a]) (rest := []) (v := aI (chn st t r a f i)) (P := fun h2 => h2 = h) rfl rfl rfl rfl rfl rfl (by omega) (hW.tree ht) (hW.treeb ht) (c_childNamed (by omega) hW ht hr a f i ⟨by omega, by omega⟩ ⟨by omega, by omega⟩ (fun _ => ⟨by omega, by omega⟩)) ?_
        intro hh9 he9
        rw [he9]
        clear he9 hh9
        refine g_istore_n (L' := [aR (g (500 + t)), aR (g r), aI e, aI (chn st t r a f i), aI f, aI i]) rfl rfl ?_
        refine g_iload rfl rfl ?_
        refine g_iconst (n := 1) rfl (by decide) ?_
        refine g_iadd rfl (by omega) ?_
        refine g_istore (L' := [aR (g (500 + t)), aR (g r), aI e, aI (chn st t r a f i), aI (i + 1), aI i]) rfl rfl ?_
        refine g_iinc (L' := [aR (g (500 + t)), aR (g r), aI e, aI (chn st t r a f i), aI (i + 1), aI (i + 1)]) rfl rfl (by omega) rfl ?_
        refine g_goto rfl rfl ?_
        have h9 := ih (i + 1) (chn st t r a f i) (i + 1) (by omega) (by omega) (by omega) (by omega)
        rw [show lkF st t r e (n + 1) i a f = lkF st t r e n (i + 1) (chn st t r a f i) (i + 1) from by rw [lkF, if_neg c2, if_pos (by omega)]]
        exact h9
      · skip
        refine g_aload_n rfl rfl ?_
        refine g_iload rfl rfl ?_
        refine g_V (z := yRw_at) (e := 1) (A := [aI i]) (rest := []) (v := aI (rat (st.1 r) i)) (P := fun h2 => h2 = h) rfl rfl rfl rfl rfl rfl (by omega) (hW.row hr) (hW.rowb hr) (c_at hW hr _) ?_
        intro hh9 he9
        rw [he9]
        clear he9 hh9
        refine g_bipush (n := 47) rfl (by decide) ?_
        refine g_icmpne rfl rfl (fun c4 => ?_) (fun c4 => ?_)
        · skip
          refine g_iinc (L' := [aR (g (500 + t)), aR (g r), aI e, aI a, aI f, aI (i + 1)]) rfl rfl (by omega) rfl ?_
          refine g_goto rfl rfl ?_
          have h9 := ih (i + 1) a f (by omega) (by omega) (by omega) (by omega)
          rw [show lkF st t r e (n + 1) i a f = lkF st t r e n (i + 1) a f from by rw [lkF, if_neg c2, if_neg (by omega)]]
          exact h9
        · skip
          refine g_aload_n rfl rfl ?_
          refine g_iload_n rfl rfl ?_
          refine g_aload_n rfl rfl ?_
          refine g_iload rfl rfl ?_
          refine g_iload rfl rfl ?_
          refine g_V (z := yTr_childNamed) (e := 1) (A := [aI i, aI f, aR (g r), aI a]) (rest := []) (v := aI (chn st t r a f i)) (P := fun h2 => h2 = h) rfl rfl rfl rfl rfl rfl (by omega) (hW.tree ht) (hW.treeb ht) (c_childNamed (by omega) hW ht hr a f i ⟨by omega, by omega⟩ ⟨by omega, by omega⟩ (fun _ => ⟨by omega, by omega⟩)) ?_
          intro hh9 he9
          rw [he9]
          clear he9 hh9
          refine g_istore_n (L' := [aR (g (500 + t)), aR (g r), aI e, aI (chn st t r a f i), aI f, aI i]) rfl rfl ?_
          refine g_iload rfl rfl ?_
          refine g_iconst (n := 1) rfl (by decide) ?_
          refine g_iadd rfl (by omega) ?_
          refine g_istore (L' := [aR (g (500 + t)), aR (g r), aI e, aI (chn st t r a f i), aI (i + 1), aI i]) rfl rfl ?_
          refine g_iinc (L' := [aR (g (500 + t)), aR (g r), aI e, aI (chn st t r a f i), aI (i + 1), aI (i + 1)]) rfl rfl (by omega) rfl ?_
          refine g_goto rfl rfl ?_
          have h9 := ih (i + 1) (chn st t r a f i) (i + 1) (by omega) (by omega) (by omega) (by omega)
          rw [show lkF st t r e (n + 1) i a f = lkF st t r e n (i + 1) (chn st t r a f i) (i + 1) from by rw [lkF, if_neg c2, if_pos (by omega)]]
          exact h9
theorem c_lookUp (hd2 : 2 ≤ d) (hW : WC K h g st cb sb) (ht : t < 2) (hr : r < 125) (e : Int) (he0 : 0 ≤ e) (he : e ≤ (st.1 r).length) : Cal d yTr_lookUp [aR (g (500 + t)), aR (g r), aI e] h (RV (some (aI (lkF st t r e (e.toNat + 1) 0 0 0))) (fun h2 => h2 = h)) := by
  obtain ⟨d, rfl⟩ : ∃ e, d = e + 2 := ⟨d - 2, by omega⟩
  show Go _ _ 0 [aR (g (500 + t)), aR (g r), aI e, none, none, none] [] _ _
  refine g_iconst (n := 0) rfl (by decide) ?_
  refine g_istore_n (L' := [aR (g (500 + t)), aR (g r), aI e, aI 0, none, none]) rfl rfl ?_
  refine g_iconst (n := 0) rfl (by decide) ?_
  refine g_istore (L' := [aR (g (500 + t)), aR (g r), aI e, aI 0, aI 0, none]) rfl rfl ?_
  refine g_iconst (n := 0) rfl (by decide) ?_
  refine g_istore (L' := [aR (g (500 + t)), aR (g r), aI e, aI 0, aI 0, aI 0]) rfl rfl ?_
  exact lk_loop (d := d) hW ht hr e he0 he (e.toNat + 1) 0 0 0 (by omega) (by omega) (by omega) (by omega)
theorem c_comesBehind (hd2 : 2 ≤ d) (hW : WC K h g st cb sb) (ht : t < 2) (i o : Int) : Cal d yTr_comesBehind [aR (g (500 + t)), aI i, aI o] h (RV (some (aI (pz (cbh st t i o)))) (fun h2 => h2 = h)) := by
  have hc := hW.cnt ht
  show Go _ _ 0 [aR (g (500 + t)), aI i, aI o] [] _ _
  refine g_aload_n rfl rfl ?_
  refine g_iload_n rfl rfl ?_
  refine g_V (z := yTr_has) (e := 1) (A := [aI o]) (rest := []) (v := aI (pz (hs st t o))) (P := fun h2 => h2 = h) rfl rfl rfl rfl rfl rfl (by omega) (hW.tree ht) (hW.treeb ht) (c_has hW ht o) ?_
  intro hh9 he9
  rw [he9]
  clear he9 hh9
  refine g_ifeq rfl rfl (fun c1 => ?_) (fun c1 => ?_)
  · skip
    have q1 := pz_eq c1
    refine g_iconst (n := 1) rfl (by decide) ?_
    refine g_goto rfl rfl ?_
    exact r_z rfl rfl (by decide) (pz_t (by first | exact Or.inl q1 | exact Or.inr ⟨q2, by assumption⟩)).symm rfl
  · skip
    have q1 := pz_ne c1
    have q1a := q1.1
    have q1b := q1.2
    refine g_aload_n rfl rfl ?_
    refine g_iload_n rfl rfl ?_
    refine g_V (z := yTr_has) (e := 1) (A := [aI i]) (rest := []) (v := aI (pz (hs st t i))) (P := fun h2 => h2 = h) rfl rfl rfl rfl rfl rfl (by omega) (hW.tree ht) (hW.treeb ht) (c_has hW ht i) ?_
    intro hh9 he9
    rw [he9]
    clear he9 hh9
    refine g_ifeq rfl rfl (fun c2 => ?_) (fun c2 => ?_)
    · skip
      have q2 := pz_eq c2
      refine g_iconst (n := 0) rfl (by decide) ?_
      exact r_z rfl rfl (by decide) (pz_f (fun q => by first | exact q.elim (fun z => z q1) (fun z => q2 z.1) | exact q.elim (fun z => z q1) (fun z => by have := z.2; omega))).symm rfl
    · skip
      have q2 := pz_ne c2
      have q2a := q2.1
      have q2b := q2.2
      refine g_aload_n rfl rfl ?_
      refine g_get (ci := 4) (kk := 0) rfl rfl (hW.tree ht) (hW.treeb ht) rfl ?_
      refine g_iload_n rfl rfl ?_
      refine g_aald (b := g (400 + st.2.2.1 t i.toNat)) rfl (hW.arr ht) (by decide) (hW.arrb ht) (by omega) rfl ?_
      refine g_get (ci := 0) (kk := 0) rfl rfl (hW.node (hW.pm ht (by omega))) (hW.nodeb (hW.pm ht (by omega))) rfl ?_
      refine g_aload_n rfl rfl ?_
      refine g_get (ci := 4) (kk := 0) rfl rfl (hW.tree ht) (hW.treeb ht) rfl ?_
      refine g_iload_n rfl rfl ?_
      refine g_aald (b := g (400 + st.2.2.1 t o.toNat)) rfl (hW.arr ht) (by decide) (hW.arrb ht) (by omega) rfl ?_
      refine g_get (ci := 0) (kk := 0) rfl rfl (hW.node (hW.pm ht (by omega))) (hW.nodeb (hW.pm ht (by omega))) rfl ?_
      refine g_V (z := yRw_order) (e := 1) (A := [aR (g (2 * st.2.2.1 t o.toNat))]) (rest := []) (v := aI (cmpv ((st.1 (2 * st.2.2.1 t i.toNat))) ((st.1 (2 * st.2.2.1 t o.toNat))))) (P := fun h2 => h2 = h) rfl rfl rfl rfl rfl rfl (by omega) (hW.row (by have := hW.pm ht (i := i.toNat) (by omega); omega)) (hW.rowb (by have := hW.pm ht (i := i.toNat) (by omega); omega)) (c_order (by omega) hW (by have := hW.pm ht (i := i.toNat) (by omega); omega) (by have := hW.pm ht (i := o.toNat) (by omega); omega)) ?_
      intro hh9 he9
      rw [he9]
      clear he9 hh9
      refine g_ifle rfl rfl (fun c3 => ?_) (fun c3 => ?_)
      · skip
        refine g_iconst (n := 0) rfl (by decide) ?_
        exact r_z rfl rfl (by decide) (pz_f (fun q => by first | exact q.elim (fun z => z q1) (fun z => q2 z.1) | exact q.elim (fun z => z q1) (fun z => by have := z.2; omega))).symm rfl
      · skip
        refine g_iconst (n := 1) rfl (by decide) ?_
        refine g_goto rfl rfl ?_
        exact r_z rfl rfl (by decide) (pz_t (by first | exact Or.inl q1 | exact Or.inr ⟨q2, by assumption⟩)).symm rfl
theorem nx_loop (hW : WC K h g st cb sb) (ht : t < 2) (dir bh : Int) : ∀ (n i : Nat) (x : Int), i + n = (st.2.2.2.1 t) → Go (d + 3) yTr_nextChild 5 [aR (g (500 + t)), aI dir, aI bh, aI x, aI i] [] h (RV (some (aI (nxF st t dir bh n i x))) (fun h2 => h2 = h)) := by
  have hc := hW.cnt ht
  intro n
  induction n with
  | zero =>
    intro i x hi
    refine g_iload rfl rfl ?_
    refine g_aload_n rfl rfl ?_
    refine g_get (ci := 4) (kk := 1) rfl rfl (hW.tree ht) (hW.treeb ht) rfl ?_
    refine g_icmpge rfl rfl (fun c1 => ?_) (fun c => absurd c (by omega))
    refine g_iload_n rfl rfl ?_
    exact r_i rfl rfl rfl rfl
  | succ n ih =>
    intro i x hi
    refine g_iload rfl rfl ?_
    refine g_aload_n rfl rfl ?_
    refine g_get (ci := 4) (kk := 1) rfl rfl (hW.tree ht) (hW.treeb ht) rfl ?_
    refine g_icmpge rfl rfl (fun c => absurd c (by omega)) (fun c1 => ?_)
    refine g_aload_n rfl rfl ?_
    refine g_get (ci := 4) (kk := 0) rfl rfl (hW.tree ht) (hW.treeb ht) rfl ?_
    refine g_iload rfl rfl ?_
    refine g_aald (b := g (400 + st.2.2.1 t i)) rfl (hW.arr ht) (by decide) (hW.arrb ht) (by omega) rfl ?_
    refine g_get (ci := 0) (kk := 3) rfl rfl (hW.node (hW.pm ht (by omega))) (hW.nodeb (hW.pm ht (by omega))) rfl ?_
    refine g_iload_n rfl rfl ?_
    refine g_icmpne rfl rfl (fun c2 => ?_) (fun c2 => ?_)
    · skip
      refine g_iinc (L' := [aR (g (500 + t)), aI dir, aI bh, aI x, aI ((i : Int) + 1)]) rfl rfl (by omega) rfl ?_
      refine g_goto rfl rfl ?_
      have h9 := ih (i + 1) x (by omega)
      rw [show nxF st t dir bh (n + 1) i x = nxF st t dir bh n (i + 1) x from by rw [nxF]; exact @if_neg _ (Classical.propDecidable _) (fun q => by first | exact c2 q.1 | exact pz_eq cA q.2.1 | exact q.2.2.elim cX (pz_eq cB)) _ _ _]
      exact h9
    · skip
      refine g_aload_n rfl rfl ?_
      refine g_iload rfl rfl ?_
      refine g_iload_n rfl rfl ?_
      refine g_V (z := yTr_comesBehind) (e := 1) (A := [aI bh, aI ((i : Int))]) (rest := []) (v := aI (pz (cbh st t i bh))) (P := fun h2 => h2 = h) rfl rfl rfl rfl rfl rfl (by omega) (hW.tree ht) (hW.treeb ht) (c_comesBehind (by omega) hW ht i bh) ?_
      intro hh9 he9
      rw [he9]
      clear he9 hh9
      refine g_ifeq rfl rfl (fun c3 => ?_) (fun c3 => ?_)
      · skip
        have cA := c3
        refine g_iinc (L' := [aR (g (500 + t)), aI dir, aI bh, aI x, aI ((i : Int) + 1)]) rfl rfl (by omega) rfl ?_
        refine g_goto rfl rfl ?_
        have h9 := ih (i + 1) x (by omega)
        rw [show nxF st t dir bh (n + 1) i x = nxF st t dir bh n (i + 1) x from by rw [nxF]; exact @if_neg _ (Classical.propDecidable _) (fun q => by first | exact c2 q.1 | exact pz_eq cA q.2.1 | exact q.2.2.elim cX (pz_eq cB)) _ _ _]
        exact h9
      · skip
        have cA := c3
        refine g_iload_n rfl rfl ?_
        refine g_iconst (n := -1) rfl (by decide) ?_
        refine g_icmpeq rfl rfl (fun c4 => ?_) (fun c4 => ?_)
        · skip
          have cX := c4
          refine g_iload rfl rfl ?_
          refine g_istore_n (L' := [aR (g (500 + t)), aI dir, aI bh, aI ((i : Int)), aI ((i : Int))]) rfl rfl ?_
          refine g_iinc (L' := [aR (g (500 + t)), aI dir, aI bh, aI ((i : Int)), aI ((i : Int) + 1)]) rfl rfl (by omega) rfl ?_
          refine g_goto rfl rfl ?_
          have h9 := ih (i + 1) i (by omega)
          rw [show nxF st t dir bh (n + 1) i x = nxF st t dir bh n (i + 1) i from by rw [nxF]; exact @if_pos _ (Classical.propDecidable _) ⟨c2, pz_ne cA, by first | exact Or.inl cX | exact Or.inr (pz_ne cB)⟩ _ _ _]
          exact h9
        · skip
          have cX := c4
          refine g_aload_n rfl rfl ?_
          refine g_iload_n rfl rfl ?_
          refine g_iload rfl rfl ?_
          refine g_V (z := yTr_comesBehind) (e := 1) (A := [aI ((i : Int)), aI x]) (rest := []) (v := aI (pz (cbh st t x i))) (P := fun h2 => h2 = h) rfl rfl rfl rfl rfl rfl (by omega) (hW.tree ht) (hW.treeb ht) (c_comesBehind (by omega) hW ht x i) ?_
          intro hh9 he9
          rw [he9]
          clear he9 hh9
          refine g_ifeq rfl rfl (fun c5 => ?_) (fun c5 => ?_)
          · skip
            have cB := c5
            refine g_iinc (L' := [aR (g (500 + t)), aI dir, aI bh, aI x, aI ((i : Int) + 1)]) rfl rfl (by omega) rfl ?_
            refine g_goto rfl rfl ?_
            have h9 := ih (i + 1) x (by omega)
            rw [show nxF st t dir bh (n + 1) i x = nxF st t dir bh n (i + 1) x from by rw [nxF]; exact @if_neg _ (Classical.propDecidable _) (fun q => by first | exact c2 q.1 | exact pz_eq cA q.2.1 | exact q.2.2.elim cX (pz_eq cB)) _ _ _]
            exact h9
          · skip
            have cB := c5
            refine g_iload rfl rfl ?_
            refine g_istore_n (L' := [aR (g (500 + t)), aI dir, aI bh, aI ((i : Int)), aI ((i : Int))]) rfl rfl ?_
            refine g_iinc (L' := [aR (g (500 + t)), aI dir, aI bh, aI ((i : Int)), aI ((i : Int) + 1)]) rfl rfl (by omega) rfl ?_
            refine g_goto rfl rfl ?_
            have h9 := ih (i + 1) i (by omega)
            rw [show nxF st t dir bh (n + 1) i x = nxF st t dir bh n (i + 1) i from by rw [nxF]; exact @if_pos _ (Classical.propDecidable _) ⟨c2, pz_ne cA, by first | exact Or.inl cX | exact Or.inr (pz_ne cB)⟩ _ _ _]
            exact h9
theorem c_nextChild (hd3 : 3 ≤ d) (hW : WC K h g st cb sb) (ht : t < 2) (dir bh : Int) : Cal d yTr_nextChild [aR (g (500 + t)), aI dir, aI bh] h (RV (some (aI (nxt st t dir bh))) (fun h2 => h2 = h)) := by
  obtain ⟨d, rfl⟩ : ∃ e, d = e + 3 := ⟨d - 3, by omega⟩
  have hc := hW.cnt ht
  show Go _ _ 0 [aR (g (500 + t)), aI dir, aI bh, none, none] [] _ _
  refine g_iconst (n := -1) rfl (by decide) ?_
  refine g_istore_n (L' := [aR (g (500 + t)), aI dir, aI bh, aI (-1), none]) rfl rfl ?_
  refine g_iconst (n := 1) rfl (by decide) ?_
  refine g_istore (L' := [aR (g (500 + t)), aI dir, aI bh, aI (-1), aI 1]) rfl rfl ?_
  exact nx_loop (d := d) hW ht dir bh ((st.2.2.2.1 t) - 1) 1 (-1) (by omega)
theorem fw_loop (hW : WC K h g st cb sb) (ht : t < 2) (i0 : Int) : ∀ (n lv : Nat) (x a : Int) (v5 : AV), lv + n = 30 → Go (d + 4) yTr_follower 12 [aR (g (500 + t)), aI i0, aI x, aI a, aI lv, v5] [] h (RV (some (aI (fwF st t n x a))) (fun h2 => h2 = h)) := by
  have hc := hW.cnt ht
  intro n
  induction n with
  | zero =>
    intro lv x a v5 hi
    refine g_iload rfl rfl ?_
    refine g_bipush (n := 30) rfl (by decide) ?_
    refine g_icmpge rfl rfl (fun c1 => ?_) (fun c => absurd c (by omega))
    refine g_iload_n rfl rfl ?_
    exact r_i rfl rfl rfl rfl
  | succ n ih =>
    intro lv x a v5 hi
    refine g_iload rfl rfl ?_
    refine g_bipush (n := 30) rfl (by decide) ?_
    refine g_icmpge rfl rfl (fun c => absurd c (by omega)) (fun c1 => ?_)
    refine g_iload_n rfl rfl ?_
    refine g_iconst (n := -1) rfl (by decide) ?_
    refine g_icmpne rfl rfl (fun c2 => ?_) (fun c2 => ?_)
    · skip
      refine g_iload_n rfl rfl ?_
      exact r_i rfl rfl (by unfold fwF; rw [if_neg (fun q => by have := q.1; have := q.2.1; have := q.2.2; omega)]) rfl
    · skip
      refine g_iload_n rfl rfl ?_
      refine g_ifle rfl rfl (fun c3 => ?_) (fun c3 => ?_)
      · skip
        refine g_iload_n rfl rfl ?_
        exact r_i rfl rfl (by unfold fwF; rw [if_neg (fun q => by have := q.1; have := q.2.1; have := q.2.2; omega)]) rfl
      · skip
        refine g_aload_n rfl rfl ?_
        refine g_iload_n rfl rfl ?_
        refine g_V (z := yTr_has) (e := 1) (A := [aI a]) (rest := []) (v := aI (pz (hs st t a))) (P := fun h2 => h2 = h) rfl rfl rfl rfl rfl rfl (by omega) (hW.tree ht) (hW.treeb ht) (c_has hW ht a) ?_
        intro hh9 he9
        rw [he9]
        clear he9 hh9
        refine g_ifeq rfl rfl (fun c4 => ?_) (fun c4 => ?_)
        · skip
          have q1 := pz_eq c4
          have q2 : ¬ (0 ≤ a ∧ a < (st.2.2.2.1 t)) := q1
          refine g_iload_n rfl rfl ?_
          exact r_i rfl rfl (by unfold fwF; rw [if_neg (fun q => by have := q.1; have := q.2.1; have := q.2.2; omega)]) rfl
        · skip
          have q1 := pz_ne c4
          have q1a := q1.1
          have q1b := q1.2
          refine g_aload_n rfl rfl ?_
          refine g_get (ci := 4) (kk := 0) rfl rfl (hW.tree ht) (hW.treeb ht) rfl ?_
          refine g_iload_n rfl rfl ?_
          refine g_aald (b := g (400 + st.2.2.1 t a.toNat)) rfl (hW.arr ht) (by decide) (hW.arrb ht) (by omega) rfl ?_
          refine g_get (ci := 0) (kk := 3) rfl rfl (hW.node (hW.pm ht (by omega))) (hW.nodeb (hW.pm ht (by omega))) rfl ?_
          refine g_istore (L' := [aR (g (500 + t)), aI i0, aI x, aI a, aI ((lv : Int)), aI ((st.2.1 (st.2.2.1 t a.toNat) 1))]) rfl rfl ?_
          refine g_aload_n rfl rfl ?_
          refine g_iload rfl rfl ?_
          refine g_iload_n rfl rfl ?_
          refine g_V (z := yTr_nextChild) (e := 1) (A := [aI a, aI ((st.2.1 (st.2.2.1 t a.toNat) 1))]) (rest := []) (v := aI (nxt st t ((st.2.1 (st.2.2.1 t a.toNat) 1)) a)) (P := fun h2 => h2 = h) rfl rfl rfl rfl rfl rfl (by omega) (hW.tree ht) (hW.treeb ht) (c_nextChild (by omega) hW ht _ _) ?_
          intro hh9 he9
          rw [he9]
          clear he9 hh9
          refine g_istore_n (L' := [aR (g (500 + t)), aI i0, aI (nxt st t ((st.2.1 (st.2.2.1 t a.toNat) 1)) a), aI a, aI ((lv : Int)), aI ((st.2.1 (st.2.2.1 t a.toNat) 1))]) rfl rfl ?_
          refine g_iload rfl rfl ?_
          refine g_istore_n (L' := [aR (g (500 + t)), aI i0, aI (nxt st t ((st.2.1 (st.2.2.1 t a.toNat) 1)) a), aI ((st.2.1 (st.2.2.1 t a.toNat) 1)), aI ((lv : Int)), aI ((st.2.1 (st.2.2.1 t a.toNat) 1))]) rfl rfl ?_
          refine g_iinc (L' := [aR (g (500 + t)), aI i0, aI (nxt st t ((st.2.1 (st.2.2.1 t a.toNat) 1)) a), aI ((st.2.1 (st.2.2.1 t a.toNat) 1)), aI ((lv : Int) + 1), aI ((st.2.1 (st.2.2.1 t a.toNat) 1))]) rfl rfl (by omega) rfl ?_
          refine g_goto rfl rfl ?_
          have h9 := ih (lv + 1) (nxt st t ((st.2.1 (st.2.2.1 t a.toNat) 1)) a) ((st.2.1 (st.2.2.1 t a.toNat) 1)) (aI ((st.2.1 (st.2.2.1 t a.toNat) 1))) (by omega)
          rw [show fwF st t (n + 1) x a = fwF st t n (nxt st t ((st.2.1 (st.2.2.1 t a.toNat) 1)) a) ((st.2.1 (st.2.2.1 t a.toNat) 1)) from by rw [fwF, if_pos ⟨by omega, by omega, by omega⟩]]
          exact h9
theorem c_follower (hd4 : 4 ≤ d) (hW : WC K h g st cb sb) (ht : t < 2) (i : Int) : Cal d yTr_follower [aR (g (500 + t)), aI i] h (RV (some (aI (fol st t i))) (fun h2 => h2 = h)) := by
  obtain ⟨d, rfl⟩ : ∃ e, d = e + 4 := ⟨d - 4, by omega⟩
  show Go _ _ 0 [aR (g (500 + t)), aI i, none, none, none, none] [] _ _
  refine g_aload_n rfl rfl ?_
  refine g_iload_n rfl rfl ?_
  refine g_iconst (n := -1) rfl (by decide) ?_
  refine g_V (z := yTr_nextChild) (e := 1) (A := [aI (-1), aI i]) (rest := []) (v := aI (nxt st t i (-1))) (P := fun h2 => h2 = h) rfl rfl rfl rfl rfl rfl (by omega) (hW.tree ht) (hW.treeb ht) (c_nextChild (by omega) hW ht _ _) ?_
  intro hh9 he9
  rw [he9]
  clear he9 hh9
  refine g_istore_n (L' := [aR (g (500 + t)), aI i, aI (nxt st t i (-1)), none, none, none]) rfl rfl ?_
  refine g_iload_n rfl rfl ?_
  refine g_istore_n (L' := [aR (g (500 + t)), aI i, aI (nxt st t i (-1)), aI i, none, none]) rfl rfl ?_
  refine g_iconst (n := 0) rfl (by decide) ?_
  refine g_istore (L' := [aR (g (500 + t)), aI i, aI (nxt st t i (-1)), aI i, aI 0, none]) rfl rfl ?_
  exact fw_loop (d := d) hW ht i 30 0 _ _ none rfl
theorem pl_loop (hW : WC K h g st cb sb) (ht : t < 2) (i0 : Int) : ∀ (n lv : Nat) (a x : Int), lv + n = 30 → 0 ≤ x → x ≤ 1 + 10241 * (lv : Int) → Go (d + 1) yTr_pathLength 20 [aR (g (500 + t)), aI i0, aI x, aI a, aI lv] [] h (RV (some (aI (plF st t n a x))) (fun h2 => h2 = h)) := by
  have hc := hW.cnt ht
  intro n
  induction n with
  | zero =>
    intro lv a x hi hx0 hx1
    refine g_iload rfl rfl ?_
    refine g_bipush (n := 30) rfl (by decide) ?_
    refine g_icmpge rfl rfl (fun c1 => ?_) (fun c => absurd c (by omega))
    refine g_iload_n rfl rfl ?_
    exact r_i rfl rfl rfl rfl
  | succ n ih =>
    intro lv a x hi hx0 hx1
    refine g_iload rfl rfl ?_
    refine g_bipush (n := 30) rfl (by decide) ?_
    refine g_icmpge rfl rfl (fun c => absurd c (by omega)) (fun c1 => ?_)
    refine g_iload_n rfl rfl ?_
    refine g_ifle rfl rfl (fun c2 => ?_) (fun c2 => ?_)
    · skip
      refine g_iload_n rfl rfl ?_
      exact r_i rfl rfl (by unfold plF; rw [if_neg (fun q => by have := q.1; have := q.2; omega)]) rfl
    · skip
      refine g_aload_n rfl rfl ?_
      refine g_iload_n rfl rfl ?_
      refine g_V (z := yTr_has) (e := 1) (A := [aI a]) (rest := []) (v := aI (pz (hs st t a))) (P := fun h2 => h2 = h) rfl rfl rfl rfl rfl rfl (by omega) (hW.tree ht) (hW.treeb ht) (c_has hW ht a) ?_
      intro hh9 he9
      rw [he9]
      clear he9 hh9
      refine g_ifeq rfl rfl (fun c3 => ?_) (fun c3 => ?_)
      · skip
        have q1 := pz_eq c3
        have q2 : ¬ (0 ≤ a ∧ a < (st.2.2.2.1 t)) := q1
        refine g_iload_n rfl rfl ?_
        exact r_i rfl rfl (by unfold plF; rw [if_neg (fun q => by have := q.1; have := q.2; omega)]) rfl
      · skip
        have q1 := pz_ne c3
        have q1a := q1.1
        have q1b := q1.2
        have hpm := hW.pm ht (i := a.toNat) (by omega)
        have hlen := hW.len (r := 2 * st.2.2.1 t a.toNat) (by omega)
        refine g_iload_n rfl rfl ?_
        refine g_aload_n rfl rfl ?_
        refine g_get (ci := 4) (kk := 0) rfl rfl (hW.tree ht) (hW.treeb ht) rfl ?_
        refine g_iload_n rfl rfl ?_
        refine g_aald (b := g (400 + st.2.2.1 t a.toNat)) rfl (hW.arr ht) (by decide) (hW.arrb ht) (by omega) rfl ?_
        refine g_get (ci := 0) (kk := 0) rfl rfl (hW.node (hW.pm ht (by omega))) (hW.nodeb (hW.pm ht (by omega))) rfl ?_
        refine g_get (ci := 2) (kk := 1) rfl rfl (hW.row (by have := hW.pm ht (i := a.toNat) (by omega); omega)) (hW.rowb (by have := hW.pm ht (i := a.toNat) (by omega); omega)) rfl ?_
        refine g_iload rfl rfl ?_
        refine g_ifle rfl rfl (fun c4 => ?_) (fun c4 => ?_)
        · skip
          refine g_iconst (n := 0) rfl (by decide) ?_
          refine g_iadd rfl (by omega) ?_
          refine g_iadd rfl (by omega) ?_
          refine g_istore_n (L' := [aR (g (500 + t)), aI i0, aI (x + ((((st.1 (2 * st.2.2.1 t a.toNat)).length : Int)) + 0)), aI a, aI ((lv : Int))]) rfl rfl ?_
          refine g_aload_n rfl rfl ?_
          refine g_get (ci := 4) (kk := 0) rfl rfl (hW.tree ht) (hW.treeb ht) rfl ?_
          refine g_iload_n rfl rfl ?_
          refine g_aald (b := g (400 + st.2.2.1 t a.toNat)) rfl (hW.arr ht) (by decide) (hW.arrb ht) (by omega) rfl ?_
          refine g_get (ci := 0) (kk := 3) rfl rfl (hW.node (hW.pm ht (by omega))) (hW.nodeb (hW.pm ht (by omega))) rfl ?_
          refine g_istore_n (L' := [aR (g (500 + t)), aI i0, aI (x + ((((st.1 (2 * st.2.2.1 t a.toNat)).length : Int)) + 0)), aI ((st.2.1 (st.2.2.1 t a.toNat) 1)), aI ((lv : Int))]) rfl rfl ?_
          refine g_iinc (L' := [aR (g (500 + t)), aI i0, aI (x + ((((st.1 (2 * st.2.2.1 t a.toNat)).length : Int)) + 0)), aI ((st.2.1 (st.2.2.1 t a.toNat) 1)), aI ((lv : Int) + 1)]) rfl rfl (by omega) rfl ?_
          refine g_goto rfl rfl ?_
          have h9 := ih (lv + 1) ((st.2.1 (st.2.2.1 t a.toNat) 1)) (x + ((((st.1 (2 * st.2.2.1 t a.toNat)).length : Int)) + 0)) (by omega) (by omega) (by omega)
          rw [show plF st t (n + 1) a x = plF st t n ((st.2.1 (st.2.2.1 t a.toNat) 1)) (x + ((((st.1 (2 * st.2.2.1 t a.toNat)).length : Int)) + 0)) from by rw [plF, if_pos ⟨by omega, by omega⟩]; congr 2; congr 1; first | rw [if_pos (by omega)] | rw [if_neg (by omega)]]
          exact h9
        · skip
          refine g_iconst (n := 1) rfl (by decide) ?_
          refine g_goto rfl rfl ?_
          refine g_iadd rfl (by omega) ?_
          refine g_iadd rfl (by omega) ?_
          refine g_istore_n (L' := [aR (g (500 + t)), aI i0, aI (x + ((((st.1 (2 * st.2.2.1 t a.toNat)).length : Int)) + 1)), aI a, aI ((lv : Int))]) rfl rfl ?_
          refine g_aload_n rfl rfl ?_
          refine g_get (ci := 4) (kk := 0) rfl rfl (hW.tree ht) (hW.treeb ht) rfl ?_
          refine g_iload_n rfl rfl ?_
          refine g_aald (b := g (400 + st.2.2.1 t a.toNat)) rfl (hW.arr ht) (by decide) (hW.arrb ht) (by omega) rfl ?_
          refine g_get (ci := 0) (kk := 3) rfl rfl (hW.node (hW.pm ht (by omega))) (hW.nodeb (hW.pm ht (by omega))) rfl ?_
          refine g_istore_n (L' := [aR (g (500 + t)), aI i0, aI (x + ((((st.1 (2 * st.2.2.1 t a.toNat)).length : Int)) + 1)), aI ((st.2.1 (st.2.2.1 t a.toNat) 1)), aI ((lv : Int))]) rfl rfl ?_
          refine g_iinc (L' := [aR (g (500 + t)), aI i0, aI (x + ((((st.1 (2 * st.2.2.1 t a.toNat)).length : Int)) + 1)), aI ((st.2.1 (st.2.2.1 t a.toNat) 1)), aI ((lv : Int) + 1)]) rfl rfl (by omega) rfl ?_
          refine g_goto rfl rfl ?_
          have h9 := ih (lv + 1) ((st.2.1 (st.2.2.1 t a.toNat) 1)) (x + ((((st.1 (2 * st.2.2.1 t a.toNat)).length : Int)) + 1)) (by omega) (by omega) (by omega)
          rw [show plF st t (n + 1) a x = plF st t n ((st.2.1 (st.2.2.1 t a.toNat) 1)) (x + ((((st.1 (2 * st.2.2.1 t a.toNat)).length : Int)) + 1)) from by rw [plF, if_pos ⟨by omega, by omega⟩]; congr 2; congr 1; first | rw [if_pos (by omega)] | rw [if_neg (by omega)]]
          exact h9
theorem c_pathLength (hd1 : 1 ≤ d) (hW : WC K h g st cb sb) (ht : t < 2) (i : Int) : Cal d yTr_pathLength [aR (g (500 + t)), aI i] h (RV (some (aI (pln st t i))) (fun h2 => h2 = h)) := by
  obtain ⟨d, rfl⟩ : ∃ e, d = e + 1 := ⟨d - 1, by omega⟩
  show Go _ _ 0 [aR (g (500 + t)), aI i, none, none, none] [] _ _
  refine g_aload_n rfl rfl ?_
  refine g_iload_n rfl rfl ?_
  refine g_iconst (n := 0) rfl (by decide) ?_
  refine g_V (z := yTr_isOfKind) (e := 1) (A := [aI 0, aI i]) (rest := []) (v := aI (pz (isK st t i 0))) (P := fun h2 => h2 = h) rfl rfl rfl rfl rfl rfl (by omega) (hW.tree ht) (hW.treeb ht) (c_isOfKind hW ht i 0) ?_
  intro hh9 he9
  rw [he9]
  clear he9 hh9
  refine g_ifeq rfl rfl (fun c1 => ?_) (fun c1 => ?_)
  · skip
    have cK := c1
    refine g_iconst (n := 0) rfl (by decide) ?_
    refine g_istore_n (L' := [aR (g (500 + t)), aI i, aI 0, none, none]) rfl rfl ?_
    refine g_iload_n rfl rfl ?_
    refine g_istore_n (L' := [aR (g (500 + t)), aI i, aI 0, aI i, none]) rfl rfl ?_
    refine g_iconst (n := 0) rfl (by decide) ?_
    refine g_istore (L' := [aR (g (500 + t)), aI i, aI 0, aI i, aI 0]) rfl rfl ?_
    have h9 := pl_loop (d := d) hW ht i 30 0 i (0) rfl (by decide) (by decide)
    rw [show pln st t i = plF st t 30 i (0) from by unfold pln; rw [pz_f (pz_eq cK)]]
    exact h9
  · skip
    have cK := c1
    refine g_iconst (n := 1) rfl (by decide) ?_
    refine g_goto rfl rfl ?_
    refine g_istore_n (L' := [aR (g (500 + t)), aI i, aI 1, none, none]) rfl rfl ?_
    refine g_iload_n rfl rfl ?_
    refine g_istore_n (L' := [aR (g (500 + t)), aI i, aI 1, aI i, none]) rfl rfl ?_
    refine g_iconst (n := 0) rfl (by decide) ?_
    refine g_istore (L' := [aR (g (500 + t)), aI i, aI 1, aI i, aI 0]) rfl rfl ?_
    have h9 := pl_loop (d := d) hW ht i 30 0 i (1) rfl (by decide) (by decide)
    rw [show pln st t i = plF st t 30 i (1) from by unfold pln; rw [pz_t (pz_ne cK)]]
    exact h9
theorem lg_loop (hW : WC K h g st cb sb) (ht : t < 2) : ∀ (n i : Nat) (x : Int), i + n = (st.2.2.2.1 t) → Go (d + 2) yTr_longestPath 4 [aR (g (500 + t)), aI x, aI i] [] h (RV (some (aI (lgF st t n i x))) (fun h2 => h2 = h)) := by
  have hc := hW.cnt ht
  intro n
  induction n with
  | zero =>
    intro i x hi
    refine g_iload_n rfl rfl ?_
    refine g_aload_n rfl rfl ?_
    refine g_get (ci := 4) (kk := 1) rfl rfl (hW.tree ht) (hW.treeb ht) rfl ?_
    refine g_icmpge rfl rfl (fun c1 => ?_) (fun c => absurd c (by omega))
    refine g_iload_n rfl rfl ?_
    exact r_i rfl rfl rfl rfl
  | succ n ih =>
    intro i x hi
    refine g_iload_n rfl rfl ?_
    refine g_aload_n rfl rfl ?_
    refine g_get (ci := 4) (kk := 1) rfl rfl (hW.tree ht) (hW.treeb ht) rfl ?_
    refine g_icmpge rfl rfl (fun c => absurd c (by omega)) (fun c1 => ?_)
    refine g_iload_n rfl rfl ?_
    refine g_aload_n rfl rfl ?_
    refine g_iload_n rfl rfl ?_
    refine g_V (z := yTr_pathLength) (e := 1) (A := [aI ((i : Int))]) (rest := [aI x]) (v := aI (pln st t (i : Int))) (P := fun h2 => h2 = h) rfl rfl rfl rfl rfl rfl (by omega) (hW.tree ht) (hW.treeb ht) (c_pathLength (by omega) hW ht _) ?_
    intro hh9 he9
    rw [he9]
    clear he9 hh9
    refine g_max rfl rfl rfl (Nat.le_of_ble_eq_true rfl) ?_
    refine g_istore_n (L' := [aR (g (500 + t)), aI (if x ≤ pln st t (i : Int) then pln st t (i : Int) else x), aI ((i : Int))]) rfl rfl ?_
    refine g_iinc (L' := [aR (g (500 + t)), aI (if x ≤ pln st t (i : Int) then pln st t (i : Int) else x), aI ((i : Int) + 1)]) rfl rfl (by omega) rfl ?_
    refine g_goto rfl rfl ?_
    exact ih (i + 1) _ (by omega)
theorem c_longestPath (hd2 : 2 ≤ d) (hW : WC K h g st cb sb) (ht : t < 2) : Cal d yTr_longestPath [aR (g (500 + t))] h (RV (some (aI (lgF st t ((st.2.2.2.1 t) - 1) 1 0))) (fun h2 => h2 = h)) := by
  obtain ⟨d, rfl⟩ : ∃ e, d = e + 2 := ⟨d - 2, by omega⟩
  have hc := hW.cnt ht
  show Go _ _ 0 [aR (g (500 + t)), none, none] [] _ _
  refine g_iconst (n := 0) rfl (by decide) ?_
  refine g_istore_n (L' := [aR (g (500 + t)), aI 0, none]) rfl rfl ?_
  refine g_iconst (n := 1) rfl (by decide) ?_
  refine g_istore_n (L' := [aR (g (500 + t)), aI 0, aI 1]) rfl rfl ?_
  exact lg_loop (d := d) hW ht ((st.2.2.2.1 t) - 1) 1 0 (by omega)
theorem c_isGone (hd1 : 1 ≤ d) (hW : WC K h g st cb sb) (ht : t < 2) (i : Int) : Cal d yTr_isGone [aR (g (500 + t)), aI i] h (RV (some (aI (pz (hs st t i ∧ st.2.2.2.2.1 t i.toNat = -1)))) (fun h2 => h2 = h)) := by
  have hc := hW.cnt ht
  show Go _ _ 0 [aR (g (500 + t)), aI i] [] _ _
  refine g_aload_n rfl rfl ?_
  refine g_iload_n rfl rfl ?_
  refine g_V (z := yTr_has) (e := 1) (A := [aI i]) (rest := []) (v := aI (pz (hs st t i))) (P := fun h2 => h2 = h) rfl rfl rfl rfl rfl rfl (by omega) (hW.tree ht) (hW.treeb ht) (c_has hW ht i) ?_
  intro hh9 he9
  rw [he9]
  clear he9 hh9
  refine g_ifeq rfl rfl (fun c1 => ?_) (fun c1 => ?_)
  · skip
    have q1 := pz_eq c1
    refine g_iconst (n := 0) rfl (by decide) ?_
    exact r_z rfl rfl (by decide) (pz_f (fun q => by first | exact q1 q.1 | exact c2 q.2)).symm rfl
  · skip
    have q1 := pz_ne c1
    have q1a := q1.1
    have q1b := q1.2
    refine g_aload_n rfl rfl ?_
    refine g_get (ci := 4) (kk := 2) rfl rfl (hW.tree ht) (hW.treeb ht) rfl ?_
    refine g_iload_n rfl rfl ?_
    refine g_iald rfl (hW.num ht) (by omega) ?_
    refine g_iconst (n := -1) rfl (by decide) ?_
    refine g_icmpne rfl rfl (fun c2 => ?_) (fun c2 => ?_)
    · skip
      refine g_iconst (n := 0) rfl (by decide) ?_
      exact r_z rfl rfl (by decide) (pz_f (fun q => by first | exact q1 q.1 | exact c2 q.2)).symm rfl
    · skip
      refine g_iconst (n := 1) rfl (by decide) ?_
      refine g_goto rfl rfl ?_
      exact r_z rfl rfl (by decide) (pz_t ⟨q1, c2⟩).symm rfl
noncomputable def nnm (st : CS) (t : Nat) (i : Int) : Int := if 0 ≤ i ∧ i < (st.2.2.2.1 t) then st.2.2.2.2.1 t i.toNat else -1
theorem c_newNumber (hd1 : 1 ≤ d) (hW : WC K h g st cb sb) (ht : t < 2) (i : Int) : Cal d yTr_newNumber [aR (g (500 + t)), aI i] h (RV (some (aI (nnm st t i))) (fun h2 => h2 = h)) := by
  have hc := hW.cnt ht
  show Go _ _ 0 [aR (g (500 + t)), aI i] [] _ _
  refine g_aload_n rfl rfl ?_
  refine g_iload_n rfl rfl ?_
  refine g_V (z := yTr_has) (e := 1) (A := [aI i]) (rest := []) (v := aI (pz (hs st t i))) (P := fun h2 => h2 = h) rfl rfl rfl rfl rfl rfl (by omega) (hW.tree ht) (hW.treeb ht) (c_has hW ht i) ?_
  intro hh9 he9
  rw [he9]
  clear he9 hh9
  refine g_ifeq rfl rfl (fun c1 => ?_) (fun c1 => ?_)
  · skip
    have q1 := pz_eq c1
    have q2 : ¬ (0 ≤ i ∧ i < (st.2.2.2.1 t)) := q1
    refine g_iconst (n := -1) rfl (by decide) ?_
    exact r_i rfl rfl (by unfold nnm; rw [if_neg q2]) rfl
  · skip
    have q1 := pz_ne c1
    have q1a := q1.1
    have q1b := q1.2
    refine g_aload_n rfl rfl ?_
    refine g_get (ci := 4) (kk := 2) rfl rfl (hW.tree ht) (hW.treeb ht) rfl ?_
    refine g_iload_n rfl rfl ?_
    refine g_iald rfl (hW.num ht) (by omega) ?_
    refine g_goto rfl rfl ?_
    exact r_i rfl rfl (by unfold nnm; rw [if_pos ⟨q1a, q1b⟩]) rfl
theorem c_contentsLength (hW : WC K h g st cb sb) {j : Nat} (hj : j < 60) : Cal d yNd_contentsLength [aR (g (400 + j))] h (RV (some (aI (if st.2.1 j 0 = 1 then ((st.1 (2 * j + 1)).length : Int) else 0))) (fun h2 => h2 = h)) := by
  show Go _ _ 0 [aR (g (400 + j))] [] _ _
  refine g_aload_n rfl rfl ?_
  refine g_get (ci := 0) (kk := 2) rfl rfl (hW.node hj) (hW.nodeb hj) rfl ?_
  refine g_iconst (n := 1) rfl (by decide) ?_
  refine g_icmpne rfl rfl (fun c1 => ?_) (fun c1 => ?_)
  · skip
    refine g_iconst (n := 0) rfl (by decide) ?_
    exact r_i rfl rfl (by rw [if_neg (by assumption)]) rfl
  · skip
    refine g_aload_n rfl rfl ?_
    refine g_get (ci := 0) (kk := 1) rfl rfl (hW.node hj) (hW.nodeb hj) rfl ?_
    refine g_get (ci := 2) (kk := 1) rfl rfl (hW.row (by omega)) (hW.rowb (by omega)) rfl ?_
    refine g_goto rfl rfl ?_
    exact r_i rfl rfl (by rw [if_pos (by assumption)]) rfl
end TreeC
end
section
/-! Contracts of the methods of nodes and trees that change something. -/
theorem cel_low {g : Nat → Nat} {hd : HD} {st st' : CS} {c : Nat} (hc : c < 325) (h1 : st'.1 = st.1) : cel g hd st' c = cel g hd st c := by
  unfold cel
  by_cases h : c < 125
  · simp only [if_pos h, h1]
  · simp only [if_neg h, if_pos hc]
section SetW
variable {K : KE} {h : AH} {g : Nat → Nat} {st st' : CS} {cb sb : Nat} {t j : Nat}
theorem WC.set (hW : WC K h g st cb sb) {c0 : Nat} {e : AE} (hc0 : dm c0) (h3 : 325 ≤ c0) (hr : st'.1 = st.1) (he : cel g hd0 st' c0 = e) (ho : ∀ c, dm c → 325 ≤ c → c ≠ c0 → cel g hd0 st' c = cel g hd0 st c) (hs : shp st') : WC K (hput h (g c0) e) g st' cb sb := by
  obtain ⟨hd, hW⟩ := hW
  have k := hW.put (c0 := c0) (hd' := hd) (st' := st') (e := e) hc0 (fun _ => ⟨rfl, rfl⟩) (by rw [cel_325 h3]; exact he) (fun c hc hne => by
    by_cases h9 : c < 325
    · exact cel_low h9 hr
    · exact (cel_325 (hd := hd) (st := st') (by omega)).trans ((ho c hc (by omega) hne).trans (cel_325 (hd := hd) (st := st) (by omega)).symm)) (fun r hr2 => by
    have := hW.2.2.1 r hr2
    unfold rowok at this ⊢
    rw [hr]
    exact this) hs
  rw [ad_g (by omega)] at k
  exact ⟨hd, k⟩
theorem WC.setN (hW : WC K h g st cb sb) (hj : j < 60) {k : Nat} {v : Int} {fs : List AV} (he : fs = [aR (g (2 * j)), aR (g (2 * j + 1)), aI ((uN st j k v).2.1 j 0), aI ((uN st j k v).2.1 j 1), aI ((uN st j k v).2.1 j 2), aI ((uN st j k v).2.1 j 3), aI ((uN st j k v).2.1 j 4), aI ((uN st j k v).2.1 j 5)]) : WC K (hput h (g (400 + j)) (eO 0 fs)) g (uN st j k v) cb sb := by
  subst he
  refine hW.set (dm_400 hj) (by omega) rfl ?_ (fun c hc h3 hne => ?_) hW.shq
  · unfold cel
    rw [if_neg (by omega), if_neg (by omega), if_pos (by omega), Nat.add_sub_cancel_left]
  · unfold cel
    by_cases h4 : c < 460
    · have e : (uN st j k v).2.1 (c - 400) = st.2.1 (c - 400) := by
        have : c - 400 ≠ j := by rcases hc with h | h | h | h <;> omega
        simp [uN, va_up, this]
      simp only [e]
      rfl
    · simp only [if_neg (show ¬ c < 125 by omega), if_neg (show ¬ c < 325 by omega), if_neg h4]
      rfl
theorem WC.setC (hW : WC K h g st cb sb) (ht : t < 2) {n : Nat} (hn : 1 ≤ n ∧ n ≤ 30) : WC K (hput h (g (500 + t)) (eO 4 [aR (g (510 + t)), aI (n : Int), aR (g (520 + t))])) g (uC st t n) cb sb := by
  have hu : ∀ t', (uC st t n).2.2.2.1 t' = if t' = t then n else st.2.2.2.1 t' := fun _ => rfl
  refine hW.set (dm_500 ht) (by omega) rfl ?_ (fun c hc h3 hne => ?_) ?_
  · unfold cel
    rw [if_neg (by omega), if_neg (by omega), if_neg (by omega), if_pos (by omega), Nat.add_sub_cancel_left, show 500 + t + 10 = 510 + t by omega, show 500 + t + 20 = 520 + t by omega, hu, if_pos rfl]
  · unfold cel
    simp only [if_neg (show ¬ c < 125 by omega), if_neg (show ¬ c < 325 by omega)]
    by_cases h4 : c < 460
    · simp only [if_pos h4]
      rfl
    · simp only [if_neg h4]
      by_cases h5 : c < 502
      · simp only [if_pos h5]
        rw [hu, if_neg (by rcases hc with h | h | h | h <;> omega)]
      · simp only [if_neg h5]
        rfl
  · obtain ⟨q1, q2, q3, q4⟩ := hW.shq
    refine ⟨q1, q2, fun t' ht' => ?_, q4⟩
    rw [hu]
    split
    · exact hn
    · exact q3 t' ht'
theorem WC.setW (hW : WC K h g st cb sb) (ht : t < 2) (i : Nat) (v : Int) : WC K (hput h (g (520 + t)) (eA 0 30 (va_up (st.2.2.2.2.1 t) i v))) g (uW st t i v) cb sb := by
  have hu : ∀ t', (uW st t i v).2.2.2.2.1 t' = if t' = t then va_up (st.2.2.2.2.1 t) i v else st.2.2.2.2.1 t' := fun _ => rfl
  refine hW.set (dm_520 ht) (by omega) rfl ?_ (fun c hc h3 hne => ?_) hW.shq
  · unfold cel
    rw [if_neg (by omega), if_neg (by omega), if_neg (by omega), if_neg (by omega), if_neg (by omega), if_pos (by omega), Nat.add_sub_cancel_left, hu, if_pos rfl]
  · unfold cel
    simp only [if_neg (show ¬ c < 125 by omega), if_neg (show ¬ c < 325 by omega)]
    by_cases h4 : c < 512
    · by_cases h5 : c < 460
      · simp only [if_pos h5]; rfl
      · simp only [if_neg h5]
        by_cases h6 : c < 502
        · simp only [if_pos h6]; rfl
        · simp only [if_neg h6, if_pos h4]; rfl
    · simp only [if_neg (show ¬ c < 460 by omega), if_neg (show ¬ c < 502 by omega), if_neg h4]
      by_cases h5 : c < 522
      · simp only [if_pos h5]
        rw [hu, if_neg (by rcases hc with h | h | h | h <;> omega)]
      · simp only [if_neg h5]; rfl
/-- two nodes of a tree change places -/
def swp (f : Nat → Nat) (a b : Nat) : Nat → Nat := fun i => if i = b then f a else if i = a then f b else f i
theorem swp_eq (f : Nat → Nat) (a b i : Nat) : swp f a b i = f (if i = b then a else if i = a then b else i) := by
  unfold swp
  split
  · rfl
  · split <;> rfl
theorem WC.setP (hW : WC K h g st cb sb) (ht : t < 2) {a b : Nat} (ha : a < 30) (hb : b < 30) : WC K (hput h (g (510 + t)) (eQ 3 30 (fun i => some (g (400 + swp (st.2.2.1 t) a b i))))) g (uP st t (swp (st.2.2.1 t) a b)) cb sb := by
  have hu : ∀ t', (uP st t (swp (st.2.2.1 t) a b)).2.2.1 t' = if t' = t then swp (st.2.2.1 t) a b else st.2.2.1 t' := fun _ => rfl
  refine hW.set (dm_510 ht) (by omega) rfl ?_ (fun c hc h3 hne => ?_) ?_
  · unfold cel
    rw [if_neg (by omega), if_neg (by omega), if_neg (by omega), if_neg (by omega), if_pos (by omega), Nat.add_sub_cancel_left, hu, if_pos rfl]
  · unfold cel
    simp only [if_neg (show ¬ c < 125 by omega), if_neg (show ¬ c < 325 by omega)]
    by_cases h5 : c < 460
    · simp only [if_pos h5]; rfl
    · simp only [if_neg h5]
      by_cases h6 : c < 502
      · simp only [if_pos h6]; rfl
      · simp only [if_neg h6]
        by_cases h7 : c < 512
        · simp only [if_pos h7]
          rw [hu, if_neg (by rcases hc with h | h | h | h <;> omega)]
        · simp only [if_neg h7]; rfl
  · obtain ⟨q1, q2, q3, q4⟩ := hW.shq
    refine ⟨fun t' i ht' hi => ?_, fun t' i k ht' hi hk => ?_, q3, q4⟩
    · rw [hu]
      split
      · rename_i e; subst e
        unfold swp
        split
        · exact q1 t' a ht' ha
        · split
          · exact q1 t' b ht' hb
          · exact q1 t' i ht' hi
      · exact q1 t' i ht' hi
    · rw [hu]
      split
      · rename_i e; subst e
        intro he
        rw [swp_eq, swp_eq] at he
        have h9 := q2 t' _ _ ht' (by split <;> (try split) <;> omega) (by split <;> (try split) <;> omega) he
        split at h9 <;> split at h9 <;> (try split at h9) <;> (try split at h9) <;> omega
      · exact q2 t' i k ht' hi hk
theorem WC.setM (hW : WC K h g st cb sb) {c0 k : Nat} {e : AE} {v : Int} (hc0 : 531 ≤ c0 ∧ c0 ≤ 533) (he : cel g hd0 (uM st k v) c0 = e) (ho : ∀ c, 531 ≤ c → c ≤ 533 → c ≠ c0 → cel g hd0 (uM st k v) c = cel g hd0 st c) (hs : k = 0 → v = 0 ∨ v = 1) : WC K (hput h (g c0) e) g (uM st k v) cb sb := by
  refine hW.set (by unfold dm; omega) (by omega) rfl he (fun c hc h3 hne => ?_) ?_
  · by_cases h4 : 531 ≤ c ∧ c ≤ 533
    · exact ho c h4.1 h4.2 hne
    · unfold cel
      simp only [if_neg (show ¬ c < 125 by omega), if_neg (show ¬ c < 325 by omega)]
      by_cases h5 : c < 460
      · simp only [if_pos h5]; rfl
      · simp only [if_neg h5]
        by_cases h6 : c < 502
        · simp only [if_pos h6]; rfl
        · simp only [if_neg h6]
          by_cases h7 : c < 512
          · simp only [if_pos h7]; rfl
          · simp only [if_neg h7]
            by_cases h8 : c < 522
            · simp only [if_pos h8]; rfl
            · have h9 : c = 530 := by rcases hc with h | h | h | h <;> omega
              simp only [if_neg h8, if_pos h9]
  · obtain ⟨q1, q2, q3, q4⟩ := hW.shq
    refine ⟨q1, q2, q3, ?_⟩
    show va_up st.2.2.2.2.2 k v 0 = 0 ∨ va_up st.2.2.2.2.2 k v 0 = 1
    unfold va_up
    split
    · rename_i e; exact hs e.symm
    · exact q4
end SetW
/-- a node begins -/
def bgn (st : CS) (j : Nat) (kd dr fl : Int) : CS := uN (uN (uN (uN (uN (uN (uR (uR st (2 * j) []) (2 * j + 1) []) j 0 kd) j 1 dr) j 2 fl) j 3 0) j 4 0) j 5 0
def trAdd (st : CS) (t r : Nat) (dir kind file f e : Int) : CS := uC (uR (bgn st (st.2.2.1 t ((st.2.2.2.1 t))) kind dir file) (2 * st.2.2.1 t ((st.2.2.2.1 t))) (cps (st.1 r) f e)) t ((st.2.2.2.1 t) + 1)
def upl (st : CS) (t : Nat) : Nat → Int → List Int
  | 0, _ => []
  | n + 1, a => if 0 < a ∧ a < (st.2.2.2.1 t) then upl st t n ((st.2.1 (st.2.2.1 t a.toNat) 1)) ++ ((st.1 (2 * st.2.2.1 t a.toNat)) ++ (if n + 1 < 30 then [47] else [])) else []
noncomputable def pth (st : CS) (t : Nat) (i : Int) : List Int := upl st t 30 i ++ @ite (List Int) (isK st t i 0) (Classical.propDecidable _) [47] []
theorem plF_upl (st : CS) (t : Nat) : ∀ (n : Nat) (a x : Int), plF st t n a x = x + (upl st t n a).length := by
  intro n
  induction n with
  | zero => intro a x; simp [plF, upl]
  | succ n ih =>
    intro a x
    unfold plF upl
    by_cases h : 0 < a ∧ a < (st.2.2.2.1 t)
    · rw [if_pos h, if_pos h, ih, List.length_append, List.length_append]
      by_cases h2 : n + 1 < 30
      · rw [if_pos h2, if_pos (by omega)]
        simp
        omega
      · rw [if_neg h2, if_neg (by omega)]
        simp
        omega
    · rw [if_neg h, if_neg h]
      simp
theorem pln_pth (st : CS) (t : Nat) (i : Int) : pln st t i = (pth st t i).length := by
  unfold pln pth
  rw [plF_upl, List.length_append]
  by_cases h : isK st t i 0
  · rw [pz_t h, @if_pos _ (Classical.propDecidable _) h]
    simp
    omega
  · rw [pz_f h, @if_neg _ (Classical.propDecidable _) h]
    simp
theorem getD_app (l m : List Int) (j : Nat) : (l ++ m).getD j 0 = if j < l.length then l.getD j 0 else m.getD (j - l.length) 0 := by
  simp only [List.getD_eq_getElem?_getD, List.getElem?_append]
  split <;> rfl
theorem rput_get {l : List Int} {i b : Int} (h0 : 0 ≤ i) (h1 : i < l.length) (j : Nat) : (rput l i b).getD j 0 = if j = i.toNat then a8 b else l.getD j 0 := by
  unfold rput
  rw [if_pos ⟨h0, h1⟩, getD_set (by omega)]
theorem ovl_len (l m : List Int) (p : Int) : (ovl l p m).length = l.length := oF_len _ _
theorem ovl_get {l m : List Int} {p : Int} {j : Nat} (hj : j < l.length) : (ovl l p m).getD j 0 = if p.toNat ≤ j ∧ j < p.toNat + m.length then m.getD (j - p.toNat) 0 else l.getD j 0 := oF_get hj
section Tree2C
variable {K : KE} {h : AH} {g : Nat → Nat} {st : CS} {cb sb : Nat} {d t r j : Nat}
theorem c_begin (hd2 : 2 ≤ d) (hW : WC K h g st cb sb) (hj : j < 60) (kd dr fl : Int) : Cal d yNd_begin [aR (g (400 + j)), aI kd, aI dr, aI fl] h (RV none (fun h2 => WC K h2 g (bgn st j kd dr fl) cb sb)) := by
  show Go _ _ 0 [aR (g (400 + j)), aI kd, aI dr, aI fl] [] _ _
  refine g_aload_n rfl rfl ?_
  refine g_get (ci := 0) (kk := 0) rfl rfl (hW.node hj) (hW.nodeb hj) rfl ?_
  refine g_iconst (n := 0) rfl (by decide) ?_
  refine g_Vn (z := yRw_resize) (e := 1) (A := [aI 0]) (rest := [])  rfl rfl rfl rfl rfl rfl (by omega) (hW.row (by omega)) (hW.rowb (by omega)) (c_resize (by omega) hW (by omega) _) ?_
  intro hh1 hW
  rw [rsz_0] at hW
  refine g_aload_n rfl rfl ?_
  refine g_get (ci := 0) (kk := 1) rfl rfl (hW.node hj) (hW.nodeb hj) rfl ?_
  refine g_iconst (n := 0) rfl (by decide) ?_
  refine g_Vn (z := yRw_resize) (e := 1) (A := [aI 0]) (rest := [])  rfl rfl rfl rfl rfl rfl (by omega) (hW.row (by omega)) (hW.rowb (by omega)) (c_resize (by omega) hW (by omega) _) ?_
  intro hh2 hW
  rw [rsz_0] at hW
  refine g_aload_n rfl rfl ?_
  refine g_iload_n rfl rfl ?_
  refine g_put (ci := 0) (kk := 2) (fs' := [aR (g (2 * j)), aR (g (2 * j + 1)), aI kd, aI ((uR (uR st (2 * j) []) (2 * j + 1) []).2.1 j 1), aI ((uR (uR st (2 * j) []) (2 * j + 1) []).2.1 j 2), aI ((uR (uR st (2 * j) []) (2 * j + 1) []).2.1 j 3), aI ((uR (uR st (2 * j) []) (2 * j + 1) []).2.1 j 4), aI ((uR (uR st (2 * j) []) (2 * j + 1) []).2.1 j 5)]) rfl rfl (hW.node hj) (hW.nodeb hj) (Nat.le_of_ble_eq_true rfl) rfl (by decide) rfl ?_
  generalize hg_hh3 : hput hh2 (g (400 + j)) (eO 0 [aR (g (2 * j)), aR (g (2 * j + 1)), aI kd, aI ((uR (uR st (2 * j) []) (2 * j + 1) []).2.1 j 1), aI ((uR (uR st (2 * j) []) (2 * j + 1) []).2.1 j 2), aI ((uR (uR st (2 * j) []) (2 * j + 1) []).2.1 j 3), aI ((uR (uR st (2 * j) []) (2 * j + 1) []).2.1 j 4), aI ((uR (uR st (2 * j) []) (2 * j + 1) []).2.1 j 5)]) = hh3
  have hW : WC K hh3 g (uN (uR (uR st (2 * j) []) (2 * j + 1) []) j 0 kd) cb sb := by
    rw [← hg_hh3]
    exact hW.setN hj (by simp [uN, va_up])
  refine g_aload_n rfl rfl ?_
  refine g_iload_n rfl rfl ?_
  refine g_put (ci := 0) (kk := 3) (fs' := [aR (g (2 * j)), aR (g (2 * j + 1)), aI ((uN (uR (uR st (2 * j) []) (2 * j + 1) []) j 0 kd).2.1 j 0), aI dr, aI ((uN (uR (uR st (2 * j) []) (2 * j + 1) []) j 0 kd).2.1 j 2), aI ((uN (uR (uR st (2 * j) []) (2 * j + 1) []) j 0 kd).2.1 j 3), aI ((uN (uR (uR st (2 * j) []) (2 * j + 1) []) j 0 kd).2.1 j 4), aI ((uN (uR (uR st (2 * j) []) (2 * j + 1) []) j 0 kd).2.1 j 5)]) rfl rfl (hW.node hj) (hW.nodeb hj) (Nat.le_of_ble_eq_true rfl) rfl (by decide) rfl ?_
  generalize hg_hh4 : hput hh3 (g (400 + j)) (eO 0 [aR (g (2 * j)), aR (g (2 * j + 1)), aI ((uN (uR (uR st (2 * j) []) (2 * j + 1) []) j 0 kd).2.1 j 0), aI dr, aI ((uN (uR (uR st (2 * j) []) (2 * j + 1) []) j 0 kd).2.1 j 2), aI ((uN (uR (uR st (2 * j) []) (2 * j + 1) []) j 0 kd).2.1 j 3), aI ((uN (uR (uR st (2 * j) []) (2 * j + 1) []) j 0 kd).2.1 j 4), aI ((uN (uR (uR st (2 * j) []) (2 * j + 1) []) j 0 kd).2.1 j 5)]) = hh4
  have hW : WC K hh4 g (uN (uN (uR (uR st (2 * j) []) (2 * j + 1) []) j 0 kd) j 1 dr) cb sb := by
    rw [← hg_hh4]
    exact hW.setN hj (by simp [uN, va_up])
  refine g_aload_n rfl rfl ?_
  refine g_iload_n rfl rfl ?_
  refine g_put (ci := 0) (kk := 4) (fs' := [aR (g (2 * j)), aR (g (2 * j + 1)), aI ((uN (uN (uR (uR st (2 * j) []) (2 * j + 1) []) j 0 kd) j 1 dr).2.1 j 0), aI ((uN (uN (uR (uR st (2 * j) []) (2 * j + 1) []) j 0 kd) j 1 dr).2.1 j 1), aI fl, aI ((uN (uN (uR (uR st (2 * j) []) (2 * j + 1) []) j 0 kd) j 1 dr).2.1 j 3), aI ((uN (uN (uR (uR st (2 * j) []) (2 * j + 1) []) j 0 kd) j 1 dr).2.1 j 4), aI ((uN (uN (uR (uR st (2 * j) []) (2 * j + 1) []) j 0 kd) j 1 dr).2.1 j 5)]) rfl rfl (hW.node hj) (hW.nodeb hj) (Nat.le_of_ble_eq_true rfl) rfl (by decide) rfl ?_
  generalize hg_hh5 : hput hh4 (g (400 + j)) (eO 0 [aR (g (2 * j)), aR (g (2 * j + 1)), aI ((uN (uN (uR (uR st (2 * j) []) (2 * j + 1) []) j 0 kd) j 1 dr).2.1 j 0), aI ((uN (uN (uR (uR st (2 * j) []) (2 * j + 1) []) j 0 kd) j 1 dr).2.1 j 1), aI fl, aI ((uN (uN (uR (uR st (2 * j) []) (2 * j + 1) []) j 0 kd) j 1 dr).2.1 j 3), aI ((uN (uN (uR (uR st (2 * j) []) (2 * j + 1) []) j 0 kd) j 1 dr).2.1 j 4), aI ((uN (uN (uR (uR st (2 * j) []) (2 * j + 1) []) j 0 kd) j 1 dr).2.1 j 5)]) = hh5
  have hW : WC K hh5 g (uN (uN (uN (uR (uR st (2 * j) []) (2 * j + 1) []) j 0 kd) j 1 dr) j 2 fl) cb sb := by
    rw [← hg_hh5]
    exact hW.setN hj (by simp [uN, va_up])
  refine g_aload_n rfl rfl ?_
  refine g_iconst (n := 0) rfl (by decide) ?_
  refine g_put (ci := 0) (kk := 5) (fs' := [aR (g (2 * j)), aR (g (2 * j + 1)), aI ((uN (uN (uN (uR (uR st (2 * j) []) (2 * j + 1) []) j 0 kd) j 1 dr) j 2 fl).2.1 j 0), aI ((uN (uN (uN (uR (uR st (2 * j) []) (2 * j + 1) []) j 0 kd) j 1 dr) j 2 fl).2.1 j 1), aI ((uN (uN (uN (uR (uR st (2 * j) []) (2 * j + 1) []) j 0 kd) j 1 dr) j 2 fl).2.1 j 2), aI 0, aI ((uN (uN (uN (uR (uR st (2 * j) []) (2 * j + 1) []) j 0 kd) j 1 dr) j 2 fl).2.1 j 4), aI ((uN (uN (uN (uR (uR st (2 * j) []) (2 * j + 1) []) j 0 kd) j 1 dr) j 2 fl).2.1 j 5)]) rfl rfl (hW.node hj) (hW.nodeb hj) (Nat.le_of_ble_eq_true rfl) rfl (by decide) rfl ?_
  generalize hg_hh6 : hput hh5 (g (400 + j)) (eO 0 [aR (g (2 * j)), aR (g (2 * j + 1)), aI ((uN (uN (uN (uR (uR st (2 * j) []) (2 * j + 1) []) j 0 kd) j 1 dr) j 2 fl).2.1 j 0), aI ((uN (uN (uN (uR (uR st (2 * j) []) (2 * j + 1) []) j 0 kd) j 1 dr) j 2 fl).2.1 j 1), aI ((uN (uN (uN (uR (uR st (2 * j) []) (2 * j + 1) []) j 0 kd) j 1 dr) j 2 fl).2.1 j 2), aI 0, aI ((uN (uN (uN (uR (uR st (2 * j) []) (2 * j + 1) []) j 0 kd) j 1 dr) j 2 fl).2.1 j 4), aI ((uN (uN (uN (uR (uR st (2 * j) []) (2 * j + 1) []) j 0 kd) j 1 dr) j 2 fl).2.1 j 5)]) = hh6
  have hW : WC K hh6 g (uN (uN (uN (uN (uR (uR st (2 * j) []) (2 * j + 1) []) j 0 kd) j 1 dr) j 2 fl) j 3 0) cb sb := by
    rw [← hg_hh6]
    exact hW.setN hj (by simp [uN, va_up])
  refine g_aload_n rfl rfl ?_
  refine g_iconst (n := 0) rfl (by decide) ?_
  refine g_put (ci := 0) (kk := 6) (fs' := [aR (g (2 * j)), aR (g (2 * j + 1)), aI ((uN (uN (uN (uN (uR (uR st (2 * j) []) (2 * j + 1) []) j 0 kd) j 1 dr) j 2 fl) j 3 0).2.1 j 0), aI ((uN (uN (uN (uN (uR (uR st (2 * j) []) (2 * j + 1) []) j 0 kd) j 1 dr) j 2 fl) j 3 0).2.1 j 1), aI ((uN (uN (uN (uN (uR (uR st (2 * j) []) (2 * j + 1) []) j 0 kd) j 1 dr) j 2 fl) j 3 0).2.1 j 2), aI ((uN (uN (uN (uN (uR (uR st (2 * j) []) (2 * j + 1) []) j 0 kd) j 1 dr) j 2 fl) j 3 0).2.1 j 3), aI 0, aI ((uN (uN (uN (uN (uR (uR st (2 * j) []) (2 * j + 1) []) j 0 kd) j 1 dr) j 2 fl) j 3 0).2.1 j 5)]) rfl rfl (hW.node hj) (hW.nodeb hj) (Nat.le_of_ble_eq_true rfl) rfl (by decide) rfl ?_
  generalize hg_hh7 : hput hh6 (g (400 + j)) (eO 0 [aR (g (2 * j)), aR (g (2 * j + 1)), aI ((uN (uN (uN (uN (uR (uR st (2 * j) []) (2 * j + 1) []) j 0 kd) j 1 dr) j 2 fl) j 3 0).2.1 j 0), aI ((uN (uN (uN (uN (uR (uR st (2 * j) []) (2 * j + 1) []) j 0 kd) j 1 dr) j 2 fl) j 3 0).2.1 j 1), aI ((uN (uN (uN (uN (uR (uR st (2 * j) []) (2 * j + 1) []) j 0 kd) j 1 dr) j 2 fl) j 3 0).2.1 j 2), aI ((uN (uN (uN (uN (uR (uR st (2 * j) []) (2 * j + 1) []) j 0 kd) j 1 dr) j 2 fl) j 3 0).2.1 j 3), aI 0, aI ((uN (uN (uN (uN (uR (uR st (2 * j) []) (2 * j + 1) []) j 0 kd) j 1 dr) j 2 fl) j 3 0).2.1 j 5)]) = hh7
  have hW : WC K hh7 g (uN (uN (uN (uN (uN (uR (uR st (2 * j) []) (2 * j + 1) []) j 0 kd) j 1 dr) j 2 fl) j 3 0) j 4 0) cb sb := by
    rw [← hg_hh7]
    exact hW.setN hj (by simp [uN, va_up])
  refine g_aload_n rfl rfl ?_
  refine g_iconst (n := 0) rfl (by decide) ?_
  refine g_put (ci := 0) (kk := 7) (fs' := [aR (g (2 * j)), aR (g (2 * j + 1)), aI ((uN (uN (uN (uN (uN (uR (uR st (2 * j) []) (2 * j + 1) []) j 0 kd) j 1 dr) j 2 fl) j 3 0) j 4 0).2.1 j 0), aI ((uN (uN (uN (uN (uN (uR (uR st (2 * j) []) (2 * j + 1) []) j 0 kd) j 1 dr) j 2 fl) j 3 0) j 4 0).2.1 j 1), aI ((uN (uN (uN (uN (uN (uR (uR st (2 * j) []) (2 * j + 1) []) j 0 kd) j 1 dr) j 2 fl) j 3 0) j 4 0).2.1 j 2), aI ((uN (uN (uN (uN (uN (uR (uR st (2 * j) []) (2 * j + 1) []) j 0 kd) j 1 dr) j 2 fl) j 3 0) j 4 0).2.1 j 3), aI ((uN (uN (uN (uN (uN (uR (uR st (2 * j) []) (2 * j + 1) []) j 0 kd) j 1 dr) j 2 fl) j 3 0) j 4 0).2.1 j 4), aI 0]) rfl rfl (hW.node hj) (hW.nodeb hj) (Nat.le_of_ble_eq_true rfl) rfl (by decide) rfl ?_
  generalize hg_hh8 : hput hh7 (g (400 + j)) (eO 0 [aR (g (2 * j)), aR (g (2 * j + 1)), aI ((uN (uN (uN (uN (uN (uR (uR st (2 * j) []) (2 * j + 1) []) j 0 kd) j 1 dr) j 2 fl) j 3 0) j 4 0).2.1 j 0), aI ((uN (uN (uN (uN (uN (uR (uR st (2 * j) []) (2 * j + 1) []) j 0 kd) j 1 dr) j 2 fl) j 3 0) j 4 0).2.1 j 1), aI ((uN (uN (uN (uN (uN (uR (uR st (2 * j) []) (2 * j + 1) []) j 0 kd) j 1 dr) j 2 fl) j 3 0) j 4 0).2.1 j 2), aI ((uN (uN (uN (uN (uN (uR (uR st (2 * j) []) (2 * j + 1) []) j 0 kd) j 1 dr) j 2 fl) j 3 0) j 4 0).2.1 j 3), aI ((uN (uN (uN (uN (uN (uR (uR st (2 * j) []) (2 * j + 1) []) j 0 kd) j 1 dr) j 2 fl) j 3 0) j 4 0).2.1 j 4), aI 0]) = hh8
  have hW : WC K hh8 g (uN (uN (uN (uN (uN (uN (uR (uR st (2 * j) []) (2 * j + 1) []) j 0 kd) j 1 dr) j 2 fl) j 3 0) j 4 0) j 5 0) cb sb := by
    rw [← hg_hh8]
    exact hW.setN hj (by simp [uN, va_up])
  exact r_v rfl rfl hW
theorem bgn_C (st : CS) (j : Nat) (kd dr fl : Int) : (bgn st j kd dr fl).2.2 = st.2.2 := rfl
theorem c_clear (hd3 : 3 ≤ d) (hW : WC K h g st cb sb) (ht : t < 2) : Cal d yTr_clear [aR (g (500 + t))] h (RV none (fun h2 => WC K h2 g (uC (bgn st (st.2.2.1 t 0) 0 (-1) (-1)) t 1) cb sb)) := by
  show Go _ _ 0 [aR (g (500 + t))] [] _ _
  refine g_aload_n rfl rfl ?_
  refine g_get (ci := 4) (kk := 0) rfl rfl (hW.tree ht) (hW.treeb ht) rfl ?_
  refine g_iconst (n := 0) rfl (by decide) ?_
  refine g_aald (b := g (400 + st.2.2.1 t 0)) rfl (hW.arr ht) (by decide) (hW.arrb ht) (by omega) rfl ?_
  refine g_iconst (n := 0) rfl (by decide) ?_
  refine g_iconst (n := -1) rfl (by decide) ?_
  refine g_iconst (n := -1) rfl (by decide) ?_
  refine g_Vn (z := yNd_begin) (e := 1) (A := [aI (-1), aI (-1), aI 0]) (rest := [])  rfl rfl rfl rfl rfl rfl (by omega) (hW.node (hW.pm ht (by omega))) (hW.nodeb (hW.pm ht (by omega))) (c_begin (by omega) hW (hW.pm ht (by omega)) _ _ _) ?_
  intro hh1 hW
  refine g_aload_n rfl rfl ?_
  refine g_iconst (n := 1) rfl (by decide) ?_
  refine g_put (ci := 4) (kk := 1) (fs' := [aR (g (510 + t)), aI 1, aR (g (520 + t))]) rfl rfl (hW.tree ht) (hW.treeb ht) (Nat.le_of_ble_eq_true rfl) rfl (by decide) rfl ?_
  generalize hg_hh2 : hput hh1 (g (500 + t)) (eO 4 [aR (g (510 + t)), aI 1, aR (g (520 + t))]) = hh2
  have hW : WC K hh2 g (uC (bgn st (st.2.2.1 t 0) 0 (-1) (-1)) t 1) cb sb := by
    rw [← hg_hh2]
    exact hW.setC ht (n := 1) (by omega)
  exact r_v rfl rfl hW
theorem bgn_row (st : CS) (j : Nat) (kd dr fl : Int) {r : Nat} (h1 : r ≠ 2 * j) (h2 : r ≠ 2 * j + 1) : (bgn st j kd dr fl).1 r = st.1 r := by
  show va_up (va_up st.1 (2 * j) []) (2 * j + 1) [] r = _
  simp [va_up, h1, h2]
theorem c_add (hd3 : 3 ≤ d) (hW : WC K h g st cb sb) (ht : t < 2) (hr : 120 ≤ r ∧ r < 125) (hc : (st.2.2.2.1 t) < 30) (dir kind file f e : Int) (h0 : 0 ≤ f) (h1 : f ≤ e) (h2 : e ≤ (st.1 r).length) : Cal d yTr_add [aR (g (500 + t)), aI dir, aI kind, aI file, aR (g r), aI f, aI e] h (RV (some (aI ((st.2.2.2.1 t)))) (fun h2 => WC K h2 g (trAdd st t r dir kind file f e) cb sb)) := by
  have hpm := hW.pm ht hc
  have hrow : (bgn st (st.2.2.1 t ((st.2.2.2.1 t))) kind dir file).1 r = st.1 r := bgn_row _ _ _ _ _ (by omega) (by omega)
  show Go _ _ 0 [aR (g (500 + t)), aI dir, aI kind, aI file, aR (g r), aI f, aI e] [] _ _
  refine g_aload_n rfl rfl ?_
  refine g_get (ci := 4) (kk := 1) rfl rfl (hW.tree ht) (hW.treeb ht) rfl ?_
  refine g_bipush (n := 30) rfl (by decide) ?_
  refine g_icmplt rfl rfl (fun c1 => ?_) (fun c => absurd c (by omega))
  refine g_aload_n rfl rfl ?_
  refine g_get (ci := 4) (kk := 0) rfl rfl (hW.tree ht) (hW.treeb ht) rfl ?_
  refine g_aload_n rfl rfl ?_
  refine g_get (ci := 4) (kk := 1) rfl rfl (hW.tree ht) (hW.treeb ht) rfl ?_
  refine g_aald (b := g (400 + st.2.2.1 t (((st.2.2.2.1 t))))) rfl (hW.arr ht) (by decide) (hW.arrb ht) (by omega) rfl ?_
  refine g_iload_n rfl rfl ?_
  refine g_iload_n rfl rfl ?_
  refine g_iload_n rfl rfl ?_
  refine g_Vn (z := yNd_begin) (e := 1) (A := [aI file, aI dir, aI kind]) (rest := [])  rfl rfl rfl rfl rfl rfl (by omega) (hW.node (hW.pm ht (by omega))) (hW.nodeb (hW.pm ht (by omega))) (c_begin (by omega) hW hpm _ _ _) ?_
  intro hh2 hW
  refine g_aload_n rfl rfl ?_
  refine g_get (ci := 4) (kk := 0) rfl rfl (hW.tree ht) (hW.treeb ht) rfl ?_
  refine g_aload_n rfl rfl ?_
  refine g_get (ci := 4) (kk := 1) rfl rfl (hW.tree ht) (hW.treeb ht) rfl ?_
  refine g_aald (b := g (400 + st.2.2.1 t ((st.2.2.2.1 t)))) rfl (hW.arr ht) (by decide) (hW.arrb ht) (by have e0 : (bgn st (st.2.2.1 t ((st.2.2.2.1 t))) kind dir file).2.2.2.1 t = (st.2.2.2.1 t) := rfl; omega) rfl ?_
  refine g_get (ci := 0) (kk := 0) rfl rfl (hW.node hpm) (hW.nodeb hpm) rfl ?_
  refine g_aload rfl rfl ?_
  refine g_iload rfl rfl ?_
  refine g_iload rfl rfl ?_
  refine g_Vn (z := yRw_copySlice) (e := 1) (A := [aI e, aI f, aR (g r)]) (rest := [])  rfl rfl rfl rfl rfl rfl (by omega) (hW.row (by omega)) (hW.rowb (by omega)) (c_copySlice (by omega) hW (r := 2 * st.2.2.1 t ((st.2.2.2.1 t))) (r2 := r) (by omega) (by omega) (by omega) f e h0 h1 (by rw [hrow]; exact h2)) ?_
  intro hh3 hW
  rw [hrow] at hW
  have e1 : ((uR (bgn st (st.2.2.1 t ((st.2.2.2.1 t))) kind dir file) (2 * st.2.2.1 t ((st.2.2.2.1 t))) (cps (st.1 r) f e))).2.2.2.1 t = (st.2.2.2.1 t) := rfl
  refine g_aload_n rfl rfl ?_
  refine g_dup rfl rfl ?_
  refine g_get (ci := 4) (kk := 1) rfl rfl (hW.tree ht) (hW.treeb ht) rfl ?_
  refine g_iconst (n := 1) rfl (by decide) ?_
  refine g_iadd rfl (by omega) ?_
  refine g_put (ci := 4) (kk := 1) (fs' := [aR (g (510 + t)), aI (((((uR (bgn st (st.2.2.1 t ((st.2.2.2.1 t))) kind dir file) (2 * st.2.2.1 t ((st.2.2.2.1 t))) (cps (st.1 r) f e)).2.2.2.1 t) : Int)) + 1), aR (g (520 + t))]) rfl rfl (hW.tree ht) (hW.treeb ht) (Nat.le_of_ble_eq_true rfl) rfl (by decide) rfl ?_
  generalize hg_hh4 : hput hh3 (g (500 + t)) (eO 4 [aR (g (510 + t)), aI (((((uR (bgn st (st.2.2.1 t ((st.2.2.2.1 t))) kind dir file) (2 * st.2.2.1 t ((st.2.2.2.1 t))) (cps (st.1 r) f e)).2.2.2.1 t) : Int)) + 1), aR (g (520 + t))]) = hh4
  have hW : WC K hh4 g (trAdd st t r dir kind file f e) cb sb := by
    rw [← hg_hh4]
    exact hW.setC ht (n := (st.2.2.2.1 t) + 1) (by omega)
  have e2 : (trAdd st t r dir kind file f e).2.2.2.1 t = (st.2.2.2.1 t) + 1 := by simp [trAdd, uC, va_up]
  refine g_aload_n rfl rfl ?_
  refine g_get (ci := 4) (kk := 1) rfl rfl (hW.tree ht) (hW.treeb ht) rfl ?_
  refine g_iconst (n := 1) rfl (by decide) ?_
  refine g_isub rfl (by omega) ?_
  exact r_i rfl rfl (by omega) hW
theorem upl_stop {st : CS} {t n : Nat} {a : Int} (h : ¬ (0 < a ∧ a < (st.2.2.2.1 t))) : upl st t n a = [] := by
  cases n with
  | zero => rfl
  | succ n => unfold upl; rw [if_neg h]
theorem sp_loop (ht : t < 2) (hr : 120 ≤ r ∧ r < 125) (i0 : Int) : ∀ (n lv : Nat) (a fr : Int) (X rest : List Int) (h : AH), lv + n = 30 → WC K h g (uR st r X) cb sb → fr = (upl st t n a).length → X.length = (upl st t n a).length + rest.length → (∀ j, j < rest.length → X.getD (fr.toNat + j) 0 = rest.getD j 0) → Go (d + 2) yTr_spellPath 39 [aR (g (500 + t)), aI i0, aR (g r), aI fr, aI a, aI lv] [] h (RV none (fun h2 => WC K h2 g (uR st r (upl st t n a ++ rest)) cb sb)) := by
  intro n
  induction n with
  | zero =>
    intro lv a fr X rest h hlv hW hfr hX hre
    have e : upl st t 0 a ++ rest = X := by
      refine li_ext (by rw [List.length_append]; omega) (fun j hj => ?_)
      have e0 : fr.toNat = 0 := by rw [hfr]; rfl
      have := hre j (by rw [List.length_append] at hj; have : (upl st t 0 a).length = 0 := rfl; omega)
      rw [e0, Nat.zero_add] at this
      rw [this]
      rfl
    rw [e]
    refine g_iload rfl rfl ?_
    refine g_bipush (n := 30) rfl (by decide) ?_
    refine g_icmpge rfl rfl (fun c1 => ?_) (fun c => absurd c (by omega))
    exact r_v rfl rfl hW
  | succ n ih =>
    intro lv a fr X rest h hlv hW hfr hX hre
    have hcn := hW.cnt ht
    have hC : (uR st r X).2.2.2.1 t = (st.2.2.2.1 t) := rfl
    have hxl := hW.len (r := r) (by omega)
    rw [uR_get] at hxl
    by_cases hsa : 0 < a ∧ a < (st.2.2.2.1 t)
    · have hu : upl st t (n + 1) a = upl st t n ((st.2.1 (st.2.2.1 t a.toNat) 1)) ++ ((st.1 (2 * st.2.2.1 t a.toNat)) ++ (if n + 1 < 30 then [47] else [])) := by rw [upl, if_pos hsa]
      have hpm := hW.pm ht (i := a.toNat) (by omega)
      have hpm2 : st.2.2.1 t a.toNat < 60 := hpm
      have hnm : (uR st r X).1 (2 * (uR st r X).2.2.1 t a.toNat) = (st.1 (2 * st.2.2.1 t a.toNat)) := uR_ne _ _ (by show 2 * st.2.2.1 t a.toNat ≠ r; omega)
      have hnml : ((uR st r X).1 (2 * (uR st r X).2.2.1 t a.toNat)).length = ((st.1 (2 * st.2.2.1 t a.toNat))).length := by rw [hnm]
      rw [hu] at hfr hX ⊢
      generalize hU : upl st t n ((st.2.1 (st.2.2.1 t a.toNat) 1)) = U at *
      generalize hN : (st.1 (2 * st.2.2.1 t a.toNat)) = Nm at *
      by_cases hl0 : n + 1 < 30
      · rw [if_pos hl0] at hfr hX ⊢
        simp only [List.length_append, List.length_cons, List.length_nil] at hfr hX
        refine g_iload rfl rfl ?_
        refine g_bipush (n := 30) rfl (by decide) ?_
        refine g_icmpge rfl rfl (fun c => absurd c (by omega)) (fun c1 => ?_)
        refine g_iload rfl rfl ?_
        refine g_ifle rfl rfl (fun c => absurd c (by omega)) (fun c2 => ?_)
        refine g_aload_n rfl rfl ?_
        refine g_iload rfl rfl ?_
        refine g_V (z := yTr_has) (e := 1) (A := [aI a]) (rest := []) (v := aI (pz (hs (uR st r X) t a))) (P := fun h2 => h2 = h) rfl rfl rfl rfl rfl rfl (by omega) (hW.tree ht) (hW.treeb ht) (c_has hW ht a) ?_
        intro hh9 he9
        rw [he9]
        clear he9 hh9
        refine g_ifeq rfl rfl (fun c => absurd c (by rw [pz_t (show hs (uR st r X) t a from ⟨by omega, by omega⟩)]; decide)) (fun c3 => ?_)
        refine g_iload rfl rfl ?_
        refine g_ifle rfl rfl (fun c => absurd c (by omega)) (fun c4 => ?_)
        refine g_iinc (L' := [aR (g (500 + t)), aI i0, aR (g r), aI (fr + (-1)), aI a, aI ((lv : Int))]) rfl rfl (by omega) rfl ?_
        refine g_aload_n rfl rfl ?_
        refine g_iload_n rfl rfl ?_
        refine g_bipush (n := 47) rfl (by decide) ?_
        refine g_Vn (z := yRw_put) (e := 1) (A := [aI 47, aI (fr + (-1))]) (rest := [])  rfl rfl rfl rfl rfl rfl (by omega) (hW.row (by omega)) (hW.rowb (by omega)) (c_put hW (by omega) _ _) ?_
        intro hh5 hW
        rw [uR_uR, uR_get] at hW
        have hx1l : (rput X (fr + -1) 47).length = X.length := rput_len _ _ _
        have hC2 : (uR st r (rput X (fr + -1) 47)).2.2.2.1 t = (st.2.2.2.1 t) := rfl
        have hnm2 : (uR st r (rput X (fr + -1) 47)).1 (2 * (uR st r (rput X (fr + -1) 47)).2.2.1 t a.toNat) = Nm := by rw [← hN]; exact uR_ne _ _ (by show 2 * st.2.2.1 t a.toNat ≠ r; omega)
        have hnml2 : ((uR st r (rput X (fr + -1) 47)).1 (2 * (uR st r (rput X (fr + -1) 47)).2.2.1 t a.toNat)).length = Nm.length := by rw [hnm2]
        refine g_iload_n rfl rfl ?_
        refine g_aload_n rfl rfl ?_
        refine g_get (ci := 4) (kk := 0) rfl rfl (hW.tree ht) (hW.treeb ht) rfl ?_
        refine g_iload rfl rfl ?_
        refine g_aald (b := g (400 + (uR st r (rput X (fr + -1) 47)).2.2.1 t a.toNat)) rfl (hW.arr ht) (by decide) (hW.arrb ht) (by omega) rfl ?_
        refine g_get (ci := 0) (kk := 0) rfl rfl (hW.node (hW.pm ht (by omega))) (hW.nodeb (hW.pm ht (by omega))) rfl ?_
        refine g_get (ci := 2) (kk := 1) rfl rfl (hW.row (by have := hW.pm ht (i := a.toNat) (by omega); omega)) (hW.rowb (by have := hW.pm ht (i := a.toNat) (by omega); omega)) rfl ?_
        refine g_isub rfl (by omega) ?_
        refine g_istore_n (L' := [aR (g (500 + t)), aI i0, aR (g r), aI ((fr + (-1)) - ((((uR st r (rput X (fr + -1) 47)).1 (2 * (uR st r (rput X (fr + -1) 47)).2.2.1 t a.toNat)).length : Int))), aI a, aI ((lv : Int))]) rfl rfl ?_
        refine g_aload_n rfl rfl ?_
        refine g_iload_n rfl rfl ?_
        refine g_aload_n rfl rfl ?_
        refine g_get (ci := 4) (kk := 0) rfl rfl (hW.tree ht) (hW.treeb ht) rfl ?_
        refine g_iload rfl rfl ?_
        refine g_aald (b := g (400 + (uR st r (rput X (fr + -1) 47)).2.2.1 t a.toNat)) rfl (hW.arr ht) (by decide) (hW.arrb ht) (by omega) rfl ?_
        refine g_get (ci := 0) (kk := 0) rfl rfl (hW.node (hW.pm ht (by omega))) (hW.nodeb (hW.pm ht (by omega))) rfl ?_
        refine g_Vn (z := yRw_putAll) (e := 1) (A := [aR (g (2 * (uR st r (rput X (fr + -1) 47)).2.2.1 t a.toNat)), aI ((fr + (-1)) - ((((uR st r (rput X (fr + -1) 47)).1 (2 * (uR st r (rput X (fr + -1) 47)).2.2.1 t a.toNat)).length : Int)))]) (rest := [])  rfl rfl rfl rfl rfl rfl (by omega) (hW.row (by omega)) (hW.rowb (by omega)) (c_putAll (by omega) hW (r := r) (r2 := 2 * (uR st r (rput X (fr + -1) 47)).2.2.1 t a.toNat) (by omega) (by show 2 * st.2.2.1 t a.toNat < 125; omega) (by show 2 * st.2.2.1 t a.toNat ≠ r; omega) ((fr + (-1)) - ((((uR st r (rput X (fr + -1) 47)).1 (2 * (uR st r (rput X (fr + -1) 47)).2.2.1 t a.toNat)).length : Int))) (by omega) (by rw [uR_get]; omega)) ?_
        intro hh6 hW
        rw [uR_uR, uR_get, hnm2] at hW
        rw [hnm2]
        generalize hpp : fr + -1 - (Nm.length : Int) = p at hW ⊢
        have hX2 : ∀ j, j < (Nm ++ ([47] ++ rest)).length → (ovl (rput X (fr + -1) 47) p Nm).getD (p.toNat + j) 0 = (Nm ++ ([47] ++ rest)).getD j 0 := fun j hj => by
          simp only [List.length_append, List.length_cons, List.length_nil] at hj
          rw [ovl_get (by omega), getD_app]
          by_cases h1 : j < Nm.length
          · rw [if_pos ⟨by omega, by omega⟩, if_pos h1]
            congr 1
            omega
          · rw [if_neg (by omega), if_neg h1, getD_app]
            by_cases h2 : j - Nm.length < 1
            · rw [if_pos (by simp only [List.length_cons, List.length_nil]; omega), rput_get (by omega) (by omega), if_pos (by omega), show j - Nm.length = 0 by omega]
              decide
            · rw [if_neg (by simp only [List.length_cons, List.length_nil]; omega), rput_get (by omega) (by omega), if_neg (by omega)]
              have := hre (j - Nm.length - 1) (by omega)
              simp only [List.length_cons, List.length_nil]
              rw [← this]
              congr 1
              omega
        have hol : (ovl (rput X (fr + -1) 47) p Nm).length = (rput X (fr + -1) 47).length := ovl_len _ _ _
        generalize hY : ovl (rput X (fr + -1) 47) p Nm = Y at hW hX2 hol ⊢
        refine g_aload_n rfl rfl ?_
        refine g_get (ci := 4) (kk := 0) rfl rfl (hW.tree ht) (hW.treeb ht) rfl ?_
        refine g_iload rfl rfl ?_
        refine g_aald (b := g (400 + (uR st r Y).2.2.1 t a.toNat)) rfl (hW.arr ht) (by decide) (hW.arrb ht) (by omega) rfl ?_
        refine g_get (ci := 0) (kk := 3) rfl rfl (hW.node (hW.pm ht (by omega))) (hW.nodeb (hW.pm ht (by omega))) rfl ?_
        refine g_istore (L' := [aR (g (500 + t)), aI i0, aR (g r), aI p, aI (((uR st r Y).2.1 ((uR st r Y).2.2.1 t a.toNat) 1)), aI ((lv : Int))]) rfl rfl ?_
        refine g_iinc (L' := [aR (g (500 + t)), aI i0, aR (g r), aI p, aI (((uR st r Y).2.1 ((uR st r Y).2.2.1 t a.toNat) 1)), aI ((lv : Int) + 1)]) rfl rfl (by omega) rfl ?_
        refine g_goto rfl rfl ?_
        have h9 := ih (lv + 1) ((st.2.1 (st.2.2.1 t a.toNat) 1)) p Y (Nm ++ ([47] ++ rest)) _ (by omega) hW (by rw [hU]; omega) (by rw [hU]; simp only [List.length_append, List.length_cons, List.length_nil]; omega) hX2
        rw [hU, show U ++ (Nm ++ ([47] ++ rest)) = U ++ (Nm ++ [47]) ++ rest by simp] at h9
        exact h9
      · rw [if_neg hl0] at hfr hX ⊢
        simp only [List.length_append, List.length_nil] at hfr hX
        refine g_iload rfl rfl ?_
        refine g_bipush (n := 30) rfl (by decide) ?_
        refine g_icmpge rfl rfl (fun c => absurd c (by omega)) (fun c1 => ?_)
        refine g_iload rfl rfl ?_
        refine g_ifle rfl rfl (fun c => absurd c (by omega)) (fun c2 => ?_)
        refine g_aload_n rfl rfl ?_
        refine g_iload rfl rfl ?_
        refine g_V (z := yTr_has) (e := 1) (A := [aI a]) (rest := []) (v := aI (pz (hs (uR st r X) t a))) (P := fun h2 => h2 = h) rfl rfl rfl rfl rfl rfl (by omega) (hW.tree ht) (hW.treeb ht) (c_has hW ht a) ?_
        intro hh9 he9
        rw [he9]
        clear he9 hh9
        refine g_ifeq rfl rfl (fun c => absurd c (by rw [pz_t (show hs (uR st r X) t a from ⟨by omega, by omega⟩)]; decide)) (fun c3 => ?_)
        refine g_iload rfl rfl ?_
        refine g_ifle rfl rfl (fun c4 => ?_) (fun c => absurd c (by omega))
        refine g_iload_n rfl rfl ?_
        refine g_aload_n rfl rfl ?_
        refine g_get (ci := 4) (kk := 0) rfl rfl (hW.tree ht) (hW.treeb ht) rfl ?_
        refine g_iload rfl rfl ?_
        refine g_aald (b := g (400 + (uR st r X).2.2.1 t a.toNat)) rfl (hW.arr ht) (by decide) (hW.arrb ht) (by omega) rfl ?_
        refine g_get (ci := 0) (kk := 0) rfl rfl (hW.node (hW.pm ht (by omega))) (hW.nodeb (hW.pm ht (by omega))) rfl ?_
        refine g_get (ci := 2) (kk := 1) rfl rfl (hW.row (by have := hW.pm ht (i := a.toNat) (by omega); omega)) (hW.rowb (by have := hW.pm ht (i := a.toNat) (by omega); omega)) rfl ?_
        refine g_isub rfl (by omega) ?_
        refine g_istore_n (L' := [aR (g (500 + t)), aI i0, aR (g r), aI (fr - ((((uR st r X).1 (2 * (uR st r X).2.2.1 t a.toNat)).length : Int))), aI a, aI ((lv : Int))]) rfl rfl ?_
        refine g_aload_n rfl rfl ?_
        refine g_iload_n rfl rfl ?_
        refine g_aload_n rfl rfl ?_
        refine g_get (ci := 4) (kk := 0) rfl rfl (hW.tree ht) (hW.treeb ht) rfl ?_
        refine g_iload rfl rfl ?_
        refine g_aald (b := g (400 + (uR st r X).2.2.1 t a.toNat)) rfl (hW.arr ht) (by decide) (hW.arrb ht) (by omega) rfl ?_
        refine g_get (ci := 0) (kk := 0) rfl rfl (hW.node (hW.pm ht (by omega))) (hW.nodeb (hW.pm ht (by omega))) rfl ?_
        refine g_Vn (z := yRw_putAll) (e := 1) (A := [aR (g (2 * (uR st r X).2.2.1 t a.toNat)), aI (fr - ((((uR st r X).1 (2 * (uR st r X).2.2.1 t a.toNat)).length : Int)))]) (rest := [])  rfl rfl rfl rfl rfl rfl (by omega) (hW.row (by omega)) (hW.rowb (by omega)) (c_putAll (by omega) hW (r := r) (r2 := 2 * (uR st r X).2.2.1 t a.toNat) (by omega) (by show 2 * st.2.2.1 t a.toNat < 125; omega) (by show 2 * st.2.2.1 t a.toNat ≠ r; omega) (fr - ((((uR st r X).1 (2 * (uR st r X).2.2.1 t a.toNat)).length : Int))) (by omega) (by rw [uR_get]; omega)) ?_
        intro hh5 hW
        rw [uR_uR, uR_get, hnm] at hW
        rw [hnm]
        generalize hpp : fr - (Nm.length : Int) = p at hW ⊢
        have hX2 : ∀ j, j < (Nm ++ ([] ++ rest)).length → (ovl X p Nm).getD (p.toNat + j) 0 = (Nm ++ ([] ++ rest)).getD j 0 := fun j hj => by
          simp only [List.length_append, List.length_cons, List.length_nil] at hj
          rw [ovl_get (by omega), getD_app]
          by_cases h1 : j < Nm.length
          · rw [if_pos ⟨by omega, by omega⟩, if_pos h1]
            congr 1
            omega
          · rw [if_neg (by omega), if_neg h1, getD_app]
            rw [if_neg (by simp)]
            have := hre (j - Nm.length) (by omega)
            simp only [List.length_nil, Nat.sub_zero]
            rw [← this]
            congr 1
            omega
        have hol : (ovl X p Nm).length = X.length := ovl_len _ _ _
        generalize hY : ovl X p Nm = Y at hW hX2 hol ⊢
        refine g_aload_n rfl rfl ?_
        refine g_get (ci := 4) (kk := 0) rfl rfl (hW.tree ht) (hW.treeb ht) rfl ?_
        refine g_iload rfl rfl ?_
        refine g_aald (b := g (400 + (uR st r Y).2.2.1 t a.toNat)) rfl (hW.arr ht) (by decide) (hW.arrb ht) (by omega) rfl ?_
        refine g_get (ci := 0) (kk := 3) rfl rfl (hW.node (hW.pm ht (by omega))) (hW.nodeb (hW.pm ht (by omega))) rfl ?_
        refine g_istore (L' := [aR (g (500 + t)), aI i0, aR (g r), aI p, aI (((uR st r Y).2.1 ((uR st r Y).2.2.1 t a.toNat) 1)), aI ((lv : Int))]) rfl rfl ?_
        refine g_iinc (L' := [aR (g (500 + t)), aI i0, aR (g r), aI p, aI (((uR st r Y).2.1 ((uR st r Y).2.2.1 t a.toNat) 1)), aI ((lv : Int) + 1)]) rfl rfl (by omega) rfl ?_
        refine g_goto rfl rfl ?_
        have h9 := ih (lv + 1) ((st.2.1 (st.2.2.1 t a.toNat) 1)) p Y (Nm ++ ([] ++ rest)) _ (by omega) hW (by rw [hU]; omega) (by rw [hU]; simp only [List.length_append, List.length_cons, List.length_nil]; omega) hX2
        rw [hU, show U ++ (Nm ++ ([] ++ rest)) = U ++ (Nm ++ []) ++ rest by simp] at h9
        exact h9
    · have e : upl st t (n + 1) a ++ rest = X := by
        rw [upl_stop hsa] at hfr hX ⊢
        refine li_ext (by rw [List.length_append]; omega) (fun j hj => ?_)
        have e0 : fr.toNat = 0 := by rw [hfr]; rfl
        have := hre j (by simpa using hj)
        rw [e0, Nat.zero_add] at this
        rw [this]
        rfl
      rw [e]
      refine g_iload rfl rfl ?_
      refine g_bipush (n := 30) rfl (by decide) ?_
      refine g_icmpge rfl rfl (fun c => absurd c (by omega)) (fun c1 => ?_)
      refine g_iload rfl rfl ?_
      refine g_ifle rfl rfl (fun c2 => ?_) (fun c2 => ?_)
      · skip
        exact r_v rfl rfl hW
      · skip
        refine g_aload_n rfl rfl ?_
        refine g_iload rfl rfl ?_
        refine g_V (z := yTr_has) (e := 1) (A := [aI a]) (rest := []) (v := aI (pz (hs (uR st r X) t a))) (P := fun h2 => h2 = h) rfl rfl rfl rfl rfl rfl (by omega) (hW.tree ht) (hW.treeb ht) (c_has hW ht a) ?_
        intro hh9 he9
        rw [he9]
        clear he9 hh9
        refine g_ifeq rfl rfl (fun c3 => ?_) (fun c => absurd c (by intro q; exact q (pz_f (fun z => by have := z.1; have := z.2; omega))))
        exact r_v rfl rfl hW
theorem c_spellPath (hd2 : 2 ≤ d) (hW : WC K h g st cb sb) (ht : t < 2) (hr : 120 ≤ r ∧ r < 125) (i : Int) (hl : (pth st t i).length ≤ 10240) : Cal d yTr_spellPath [aR (g (500 + t)), aI i, aR (g r)] h (RV none (fun h2 => WC K h2 g (uR st r (pth st t i)) cb sb)) := by
  obtain ⟨d, rfl⟩ : ∃ e, d = e + 2 := ⟨d - 2, by omega⟩
  have hpl := pln_pth st t i
  show Go _ _ 0 [aR (g (500 + t)), aI i, aR (g r), none, none, none] [] _ _
  refine g_aload_n rfl rfl ?_
  refine g_aload_n rfl rfl ?_
  refine g_iload_n rfl rfl ?_
  refine g_V (z := yTr_pathLength) (e := 1) (A := [aI i]) (rest := [aR (g r)]) (v := aI (pln st t i)) (P := fun h2 => h2 = h) rfl rfl rfl rfl rfl rfl (by omega) (hW.tree ht) (hW.treeb ht) (c_pathLength (by omega) hW ht i) ?_
  intro hh9 he9
  rw [he9]
  clear he9 hh9
  refine g_Vn (z := yRw_resize) (e := 1) (A := [aI (pln st t i)]) (rest := [])  rfl rfl rfl rfl rfl rfl (by omega) (hW.row (by omega)) (hW.rowb (by omega)) (c_resize (by omega) hW (by omega) _) ?_
  intro hh1 hW
  rw [hpl, rsz_oF _ (by omega) (by omega), Int.toNat_natCast] at hW
  have hrl : ((uR st r (oF (pth st t i).length (fun j => (st.1 r).getD j 0))).1 r).length = (pth st t i).length := by rw [uR_get, oF_len]
  refine g_aload_n rfl rfl ?_
  refine g_get (ci := 2) (kk := 1) rfl rfl (hW.row (by omega)) (hW.rowb (by omega)) rfl ?_
  refine g_istore_n (L' := [aR (g (500 + t)), aI i, aR (g r), aI ((((uR st r (oF (pth st t i).length (fun j => (st.1 r).getD j 0))).1 r).length : Int)), none, none]) rfl rfl ?_
  refine g_aload_n rfl rfl ?_
  refine g_iload_n rfl rfl ?_
  refine g_iconst (n := 0) rfl (by decide) ?_
  refine g_V (z := yTr_isOfKind) (e := 1) (A := [aI 0, aI i]) (rest := []) (v := aI (pz (isK (uR st r (oF (pth st t i).length (fun j => (st.1 r).getD j 0))) t i 0))) (P := fun h2 => h2 = hh1) rfl rfl rfl rfl rfl rfl (by omega) (hW.tree ht) (hW.treeb ht) (c_isOfKind hW ht i 0) ?_
  intro hh9 he9
  rw [he9]
  clear he9 hh9
  have hKe : pz (isK (uR st r (oF (pth st t i).length (fun j => (st.1 r).getD j 0))) t i 0) = pz (isK st t i 0) := rfl
  rw [hKe]
  refine g_ifeq rfl rfl (fun c2 => ?_) (fun c2 => ?_)
  · skip
    have cK := c2
    refine g_iload_n rfl rfl ?_
    refine g_istore (L' := [aR (g (500 + t)), aI i, aR (g r), aI ((((uR st r (oF (pth st t i).length (fun j => (st.1 r).getD j 0))).1 r).length : Int)), aI i, none]) rfl rfl ?_
    refine g_iconst (n := 0) rfl (by decide) ?_
    refine g_istore (L' := [aR (g (500 + t)), aI i, aR (g r), aI ((((uR st r (oF (pth st t i).length (fun j => (st.1 r).getD j 0))).1 r).length : Int)), aI i, aI 0]) rfl rfl ?_
    have hK : ¬ isK st t i 0 := pz_eq cK
    have hp : pth st t i = upl st t 30 i ++ [] := by unfold pth; rw [@if_neg _ (Classical.propDecidable _) hK]
    have hpl2 : (pth st t i).length = (upl st t 30 i).length := by rw [hp]; simp
    have h9 := sp_loop (d := d) ht hr i 30 0 i ((((uR st r (oF (pth st t i).length (fun j => (st.1 r).getD j 0))).1 r).length : Int)) _ [] _ rfl hW (by omega) (by rw [oF_len, hpl2]; simp) (fun j hj => absurd hj (Nat.not_lt_zero _))
    rw [← hp] at h9
    exact h9
  · skip
    have cK := c2
    refine g_iinc (L' := [aR (g (500 + t)), aI i, aR (g r), aI ((((uR st r (oF (pth st t i).length (fun j => (st.1 r).getD j 0))).1 r).length : Int) + (-1)), none, none]) rfl rfl (by omega) rfl ?_
    refine g_aload_n rfl rfl ?_
    refine g_iload_n rfl rfl ?_
    refine g_bipush (n := 47) rfl (by decide) ?_
    refine g_Vn (z := yRw_put) (e := 1) (A := [aI 47, aI ((((uR st r (oF (pth st t i).length (fun j => (st.1 r).getD j 0))).1 r).length : Int) + (-1))]) (rest := [])  rfl rfl rfl rfl rfl rfl (by omega) (hW.row (by omega)) (hW.rowb (by omega)) (c_put hW (by omega) _ _) ?_
    intro hh3 hW
    rw [uR_uR, uR_get] at hW
    refine g_iload_n rfl rfl ?_
    refine g_istore (L' := [aR (g (500 + t)), aI i, aR (g r), aI ((((uR st r (oF (pth st t i).length (fun j => (st.1 r).getD j 0))).1 r).length : Int) + (-1)), aI i, none]) rfl rfl ?_
    refine g_iconst (n := 0) rfl (by decide) ?_
    refine g_istore (L' := [aR (g (500 + t)), aI i, aR (g r), aI ((((uR st r (oF (pth st t i).length (fun j => (st.1 r).getD j 0))).1 r).length : Int) + (-1)), aI i, aI 0]) rfl rfl ?_
    have hol := oF_len (pth st t i).length (fun j => (st.1 r).getD j 0)
    have hK : isK st t i 0 := pz_ne cK
    have hp : pth st t i = upl st t 30 i ++ [47] := by unfold pth; rw [@if_pos _ (Classical.propDecidable _) hK]
    have hpl2 : (pth st t i).length = (upl st t 30 i).length + 1 := by rw [hp]; simp
    have h9 := sp_loop (d := d) ht hr i 30 0 i ((((uR st r (oF (pth st t i).length (fun j => (st.1 r).getD j 0))).1 r).length : Int) + (-1)) _ [47] _ rfl hW (by omega) (by rw [rput_len, oF_len]; simp only [List.length_cons, List.length_nil]; omega) (fun j hj => by
      have hj0 : j = 0 := by simpa using hj
      rw [rput_get (by omega) (by omega), if_pos (by omega), hj0]
      decide)
    rw [← hp] at h9
    exact h9
end Tree2C
end

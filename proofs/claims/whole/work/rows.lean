section
-- ===== PART A: goes FIRST, ahead of the names: the tables' words, and 'selects' of the private methods out of them =====
/-- a private method of a class that the tables say can be made, by its rows of tables_1 -/
def lw_okq (q : MethodName × Nat) : Prop := (q.1.cls ≠ "java/lang/invoke/MethodHandle" ∧ q.1.cls ≠ "java/lang/invoke/VarHandle") ∧ Cond.instantiable q.1.cls q.2 ∈ tables_1 ∧ Cond.privateMethod q.1 ∈ tables_1 ∧ Cond.instanceMethod q.1 ∈ tables_1
theorem lw_p0 : lw_okq (⟨"IsomerList$FormulaReader", "readElement", "(LIsomerList$Line;)I"⟩, 2) := ⟨⟨by decide +kernel, by decide +kernel⟩, List.mem_of_getElem? (i := 44) (by decide +kernel), List.mem_of_getElem? (i := 286) (by decide +kernel), List.mem_of_getElem? (i := 287) (by decide +kernel)⟩
theorem lw_p1 : lw_okq (⟨"IsomerList$FormulaReader", "digitsAhead", "(LIsomerList$Line;)I"⟩, 2) := ⟨⟨by decide +kernel, by decide +kernel⟩, List.mem_of_getElem? (i := 44) (by decide +kernel), List.mem_of_getElem? (i := 306) (by decide +kernel), List.mem_of_getElem? (i := 307) (by decide +kernel)⟩
theorem lw_p2 : lw_okq (⟨"IsomerList$FormulaReader", "numberAhead", "(LIsomerList$Line;I)I"⟩, 2) := ⟨⟨by decide +kernel, by decide +kernel⟩, List.mem_of_getElem? (i := 44) (by decide +kernel), List.mem_of_getElem? (i := 314) (by decide +kernel), List.mem_of_getElem? (i := 315) (by decide +kernel)⟩
theorem lw_p3 : lw_okq (⟨"IsomerList$FormulaReader", "heavyAtoms", "()I"⟩, 2) := ⟨⟨by decide +kernel, by decide +kernel⟩, List.mem_of_getElem? (i := 44) (by decide +kernel), List.mem_of_getElem? (i := 318) (by decide +kernel), List.mem_of_getElem? (i := 319) (by decide +kernel)⟩
theorem lw_p4 : lw_okq (⟨"IsomerList", "listSpare", "()I"⟩, 10) := ⟨⟨by decide +kernel, by decide +kernel⟩, List.mem_of_getElem? (i := 19) (by decide +kernel), List.mem_of_getElem? (i := 326) (by decide +kernel), List.mem_of_getElem? (i := 327) (by decide +kernel)⟩
theorem lw_p5 : lw_okq (⟨"IsomerList$Lister", "sumValences", "()V"⟩, 5) := ⟨⟨by decide +kernel, by decide +kernel⟩, List.mem_of_getElem? (i := 179) (by decide +kernel), List.mem_of_getElem? (i := 353) (by decide +kernel), List.mem_of_getElem? (i := 354) (by decide +kernel)⟩
theorem lw_p6 : lw_okq (⟨"IsomerList$Lister", "endRow", "(III)V"⟩, 5) := ⟨⟨by decide +kernel, by decide +kernel⟩, List.mem_of_getElem? (i := 179) (by decide +kernel), List.mem_of_getElem? (i := 357) (by decide +kernel), List.mem_of_getElem? (i := 358) (by decide +kernel)⟩
theorem lw_p7 : lw_okq (⟨"IsomerList$Lister", "canBeEnded", "(II)Z"⟩, 5) := ⟨⟨by decide +kernel, by decide +kernel⟩, List.mem_of_getElem? (i := 179) (by decide +kernel), List.mem_of_getElem? (i := 361) (by decide +kernel), List.mem_of_getElem? (i := 362) (by decide +kernel)⟩
theorem lw_p8 : lw_okq (⟨"IsomerList$Lister", "countGroups", "(I)I"⟩, 5) := ⟨⟨by decide +kernel, by decide +kernel⟩, List.mem_of_getElem? (i := 179) (by decide +kernel), List.mem_of_getElem? (i := 365) (by decide +kernel), List.mem_of_getElem? (i := 366) (by decide +kernel)⟩
theorem lw_p9 : lw_okq (⟨"IsomerList$Lister", "joinGroups", "(III)V"⟩, 5) := ⟨⟨by decide +kernel, by decide +kernel⟩, List.mem_of_getElem? (i := 179) (by decide +kernel), List.mem_of_getElem? (i := 373) (by decide +kernel), List.mem_of_getElem? (i := 374) (by decide +kernel)⟩
theorem lw_p10 : lw_okq (⟨"IsomerList$Numbering", "canBeBeaten", "(II)Z"⟩, 7) := ⟨⟨by decide +kernel, by decide +kernel⟩, List.mem_of_getElem? (i := 148) (by decide +kernel), List.mem_of_getElem? (i := 381) (by decide +kernel), List.mem_of_getElem? (i := 382) (by decide +kernel)⟩
theorem lw_p11 : lw_okq (⟨"IsomerList$Numbering", "row", "(II)I"⟩, 7) := ⟨⟨by decide +kernel, by decide +kernel⟩, List.mem_of_getElem? (i := 148) (by decide +kernel), List.mem_of_getElem? (i := 388) (by decide +kernel), List.mem_of_getElem? (i := 389) (by decide +kernel)⟩
theorem lw_p12 : lw_okq (⟨"IsomerList$Numbering", "canBeBeatenWith", "(III)Z"⟩, 7) := ⟨⟨by decide +kernel, by decide +kernel⟩, List.mem_of_getElem? (i := 148) (by decide +kernel), List.mem_of_getElem? (i := 392) (by decide +kernel), List.mem_of_getElem? (i := 393) (by decide +kernel)⟩
theorem lw_p13 : lw_okq (⟨"IsomerList$Lister", "bindOn", "(IIII)V"⟩, 5) := ⟨⟨by decide +kernel, by decide +kernel⟩, List.mem_of_getElem? (i := 179) (by decide +kernel), List.mem_of_getElem? (i := 400) (by decide +kernel), List.mem_of_getElem? (i := 401) (by decide +kernel)⟩
theorem lw_p14 : lw_okq (⟨"IsomerList$TextReader", "readAtom", "(LIsomerList$Line;I)I"⟩, 8) := ⟨⟨by decide +kernel, by decide +kernel⟩, List.mem_of_getElem? (i := 60) (by decide +kernel), List.mem_of_getElem? (i := 428) (by decide +kernel), List.mem_of_getElem? (i := 429) (by decide +kernel)⟩
theorem lw_p15 : lw_okq (⟨"IsomerList$TextReader", "readPart", "(LIsomerList$Line;)I"⟩, 8) := ⟨⟨by decide +kernel, by decide +kernel⟩, List.mem_of_getElem? (i := 60) (by decide +kernel), List.mem_of_getElem? (i := 439) (by decide +kernel), List.mem_of_getElem? (i := 440) (by decide +kernel)⟩
def lw_privs_1 : List (MethodName × Nat) := [(⟨"IsomerList$FormulaReader", "readElement", "(LIsomerList$Line;)I"⟩, 2), (⟨"IsomerList$FormulaReader", "digitsAhead", "(LIsomerList$Line;)I"⟩, 2), (⟨"IsomerList$FormulaReader", "numberAhead", "(LIsomerList$Line;I)I"⟩, 2), (⟨"IsomerList$FormulaReader", "heavyAtoms", "()I"⟩, 2), (⟨"IsomerList", "listSpare", "()I"⟩, 10), (⟨"IsomerList$Lister", "sumValences", "()V"⟩, 5), (⟨"IsomerList$Lister", "endRow", "(III)V"⟩, 5), (⟨"IsomerList$Lister", "canBeEnded", "(II)Z"⟩, 5), (⟨"IsomerList$Lister", "countGroups", "(I)I"⟩, 5), (⟨"IsomerList$Lister", "joinGroups", "(III)V"⟩, 5), (⟨"IsomerList$Numbering", "canBeBeaten", "(II)Z"⟩, 7), (⟨"IsomerList$Numbering", "row", "(II)I"⟩, 7), (⟨"IsomerList$Numbering", "canBeBeatenWith", "(III)Z"⟩, 7), (⟨"IsomerList$Lister", "bindOn", "(IIII)V"⟩, 5), (⟨"IsomerList$TextReader", "readAtom", "(LIsomerList$Line;I)I"⟩, 8), (⟨"IsomerList$TextReader", "readPart", "(LIsomerList$Line;)I"⟩, 8)]
theorem lw_r1 : ∀ q ∈ lw_privs_1, lw_okq q := List.forall_mem_cons.mpr ⟨lw_p0, List.forall_mem_cons.mpr ⟨lw_p1, List.forall_mem_cons.mpr ⟨lw_p2, List.forall_mem_cons.mpr ⟨lw_p3, List.forall_mem_cons.mpr ⟨lw_p4, List.forall_mem_cons.mpr ⟨lw_p5, List.forall_mem_cons.mpr ⟨lw_p6, List.forall_mem_cons.mpr ⟨lw_p7, List.forall_mem_cons.mpr ⟨lw_p8, List.forall_mem_cons.mpr ⟨lw_p9, List.forall_mem_cons.mpr ⟨lw_p10, List.forall_mem_cons.mpr ⟨lw_p11, List.forall_mem_cons.mpr ⟨lw_p12, List.forall_mem_cons.mpr ⟨lw_p13, List.forall_mem_cons.mpr ⟨lw_p14, List.forall_mem_cons.mpr ⟨lw_p15, fun _ h => absurd h List.not_mem_nil⟩⟩⟩⟩⟩⟩⟩⟩⟩⟩⟩⟩⟩⟩⟩⟩
theorem lw_p16 : lw_okq (⟨"IsomerList$TextReader", "closeBranch", "()I"⟩, 8) := ⟨⟨by decide +kernel, by decide +kernel⟩, List.mem_of_getElem? (i := 60) (by decide +kernel), List.mem_of_getElem? (i := 444) (by decide +kernel), List.mem_of_getElem? (i := 445) (by decide +kernel)⟩
theorem lw_p17 : lw_okq (⟨"IsomerList$TextReader", "openBranch", "(LIsomerList$Line;)I"⟩, 8) := ⟨⟨by decide +kernel, by decide +kernel⟩, List.mem_of_getElem? (i := 60) (by decide +kernel), List.mem_of_getElem? (i := 448) (by decide +kernel), List.mem_of_getElem? (i := 449) (by decide +kernel)⟩
theorem lw_p18 : lw_okq (⟨"IsomerList$TextReader", "readBond", "(LIsomerList$Line;)I"⟩, 8) := ⟨⟨by decide +kernel, by decide +kernel⟩, List.mem_of_getElem? (i := 60) (by decide +kernel), List.mem_of_getElem? (i := 452) (by decide +kernel), List.mem_of_getElem? (i := 453) (by decide +kernel)⟩
theorem lw_p19 : lw_okq (⟨"IsomerList$TextReader", "readRing", "(II)I"⟩, 8) := ⟨⟨by decide +kernel, by decide +kernel⟩, List.mem_of_getElem? (i := 60) (by decide +kernel), List.mem_of_getElem? (i := 457) (by decide +kernel), List.mem_of_getElem? (i := 458) (by decide +kernel)⟩
theorem lw_p20 : lw_okq (⟨"IsomerList$TextReader", "faultAtEnd", "()I"⟩, 8) := ⟨⟨by decide +kernel, by decide +kernel⟩, List.mem_of_getElem? (i := 60) (by decide +kernel), List.mem_of_getElem? (i := 462) (by decide +kernel), List.mem_of_getElem? (i := 463) (by decide +kernel)⟩
theorem lw_p21 : lw_okq (⟨"IsomerList", "findInList", "(LIsomerList$Molecule;)I"⟩, 10) := ⟨⟨by decide +kernel, by decide +kernel⟩, List.mem_of_getElem? (i := 19) (by decide +kernel), List.mem_of_getElem? (i := 470) (by decide +kernel), List.mem_of_getElem? (i := 471) (by decide +kernel)⟩
theorem lw_p22 : lw_okq (⟨"IsomerList$Numbering", "choose", "(II)V"⟩, 7) := ⟨⟨by decide +kernel, by decide +kernel⟩, List.mem_of_getElem? (i := 148) (by decide +kernel), List.mem_of_getElem? (i := 489) (by decide +kernel), List.mem_of_getElem? (i := 490) (by decide +kernel)⟩
theorem lw_p23 : lw_okq (⟨"IsomerList$Numbering", "noteCode", "(I)V"⟩, 7) := ⟨⟨by decide +kernel, by decide +kernel⟩, List.mem_of_getElem? (i := 148) (by decide +kernel), List.mem_of_getElem? (i := 493) (by decide +kernel), List.mem_of_getElem? (i := 494) (by decide +kernel)⟩
theorem lw_p24 : lw_okq (⟨"java/lang/Throwable", "fillInStackTrace", "(I)Ljava/lang/Throwable;"⟩, 6) := ⟨⟨by decide +kernel, by decide +kernel⟩, List.mem_of_getElem? (i := 559) (by decide +kernel), List.mem_of_getElem? (i := 557) (by decide +kernel), List.mem_of_getElem? (i := 558) (by decide +kernel)⟩
theorem lw_p25 : lw_okq (⟨"IsomerList", "checkAtom", "(I)V"⟩, 10) := ⟨⟨by decide +kernel, by decide +kernel⟩, List.mem_of_getElem? (i := 19) (by decide +kernel), List.mem_of_getElem? (i := 596) (by decide +kernel), List.mem_of_getElem? (i := 597) (by decide +kernel)⟩
theorem lw_p26 : lw_okq (⟨"IsomerList", "checkStructure", "(I)V"⟩, 10) := ⟨⟨by decide +kernel, by decide +kernel⟩, List.mem_of_getElem? (i := 19) (by decide +kernel), List.mem_of_getElem? (i := 622) (by decide +kernel), List.mem_of_getElem? (i := 623) (by decide +kernel)⟩
theorem lw_p27 : lw_okq (⟨"IsomerList$TextWriter", "goThrough", "(II)V"⟩, 6) := ⟨⟨by decide +kernel, by decide +kernel⟩, List.mem_of_getElem? (i := 123) (by decide +kernel), List.mem_of_getElem? (i := 660) (by decide +kernel), List.mem_of_getElem? (i := 661) (by decide +kernel)⟩
theorem lw_p28 : lw_okq (⟨"IsomerList$TextWriter", "meetRing", "(II)V"⟩, 6) := ⟨⟨by decide +kernel, by decide +kernel⟩, List.mem_of_getElem? (i := 123) (by decide +kernel), List.mem_of_getElem? (i := 665) (by decide +kernel), List.mem_of_getElem? (i := 666) (by decide +kernel)⟩
theorem lw_p29 : lw_okq (⟨"IsomerList$TextWriter", "putAtom", "(I)V"⟩, 6) := ⟨⟨by decide +kernel, by decide +kernel⟩, List.mem_of_getElem? (i := 123) (by decide +kernel), List.mem_of_getElem? (i := 670) (by decide +kernel), List.mem_of_getElem? (i := 671) (by decide +kernel)⟩
theorem lw_p30 : lw_okq (⟨"IsomerList$TextWriter", "putRings", "(I)V"⟩, 6) := ⟨⟨by decide +kernel, by decide +kernel⟩, List.mem_of_getElem? (i := 123) (by decide +kernel), List.mem_of_getElem? (i := 679) (by decide +kernel), List.mem_of_getElem? (i := 680) (by decide +kernel)⟩
theorem lw_p31 : lw_okq (⟨"IsomerList$TextWriter", "lastFurtherOn", "(I)I"⟩, 6) := ⟨⟨by decide +kernel, by decide +kernel⟩, List.mem_of_getElem? (i := 123) (by decide +kernel), List.mem_of_getElem? (i := 688) (by decide +kernel), List.mem_of_getElem? (i := 689) (by decide +kernel)⟩
def lw_privs_2 : List (MethodName × Nat) := [(⟨"IsomerList$TextReader", "closeBranch", "()I"⟩, 8), (⟨"IsomerList$TextReader", "openBranch", "(LIsomerList$Line;)I"⟩, 8), (⟨"IsomerList$TextReader", "readBond", "(LIsomerList$Line;)I"⟩, 8), (⟨"IsomerList$TextReader", "readRing", "(II)I"⟩, 8), (⟨"IsomerList$TextReader", "faultAtEnd", "()I"⟩, 8), (⟨"IsomerList", "findInList", "(LIsomerList$Molecule;)I"⟩, 10), (⟨"IsomerList$Numbering", "choose", "(II)V"⟩, 7), (⟨"IsomerList$Numbering", "noteCode", "(I)V"⟩, 7), (⟨"java/lang/Throwable", "fillInStackTrace", "(I)Ljava/lang/Throwable;"⟩, 6), (⟨"IsomerList", "checkAtom", "(I)V"⟩, 10), (⟨"IsomerList", "checkStructure", "(I)V"⟩, 10), (⟨"IsomerList$TextWriter", "goThrough", "(II)V"⟩, 6), (⟨"IsomerList$TextWriter", "meetRing", "(II)V"⟩, 6), (⟨"IsomerList$TextWriter", "putAtom", "(I)V"⟩, 6), (⟨"IsomerList$TextWriter", "putRings", "(I)V"⟩, 6), (⟨"IsomerList$TextWriter", "lastFurtherOn", "(I)I"⟩, 6)]
theorem lw_r2 : ∀ q ∈ lw_privs_2, lw_okq q := List.forall_mem_cons.mpr ⟨lw_p16, List.forall_mem_cons.mpr ⟨lw_p17, List.forall_mem_cons.mpr ⟨lw_p18, List.forall_mem_cons.mpr ⟨lw_p19, List.forall_mem_cons.mpr ⟨lw_p20, List.forall_mem_cons.mpr ⟨lw_p21, List.forall_mem_cons.mpr ⟨lw_p22, List.forall_mem_cons.mpr ⟨lw_p23, List.forall_mem_cons.mpr ⟨lw_p24, List.forall_mem_cons.mpr ⟨lw_p25, List.forall_mem_cons.mpr ⟨lw_p26, List.forall_mem_cons.mpr ⟨lw_p27, List.forall_mem_cons.mpr ⟨lw_p28, List.forall_mem_cons.mpr ⟨lw_p29, List.forall_mem_cons.mpr ⟨lw_p30, List.forall_mem_cons.mpr ⟨lw_p31, fun _ h => absurd h List.not_mem_nil⟩⟩⟩⟩⟩⟩⟩⟩⟩⟩⟩⟩⟩⟩⟩⟩
theorem lw_p32 : lw_okq (⟨"IsomerList$TextWriter", "putBound", "(II)V"⟩, 6) := ⟨⟨by decide +kernel, by decide +kernel⟩, List.mem_of_getElem? (i := 123) (by decide +kernel), List.mem_of_getElem? (i := 692) (by decide +kernel), List.mem_of_getElem? (i := 693) (by decide +kernel)⟩
theorem lw_p33 : lw_okq (⟨"IsomerListModel", "refused", "(I)Z"⟩, 33) := ⟨⟨by decide +kernel, by decide +kernel⟩, List.mem_of_getElem? (i := 696) (by decide +kernel), List.mem_of_getElem? (i := 810) (by decide +kernel), List.mem_of_getElem? (i := 811) (by decide +kernel)⟩
theorem lw_p34 : lw_okq (⟨"IsomerListModel", "elementAt", "(I)I"⟩, 33) := ⟨⟨by decide +kernel, by decide +kernel⟩, List.mem_of_getElem? (i := 696) (by decide +kernel), List.mem_of_getElem? (i := 826) (by decide +kernel), List.mem_of_getElem? (i := 827) (by decide +kernel)⟩
theorem lw_p35 : lw_okq (⟨"IsomerListModel", "at", "(I)C"⟩, 33) := ⟨⟨by decide +kernel, by decide +kernel⟩, List.mem_of_getElem? (i := 696) (by decide +kernel), List.mem_of_getElem? (i := 830) (by decide +kernel), List.mem_of_getElem? (i := 831) (by decide +kernel)⟩
theorem lw_p36 : lw_okq (⟨"IsomerListModel", "fault", "(II)I"⟩, 33) := ⟨⟨by decide +kernel, by decide +kernel⟩, List.mem_of_getElem? (i := 696) (by decide +kernel), List.mem_of_getElem? (i := 834) (by decide +kernel), List.mem_of_getElem? (i := 835) (by decide +kernel)⟩
theorem lw_p37 : lw_okq (⟨"IsomerListModel", "search", "()V"⟩, 33) := ⟨⟨by decide +kernel, by decide +kernel⟩, List.mem_of_getElem? (i := 696) (by decide +kernel), List.mem_of_getElem? (i := 847) (by decide +kernel), List.mem_of_getElem? (i := 848) (by decide +kernel)⟩
theorem lw_p38 : lw_okq (⟨"IsomerListModel", "keep", "(I)V"⟩, 33) := ⟨⟨by decide +kernel, by decide +kernel⟩, List.mem_of_getElem? (i := 696) (by decide +kernel), List.mem_of_getElem? (i := 851) (by decide +kernel), List.mem_of_getElem? (i := 852) (by decide +kernel)⟩
theorem lw_p39 : lw_okq (⟨"IsomerListModel", "isOne", "(I)Z"⟩, 33) := ⟨⟨by decide +kernel, by decide +kernel⟩, List.mem_of_getElem? (i := 696) (by decide +kernel), List.mem_of_getElem? (i := 855) (by decide +kernel), List.mem_of_getElem? (i := 856) (by decide +kernel)⟩
theorem lw_p40 : lw_okq (⟨"IsomerListModel", "change", "(II)V"⟩, 33) := ⟨⟨by decide +kernel, by decide +kernel⟩, List.mem_of_getElem? (i := 696) (by decide +kernel), List.mem_of_getElem? (i := 865) (by decide +kernel), List.mem_of_getElem? (i := 866) (by decide +kernel)⟩
theorem lw_p41 : lw_okq (⟨"IsomerListModel", "numberings", "(I)I"⟩, 33) := ⟨⟨by decide +kernel, by decide +kernel⟩, List.mem_of_getElem? (i := 696) (by decide +kernel), List.mem_of_getElem? (i := 872) (by decide +kernel), List.mem_of_getElem? (i := 873) (by decide +kernel)⟩
theorem lw_p42 : lw_okq (⟨"IsomerListModel", "row", "(I)I"⟩, 33) := ⟨⟨by decide +kernel, by decide +kernel⟩, List.mem_of_getElem? (i := 696) (by decide +kernel), List.mem_of_getElem? (i := 876) (by decide +kernel), List.mem_of_getElem? (i := 877) (by decide +kernel)⟩
theorem lw_p43 : lw_okq (⟨"IsomerListModel", "parse", "()I"⟩, 33) := ⟨⟨by decide +kernel, by decide +kernel⟩, List.mem_of_getElem? (i := 696) (by decide +kernel), List.mem_of_getElem? (i := 887) (by decide +kernel), List.mem_of_getElem? (i := 888) (by decide +kernel)⟩
theorem lw_p44 : lw_okq (⟨"IsomerListModel", "atEnd", "()I"⟩, 33) := ⟨⟨by decide +kernel, by decide +kernel⟩, List.mem_of_getElem? (i := 696) (by decide +kernel), List.mem_of_getElem? (i := 891) (by decide +kernel), List.mem_of_getElem? (i := 892) (by decide +kernel)⟩
theorem lw_p45 : lw_okq (⟨"IsomerListModel", "sumOf", "(I)I"⟩, 33) := ⟨⟨by decide +kernel, by decide +kernel⟩, List.mem_of_getElem? (i := 696) (by decide +kernel), List.mem_of_getElem? (i := 895) (by decide +kernel), List.mem_of_getElem? (i := 896) (by decide +kernel)⟩
theorem lw_p46 : lw_okq (⟨"IsomerListModel", "numberInList", "()I"⟩, 33) := ⟨⟨by decide +kernel, by decide +kernel⟩, List.mem_of_getElem? (i := 696) (by decide +kernel), List.mem_of_getElem? (i := 899) (by decide +kernel), List.mem_of_getElem? (i := 900) (by decide +kernel)⟩
theorem lw_p47 : lw_okq (⟨"IsomerListModel", "greatest", "()Z"⟩, 33) := ⟨⟨by decide +kernel, by decide +kernel⟩, List.mem_of_getElem? (i := 696) (by decide +kernel), List.mem_of_getElem? (i := 903) (by decide +kernel), List.mem_of_getElem? (i := 904) (by decide +kernel)⟩
def lw_privs_3 : List (MethodName × Nat) := [(⟨"IsomerList$TextWriter", "putBound", "(II)V"⟩, 6), (⟨"IsomerListModel", "refused", "(I)Z"⟩, 33), (⟨"IsomerListModel", "elementAt", "(I)I"⟩, 33), (⟨"IsomerListModel", "at", "(I)C"⟩, 33), (⟨"IsomerListModel", "fault", "(II)I"⟩, 33), (⟨"IsomerListModel", "search", "()V"⟩, 33), (⟨"IsomerListModel", "keep", "(I)V"⟩, 33), (⟨"IsomerListModel", "isOne", "(I)Z"⟩, 33), (⟨"IsomerListModel", "change", "(II)V"⟩, 33), (⟨"IsomerListModel", "numberings", "(I)I"⟩, 33), (⟨"IsomerListModel", "row", "(I)I"⟩, 33), (⟨"IsomerListModel", "parse", "()I"⟩, 33), (⟨"IsomerListModel", "atEnd", "()I"⟩, 33), (⟨"IsomerListModel", "sumOf", "(I)I"⟩, 33), (⟨"IsomerListModel", "numberInList", "()I"⟩, 33), (⟨"IsomerListModel", "greatest", "()Z"⟩, 33)]
theorem lw_r3 : ∀ q ∈ lw_privs_3, lw_okq q := List.forall_mem_cons.mpr ⟨lw_p32, List.forall_mem_cons.mpr ⟨lw_p33, List.forall_mem_cons.mpr ⟨lw_p34, List.forall_mem_cons.mpr ⟨lw_p35, List.forall_mem_cons.mpr ⟨lw_p36, List.forall_mem_cons.mpr ⟨lw_p37, List.forall_mem_cons.mpr ⟨lw_p38, List.forall_mem_cons.mpr ⟨lw_p39, List.forall_mem_cons.mpr ⟨lw_p40, List.forall_mem_cons.mpr ⟨lw_p41, List.forall_mem_cons.mpr ⟨lw_p42, List.forall_mem_cons.mpr ⟨lw_p43, List.forall_mem_cons.mpr ⟨lw_p44, List.forall_mem_cons.mpr ⟨lw_p45, List.forall_mem_cons.mpr ⟨lw_p46, List.forall_mem_cons.mpr ⟨lw_p47, fun _ h => absurd h List.not_mem_nil⟩⟩⟩⟩⟩⟩⟩⟩⟩⟩⟩⟩⟩⟩⟩⟩
theorem lw_p48 : lw_okq (⟨"IsomerListModel", "take", "()V"⟩, 33) := ⟨⟨by decide +kernel, by decide +kernel⟩, List.mem_of_getElem? (i := 696) (by decide +kernel), List.mem_of_getElem? (i := 907) (by decide +kernel), List.mem_of_getElem? (i := 908) (by decide +kernel)⟩
theorem lw_p49 : lw_okq (⟨"IsomerListModel", "isAtom", "(I)Z"⟩, 33) := ⟨⟨by decide +kernel, by decide +kernel⟩, List.mem_of_getElem? (i := 696) (by decide +kernel), List.mem_of_getElem? (i := 923) (by decide +kernel), List.mem_of_getElem? (i := 924) (by decide +kernel)⟩
theorem lw_p50 : lw_okq (⟨"IsomerListModel", "isStructure", "(I)Z"⟩, 33) := ⟨⟨by decide +kernel, by decide +kernel⟩, List.mem_of_getElem? (i := 696) (by decide +kernel), List.mem_of_getElem? (i := 931) (by decide +kernel), List.mem_of_getElem? (i := 932) (by decide +kernel)⟩
theorem lw_p51 : lw_okq (⟨"IsomerListModel", "bondOf", "(III)I"⟩, 33) := ⟨⟨by decide +kernel, by decide +kernel⟩, List.mem_of_getElem? (i := 696) (by decide +kernel), List.mem_of_getElem? (i := 935) (by decide +kernel), List.mem_of_getElem? (i := 936) (by decide +kernel)⟩
theorem lw_p52 : lw_okq (⟨"IsomerListModel", "go", "(I)V"⟩, 33) := ⟨⟨by decide +kernel, by decide +kernel⟩, List.mem_of_getElem? (i := 696) (by decide +kernel), List.mem_of_getElem? (i := 951) (by decide +kernel), List.mem_of_getElem? (i := 952) (by decide +kernel)⟩
theorem lw_p53 : lw_okq (⟨"IsomerListModel", "putAtom", "(II)V"⟩, 33) := ⟨⟨by decide +kernel, by decide +kernel⟩, List.mem_of_getElem? (i := 696) (by decide +kernel), List.mem_of_getElem? (i := 955) (by decide +kernel), List.mem_of_getElem? (i := 956) (by decide +kernel)⟩
theorem lw_p54 : lw_okq (⟨"IsomerListModel", "putSign", "(I)V"⟩, 33) := ⟨⟨by decide +kernel, by decide +kernel⟩, List.mem_of_getElem? (i := 696) (by decide +kernel), List.mem_of_getElem? (i := 959) (by decide +kernel), List.mem_of_getElem? (i := 960) (by decide +kernel)⟩
theorem lw_p55 : lw_okq (⟨"IsomerListModel", "put", "(C)V"⟩, 33) := ⟨⟨by decide +kernel, by decide +kernel⟩, List.mem_of_getElem? (i := 696) (by decide +kernel), List.mem_of_getElem? (i := 963) (by decide +kernel), List.mem_of_getElem? (i := 964) (by decide +kernel)⟩
theorem lw_p56 : lw_okq (⟨"IsomerListModel", "putBond", "(I)V"⟩, 33) := ⟨⟨by decide +kernel, by decide +kernel⟩, List.mem_of_getElem? (i := 696) (by decide +kernel), List.mem_of_getElem? (i := 967) (by decide +kernel), List.mem_of_getElem? (i := 968) (by decide +kernel)⟩
theorem lw_p57 : lw_okq (⟨"IsomerListModel", "further", "(II)I"⟩, 33) := ⟨⟨by decide +kernel, by decide +kernel⟩, List.mem_of_getElem? (i := 696) (by decide +kernel), List.mem_of_getElem? (i := 971) (by decide +kernel), List.mem_of_getElem? (i := 972) (by decide +kernel)⟩
def lw_privs_4 : List (MethodName × Nat) := [(⟨"IsomerListModel", "take", "()V"⟩, 33), (⟨"IsomerListModel", "isAtom", "(I)Z"⟩, 33), (⟨"IsomerListModel", "isStructure", "(I)Z"⟩, 33), (⟨"IsomerListModel", "bondOf", "(III)I"⟩, 33), (⟨"IsomerListModel", "go", "(I)V"⟩, 33), (⟨"IsomerListModel", "putAtom", "(II)V"⟩, 33), (⟨"IsomerListModel", "putSign", "(I)V"⟩, 33), (⟨"IsomerListModel", "put", "(C)V"⟩, 33), (⟨"IsomerListModel", "putBond", "(I)V"⟩, 33), (⟨"IsomerListModel", "further", "(II)I"⟩, 33)]
theorem lw_r4 : ∀ q ∈ lw_privs_4, lw_okq q := List.forall_mem_cons.mpr ⟨lw_p48, List.forall_mem_cons.mpr ⟨lw_p49, List.forall_mem_cons.mpr ⟨lw_p50, List.forall_mem_cons.mpr ⟨lw_p51, List.forall_mem_cons.mpr ⟨lw_p52, List.forall_mem_cons.mpr ⟨lw_p53, List.forall_mem_cons.mpr ⟨lw_p54, List.forall_mem_cons.mpr ⟨lw_p55, List.forall_mem_cons.mpr ⟨lw_p56, List.forall_mem_cons.mpr ⟨lw_p57, fun _ h => absurd h List.not_mem_nil⟩⟩⟩⟩⟩⟩⟩⟩⟩⟩
def lw_privs : List (MethodName × Nat) := lw_privs_1 ++ (lw_privs_2 ++ (lw_privs_3 ++ (lw_privs_4)))
def lw_tbl : List Cond := k2_sels lw_privs ++ tables_1
theorem lw_privs_ok : ∀ q ∈ lw_privs, lw_okq q := by
  show ∀ q ∈ lw_privs_1 ++ (lw_privs_2 ++ (lw_privs_3 ++ (lw_privs_4))), lw_okq q
  exact List.forall_mem_append.mpr ⟨lw_r1, List.forall_mem_append.mpr ⟨lw_r2, List.forall_mem_append.mpr ⟨lw_r3, lw_r4⟩⟩⟩
-- ===== end of PART A; then your names; then what follows =====
end
section
/-! mj: A THIN LOGIC OVER THE KIT'S W: abstract states (ids for addresses), one row an instruction. Part 02: the classes' tables. -/
def mj_tb : List Cond := lw_tbl.filter goodWord
theorem mj_tb_good {w : Cond} (h : w ∈ mj_tb) : w ∈ lw_tbl ∧ goodWord w = true := List.mem_filter.mp h
def mj_R0 : String := "IsomerList"
def mj_T0 : u_T := fun k => match k with
  | 0 => ("IsomerList", "line", "LIsomerList$Line;", true)
  | 1 => ("IsomerList", "formulaReader", "LIsomerList$FormulaReader;", true)
  | 2 => ("IsomerList", "textReader", "LIsomerList$TextReader;", true)
  | 3 => ("IsomerList", "textWriter", "LIsomerList$TextWriter;", true)
  | 4 => ("IsomerList", "numbering", "LIsomerList$Numbering;", true)
  | 5 => ("IsomerList", "lister", "LIsomerList$Lister;", true)
  | 6 => ("IsomerList", "shown", "LIsomerList$Molecule;", true)
  | 7 => ("IsomerList", "current", "LIsomerList$Catalogue;", false)
  | 8 => ("IsomerList", "spare", "LIsomerList$Catalogue;", false)
  | _ => ("IsomerList", "faultPlace", "I", false)
def mj_t0 : Nat → FieldType := fun k => match k with
  | 0 => .object "IsomerList$Line"
  | 1 => .object "IsomerList$FormulaReader"
  | 2 => .object "IsomerList$TextReader"
  | 3 => .object "IsomerList$TextWriter"
  | 4 => .object "IsomerList$Numbering"
  | 5 => .object "IsomerList$Lister"
  | 6 => .object "IsomerList$Molecule"
  | 7 => .object "IsomerList$Catalogue"
  | 8 => .object "IsomerList$Catalogue"
  | _ => .int
theorem mj_in0 : ∀ w ∈ u_ws mj_R0 mj_T0 10, w ∈ mj_tb := by decide +kernel
theorem mj_nm0 : ∀ a, a < 10 → ∀ b, b < 10 → a ≠ b → (mj_T0 a).2.1 ≠ (mj_T0 b).2.1 := by decide +kernel
theorem mj_ty0 : ∀ k, k < 10 → parseFieldDescriptor (mj_T0 k).2.2.1 = some (mj_t0 k) := by decide +kernel
def mj_R1 : String := "IsomerList$Line"
def mj_T1 : u_T := fun k => match k with
  | 0 => ("IsomerList$Line", "characters", "[C", true)
  | _ => ("IsomerList$Line", "length", "I", false)
def mj_t1 : Nat → FieldType := fun k => match k with
  | 0 => .array .char
  | _ => .int
theorem mj_in1 : ∀ w ∈ u_ws mj_R1 mj_T1 2, w ∈ mj_tb := by decide +kernel
theorem mj_nm1 : ∀ a, a < 2 → ∀ b, b < 2 → a ≠ b → (mj_T1 a).2.1 ≠ (mj_T1 b).2.1 := by decide +kernel
theorem mj_ty1 : ∀ k, k < 2 → parseFieldDescriptor (mj_T1 k).2.2.1 = some (mj_t1 k) := by decide +kernel
def mj_R2 : String := "IsomerList$FormulaReader"
def mj_T2 : u_T := fun k => match k with
  | 0 => ("IsomerList$FormulaReader", "counts", "[I", true)
  | _ => ("IsomerList$FormulaReader", "at", "I", false)
def mj_t2 : Nat → FieldType := fun k => match k with
  | 0 => .array .int
  | _ => .int
theorem mj_in2 : ∀ w ∈ u_ws mj_R2 mj_T2 2, w ∈ mj_tb := by decide +kernel
theorem mj_nm2 : ∀ a, a < 2 → ∀ b, b < 2 → a ≠ b → (mj_T2 a).2.1 ≠ (mj_T2 b).2.1 := by decide +kernel
theorem mj_ty2 : ∀ k, k < 2 → parseFieldDescriptor (mj_T2 k).2.2.1 = some (mj_t2 k) := by decide +kernel
def mj_R3 : String := "IsomerList$TextReader"
def mj_T3 : u_T := fun k => match k with
  | 0 => ("IsomerList$TextReader", "molecule", "LIsomerList$Molecule;", true)
  | 1 => ("IsomerList$TextReader", "ringAtoms", "[I", true)
  | 2 => ("IsomerList$TextReader", "ringBonds", "[I", true)
  | 3 => ("IsomerList$TextReader", "branchAtoms", "[I", true)
  | 4 => ("IsomerList$TextReader", "branches", "I", false)
  | 5 => ("IsomerList$TextReader", "last", "I", false)
  | 6 => ("IsomerList$TextReader", "ringsMayFollow", "Z", false)
  | _ => ("IsomerList$TextReader", "at", "I", false)
def mj_t3 : Nat → FieldType := fun k => match k with
  | 0 => .object "IsomerList$Molecule"
  | 1 => .array .int
  | 2 => .array .int
  | 3 => .array .int
  | 4 => .int
  | 5 => .int
  | 6 => .boolean
  | _ => .int
theorem mj_in3 : ∀ w ∈ u_ws mj_R3 mj_T3 8, w ∈ mj_tb := by decide +kernel
theorem mj_nm3 : ∀ a, a < 8 → ∀ b, b < 8 → a ≠ b → (mj_T3 a).2.1 ≠ (mj_T3 b).2.1 := by decide +kernel
theorem mj_ty3 : ∀ k, k < 8 → parseFieldDescriptor (mj_T3 k).2.2.1 = some (mj_t3 k) := by decide +kernel
def mj_R4 : String := "IsomerList$Molecule"
def mj_T4 : u_T := fun k => match k with
  | 0 => ("IsomerList$Molecule", "kinds", "[I", true)
  | 1 => ("IsomerList$Molecule", "free", "[I", true)
  | 2 => ("IsomerList$Molecule", "bonds", "[I", true)
  | _ => ("IsomerList$Molecule", "atoms", "I", false)
def mj_t4 : Nat → FieldType := fun k => match k with
  | 0 => .array .int
  | 1 => .array .int
  | 2 => .array .int
  | _ => .int
theorem mj_in4 : ∀ w ∈ u_ws mj_R4 mj_T4 4, w ∈ mj_tb := by decide +kernel
theorem mj_nm4 : ∀ a, a < 4 → ∀ b, b < 4 → a ≠ b → (mj_T4 a).2.1 ≠ (mj_T4 b).2.1 := by decide +kernel
theorem mj_ty4 : ∀ k, k < 4 → parseFieldDescriptor (mj_T4 k).2.2.1 = some (mj_t4 k) := by decide +kernel
def mj_R5 : String := "IsomerList$TextWriter"
def mj_T5 : u_T := fun k => match k with
  | 0 => ("IsomerList$TextWriter", "cameFrom", "[I", true)
  | 1 => ("IsomerList$TextWriter", "ringStarts", "[I", true)
  | 2 => ("IsomerList$TextWriter", "ringEnds", "[I", true)
  | 3 => ("IsomerList$TextWriter", "rings", "I", false)
  | 4 => ("IsomerList$TextWriter", "molecule", "LIsomerList$Molecule;", false)
  | _ => ("IsomerList$TextWriter", "line", "LIsomerList$Line;", false)
def mj_t5 : Nat → FieldType := fun k => match k with
  | 0 => .array .int
  | 1 => .array .int
  | 2 => .array .int
  | 3 => .int
  | 4 => .object "IsomerList$Molecule"
  | _ => .object "IsomerList$Line"
theorem mj_in5 : ∀ w ∈ u_ws mj_R5 mj_T5 6, w ∈ mj_tb := by decide +kernel
theorem mj_nm5 : ∀ a, a < 6 → ∀ b, b < 6 → a ≠ b → (mj_T5 a).2.1 ≠ (mj_T5 b).2.1 := by decide +kernel
theorem mj_ty5 : ∀ k, k < 6 → parseFieldDescriptor (mj_T5 k).2.2.1 = some (mj_t5 k) := by decide +kernel
def mj_R6 : String := "IsomerList$Numbering"
def mj_T6 : u_T := fun k => match k with
  | 0 => ("IsomerList$Numbering", "chosen", "[I", true)
  | 1 => ("IsomerList$Numbering", "taken", "[Z", true)
  | 2 => ("IsomerList$Numbering", "molecule", "LIsomerList$Molecule;", false)
  | 3 => ("IsomerList$Numbering", "wanted", "[I", false)
  | 4 => ("IsomerList$Numbering", "atoms", "I", false)
  | 5 => ("IsomerList$Numbering", "greatest", "I", false)
  | _ => ("IsomerList$Numbering", "sharers", "I", false)
def mj_t6 : Nat → FieldType := fun k => match k with
  | 0 => .array .int
  | 1 => .array .boolean
  | 2 => .object "IsomerList$Molecule"
  | 3 => .array .int
  | 4 => .int
  | 5 => .int
  | _ => .int
theorem mj_in6 : ∀ w ∈ u_ws mj_R6 mj_T6 7, w ∈ mj_tb := by decide +kernel
theorem mj_nm6 : ∀ a, a < 7 → ∀ b, b < 7 → a ≠ b → (mj_T6 a).2.1 ≠ (mj_T6 b).2.1 := by decide +kernel
theorem mj_ty6 : ∀ k, k < 7 → parseFieldDescriptor (mj_T6 k).2.2.1 = some (mj_t6 k) := by decide +kernel
def mj_R7 : String := "IsomerList$Lister"
def mj_T7 : u_T := fun k => match k with
  | 0 => ("IsomerList$Lister", "numbering", "LIsomerList$Numbering;", true)
  | 1 => ("IsomerList$Lister", "molecule", "LIsomerList$Molecule;", true)
  | 2 => ("IsomerList$Lister", "valencesFrom", "[I", true)
  | 3 => ("IsomerList$Lister", "groups", "[I", true)
  | _ => ("IsomerList$Lister", "catalogue", "LIsomerList$Catalogue;", false)
def mj_t7 : Nat → FieldType := fun k => match k with
  | 0 => .object "IsomerList$Numbering"
  | 1 => .object "IsomerList$Molecule"
  | 2 => .array .int
  | 3 => .array .int
  | _ => .object "IsomerList$Catalogue"
theorem mj_in7 : ∀ w ∈ u_ws mj_R7 mj_T7 5, w ∈ mj_tb := by decide +kernel
theorem mj_nm7 : ∀ a, a < 5 → ∀ b, b < 5 → a ≠ b → (mj_T7 a).2.1 ≠ (mj_T7 b).2.1 := by decide +kernel
theorem mj_ty7 : ∀ k, k < 5 → parseFieldDescriptor (mj_T7 k).2.2.1 = some (mj_t7 k) := by decide +kernel
def mj_R8 : String := "IsomerList$Catalogue"
def mj_T8 : u_T := fun k => match k with
  | 0 => ("IsomerList$Catalogue", "kinds", "[I", true)
  | 1 => ("IsomerList$Catalogue", "codes", "[I", true)
  | 2 => ("IsomerList$Catalogue", "atoms", "I", false)
  | 3 => ("IsomerList$Catalogue", "hydrogenSum", "I", false)
  | _ => ("IsomerList$Catalogue", "size", "I", false)
def mj_t8 : Nat → FieldType := fun k => match k with
  | 0 => .array .int
  | 1 => .array .int
  | 2 => .int
  | 3 => .int
  | _ => .int
theorem mj_in8 : ∀ w ∈ u_ws mj_R8 mj_T8 5, w ∈ mj_tb := by decide +kernel
theorem mj_nm8 : ∀ a, a < 5 → ∀ b, b < 5 → a ≠ b → (mj_T8 a).2.1 ≠ (mj_T8 b).2.1 := by decide +kernel
theorem mj_ty8 : ∀ k, k < 5 → parseFieldDescriptor (mj_T8 k).2.2.1 = some (mj_t8 k) := by decide +kernel
def mj_R9 : String := "IsomerListModel"
def mj_T9 : u_T := fun k => match k with
  | 0 => ("IsomerListModel", "refusal", "I", false)
  | 1 => ("IsomerListModel", "size", "I", false)
  | 2 => ("IsomerListModel", "line", "[C", true)
  | 3 => ("IsomerListModel", "wrong", "I", false)
  | 4 => ("IsomerListModel", "atoms", "I", false)
  | 5 => ("IsomerListModel", "hydrogenSum", "I", false)
  | 6 => ("IsomerListModel", "elements", "[I", true)
  | 7 => ("IsomerListModel", "structures", "I", false)
  | 8 => ("IsomerListModel", "list", "[I", true)
  | 9 => ("IsomerListModel", "tried", "I", false)
  | 10 => ("IsomerListModel", "kind", "[I", true)
  | 11 => ("IsomerListModel", "code", "[I", true)
  | 12 => ("IsomerListModel", "free", "[I", true)
  | 13 => ("IsomerListModel", "rest", "I", false)
  | 14 => ("IsomerListModel", "next", "[I", true)
  | 15 => ("IsomerListModel", "found", "I", false)
  | 16 => ("IsomerListModel", "fresh", "[I", true)
  | 17 => ("IsomerListModel", "numbered", "[I", true)
  | 18 => ("IsomerListModel", "isTaken", "[Z", true)
  | 19 => ("IsomerListModel", "signs", "I", false)
  | 20 => ("IsomerListModel", "signOf", "[I", true)
  | 21 => ("IsomerListModel", "bonds", "[I", true)
  | 22 => ("IsomerListModel", "best", "[I", true)
  | 23 => ("IsomerListModel", "many", "[I", true)
  | 24 => ("IsomerListModel", "pile", "[I", true)
  | 25 => ("IsomerListModel", "ringAtom", "[I", true)
  | 26 => ("IsomerListModel", "ringBond", "[I", true)
  | 27 => ("IsomerListModel", "before", "[I", true)
  | 28 => ("IsomerListModel", "rings", "[I", true)
  | 29 => ("IsomerListModel", "done", "[I", true)
  | 30 => ("IsomerListModel", "isOpen", "[Z", true)
  | 31 => ("IsomerListModel", "isReached", "[Z", true)
  | _ => ("IsomerListModel", "last", "[I", true)
def mj_t9 : Nat → FieldType := fun k => match k with
  | 0 => .int
  | 1 => .int
  | 2 => .array .char
  | 3 => .int
  | 4 => .int
  | 5 => .int
  | 6 => .array .int
  | 7 => .int
  | 8 => .array .int
  | 9 => .int
  | 10 => .array .int
  | 11 => .array .int
  | 12 => .array .int
  | 13 => .int
  | 14 => .array .int
  | 15 => .int
  | 16 => .array .int
  | 17 => .array .int
  | 18 => .array .boolean
  | 19 => .int
  | 20 => .array .int
  | 21 => .array .int
  | 22 => .array .int
  | 23 => .array .int
  | 24 => .array .int
  | 25 => .array .int
  | 26 => .array .int
  | 27 => .array .int
  | 28 => .array .int
  | 29 => .array .int
  | 30 => .array .boolean
  | 31 => .array .boolean
  | _ => .array .int
theorem mj_in9 : ∀ w ∈ u_ws mj_R9 mj_T9 33, w ∈ mj_tb := by decide +kernel
theorem mj_nm9 : ∀ a, a < 33 → ∀ b, b < 33 → a ≠ b → (mj_T9 a).2.1 ≠ (mj_T9 b).2.1 := by decide +kernel
theorem mj_ty9 : ∀ k, k < 33 → parseFieldDescriptor (mj_T9 k).2.2.1 = some (mj_t9 k) := by decide +kernel
abbrev mj_cl : List vw_C := [(mj_R0, mj_T0, 10), (mj_R1, mj_T1, 2), (mj_R2, mj_T2, 2), (mj_R3, mj_T3, 8), (mj_R4, mj_T4, 4), (mj_R5, mj_T5, 6), (mj_R6, mj_T6, 7), (mj_R7, mj_T7, 5), (mj_R8, mj_T8, 5), (mj_R9, mj_T9, 33)]
def mj_t : Nat → Nat → FieldType := fun c => match c with
  | 0 => mj_t0
  | 1 => mj_t1
  | 2 => mj_t2
  | 3 => mj_t3
  | 4 => mj_t4
  | 5 => mj_t5
  | 6 => mj_t6
  | 7 => mj_t7
  | 8 => mj_t8
  | _ => mj_t9
theorem mj_in : ∀ (ci : Nat) (q : vw_C), mj_cl[ci]? = some q → ∀ w ∈ u_ws q.1 q.2.1 q.2.2, w ∈ mj_tb := by
  intro ci q h
  match ci, h with
  | 0, h => cases h; exact mj_in0
  | 1, h => cases h; exact mj_in1
  | 2, h => cases h; exact mj_in2
  | 3, h => cases h; exact mj_in3
  | 4, h => cases h; exact mj_in4
  | 5, h => cases h; exact mj_in5
  | 6, h => cases h; exact mj_in6
  | 7, h => cases h; exact mj_in7
  | 8, h => cases h; exact mj_in8
  | 9, h => cases h; exact mj_in9
  | k + 10, h => simp [mj_cl] at h
theorem mj_nm : ∀ (ci : Nat) (q : vw_C), mj_cl[ci]? = some q → ∀ a, a < q.2.2 → ∀ b, b < q.2.2 → a ≠ b → (q.2.1 a).2.1 ≠ (q.2.1 b).2.1 := by
  intro ci q h
  match ci, h with
  | 0, h => cases h; exact mj_nm0
  | 1, h => cases h; exact mj_nm1
  | 2, h => cases h; exact mj_nm2
  | 3, h => cases h; exact mj_nm3
  | 4, h => cases h; exact mj_nm4
  | 5, h => cases h; exact mj_nm5
  | 6, h => cases h; exact mj_nm6
  | 7, h => cases h; exact mj_nm7
  | 8, h => cases h; exact mj_nm8
  | 9, h => cases h; exact mj_nm9
  | k + 10, h => simp [mj_cl] at h
theorem mj_ty : ∀ (ci : Nat) (q : vw_C), mj_cl[ci]? = some q → ∀ k, k < q.2.2 → parseFieldDescriptor (q.2.1 k).2.2.1 = some (mj_t ci k) := by
  intro ci q h
  match ci, h with
  | 0, h => cases h; exact mj_ty0
  | 1, h => cases h; exact mj_ty1
  | 2, h => cases h; exact mj_ty2
  | 3, h => cases h; exact mj_ty3
  | 4, h => cases h; exact mj_ty4
  | 5, h => cases h; exact mj_ty5
  | 6, h => cases h; exact mj_ty6
  | 7, h => cases h; exact mj_ty7
  | 8, h => cases h; exact mj_ty8
  | 9, h => cases h; exact mj_ty9
  | k + 10, h => simp [mj_cl] at h
end
section
/-! mj, part 03: abstract states, and what the machine's states have to do with them. An abstract reference is a number: below mj_st a cell made since the law's start (its place behind the start's last cell), from mj_st on one of four arrays that nobody writes (three static tables, the script). -/
abbrev mj_E : Type := (Nat × vp_A) ⊕ (Nat × List Value)
/-- cells by their ids; how many are known; how many there are -/
abbrev mj_S : Type := (Nat → mj_E) × Nat × Nat
abbrev mj_G : Type := Launch × State × va_G × (Nat → ClassId) × (Nat → Nat) × (Nat → vp_A)
abbrev mj_G.l (Γ : mj_G) : Launch := Γ.1
abbrev mj_G.s (Γ : mj_G) : State := Γ.2.1
abbrev mj_G.D (Γ : mj_G) : va_G := Γ.2.2.1
abbrev mj_G.cA (Γ : mj_G) : Nat → ClassId := Γ.2.2.2.1
abbrev mj_G.ra (Γ : mj_G) : Nat → Nat := Γ.2.2.2.2.1
abbrev mj_G.ro (Γ : mj_G) : Nat → vp_A := Γ.2.2.2.2.2
/-- code, own class, locals, what it returns, its name -/
abbrev mj_M : Type := ByteArray × String × Nat × Option FieldType × String
abbrev mj_M.cc (M : mj_M) : ByteArray := M.1
abbrev mj_M.own (M : mj_M) : String := M.2.1
abbrev mj_M.nL (M : mj_M) : Nat := M.2.2.1
abbrev mj_M.ret (M : mj_M) : Option FieldType := M.2.2.2.1
abbrev mj_M.name (M : mj_M) : String := M.2.2.2.2
/-- how a method ends: it returns, or throws an exception of the class with that number -/
abbrev mj_O : Type := Option Value ⊕ Nat
def mj_st : Nat := 1000000
def mj_ad (Γ : mj_G) (k : Nat) : Nat := if k < mj_st then Γ.s.heap.size + k else Γ.ra (k - mj_st)
def mj_v (Γ : mj_G) : Value → Value := fun v => match v with
  | .ref k => .ref (mj_ad Γ k)
  | v => v
def mj_e (Γ : mj_G) : mj_E → va_E := fun e => match e with
  | .inl a => .inl (Γ.cA a.1, a.2)
  | .inr o => .inr (o.1, o.2.map (mj_v Γ))
def mj_ws (Γ : mj_G) (S : mj_S) : va_W := (List.range S.2.1).map fun k => (mj_ad Γ k, mj_e Γ (S.1 k))
def mj_A (Γ : mj_G) : Nat → Prop := fun q => Γ.s.heap.size ≤ q
def mj_at : Nat → FieldType := fun t => match t with
  | 0 => .int
  | 1 => .char
  | 2 => .boolean
  | _ => .long
def mj_rt : Nat → Nat := fun k => match k with
  | 0 => 0
  | 1 => 1
  | 2 => 1
  | _ => 0
def mj_rn : Nat → String × String := fun k => match k with
  | 0 => ("VALENCES", "[I")
  | 1 => ("FIRST_LETTERS", "[C")
  | _ => ("SECOND_LETTERS", "[C")
def mj_xn : Nat → String := fun k => match k with
  | 0 => "java/lang/IllegalStateException"
  | _ => "java/lang/IndexOutOfBoundsException"
abbrev mj_tys (Γ : mj_G) : List (ClassId × FieldType) := [(Γ.cA 0, .int), (Γ.cA 1, .char), (Γ.cA 2, .boolean), (Γ.cA 3, .long)]
/-- what an int array holds -/
def mj_ai (x : vp_A) : Nat → Int32 := match x.2 with
  | .inl f => f
  | _ => fun _ => 0
/-- what the law's start gives -/
def mj_F (Γ : mj_G) : Prop :=
  (∃ a0 : Array Value, ∀ w ∈ lw_tbl, w.before a0 Γ.s = true) ∧ va_K Γ.D mj_cl (mj_tys Γ) Γ.s ∧
  (∀ k, k < 3 → va_Z "IsomerList" (mj_rn k).1 (mj_rn k).2 (.ref (Γ.ra k)) (mj_A Γ) Γ.s Γ.s.heap) ∧
  (∀ k, k < 4 → va_T (mj_at (mj_rt k)) (Γ.ra k) (Γ.ro k).1 (fun j => .int (mj_ai (Γ.ro k) j)) (mj_A Γ) Γ.s Γ.s.heap)
/-- a state of the law's run: the tables as at the start or warmer, the start's cells as they were -/
def mj_C (Γ : mj_G) (U : State) : Prop :=
  mj_F Γ ∧ Γ.s.WarmedH U.vm ∧ Γ.s.heap.size ≤ U.heap.size ∧ ∀ q : Nat, q < Γ.s.heap.size → U.heap[q]? = Γ.s.heap[q]?
def mj_W (Γ : mj_G) (S : mj_S) (H : Heap) : Prop :=
  H.size = Γ.s.heap.size + S.2.2 ∧ S.2.1 ≤ S.2.2 ∧ S.2.1 ≤ mj_st ∧ va_P Γ.D mj_cl (mj_ws Γ S) H ∧
  ∀ k, k < 4 → S.1 (mj_st + k) = .inl (mj_rt k, Γ.ro k)
def mj_jk : Value → Bool := fun v => match v with
  | .retAddr _ => true
  | _ => false
def mj_L (Γ : mj_G) (ls : Array Slot) (lv : List Value) : Prop :=
  ls.size = lv.length ∧ lv_wf ls ∧ ∀ (i : Nat) (v : Value), lv[i]? = some v → mj_jk v = false → ls[i]? = some (.val (mj_v Γ v))
def mj_o (Γ : mj_G) (out : mj_O) (o : Outcome) (t : State) : Prop := match out with
  | .inl v => o = .returned (v.map (mj_v Γ))
  | .inr x => ∃ (a : Addr) (cell : Cell), o = .threw a ∧ t.heap[a]? = some cell ∧ (∀ k, cell.vm ≠ .statics k) ∧ t.vm.findClass (mj_xn x) = some cell.cls
/-- the end of a method that began in s -/
def mj_R (Γ : mj_G) (s : State) (mc ms : Nat) (P : mj_O → mj_S → Prop) (o : Outcome) (t : State) : Prop :=
  (∃ (out : mj_O) (S' : mj_S), mj_o Γ out o t ∧ P out S' ∧ mj_W Γ S' t.heap) ∧ va_F (mj_A Γ) s t ∧ s.WarmedH t.vm ∧ ∃ L, s.sameButNew ({ t with vm := s.vm } : State) L mc ms ∧ ∀ q ∈ L, mj_A Γ q.base
def mj_Q (Γ : mj_G) (below : List Frame) (s : State) (mc ms : Nat) (P : mj_O → mj_S → Prop) : State → Prop := fun t =>
  ∃ o : Outcome, t.status = .running ∧ Ended t below o ∧ mj_R Γ s mc ms P o t
def mj_X (Γ : mj_G) (d : Nat) (M : mj_M) (k n : Nat) (p : Program) (R : Room) (s : State) (m : MethodId) (meth : Method) (c : Code) (cells slots : Nat) : Prop :=
  p.tables.exec = Jvm.exec ∧ c.code = M.cc ∧ meth.sig.returnType = M.ret ∧ meth.locks = false ∧ c.maxLocals = M.nL ∧ s.vm.findClass M.own = some m.cls ∧ mj_C Γ s ∧
  d ≤ R.frames ∧ 40 * d ≤ R.locals ∧ cells + k ≤ R.cells ∧ slots + n ≤ R.slots ∧ meth.name = M.name
/-- FROM THIS ABSTRACT STATE THE METHOD M ENDS WITH P, making at most k more cells of n slots, nesting at most d frames -/
def mj_Ok (Γ : mj_G) (d : Nat) (M : mj_M) (k n pc : Nat) (lv st : List Value) (S : mj_S) (P : mj_O → mj_S → Prop) : Prop :=
  ∀ (p : Program) (e : Env) (R : Room) (s : State) (m : MethodId) (args : Array Value) (below : List Frame) (meth : Method) (c : Code) (H : Heap) (locs : List Loc) (cells slots : Nat) (ls : Array Slot),
    mj_X Γ d M k n p R s m meth c cells slots → va_S (mj_A Γ) s.heap H locs → mj_W Γ S H → mj_L Γ ls lv → lv.length = M.nL →
    W p Γ.l e R s m args below meth c H locs cells slots (mj_Q Γ below s (cells + k) (slots + n) P) (F0 m pc ls (st.map (mj_v Γ)))
/-- a method's contract, from one abstract state -/
def mj_Met (Γ : mj_G) (d : Nat) (y : MethodName) (M : mj_M) (av : List Value) (S : mj_S) (mc ms : Nat) (P : mj_O → mj_S → Prop) : Prop :=
  MetFree Γ.l y (headSpec [Cond.code y M.cc M.nL M.ret] { frames := d, cells := mc, slots := ms, locals := 40 * d })
    (fun v U => v = (av.map (mj_v Γ)).toArray ∧ mj_C Γ U ∧ mj_W Γ S U.heap) (fun _ _ _ _ _ => True) (fun _ st o t => mj_R Γ st mc ms P o t)
/-! small facts -/
theorem mj_ad_lt {Γ : mj_G} {k : Nat} (h : k < mj_st) : mj_ad Γ k = Γ.s.heap.size + k := if_pos h
theorem mj_ad_ro {Γ : mj_G} (k : Nat) : mj_ad Γ (mj_st + k) = Γ.ra k := by
  unfold mj_ad
  rw [if_neg (by omega), Nat.add_sub_cancel_left]
theorem mj_ws_at {Γ : mj_G} {S : mj_S} {k : Nat} (h : k < S.2.1) : (mj_ws Γ S)[k]? = some (mj_ad Γ k, mj_e Γ (S.1 k)) := by
  simp [mj_ws, h]
theorem mj_ws_inv {Γ : mj_G} {S : mj_S} {k : Nat} {q : Nat × va_E} (h : (mj_ws Γ S)[k]? = some q) : k < S.2.1 ∧ q = (mj_ad Γ k, mj_e Γ (S.1 k)) := by
  have h1 : k < (mj_ws Γ S).length := (List.getElem?_eq_some_iff.mp h).1
  have h2 : k < S.2.1 := by simpa [mj_ws] using h1
  exact ⟨h2, Option.some.inj (h.symm.trans (mj_ws_at h2))⟩
theorem mj_W.D {Γ : mj_G} {S : mj_S} {H : Heap} (h : mj_W Γ S H) : va_D (mj_A Γ) (mj_ws Γ S) := by
  have hs := h.2.2.1
  refine ⟨fun i j p q hi hj e => ?_, fun k q hk => ?_⟩
  · obtain ⟨h1, rfl⟩ := mj_ws_inv hi
    obtain ⟨h2, rfl⟩ := mj_ws_inv hj
    have e : mj_ad Γ i = mj_ad Γ j := e
    rw [mj_ad_lt (by omega), mj_ad_lt (by omega)] at e
    omega
  · obtain ⟨h1, rfl⟩ := mj_ws_inv hk
    show Γ.s.heap.size ≤ mj_ad Γ k
    rw [mj_ad_lt (by omega)]
    omega
theorem mj_C.K {Γ : mj_G} {U : State} (h : mj_C Γ U) : va_K Γ.D mj_cl (mj_tys Γ) U := va_K.moved h.2.1.alike h.1.2.1
theorem mj_C.w {Γ : mj_G} {U : State} (h : mj_C Γ U) (a : Array Value) : ∀ w ∈ mj_tb, w.before a U = true := by
  intro w hw
  obtain ⟨h1, h2⟩ := mj_tb_good hw
  obtain ⟨a0, h0⟩ := h.1.1
  exact word_at h.2.1 (good_of_word h2) (h0 w h1)
theorem mj_C.nF {Γ : mj_G} {U : State} (h : mj_C Γ U) {a : String} {i : Nat} {b n d ho : String} (hw : Cond.fieldLinkNest a i b n d ho ∈ lw_tbl) (x : Array Value) : (Cond.fieldLinkNest a i b n d ho).before x U = true := by
  obtain ⟨a0, h0⟩ := h.1.1
  exact va_Nw.use rfl (va_Nw.warmF h.2.1 (va_Nw.of rfl (h0 _ hw)))
theorem mj_C.nM {Γ : mj_G} {U : State} (h : mj_C Γ U) {a : String} {i : Nat} {y : MethodName} {ho : String} (hw : Cond.methodLinkNest a i y ho ∈ lw_tbl) : va_Nw (.methodLinkNest a i y ho) U := by
  obtain ⟨a0, h0⟩ := h.1.1
  exact va_Nw.warmM h.2.1 (va_Nw.of rfl (h0 _ hw))
theorem mj_C.kept {Γ : mj_G} {U : State} (h : mj_C Γ U) : ∀ a : Nat, a < Γ.s.heap.size → ¬ mj_A Γ a → U.heap[a]? = Γ.s.heap[a]? := fun a h1 _ => h.2.2.2 a h1
theorem mj_C.Z {Γ : mj_G} {U : State} (h : mj_C Γ U) {k : Nat} (hk : k < 3) : va_Z "IsomerList" (mj_rn k).1 (mj_rn k).2 (.ref (Γ.ra k)) (mj_A Γ) U U.heap := ((h.1.2.2.1 k hk).moved h.2.1.alike).kept h.kept
theorem mj_C.T {Γ : mj_G} {U : State} (h : mj_C Γ U) {k : Nat} (hk : k < 4) : va_T (mj_at (mj_rt k)) (Γ.ra k) (Γ.ro k).1 (fun j => .int (mj_ai (Γ.ro k) j)) (mj_A Γ) U U.heap := ((h.1.2.2.2 k hk).moved h.2.1.alike).kept h.kept
theorem mj_C.step {Γ : mj_G} {s t : State} (h : mj_C Γ s) (hw : s.WarmedH t.vm) (hf : va_F (mj_A Γ) s t) : mj_C Γ t := by
  obtain ⟨h1, h2, h3, h4⟩ := h
  exact ⟨h1, State.WarmedH.trans h2 hw, Nat.le_trans h3 hf.1, fun q hq => (hf.2 q (Nat.lt_of_lt_of_le hq h3) (Nat.not_le.mpr hq)).trans (h4 q hq)⟩
theorem mj_map_cons {Γ : mj_G} (v : Value) (l : List Value) : (v :: l).map (mj_v Γ) = mj_v Γ v :: l.map (mj_v Γ) := rfl
theorem mj_v_cat {Γ : mj_G} (v : Value) : (mj_v Γ v).category = v.category := by cases v <;> rfl
theorem mj_L.at {Γ : mj_G} {ls : Array Slot} {lv : List Value} (h : mj_L Γ ls lv) {i : Nat} {v : Value} (hi : lv[i]? = some v) (hj : mj_jk v = false) : ls[i]? = some (.val (mj_v Γ v)) := h.2.2 i v hi hj
/-- a store into a local, by the kit's row -/
def mj_al (Γ : mj_G) (lv : List Value) : List (Nat × Value) := (List.range lv.length).filterMap fun i => match lv[i]? with
  | some v => if mj_jk v = false then some (i, mj_v Γ v) else none
  | none => none
theorem mj_L.has {Γ : mj_G} {ls : Array Slot} {lv : List Value} (h : mj_L Γ ls lv) : lv_has ls lv.length (mj_al Γ lv) := by
  refine ⟨h.1, h.2.1, fun q hq => ?_⟩
  obtain ⟨i, -, hi⟩ := List.mem_filterMap.mp hq
  cases hv : lv[i]? with
  | none => rw [hv] at hi; simp at hi
  | some v =>
    rw [hv] at hi
    by_cases hj : mj_jk v = false
    · simp [hj] at hi
      rw [← hi]
      exact h.2.2 i v hv hj
    · simp [hj] at hi
theorem mj_al_mem {Γ : mj_G} {lv : List Value} {i : Nat} {v : Value} (hi : lv[i]? = some v) (hj : mj_jk v = false) : (i, mj_v Γ v) ∈ mj_al Γ lv := by
  refine List.mem_filterMap.mpr ⟨i, List.mem_range.mpr (List.getElem?_eq_some_iff.mp hi).1, ?_⟩
  simp [hi, hj]
/-- no local holds a long or a double -/
def mj_c1 (lv : List Value) : Bool := lv.all fun v => v.category == 1
theorem mj_L.store {Γ : mj_G} {ls' : Array Slot} {lv : List Value} {i : Nat} {v : Value} (hc : mj_c1 lv = true)
    (h : lv_has ls' lv.length ((i, mj_v Γ v) :: (mj_al Γ lv).filter (fun q => !(q.1 == i) && !(q.1 + 1 == i && q.2.category == 2)))) : mj_L Γ ls' (lv.set i v) := by
  refine ⟨by rw [h.1, List.length_set], h.2.1, fun j w hj hw => ?_⟩
  by_cases e : i = j
  · subst e
    have hl : i < lv.length := by
      have := (List.getElem?_eq_some_iff.mp hj).1
      rwa [List.length_set] at this
    rw [List.getElem?_set_self hl] at hj
    cases hj
    exact h.2.2 _ List.mem_cons_self
  · rw [List.getElem?_set_ne e] at hj
    refine h.2.2 (j, mj_v Γ w) (List.mem_cons_of_mem _ (List.mem_filter.mpr ⟨mj_al_mem hj hw, ?_⟩))
    have h1 : w.category = 1 := by
      have := List.all_eq_true.mp hc w (List.mem_of_getElem? hj)
      simpa using this
    have e' : ¬ j = i := fun q => e q.symm
    simp [e', mj_v_cat, h1]
end

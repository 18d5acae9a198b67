section
-- ===== PART A: goes FIRST, ahead of the names: the tables' words, and 'selects' of the private methods out of them =====
/-- a private method of a class that the tables say can be made, by its rows of tables_1 -/
def lw_okq (q : MethodName × Nat) : Prop := (q.1.cls ≠ "java/lang/invoke/MethodHandle" ∧ q.1.cls ≠ "java/lang/invoke/VarHandle") ∧ Cond.instantiable q.1.cls q.2 ∈ tables_1 ∧ Cond.privateMethod q.1 ∈ tables_1 ∧ Cond.instanceMethod q.1 ∈ tables_1
theorem lw_p0 : lw_okq (⟨"IsomerList$FormulaReader", "readElement", "(LIsomerList$Line;)I"⟩, 2) := ⟨⟨by decide +kernel, by decide +kernel⟩, List.mem_of_getElem? (i := 44) (by decide +kernel), List.mem_of_getElem? (i := 286) (by decide +kernel), List.mem_of_getElem? (i := 287) (by decide +kernel)⟩
theorem lw_p1 : lw_okq (⟨"IsomerList$FormulaReader", "digitsAhead", "(LIsomerList$Line;)I"⟩, 2) := ⟨⟨by decide +kernel, by decide +kernel⟩, List.mem_of_getElem? (i := 44) (by decide +kernel), List.mem_of_getElem? (i := 306) (by decide +kernel), List.mem_of_getElem? (i := 307) (by decide +kernel)⟩
theorem lw_p2 : lw_okq (⟨"IsomerList$FormulaReader", "numberAhead", "(LIsomerList$Line;I)I"⟩, 2) := ⟨⟨by decide +kernel, by decide +kernel⟩, List.mem_of_getElem? (i := 44) (by decide +kernel), List.mem_of_getElem? (i := 314) (by decide +kernel), List.mem_of_getElem? (i := 315) (by decide +kernel)⟩
theorem lw_p3 : lw_okq (⟨"IsomerList$FormulaReader", "heavyAtoms", "()I"⟩, 2) := ⟨⟨by decide +kernel, by decide +kernel⟩, List.mem_of_getElem? (i := 44) (by decide +kernel), List.mem_of_getElem? (i := 318) (by decide +kernel), List.mem_of_getElem? (i := 319) (by decide +kernel)⟩
theorem lw_p4 : lw_okq (⟨"IsomerList", "listSpare", "()I"⟩, 10) := ⟨⟨by decide +kernel, by decide +kernel⟩, List.mem_of_getElem? (i := 19) (by decide +kernel), List.mem_of_getElem? (i := 326) (by decide +kernel), List.mem_of_getElem? (i := 327) (by decide +kernel)⟩
theorem lw_p5 : lw_okq (⟨"IsomerList$Lister", "sumValences", "()V"⟩, 5) := ⟨⟨by decide +kernel, by decide +kernel⟩, List.mem_of_getElem? (i := 179) (by decide +kernel), List.mem_of_getElem? (i := 353) (by decide +kernel), List.mem_of_getElem? (i := 354) (by decide +kernel)⟩
theorem lw_p6 : lw_okq (⟨"IsomerList$Lister", "endRow", "(III)V"⟩, 5) := ⟨⟨by decide +kernel, by decide +kernel⟩, List.mem_of_getElem? (i := 179) (by decide +kernel), List.mem_of_getElem? (i := 357) (by decide +kernel), List.mem_of_getElem? (i := 358) (by decide +kernel)⟩
theorem lw_p7 : lw_okq (⟨"IsomerList$Lister", "canBeEnded", "(II)Z"⟩, 5) := ⟨⟨by decide +kernel, by decide +kernel⟩, List.mem_of_getElem? (i := 179) (by decide +kernel), List.mem_of_getElem? (i := 361) (by decide +kernel), List.mem_of_getElem? (i := 362) (by decide +kernel)⟩
theorem lw_p8 : lw_okq (⟨"IsomerList$Lister", "countGroups", "(I)I"⟩, 5) := ⟨⟨by decide +kernel, by decide +kernel⟩, List.mem_of_getElem? (i := 179) (by decide +kernel), List.mem_of_getElem? (i := 365) (by decide +kernel), List.mem_of_getElem? (i := 366) (by decide +kernel)⟩
theorem lw_p9 : lw_okq (⟨"IsomerList$Lister", "joinGroups", "(III)V"⟩, 5) := ⟨⟨by decide +kernel, by decide +kernel⟩, List.mem_of_getElem? (i := 179) (by decide +kernel), List.mem_of_getElem? (i := 373) (by decide +kernel), List.mem_of_getElem? (i := 374) (by decide +kernel)⟩
theorem lw_p10 : lw_okq (⟨"IsomerList$Numbering", "canBeBeaten", "(II)Z"⟩, 7) := ⟨⟨by decide +kernel, by decide +kernel⟩, List.mem_of_getElem? (i := 148) (by decide +kernel), List.mem_of_getElem? (i := 381) (by decide +kernel), List.mem_of_getElem? (i := 382) (by decide +kernel)⟩
theorem lw_p11 : lw_okq (⟨"IsomerList$Numbering", "row", "(II)I"⟩, 7) := ⟨⟨by decide +kernel, by decide +kernel⟩, List.mem_of_getElem? (i := 148) (by decide +kernel), List.mem_of_getElem? (i := 388) (by decide +kernel), List.mem_of_getElem? (i := 389) (by decide +kernel)⟩
theorem lw_p12 : lw_okq (⟨"IsomerList$Numbering", "canBeBeatenWith", "(III)Z"⟩, 7) := ⟨⟨by decide +kernel, by decide +kernel⟩, List.mem_of_getElem? (i := 148) (by decide +kernel), List.mem_of_getElem? (i := 392) (by decide +kernel), List.mem_of_getElem? (i := 393) (by decide +kernel)⟩
theorem lw_p13 : lw_okq (⟨"IsomerList$Lister", "bindOn", "(IIII)V"⟩, 5) := ⟨⟨by decide +kernel, by decide +kernel⟩, List.mem_of_getElem? (i := 179) (by decide +kernel), List.mem_of_getElem? (i := 400) (by decide +kernel), List.mem_of_getElem? (i := 401) (by decide +kernel)⟩
theorem lw_p14 : lw_okq (⟨"IsomerList$TextReader", "readAtom", "(LIsomerList$Line;I)I"⟩, 8) := ⟨⟨by decide +kernel, by decide +kernel⟩, List.mem_of_getElem? (i := 60) (by decide +kernel), List.mem_of_getElem? (i := 428) (by decide +kernel), List.mem_of_getElem? (i := 429) (by decide +kernel)⟩
theorem lw_p15 : lw_okq (⟨"IsomerList$TextReader", "readPart", "(LIsomerList$Line;)I"⟩, 8) := ⟨⟨by decide +kernel, by decide +kernel⟩, List.mem_of_getElem? (i := 60) (by decide +kernel), List.mem_of_getElem? (i := 439) (by decide +kernel), List.mem_of_getElem? (i := 440) (by decide +kernel)⟩
def lw_privs_1 : List (MethodName × Nat) := [(⟨"IsomerList$FormulaReader", "readElement", "(LIsomerList$Line;)I"⟩, 2), (⟨"IsomerList$FormulaReader", "digitsAhead", "(LIsomerList$Line;)I"⟩, 2), (⟨"IsomerList$FormulaReader", "numberAhead", "(LIsomerList$Line;I)I"⟩, 2), (⟨"IsomerList$FormulaReader", "heavyAtoms", "()I"⟩, 2), (⟨"IsomerList", "listSpare", "()I"⟩, 10), (⟨"IsomerList$Lister", "sumValences", "()V"⟩, 5), (⟨"IsomerList$Lister", "endRow", "(III)V"⟩, 5), (⟨"IsomerList$Lister", "canBeEnded", "(II)Z"⟩, 5), (⟨"IsomerList$Lister", "countGroups", "(I)I"⟩, 5), (⟨"IsomerList$Lister", "joinGroups", "(III)V"⟩, 5), (⟨"IsomerList$Numbering", "canBeBeaten", "(II)Z"⟩, 7), (⟨"IsomerList$Numbering", "row", "(II)I"⟩, 7), (⟨"IsomerList$Numbering", "canBeBeatenWith", "(III)Z"⟩, 7), (⟨"IsomerList$Lister", "bindOn", "(IIII)V"⟩, 5), (⟨"IsomerList$TextReader", "readAtom", "(LIsomerList$Line;I)I"⟩, 8), (⟨"IsomerList$TextReader", "readPart", "(LIsomerList$Line;)I"⟩, 8)]
theorem lw_r1 : ∀ q ∈ lw_privs_1, lw_okq q := List.forall_mem_cons.mpr ⟨lw_p0, List.forall_mem_cons.mpr ⟨lw_p1, List.forall_mem_cons.mpr ⟨lw_p2, List.forall_mem_cons.mpr ⟨lw_p3, List.forall_mem_cons.mpr ⟨lw_p4, List.forall_mem_cons.mpr ⟨lw_p5, List.forall_mem_cons.mpr ⟨lw_p6, List.forall_mem_cons.mpr ⟨lw_p7, List.forall_mem_cons.mpr ⟨lw_p8, List.forall_mem_cons.mpr ⟨lw_p9, List.forall_mem_cons.mpr ⟨lw_p10, List.forall_mem_cons.mpr ⟨lw_p11, List.forall_mem_cons.mpr ⟨lw_p12, List.forall_mem_cons.mpr ⟨lw_p13, List.forall_mem_cons.mpr ⟨lw_p14, List.forall_mem_cons.mpr ⟨lw_p15, fun _ h => absurd h List.not_mem_nil⟩⟩⟩⟩⟩⟩⟩⟩⟩⟩⟩⟩⟩⟩⟩⟩
theorem lw_p16 : lw_okq (⟨"IsomerList$TextReader", "closeBranch", "()I"⟩, 8) := ⟨⟨by decide +kernel, by decide +kernel⟩, List.mem_of_getElem? (i := 60) (by decide +kernel), List.mem_of_getElem? (i := 444) (by decide +kernel), List.mem_of_getElem? (i := 445) (by decide +kernel)⟩
theorem lw_p17 : lw_okq (⟨"IsomerList$TextReader", "openBranch", "(LIsomerList$Line;)I"⟩, 8) := ⟨⟨by decide +kernel, by decide +kernel⟩, List.mem_of_getElem? (i := 60) (by decide +kernel), List.mem_of_getElem? (i := 448) (by decide +kernel), List.mem_of_getElem? (i := 449) (by decide +kernel)⟩
theorem lw_p18 : lw_okq (⟨"IsomerList$TextReader", "readBond", "(LIsomerList$Line;)I"⟩, 8) := ⟨⟨by decide +kernel, by decide +kernel⟩, List.mem_of_getElem? (i := 60) (by decide +kernel), List.mem_of_getElem? (i := 452) (by decide +kernel), List.mem_of_getElem? (i := 453) (by decide +kernel)⟩
theorem lw_p19 : lw_okq (⟨"IsomerList$TextReader", "readRing", "(II)I"⟩, 8) := ⟨⟨by decide +kernel, by decide +kernel⟩, List.mem_of_getElem? (i := 60) (by decide +kernel), List.mem_of_getElem? (i := 457) (by decide +kernel), List.mem_of_getElem? (i := 458) (by decide +kernel)⟩
theorem lw_p20 : lw_okq (⟨"IsomerList$TextReader", "faultAtEnd", "()I"⟩, 8) := ⟨⟨by decide +kernel, by decide +kernel⟩, List.mem_of_getElem? (i := 60) (by decide +kernel), List.mem_of_getElem? (i := 462) (by decide +kernel), List.mem_of_getElem? (i := 463) (by decide +kernel)⟩
theorem lw_p21 : lw_okq (⟨"IsomerList", "findInList", "(LIsomerList$Molecule;)I"⟩, 10) := ⟨⟨by decide +kernel, by decide +kernel⟩, List.mem_of_getElem? (i := 19) (by decide +kernel), List.mem_of_getElem? (i := 470) (by decide +kernel), List.mem_of_getElem? (i := 471) (by decide +kernel)⟩
theorem lw_p22 : lw_okq (⟨"IsomerList$Numbering", "choose", "(II)V"⟩, 7) := ⟨⟨by decide +kernel, by decide +kernel⟩, List.mem_of_getElem? (i := 148) (by decide +kernel), List.mem_of_getElem? (i := 489) (by decide +kernel), List.mem_of_getElem? (i := 490) (by decide +kernel)⟩
theorem lw_p23 : lw_okq (⟨"IsomerList$Numbering", "noteCode", "(I)V"⟩, 7) := ⟨⟨by decide +kernel, by decide +kernel⟩, List.mem_of_getElem? (i := 148) (by decide +kernel), List.mem_of_getElem? (i := 493) (by decide +kernel), List.mem_of_getElem? (i := 494) (by decide +kernel)⟩
theorem lw_p24 : lw_okq (⟨"java/lang/Throwable", "fillInStackTrace", "(I)Ljava/lang/Throwable;"⟩, 6) := ⟨⟨by decide +kernel, by decide +kernel⟩, List.mem_of_getElem? (i := 559) (by decide +kernel), List.mem_of_getElem? (i := 557) (by decide +kernel), List.mem_of_getElem? (i := 558) (by decide +kernel)⟩
theorem lw_p25 : lw_okq (⟨"IsomerList", "checkAtom", "(I)V"⟩, 10) := ⟨⟨by decide +kernel, by decide +kernel⟩, List.mem_of_getElem? (i := 19) (by decide +kernel), List.mem_of_getElem? (i := 596) (by decide +kernel), List.mem_of_getElem? (i := 597) (by decide +kernel)⟩
theorem lw_p26 : lw_okq (⟨"IsomerList", "checkStructure", "(I)V"⟩, 10) := ⟨⟨by decide +kernel, by decide +kernel⟩, List.mem_of_getElem? (i := 19) (by decide +kernel), List.mem_of_getElem? (i := 622) (by decide +kernel), List.mem_of_getElem? (i := 623) (by decide +kernel)⟩
theorem lw_p27 : lw_okq (⟨"IsomerList$TextWriter", "goThrough", "(II)V"⟩, 6) := ⟨⟨by decide +kernel, by decide +kernel⟩, List.mem_of_getElem? (i := 123) (by decide +kernel), List.mem_of_getElem? (i := 660) (by decide +kernel), List.mem_of_getElem? (i := 661) (by decide +kernel)⟩
theorem lw_p28 : lw_okq (⟨"IsomerList$TextWriter", "meetRing", "(II)V"⟩, 6) := ⟨⟨by decide +kernel, by decide +kernel⟩, List.mem_of_getElem? (i := 123) (by decide +kernel), List.mem_of_getElem? (i := 665) (by decide +kernel), List.mem_of_getElem? (i := 666) (by decide +kernel)⟩
theorem lw_p29 : lw_okq (⟨"IsomerList$TextWriter", "putAtom", "(I)V"⟩, 6) := ⟨⟨by decide +kernel, by decide +kernel⟩, List.mem_of_getElem? (i := 123) (by decide +kernel), List.mem_of_getElem? (i := 670) (by decide +kernel), List.mem_of_getElem? (i := 671) (by decide +kernel)⟩
theorem lw_p30 : lw_okq (⟨"IsomerList$TextWriter", "putRings", "(I)V"⟩, 6) := ⟨⟨by decide +kernel, by decide +kernel⟩, List.mem_of_getElem? (i := 123) (by decide +kernel), List.mem_of_getElem? (i := 679) (by decide +kernel), List.mem_of_getElem? (i := 680) (by decide +kernel)⟩
theorem lw_p31 : lw_okq (⟨"IsomerList$TextWriter", "lastFurtherOn", "(I)I"⟩, 6) := ⟨⟨by decide +kernel, by decide +kernel⟩, List.mem_of_getElem? (i := 123) (by decide +kernel), List.mem_of_getElem? (i := 688) (by decide +kernel), List.mem_of_getElem? (i := 689) (by decide +kernel)⟩
def lw_privs_2 : List (MethodName × Nat) := [(⟨"IsomerList$TextReader", "closeBranch", "()I"⟩, 8), (⟨"IsomerList$TextReader", "openBranch", "(LIsomerList$Line;)I"⟩, 8), (⟨"IsomerList$TextReader", "readBond", "(LIsomerList$Line;)I"⟩, 8), (⟨"IsomerList$TextReader", "readRing", "(II)I"⟩, 8), (⟨"IsomerList$TextReader", "faultAtEnd", "()I"⟩, 8), (⟨"IsomerList", "findInList", "(LIsomerList$Molecule;)I"⟩, 10), (⟨"IsomerList$Numbering", "choose", "(II)V"⟩, 7), (⟨"IsomerList$Numbering", "noteCode", "(I)V"⟩, 7), (⟨"java/lang/Throwable", "fillInStackTrace", "(I)Ljava/lang/Throwable;"⟩, 6), (⟨"IsomerList", "checkAtom", "(I)V"⟩, 10), (⟨"IsomerList", "checkStructure", "(I)V"⟩, 10), (⟨"IsomerList$TextWriter", "goThrough", "(II)V"⟩, 6), (⟨"IsomerList$TextWriter", "meetRing", "(II)V"⟩, 6), (⟨"IsomerList$TextWriter", "putAtom", "(I)V"⟩, 6), (⟨"IsomerList$TextWriter", "putRings", "(I)V"⟩, 6), (⟨"IsomerList$TextWriter", "lastFurtherOn", "(I)I"⟩, 6)]
theorem lw_r2 : ∀ q ∈ lw_privs_2, lw_okq q := List.forall_mem_cons.mpr ⟨lw_p16, List.forall_mem_cons.mpr ⟨lw_p17, List.forall_mem_cons.mpr ⟨lw_p18, List.forall_mem_cons.mpr ⟨lw_p19, List.forall_mem_cons.mpr ⟨lw_p20, List.forall_mem_cons.mpr ⟨lw_p21, List.forall_mem_cons.mpr ⟨lw_p22, List.forall_mem_cons.mpr ⟨lw_p23, List.forall_mem_cons.mpr ⟨lw_p24, List.forall_mem_cons.mpr ⟨lw_p25, List.forall_mem_cons.mpr ⟨lw_p26, List.forall_mem_cons.mpr ⟨lw_p27, List.forall_mem_cons.mpr ⟨lw_p28, List.forall_mem_cons.mpr ⟨lw_p29, List.forall_mem_cons.mpr ⟨lw_p30, List.forall_mem_cons.mpr ⟨lw_p31, fun _ h => absurd h List.not_mem_nil⟩⟩⟩⟩⟩⟩⟩⟩⟩⟩⟩⟩⟩⟩⟩⟩
theorem lw_p32 : lw_okq (⟨"IsomerList$TextWriter", "putBound", "(II)V"⟩, 6) := ⟨⟨by decide +kernel, by decide +kernel⟩, List.mem_of_getElem? (i := 123) (by decide +kernel), List.mem_of_getElem? (i := 692) (by decide +kernel), List.mem_of_getElem? (i := 693) (by decide +kernel)⟩
theorem lw_p33 : lw_okq (⟨"IsomerListModel", "refused", "(I)Z"⟩, 33) := ⟨⟨by decide +kernel, by decide +kernel⟩, List.mem_of_getElem? (i := 696) (by decide +kernel), List.mem_of_getElem? (i := 810) (by decide +kernel), List.mem_of_getElem? (i := 811) (by decide +kernel)⟩
theorem lw_p34 : lw_okq (⟨"IsomerListModel", "elementAt", "(I)I"⟩, 33) := ⟨⟨by decide +kernel, by decide +kernel⟩, List.mem_of_getElem? (i := 696) (by decide +kernel), List.mem_of_getElem? (i := 826) (by decide +kernel), List.mem_of_getElem? (i := 827) (by decide +kernel)⟩
theorem lw_p35 : lw_okq (⟨"IsomerListModel", "at", "(I)C"⟩, 33) := ⟨⟨by decide +kernel, by decide +kernel⟩, List.mem_of_getElem? (i := 696) (by decide +kernel), List.mem_of_getElem? (i := 830) (by decide +kernel), List.mem_of_getElem? (i := 831) (by decide +kernel)⟩
theorem lw_p36 : lw_okq (⟨"IsomerListModel", "fault", "(II)I"⟩, 33) := ⟨⟨by decide +kernel, by decide +kernel⟩, List.mem_of_getElem? (i := 696) (by decide +kernel), List.mem_of_getElem? (i := 834) (by decide +kernel), List.mem_of_getElem? (i := 835) (by decide +kernel)⟩
theorem lw_p37 : lw_okq (⟨"IsomerListModel", "search", "()V"⟩, 33) := ⟨⟨by decide +kernel, by decide +kernel⟩, List.mem_of_getElem? (i := 696) (by decide +kernel), List.mem_of_getElem? (i := 847) (by decide +kernel), List.mem_of_getElem? (i := 848) (by decide +kernel)⟩
theorem lw_p38 : lw_okq (⟨"IsomerListModel", "keep", "(I)V"⟩, 33) := ⟨⟨by decide +kernel, by decide +kernel⟩, List.mem_of_getElem? (i := 696) (by decide +kernel), List.mem_of_getElem? (i := 851) (by decide +kernel), List.mem_of_getElem? (i := 852) (by decide +kernel)⟩
theorem lw_p39 : lw_okq (⟨"IsomerListModel", "isOne", "(I)Z"⟩, 33) := ⟨⟨by decide +kernel, by decide +kernel⟩, List.mem_of_getElem? (i := 696) (by decide +kernel), List.mem_of_getElem? (i := 855) (by decide +kernel), List.mem_of_getElem? (i := 856) (by decide +kernel)⟩
theorem lw_p40 : lw_okq (⟨"IsomerListModel", "change", "(II)V"⟩, 33) := ⟨⟨by decide +kernel, by decide +kernel⟩, List.mem_of_getElem? (i := 696) (by decide +kernel), List.mem_of_getElem? (i := 865) (by decide +kernel), List.mem_of_getElem? (i := 866) (by decide +kernel)⟩
theorem lw_p41 : lw_okq (⟨"IsomerListModel", "numberings", "(I)I"⟩, 33) := ⟨⟨by decide +kernel, by decide +kernel⟩, List.mem_of_getElem? (i := 696) (by decide +kernel), List.mem_of_getElem? (i := 872) (by decide +kernel), List.mem_of_getElem? (i := 873) (by decide +kernel)⟩
theorem lw_p42 : lw_okq (⟨"IsomerListModel", "row", "(I)I"⟩, 33) := ⟨⟨by decide +kernel, by decide +kernel⟩, List.mem_of_getElem? (i := 696) (by decide +kernel), List.mem_of_getElem? (i := 876) (by decide +kernel), List.mem_of_getElem? (i := 877) (by decide +kernel)⟩
theorem lw_p43 : lw_okq (⟨"IsomerListModel", "parse", "()I"⟩, 33) := ⟨⟨by decide +kernel, by decide +kernel⟩, List.mem_of_getElem? (i := 696) (by decide +kernel), List.mem_of_getElem? (i := 887) (by decide +kernel), List.mem_of_getElem? (i := 888) (by decide +kernel)⟩
theorem lw_p44 : lw_okq (⟨"IsomerListModel", "atEnd", "()I"⟩, 33) := ⟨⟨by decide +kernel, by decide +kernel⟩, List.mem_of_getElem? (i := 696) (by decide +kernel), List.mem_of_getElem? (i := 891) (by decide +kernel), List.mem_of_getElem? (i := 892) (by decide +kernel)⟩
theorem lw_p45 : lw_okq (⟨"IsomerListModel", "sumOf", "(I)I"⟩, 33) := ⟨⟨by decide +kernel, by decide +kernel⟩, List.mem_of_getElem? (i := 696) (by decide +kernel), List.mem_of_getElem? (i := 895) (by decide +kernel), List.mem_of_getElem? (i := 896) (by decide +kernel)⟩
theorem lw_p46 : lw_okq (⟨"IsomerListModel", "numberInList", "()I"⟩, 33) := ⟨⟨by decide +kernel, by decide +kernel⟩, List.mem_of_getElem? (i := 696) (by decide +kernel), List.mem_of_getElem? (i := 899) (by decide +kernel), List.mem_of_getElem? (i := 900) (by decide +kernel)⟩
theorem lw_p47 : lw_okq (⟨"IsomerListModel", "greatest", "()Z"⟩, 33) := ⟨⟨by decide +kernel, by decide +kernel⟩, List.mem_of_getElem? (i := 696) (by decide +kernel), List.mem_of_getElem? (i := 903) (by decide +kernel), List.mem_of_getElem? (i := 904) (by decide +kernel)⟩
def lw_privs_3 : List (MethodName × Nat) := [(⟨"IsomerList$TextWriter", "putBound", "(II)V"⟩, 6), (⟨"IsomerListModel", "refused", "(I)Z"⟩, 33), (⟨"IsomerListModel", "elementAt", "(I)I"⟩, 33), (⟨"IsomerListModel", "at", "(I)C"⟩, 33), (⟨"IsomerListModel", "fault", "(II)I"⟩, 33), (⟨"IsomerListModel", "search", "()V"⟩, 33), (⟨"IsomerListModel", "keep", "(I)V"⟩, 33), (⟨"IsomerListModel", "isOne", "(I)Z"⟩, 33), (⟨"IsomerListModel", "change", "(II)V"⟩, 33), (⟨"IsomerListModel", "numberings", "(I)I"⟩, 33), (⟨"IsomerListModel", "row", "(I)I"⟩, 33), (⟨"IsomerListModel", "parse", "()I"⟩, 33), (⟨"IsomerListModel", "atEnd", "()I"⟩, 33), (⟨"IsomerListModel", "sumOf", "(I)I"⟩, 33), (⟨"IsomerListModel", "numberInList", "()I"⟩, 33), (⟨"IsomerListModel", "greatest", "()Z"⟩, 33)]
theorem lw_r3 : ∀ q ∈ lw_privs_3, lw_okq q := List.forall_mem_cons.mpr ⟨lw_p32, List.forall_mem_cons.mpr ⟨lw_p33, List.forall_mem_cons.mpr ⟨lw_p34, List.forall_mem_cons.mpr ⟨lw_p35, List.forall_mem_cons.mpr ⟨lw_p36, List.forall_mem_cons.mpr ⟨lw_p37, List.forall_mem_cons.mpr ⟨lw_p38, List.forall_mem_cons.mpr ⟨lw_p39, List.forall_mem_cons.mpr ⟨lw_p40, List.forall_mem_cons.mpr ⟨lw_p41, List.forall_mem_cons.mpr ⟨lw_p42, List.forall_mem_cons.mpr ⟨lw_p43, List.forall_mem_cons.mpr ⟨lw_p44, List.forall_mem_cons.mpr ⟨lw_p45, List.forall_mem_cons.mpr ⟨lw_p46, List.forall_mem_cons.mpr ⟨lw_p47, fun _ h => absurd h List.not_mem_nil⟩⟩⟩⟩⟩⟩⟩⟩⟩⟩⟩⟩⟩⟩⟩⟩
theorem lw_p48 : lw_okq (⟨"IsomerListModel", "take", "()V"⟩, 33) := ⟨⟨by decide +kernel, by decide +kernel⟩, List.mem_of_getElem? (i := 696) (by decide +kernel), List.mem_of_getElem? (i := 907) (by decide +kernel), List.mem_of_getElem? (i := 908) (by decide +kernel)⟩
theorem lw_p49 : lw_okq (⟨"IsomerListModel", "isAtom", "(I)Z"⟩, 33) := ⟨⟨by decide +kernel, by decide +kernel⟩, List.mem_of_getElem? (i := 696) (by decide +kernel), List.mem_of_getElem? (i := 923) (by decide +kernel), List.mem_of_getElem? (i := 924) (by decide +kernel)⟩
theorem lw_p50 : lw_okq (⟨"IsomerListModel", "isStructure", "(I)Z"⟩, 33) := ⟨⟨by decide +kernel, by decide +kernel⟩, List.mem_of_getElem? (i := 696) (by decide +kernel), List.mem_of_getElem? (i := 931) (by decide +kernel), List.mem_of_getElem? (i := 932) (by decide +kernel)⟩
theorem lw_p51 : lw_okq (⟨"IsomerListModel", "bondOf", "(III)I"⟩, 33) := ⟨⟨by decide +kernel, by decide +kernel⟩, List.mem_of_getElem? (i := 696) (by decide +kernel), List.mem_of_getElem? (i := 935) (by decide +kernel), List.mem_of_getElem? (i := 936) (by decide +kernel)⟩
theorem lw_p52 : lw_okq (⟨"IsomerListModel", "go", "(I)V"⟩, 33) := ⟨⟨by decide +kernel, by decide +kernel⟩, List.mem_of_getElem? (i := 696) (by decide +kernel), List.mem_of_getElem? (i := 951) (by decide +kernel), List.mem_of_getElem? (i := 952) (by decide +kernel)⟩
theorem lw_p53 : lw_okq (⟨"IsomerListModel", "putAtom", "(II)V"⟩, 33) := ⟨⟨by decide +kernel, by decide +kernel⟩, List.mem_of_getElem? (i := 696) (by decide +kernel), List.mem_of_getElem? (i := 955) (by decide +kernel), List.mem_of_getElem? (i := 956) (by decide +kernel)⟩
theorem lw_p54 : lw_okq (⟨"IsomerListModel", "putSign", "(I)V"⟩, 33) := ⟨⟨by decide +kernel, by decide +kernel⟩, List.mem_of_getElem? (i := 696) (by decide +kernel), List.mem_of_getElem? (i := 959) (by decide +kernel), List.mem_of_getElem? (i := 960) (by decide +kernel)⟩
theorem lw_p55 : lw_okq (⟨"IsomerListModel", "put", "(C)V"⟩, 33) := ⟨⟨by decide +kernel, by decide +kernel⟩, List.mem_of_getElem? (i := 696) (by decide +kernel), List.mem_of_getElem? (i := 963) (by decide +kernel), List.mem_of_getElem? (i := 964) (by decide +kernel)⟩
theorem lw_p56 : lw_okq (⟨"IsomerListModel", "putBond", "(I)V"⟩, 33) := ⟨⟨by decide +kernel, by decide +kernel⟩, List.mem_of_getElem? (i := 696) (by decide +kernel), List.mem_of_getElem? (i := 967) (by decide +kernel), List.mem_of_getElem? (i := 968) (by decide +kernel)⟩
theorem lw_p57 : lw_okq (⟨"IsomerListModel", "further", "(II)I"⟩, 33) := ⟨⟨by decide +kernel, by decide +kernel⟩, List.mem_of_getElem? (i := 696) (by decide +kernel), List.mem_of_getElem? (i := 971) (by decide +kernel), List.mem_of_getElem? (i := 972) (by decide +kernel)⟩
def lw_privs_4 : List (MethodName × Nat) := [(⟨"IsomerListModel", "take", "()V"⟩, 33), (⟨"IsomerListModel", "isAtom", "(I)Z"⟩, 33), (⟨"IsomerListModel", "isStructure", "(I)Z"⟩, 33), (⟨"IsomerListModel", "bondOf", "(III)I"⟩, 33), (⟨"IsomerListModel", "go", "(I)V"⟩, 33), (⟨"IsomerListModel", "putAtom", "(II)V"⟩, 33), (⟨"IsomerListModel", "putSign", "(I)V"⟩, 33), (⟨"IsomerListModel", "put", "(C)V"⟩, 33), (⟨"IsomerListModel", "putBond", "(I)V"⟩, 33), (⟨"IsomerListModel", "further", "(II)I"⟩, 33)]
theorem lw_r4 : ∀ q ∈ lw_privs_4, lw_okq q := List.forall_mem_cons.mpr ⟨lw_p48, List.forall_mem_cons.mpr ⟨lw_p49, List.forall_mem_cons.mpr ⟨lw_p50, List.forall_mem_cons.mpr ⟨lw_p51, List.forall_mem_cons.mpr ⟨lw_p52, List.forall_mem_cons.mpr ⟨lw_p53, List.forall_mem_cons.mpr ⟨lw_p54, List.forall_mem_cons.mpr ⟨lw_p55, List.forall_mem_cons.mpr ⟨lw_p56, List.forall_mem_cons.mpr ⟨lw_p57, fun _ h => absurd h List.not_mem_nil⟩⟩⟩⟩⟩⟩⟩⟩⟩⟩
def lw_privs : List (MethodName × Nat) := lw_privs_1 ++ (lw_privs_2 ++ (lw_privs_3 ++ (lw_privs_4)))
def lw_tbl : List Cond := k2_sels lw_privs ++ tables_1
theorem lw_privs_ok : ∀ q ∈ lw_privs, lw_okq q := by
  show ∀ q ∈ lw_privs_1 ++ (lw_privs_2 ++ (lw_privs_3 ++ (lw_privs_4))), lw_okq q
  exact List.forall_mem_append.mpr ⟨lw_r1, List.forall_mem_append.mpr ⟨lw_r2, List.forall_mem_append.mpr ⟨lw_r3, lw_r4⟩⟩⟩
-- ===== end of PART A; then your names; then what follows =====
end
section
/-! mj: A THIN LOGIC OVER THE KIT'S W: abstract states (ids for addresses), one row an instruction. Part 02: the classes' tables. -/
def mj_tb : List Cond := lw_tbl.filter goodWord
theorem mj_tb_good {w : Cond} (h : w ∈ mj_tb) : w ∈ lw_tbl ∧ goodWord w = true := List.mem_filter.mp h
def mj_R0 : String := "IsomerList"
def mj_T0 : u_T := fun k => match k with
  | 0 => ("IsomerList", "line", "LIsomerList$Line;", true)
  | 1 => ("IsomerList", "formulaReader", "LIsomerList$FormulaReader;", true)
  | 2 => ("IsomerList", "textReader", "LIsomerList$TextReader;", true)
  | 3 => ("IsomerList", "textWriter", "LIsomerList$TextWriter;", true)
  | 4 => ("IsomerList", "numbering", "LIsomerList$Numbering;", true)
  | 5 => ("IsomerList", "lister", "LIsomerList$Lister;", true)
  | 6 => ("IsomerList", "shown", "LIsomerList$Molecule;", true)
  | 7 => ("IsomerList", "current", "LIsomerList$Catalogue;", false)
  | 8 => ("IsomerList", "spare", "LIsomerList$Catalogue;", false)
  | _ => ("IsomerList", "faultPlace", "I", false)
def mj_t0 : Nat → FieldType := fun k => match k with
  | 0 => .object "IsomerList$Line"
  | 1 => .object "IsomerList$FormulaReader"
  | 2 => .object "IsomerList$TextReader"
  | 3 => .object "IsomerList$TextWriter"
  | 4 => .object "IsomerList$Numbering"
  | 5 => .object "IsomerList$Lister"
  | 6 => .object "IsomerList$Molecule"
  | 7 => .object "IsomerList$Catalogue"
  | 8 => .object "IsomerList$Catalogue"
  | _ => .int
theorem mj_in0 : ∀ w ∈ u_ws mj_R0 mj_T0 10, w ∈ mj_tb := by decide +kernel
theorem mj_nm0 : ∀ a, a < 10 → ∀ b, b < 10 → a ≠ b → (mj_T0 a).2.1 ≠ (mj_T0 b).2.1 := by decide +kernel
theorem mj_ty0 : ∀ k, k < 10 → parseFieldDescriptor (mj_T0 k).2.2.1 = some (mj_t0 k) := by decide +kernel
def mj_R1 : String := "IsomerList$Line"
def mj_T1 : u_T := fun k => match k with
  | 0 => ("IsomerList$Line", "characters", "[C", true)
  | _ => ("IsomerList$Line", "length", "I", false)
def mj_t1 : Nat → FieldType := fun k => match k with
  | 0 => .array .char
  | _ => .int
theorem mj_in1 : ∀ w ∈ u_ws mj_R1 mj_T1 2, w ∈ mj_tb := by decide +kernel
theorem mj_nm1 : ∀ a, a < 2 → ∀ b, b < 2 → a ≠ b → (mj_T1 a).2.1 ≠ (mj_T1 b).2.1 := by decide +kernel
theorem mj_ty1 : ∀ k, k < 2 → parseFieldDescriptor (mj_T1 k).2.2.1 = some (mj_t1 k) := by decide +kernel
def mj_R2 : String := "IsomerList$FormulaReader"
def mj_T2 : u_T := fun k => match k with
  | 0 => ("IsomerList$FormulaReader", "counts", "[I", true)
  | _ => ("IsomerList$FormulaReader", "at", "I", false)
def mj_t2 : Nat → FieldType := fun k => match k with
  | 0 => .array .int
  | _ => .int
theorem mj_in2 : ∀ w ∈ u_ws mj_R2 mj_T2 2, w ∈ mj_tb := by decide +kernel
theorem mj_nm2 : ∀ a, a < 2 → ∀ b, b < 2 → a ≠ b → (mj_T2 a).2.1 ≠ (mj_T2 b).2.1 := by decide +kernel
theorem mj_ty2 : ∀ k, k < 2 → parseFieldDescriptor (mj_T2 k).2.2.1 = some (mj_t2 k) := by decide +kernel
def mj_R3 : String := "IsomerList$TextReader"
def mj_T3 : u_T := fun k => match k with
  | 0 => ("IsomerList$TextReader", "molecule", "LIsomerList$Molecule;", true)
  | 1 => ("IsomerList$TextReader", "ringAtoms", "[I", true)
  | 2 => ("IsomerList$TextReader", "ringBonds", "[I", true)
  | 3 => ("IsomerList$TextReader", "branchAtoms", "[I", true)
  | 4 => ("IsomerList$TextReader", "branches", "I", false)
  | 5 => ("IsomerList$TextReader", "last", "I", false)
  | 6 => ("IsomerList$TextReader", "ringsMayFollow", "Z", false)
  | _ => ("IsomerList$TextReader", "at", "I", false)
def mj_t3 : Nat → FieldType := fun k => match k with
  | 0 => .object "IsomerList$Molecule"
  | 1 => .array .int
  | 2 => .array .int
  | 3 => .array .int
  | 4 => .int
  | 5 => .int
  | 6 => .boolean
  | _ => .int
theorem mj_in3 : ∀ w ∈ u_ws mj_R3 mj_T3 8, w ∈ mj_tb := by decide +kernel
theorem mj_nm3 : ∀ a, a < 8 → ∀ b, b < 8 → a ≠ b → (mj_T3 a).2.1 ≠ (mj_T3 b).2.1 := by decide +kernel
theorem mj_ty3 : ∀ k, k < 8 → parseFieldDescriptor (mj_T3 k).2.2.1 = some (mj_t3 k) := by decide +kernel
def mj_R4 : String := "IsomerList$Molecule"
def mj_T4 : u_T := fun k => match k with
  | 0 => ("IsomerList$Molecule", "kinds", "[I", true)
  | 1 => ("IsomerList$Molecule", "free", "[I", true)
  | 2 => ("IsomerList$Molecule", "bonds", "[I", true)
  | _ => ("IsomerList$Molecule", "atoms", "I", false)
def mj_t4 : Nat → FieldType := fun k => match k with
  | 0 => .array .int
  | 1 => .array .int
  | 2 => .array .int
  | _ => .int
theorem mj_in4 : ∀ w ∈ u_ws mj_R4 mj_T4 4, w ∈ mj_tb := by decide +kernel
theorem mj_nm4 : ∀ a, a < 4 → ∀ b, b < 4 → a ≠ b → (mj_T4 a).2.1 ≠ (mj_T4 b).2.1 := by decide +kernel
theorem mj_ty4 : ∀ k, k < 4 → parseFieldDescriptor (mj_T4 k).2.2.1 = some (mj_t4 k) := by decide +kernel
def mj_R5 : String := "IsomerList$TextWriter"
def mj_T5 : u_T := fun k => match k with
  | 0 => ("IsomerList$TextWriter", "cameFrom", "[I", true)
  | 1 => ("IsomerList$TextWriter", "ringStarts", "[I", true)
  | 2 => ("IsomerList$TextWriter", "ringEnds", "[I", true)
  | 3 => ("IsomerList$TextWriter", "rings", "I", false)
  | 4 => ("IsomerList$TextWriter", "molecule", "LIsomerList$Molecule;", false)
  | _ => ("IsomerList$TextWriter", "line", "LIsomerList$Line;", false)
def mj_t5 : Nat → FieldType := fun k => match k with
  | 0 => .array .int
  | 1 => .array .int
  | 2 => .array .int
  | 3 => .int
  | 4 => .object "IsomerList$Molecule"
  | _ => .object "IsomerList$Line"
theorem mj_in5 : ∀ w ∈ u_ws mj_R5 mj_T5 6, w ∈ mj_tb := by decide +kernel
theorem mj_nm5 : ∀ a, a < 6 → ∀ b, b < 6 → a ≠ b → (mj_T5 a).2.1 ≠ (mj_T5 b).2.1 := by decide +kernel
theorem mj_ty5 : ∀ k, k < 6 → parseFieldDescriptor (mj_T5 k).2.2.1 = some (mj_t5 k) := by decide +kernel
def mj_R6 : String := "IsomerList$Numbering"
def mj_T6 : u_T := fun k => match k with
  | 0 => ("IsomerList$Numbering", "chosen", "[I", true)
  | 1 => ("IsomerList$Numbering", "taken", "[Z", true)
  | 2 => ("IsomerList$Numbering", "molecule", "LIsomerList$Molecule;", false)
  | 3 => ("IsomerList$Numbering", "wanted", "[I", false)
  | 4 => ("IsomerList$Numbering", "atoms", "I", false)
  | 5 => ("IsomerList$Numbering", "greatest", "I", false)
  | _ => ("IsomerList$Numbering", "sharers", "I", false)
def mj_t6 : Nat → FieldType := fun k => match k with
  | 0 => .array .int
  | 1 => .array .boolean
  | 2 => .object "IsomerList$Molecule"
  | 3 => .array .int
  | 4 => .int
  | 5 => .int
  | _ => .int
theorem mj_in6 : ∀ w ∈ u_ws mj_R6 mj_T6 7, w ∈ mj_tb := by decide +kernel
theorem mj_nm6 : ∀ a, a < 7 → ∀ b, b < 7 → a ≠ b → (mj_T6 a).2.1 ≠ (mj_T6 b).2.1 := by decide +kernel
theorem mj_ty6 : ∀ k, k < 7 → parseFieldDescriptor (mj_T6 k).2.2.1 = some (mj_t6 k) := by decide +kernel
def mj_R7 : String := "IsomerList$Lister"
def mj_T7 : u_T := fun k => match k with
  | 0 => ("IsomerList$Lister", "numbering", "LIsomerList$Numbering;", true)
  | 1 => ("IsomerList$Lister", "molecule", "LIsomerList$Molecule;", true)
  | 2 => ("IsomerList$Lister", "valencesFrom", "[I", true)
  | 3 => ("IsomerList$Lister", "groups", "[I", true)
  | _ => ("IsomerList$Lister", "catalogue", "LIsomerList$Catalogue;", false)
def mj_t7 : Nat → FieldType := fun k => match k with
  | 0 => .object "IsomerList$Numbering"
  | 1 => .object "IsomerList$Molecule"
  | 2 => .array .int
  | 3 => .array .int
  | _ => .object "IsomerList$Catalogue"
theorem mj_in7 : ∀ w ∈ u_ws mj_R7 mj_T7 5, w ∈ mj_tb := by decide +kernel
theorem mj_nm7 : ∀ a, a < 5 → ∀ b, b < 5 → a ≠ b → (mj_T7 a).2.1 ≠ (mj_T7 b).2.1 := by decide +kernel
theorem mj_ty7 : ∀ k, k < 5 → parseFieldDescriptor (mj_T7 k).2.2.1 = some (mj_t7 k) := by decide +kernel
def mj_R8 : String := "IsomerList$Catalogue"
def mj_T8 : u_T := fun k => match k with
  | 0 => ("IsomerList$Catalogue", "kinds", "[I", true)
  | 1 => ("IsomerList$Catalogue", "codes", "[I", true)
  | 2 => ("IsomerList$Catalogue", "atoms", "I", false)
  | 3 => ("IsomerList$Catalogue", "hydrogenSum", "I", false)
  | _ => ("IsomerList$Catalogue", "size", "I", false)
def mj_t8 : Nat → FieldType := fun k => match k with
  | 0 => .array .int
  | 1 => .array .int
  | 2 => .int
  | 3 => .int
  | _ => .int
theorem mj_in8 : ∀ w ∈ u_ws mj_R8 mj_T8 5, w ∈ mj_tb := by decide +kernel
theorem mj_nm8 : ∀ a, a < 5 → ∀ b, b < 5 → a ≠ b → (mj_T8 a).2.1 ≠ (mj_T8 b).2.1 := by decide +kernel
theorem mj_ty8 : ∀ k, k < 5 → parseFieldDescriptor (mj_T8 k).2.2.1 = some (mj_t8 k) := by decide +kernel
def mj_R9 : String := "IsomerListModel"
def mj_T9 : u_T := fun k => match k with
  | 0 => ("IsomerListModel", "refusal", "I", false)
  | 1 => ("IsomerListModel", "size", "I", false)
  | 2 => ("IsomerListModel", "line", "[C", true)
  | 3 => ("IsomerListModel", "wrong", "I", false)
  | 4 => ("IsomerListModel", "atoms", "I", false)
  | 5 => ("IsomerListModel", "hydrogenSum", "I", false)
  | 6 => ("IsomerListModel", "elements", "[I", true)
  | 7 => ("IsomerListModel", "structures", "I", false)
  | 8 => ("IsomerListModel", "list", "[I", true)
  | 9 => ("IsomerListModel", "tried", "I", false)
  | 10 => ("IsomerListModel", "kind", "[I", true)
  | 11 => ("IsomerListModel", "code", "[I", true)
  | 12 => ("IsomerListModel", "free", "[I", true)
  | 13 => ("IsomerListModel", "rest", "I", false)
  | 14 => ("IsomerListModel", "next", "[I", true)
  | 15 => ("IsomerListModel", "found", "I", false)
  | 16 => ("IsomerListModel", "fresh", "[I", true)
  | 17 => ("IsomerListModel", "numbered", "[I", true)
  | 18 => ("IsomerListModel", "isTaken", "[Z", true)
  | 19 => ("IsomerListModel", "signs", "I", false)
  | 20 => ("IsomerListModel", "signOf", "[I", true)
  | 21 => ("IsomerListModel", "bonds", "[I", true)
  | 22 => ("IsomerListModel", "best", "[I", true)
  | 23 => ("IsomerListModel", "many", "[I", true)
  | 24 => ("IsomerListModel", "pile", "[I", true)
  | 25 => ("IsomerListModel", "ringAtom", "[I", true)
  | 26 => ("IsomerListModel", "ringBond", "[I", true)
  | 27 => ("IsomerListModel", "before", "[I", true)
  | 28 => ("IsomerListModel", "rings", "[I", true)
  | 29 => ("IsomerListModel", "done", "[I", true)
  | 30 => ("IsomerListModel", "isOpen", "[Z", true)
  | 31 => ("IsomerListModel", "isReached", "[Z", true)
  | _ => ("IsomerListModel", "last", "[I", true)
def mj_t9 : Nat → FieldType := fun k => match k with
  | 0 => .int
  | 1 => .int
  | 2 => .array .char
  | 3 => .int
  | 4 => .int
  | 5 => .int
  | 6 => .array .int
  | 7 => .int
  | 8 => .array .int
  | 9 => .int
  | 10 => .array .int
  | 11 => .array .int
  | 12 => .array .int
  | 13 => .int
  | 14 => .array .int
  | 15 => .int
  | 16 => .array .int
  | 17 => .array .int
  | 18 => .array .boolean
  | 19 => .int
  | 20 => .array .int
  | 21 => .array .int
  | 22 => .array .int
  | 23 => .array .int
  | 24 => .array .int
  | 25 => .array .int
  | 26 => .array .int
  | 27 => .array .int
  | 28 => .array .int
  | 29 => .array .int
  | 30 => .array .boolean
  | 31 => .array .boolean
  | _ => .array .int
theorem mj_in9 : ∀ w ∈ u_ws mj_R9 mj_T9 33, w ∈ mj_tb := by decide +kernel
theorem mj_nm9 : ∀ a, a < 33 → ∀ b, b < 33 → a ≠ b → (mj_T9 a).2.1 ≠ (mj_T9 b).2.1 := by decide +kernel
theorem mj_ty9 : ∀ k, k < 33 → parseFieldDescriptor (mj_T9 k).2.2.1 = some (mj_t9 k) := by decide +kernel
abbrev mj_cl : List vw_C := [(mj_R0, mj_T0, 10), (mj_R1, mj_T1, 2), (mj_R2, mj_T2, 2), (mj_R3, mj_T3, 8), (mj_R4, mj_T4, 4), (mj_R5, mj_T5, 6), (mj_R6, mj_T6, 7), (mj_R7, mj_T7, 5), (mj_R8, mj_T8, 5), (mj_R9, mj_T9, 33)]
def mj_t : Nat → Nat → FieldType := fun c => match c with
  | 0 => mj_t0
  | 1 => mj_t1
  | 2 => mj_t2
  | 3 => mj_t3
  | 4 => mj_t4
  | 5 => mj_t5
  | 6 => mj_t6
  | 7 => mj_t7
  | 8 => mj_t8
  | _ => mj_t9
theorem mj_in : ∀ (ci : Nat) (q : vw_C), mj_cl[ci]? = some q → ∀ w ∈ u_ws q.1 q.2.1 q.2.2, w ∈ mj_tb := by
  intro ci q h
  match ci, h with
  | 0, h => cases h; exact mj_in0
  | 1, h => cases h; exact mj_in1
  | 2, h => cases h; exact mj_in2
  | 3, h => cases h; exact mj_in3
  | 4, h => cases h; exact mj_in4
  | 5, h => cases h; exact mj_in5
  | 6, h => cases h; exact mj_in6
  | 7, h => cases h; exact mj_in7
  | 8, h => cases h; exact mj_in8
  | 9, h => cases h; exact mj_in9
  | k + 10, h => simp [mj_cl] at h
theorem mj_nm : ∀ (ci : Nat) (q : vw_C), mj_cl[ci]? = some q → ∀ a, a < q.2.2 → ∀ b, b < q.2.2 → a ≠ b → (q.2.1 a).2.1 ≠ (q.2.1 b).2.1 := by
  intro ci q h
  match ci, h with
  | 0, h => cases h; exact mj_nm0
  | 1, h => cases h; exact mj_nm1
  | 2, h => cases h; exact mj_nm2
  | 3, h => cases h; exact mj_nm3
  | 4, h => cases h; exact mj_nm4
  | 5, h => cases h; exact mj_nm5
  | 6, h => cases h; exact mj_nm6
  | 7, h => cases h; exact mj_nm7
  | 8, h => cases h; exact mj_nm8
  | 9, h => cases h; exact mj_nm9
  | k + 10, h => simp [mj_cl] at h
theorem mj_ty : ∀ (ci : Nat) (q : vw_C), mj_cl[ci]? = some q → ∀ k, k < q.2.2 → parseFieldDescriptor (q.2.1 k).2.2.1 = some (mj_t ci k) := by
  intro ci q h
  match ci, h with
  | 0, h => cases h; exact mj_ty0
  | 1, h => cases h; exact mj_ty1
  | 2, h => cases h; exact mj_ty2
  | 3, h => cases h; exact mj_ty3
  | 4, h => cases h; exact mj_ty4
  | 5, h => cases h; exact mj_ty5
  | 6, h => cases h; exact mj_ty6
  | 7, h => cases h; exact mj_ty7
  | 8, h => cases h; exact mj_ty8
  | 9, h => cases h; exact mj_ty9
  | k + 10, h => simp [mj_cl] at h
end
section
/-! mj, part 03: abstract states, and what the machine's states have to do with them. An abstract reference is a number: below mj_st a cell made since the law's start (its place behind the start's last cell), from mj_st on one of four arrays that nobody writes (three static tables, the script). -/
abbrev mj_E : Type := (Nat × vp_A) ⊕ (Nat × List Value)
/-- cells by their ids; how many are known; how many there are -/
abbrev mj_S : Type := (Nat → mj_E) × Nat × Nat
abbrev mj_G : Type := Launch × State × va_G × (Nat → ClassId) × (Nat → Nat) × (Nat → vp_A)
abbrev mj_G.l (Γ : mj_G) : Launch := Γ.1
abbrev mj_G.s (Γ : mj_G) : State := Γ.2.1
abbrev mj_G.D (Γ : mj_G) : va_G := Γ.2.2.1
abbrev mj_G.cA (Γ : mj_G) : Nat → ClassId := Γ.2.2.2.1
abbrev mj_G.ra (Γ : mj_G) : Nat → Nat := Γ.2.2.2.2.1
abbrev mj_G.ro (Γ : mj_G) : Nat → vp_A := Γ.2.2.2.2.2
/-- code, own class, locals, what it returns, its name -/
abbrev mj_M : Type := ByteArray × String × Nat × Option FieldType × String
abbrev mj_M.cc (M : mj_M) : ByteArray := M.1
abbrev mj_M.own (M : mj_M) : String := M.2.1
abbrev mj_M.nL (M : mj_M) : Nat := M.2.2.1
abbrev mj_M.ret (M : mj_M) : Option FieldType := M.2.2.2.1
abbrev mj_M.name (M : mj_M) : String := M.2.2.2.2
/-- how a method ends: it returns, or throws an exception of the class with that number -/
abbrev mj_O : Type := Option Value ⊕ Nat
def mj_st : Nat := 1000000
def mj_ad (Γ : mj_G) (k : Nat) : Nat := if k < mj_st then Γ.s.heap.size + k else Γ.ra (k - mj_st)
def mj_v (Γ : mj_G) : Value → Value := fun v => match v with
  | .ref k => .ref (mj_ad Γ k)
  | v => v
def mj_e (Γ : mj_G) : mj_E → va_E := fun e => match e with
  | .inl a => .inl (Γ.cA a.1, a.2)
  | .inr o => .inr (o.1, o.2.map (mj_v Γ))
def mj_ws (Γ : mj_G) (S : mj_S) : va_W := (List.range S.2.1).map fun k => (mj_ad Γ k, mj_e Γ (S.1 k))
def mj_A (Γ : mj_G) : Nat → Prop := fun q => Γ.s.heap.size ≤ q
def mj_at : Nat → FieldType := fun t => match t with
  | 0 => .int
  | 1 => .char
  | 2 => .boolean
  | _ => .long
def mj_rt : Nat → Nat := fun k => match k with
  | 0 => 0
  | 1 => 1
  | 2 => 1
  | _ => 0
def mj_rn : Nat → String × String := fun k => match k with
  | 0 => ("VALENCES", "[I")
  | 1 => ("FIRST_LETTERS", "[C")
  | _ => ("SECOND_LETTERS", "[C")
def mj_xn : Nat → String := fun k => match k with
  | 0 => "java/lang/IllegalStateException"
  | _ => "java/lang/IndexOutOfBoundsException"
abbrev mj_tys (Γ : mj_G) : List (ClassId × FieldType) := [(Γ.cA 0, .int), (Γ.cA 1, .char), (Γ.cA 2, .boolean), (Γ.cA 3, .long)]
/-- what an int array holds -/
def mj_ai (x : vp_A) : Nat → Int32 := match x.2 with
  | .inl f => f
  | _ => fun _ => 0
/-- what the law's start gives -/
def mj_F (Γ : mj_G) : Prop :=
  (∃ a0 : Array Value, ∀ w ∈ lw_tbl, w.before a0 Γ.s = true) ∧ va_K Γ.D mj_cl (mj_tys Γ) Γ.s ∧
  (∀ k, k < 3 → va_Z "IsomerList" (mj_rn k).1 (mj_rn k).2 (.ref (Γ.ra k)) (mj_A Γ) Γ.s Γ.s.heap) ∧
  (∀ k, k < 4 → va_T (mj_at (mj_rt k)) (Γ.ra k) (Γ.ro k).1 (fun j => .int (mj_ai (Γ.ro k) j)) (mj_A Γ) Γ.s Γ.s.heap)
/-- a state of the law's run: the tables as at the start or warmer, the start's cells as they were -/
def mj_C (Γ : mj_G) (U : State) : Prop :=
  mj_F Γ ∧ Γ.s.WarmedH U.vm ∧ Γ.s.heap.size ≤ U.heap.size ∧ ∀ q : Nat, q < Γ.s.heap.size → U.heap[q]? = Γ.s.heap[q]?
def mj_W (Γ : mj_G) (S : mj_S) (H : Heap) : Prop :=
  H.size = Γ.s.heap.size + S.2.2 ∧ S.2.1 ≤ S.2.2 ∧ S.2.1 ≤ mj_st ∧ va_P Γ.D mj_cl (mj_ws Γ S) H ∧
  ∀ k, k < 4 → S.1 (mj_st + k) = .inl (mj_rt k, Γ.ro k)
def mj_jk : Value → Bool := fun v => match v with
  | .retAddr _ => true
  | _ => false
def mj_L (Γ : mj_G) (ls : Array Slot) (lv : List Value) : Prop :=
  ls.size = lv.length ∧ lv_wf ls ∧ ∀ (i : Nat) (v : Value), lv[i]? = some v → mj_jk v = false → ls[i]? = some (.val (mj_v Γ v))
def mj_o (Γ : mj_G) (out : mj_O) (o : Outcome) (t : State) : Prop := match out with
  | .inl v => o = .returned (v.map (mj_v Γ))
  | .inr x => ∃ (a : Addr) (cell : Cell), o = .threw a ∧ t.heap[a]? = some cell ∧ (∀ k, cell.vm ≠ .statics k) ∧ t.vm.findClass (mj_xn x) = some cell.cls
/-- the end of a method that began in s -/
def mj_R (Γ : mj_G) (s : State) (mc ms : Nat) (P : mj_O → mj_S → Prop) (o : Outcome) (t : State) : Prop :=
  (∃ (out : mj_O) (S' : mj_S), mj_o Γ out o t ∧ P out S' ∧ mj_W Γ S' t.heap) ∧ va_F (mj_A Γ) s t ∧ s.WarmedH t.vm ∧ ∃ L, s.sameButNew ({ t with vm := s.vm } : State) L mc ms ∧ ∀ q ∈ L, mj_A Γ q.base
def mj_Q (Γ : mj_G) (below : List Frame) (s : State) (mc ms : Nat) (P : mj_O → mj_S → Prop) : State → Prop := fun t =>
  ∃ o : Outcome, t.status = .running ∧ Ended t below o ∧ mj_R Γ s mc ms P o t
def mj_X (Γ : mj_G) (d : Nat) (M : mj_M) (k n : Nat) (p : Program) (R : Room) (s : State) (m : MethodId) (meth : Method) (c : Code) (cells slots : Nat) : Prop :=
  p.tables.exec = Jvm.exec ∧ c.code = M.cc ∧ meth.sig.returnType = M.ret ∧ meth.locks = false ∧ c.maxLocals = M.nL ∧ s.vm.findClass M.own = some m.cls ∧ mj_C Γ s ∧
  d ≤ R.frames ∧ 40 * d ≤ R.locals ∧ cells + k ≤ R.cells ∧ slots + n ≤ R.slots ∧ meth.name = M.name ∧ c.exceptionTable.isEmpty = true
/-- FROM THIS ABSTRACT STATE THE METHOD M ENDS WITH P, making at most k more cells of n slots, nesting at most d frames -/
def mj_Ok (Γ : mj_G) (d : Nat) (M : mj_M) (k n pc : Nat) (lv st : List Value) (S : mj_S) (P : mj_O → mj_S → Prop) : Prop :=
  ∀ (p : Program) (e : Env) (R : Room) (s : State) (m : MethodId) (args : Array Value) (below : List Frame) (meth : Method) (c : Code) (H : Heap) (locs : List Loc) (cells slots : Nat) (ls : Array Slot),
    mj_X Γ d M k n p R s m meth c cells slots → va_S (mj_A Γ) s.heap H locs → mj_W Γ S H → mj_L Γ ls lv → lv.length = M.nL →
    W p Γ.l e R s m args below meth c H locs cells slots (mj_Q Γ below s (cells + k) (slots + n) P) (F0 m pc ls (st.map (mj_v Γ)))
/-- a method's contract, from one abstract state -/
def mj_Met (Γ : mj_G) (d : Nat) (y : MethodName) (M : mj_M) (av : List Value) (S : mj_S) (mc ms : Nat) (P : mj_O → mj_S → Prop) : Prop :=
  MetFree Γ.l y (headSpec [Cond.code y M.cc M.nL M.ret] { frames := d, cells := mc, slots := ms, locals := 40 * d })
    (fun v U => v = (av.map (mj_v Γ)).toArray ∧ mj_C Γ U ∧ mj_W Γ S U.heap) (fun _ _ _ _ _ => True) (fun _ st o t => mj_R Γ st mc ms P o t)
/-! small facts -/
theorem mj_ad_lt {Γ : mj_G} {k : Nat} (h : k < mj_st) : mj_ad Γ k = Γ.s.heap.size + k := if_pos h
theorem mj_ad_ro {Γ : mj_G} (k : Nat) : mj_ad Γ (mj_st + k) = Γ.ra k := by
  unfold mj_ad
  rw [if_neg (by omega), Nat.add_sub_cancel_left]
theorem mj_ws_at {Γ : mj_G} {S : mj_S} {k : Nat} (h : k < S.2.1) : (mj_ws Γ S)[k]? = some (mj_ad Γ k, mj_e Γ (S.1 k)) := by
  simp [mj_ws, h]
theorem mj_ws_inv {Γ : mj_G} {S : mj_S} {k : Nat} {q : Nat × va_E} (h : (mj_ws Γ S)[k]? = some q) : k < S.2.1 ∧ q = (mj_ad Γ k, mj_e Γ (S.1 k)) := by
  have h1 : k < (mj_ws Γ S).length := (List.getElem?_eq_some_iff.mp h).1
  have h2 : k < S.2.1 := by simpa [mj_ws] using h1
  exact ⟨h2, Option.some.inj (h.symm.trans (mj_ws_at h2))⟩
theorem mj_W.D {Γ : mj_G} {S : mj_S} {H : Heap} (h : mj_W Γ S H) : va_D (mj_A Γ) (mj_ws Γ S) := by
  have hs := h.2.2.1
  refine ⟨fun i j p q hi hj e => ?_, fun k q hk => ?_⟩
  · obtain ⟨h1, rfl⟩ := mj_ws_inv hi
    obtain ⟨h2, rfl⟩ := mj_ws_inv hj
    have e : mj_ad Γ i = mj_ad Γ j := e
    rw [mj_ad_lt (by omega), mj_ad_lt (by omega)] at e
    omega
  · obtain ⟨h1, rfl⟩ := mj_ws_inv hk
    show Γ.s.heap.size ≤ mj_ad Γ k
    rw [mj_ad_lt (by omega)]
    omega
theorem mj_C.K {Γ : mj_G} {U : State} (h : mj_C Γ U) : va_K Γ.D mj_cl (mj_tys Γ) U := va_K.moved h.2.1.alike h.1.2.1
theorem mj_C.w {Γ : mj_G} {U : State} (h : mj_C Γ U) (a : Array Value) : ∀ w ∈ mj_tb, w.before a U = true := by
  intro w hw
  obtain ⟨h1, h2⟩ := mj_tb_good hw
  obtain ⟨a0, h0⟩ := h.1.1
  exact word_at h.2.1 (good_of_word h2) (h0 w h1)
theorem mj_C.nF {Γ : mj_G} {U : State} (h : mj_C Γ U) {a : String} {i : Nat} {b n d ho : String} (hw : Cond.fieldLinkNest a i b n d ho ∈ lw_tbl) (x : Array Value) : (Cond.fieldLinkNest a i b n d ho).before x U = true := by
  obtain ⟨a0, h0⟩ := h.1.1
  exact va_Nw.use rfl (va_Nw.warmF h.2.1 (va_Nw.of rfl (h0 _ hw)))
theorem mj_C.nM {Γ : mj_G} {U : State} (h : mj_C Γ U) {a : String} {i : Nat} {y : MethodName} {ho : String} (hw : Cond.methodLinkNest a i y ho ∈ lw_tbl) : va_Nw (.methodLinkNest a i y ho) U := by
  obtain ⟨a0, h0⟩ := h.1.1
  exact va_Nw.warmM h.2.1 (va_Nw.of rfl (h0 _ hw))
theorem mj_C.kept {Γ : mj_G} {U : State} (h : mj_C Γ U) : ∀ a : Nat, a < Γ.s.heap.size → ¬ mj_A Γ a → U.heap[a]? = Γ.s.heap[a]? := fun a h1 _ => h.2.2.2 a h1
theorem mj_C.Z {Γ : mj_G} {U : State} (h : mj_C Γ U) {k : Nat} (hk : k < 3) : va_Z "IsomerList" (mj_rn k).1 (mj_rn k).2 (.ref (Γ.ra k)) (mj_A Γ) U U.heap := ((h.1.2.2.1 k hk).moved h.2.1.alike).kept h.kept
theorem mj_C.T {Γ : mj_G} {U : State} (h : mj_C Γ U) {k : Nat} (hk : k < 4) : va_T (mj_at (mj_rt k)) (Γ.ra k) (Γ.ro k).1 (fun j => .int (mj_ai (Γ.ro k) j)) (mj_A Γ) U U.heap := ((h.1.2.2.2 k hk).moved h.2.1.alike).kept h.kept
theorem mj_C.step {Γ : mj_G} {s t : State} (h : mj_C Γ s) (hw : s.WarmedH t.vm) (hf : va_F (mj_A Γ) s t) : mj_C Γ t := by
  obtain ⟨h1, h2, h3, h4⟩ := h
  exact ⟨h1, State.WarmedH.trans h2 hw, Nat.le_trans h3 hf.1, fun q hq => (hf.2 q (Nat.lt_of_lt_of_le hq h3) (Nat.not_le.mpr hq)).trans (h4 q hq)⟩
theorem mj_map_cons {Γ : mj_G} (v : Value) (l : List Value) : (v :: l).map (mj_v Γ) = mj_v Γ v :: l.map (mj_v Γ) := rfl
theorem mj_v_cat {Γ : mj_G} (v : Value) : (mj_v Γ v).category = v.category := by cases v <;> rfl
theorem mj_L.at {Γ : mj_G} {ls : Array Slot} {lv : List Value} (h : mj_L Γ ls lv) {i : Nat} {v : Value} (hi : lv[i]? = some v) (hj : mj_jk v = false) : ls[i]? = some (.val (mj_v Γ v)) := h.2.2 i v hi hj
/-- a store into a local, by the kit's row -/
def mj_al (Γ : mj_G) (lv : List Value) : List (Nat × Value) := (List.range lv.length).filterMap fun i => match lv[i]? with
  | some v => if mj_jk v = false then some (i, mj_v Γ v) else none
  | none => none
theorem mj_L.has {Γ : mj_G} {ls : Array Slot} {lv : List Value} (h : mj_L Γ ls lv) : lv_has ls lv.length (mj_al Γ lv) := by
  refine ⟨h.1, h.2.1, fun q hq => ?_⟩
  obtain ⟨i, -, hi⟩ := List.mem_filterMap.mp hq
  cases hv : lv[i]? with
  | none => rw [hv] at hi; simp at hi
  | some v =>
    rw [hv] at hi
    by_cases hj : mj_jk v = false
    · simp [hj] at hi
      rw [← hi]
      exact h.2.2 i v hv hj
    · simp [hj] at hi
theorem mj_al_mem {Γ : mj_G} {lv : List Value} {i : Nat} {v : Value} (hi : lv[i]? = some v) (hj : mj_jk v = false) : (i, mj_v Γ v) ∈ mj_al Γ lv := by
  refine List.mem_filterMap.mpr ⟨i, List.mem_range.mpr (List.getElem?_eq_some_iff.mp hi).1, ?_⟩
  simp [hi, hj]
/-- no local holds a long or a double -/
def mj_c1 (lv : List Value) : Bool := lv.all fun v => v.category == 1
theorem mj_L.store {Γ : mj_G} {ls' : Array Slot} {lv : List Value} {i : Nat} {v : Value} (hc : mj_c1 lv = true)
    (h : lv_has ls' lv.length ((i, mj_v Γ v) :: (mj_al Γ lv).filter (fun q => !(q.1 == i) && !(q.1 + 1 == i && q.2.category == 2)))) : mj_L Γ ls' (lv.set i v) := by
  refine ⟨by rw [h.1, List.length_set], h.2.1, fun j w hj hw => ?_⟩
  by_cases e : i = j
  · subst e
    have hl : i < lv.length := by
      have := (List.getElem?_eq_some_iff.mp hj).1
      rwa [List.length_set] at this
    rw [List.getElem?_set_self hl] at hj
    cases hj
    exact h.2.2 _ List.mem_cons_self
  · rw [List.getElem?_set_ne e] at hj
    refine h.2.2 (j, mj_v Γ w) (List.mem_cons_of_mem _ (List.mem_filter.mpr ⟨mj_al_mem hj hw, ?_⟩))
    have h1 : w.category = 1 := by
      have := List.all_eq_true.mp hc w (List.mem_of_getElem? hj)
      simpa using this
    have e' : ¬ j = i := fun q => e q.symm
    simp [e', mj_v_cat, h1]
end
section
/-! mj, part 04: one row an instruction: stack, locals, branches. -/
section MJ4
variable {Γ : mj_G} {d : Nat} {M : mj_M} {k n pc : Nat} {lv st : List Value} {S : mj_S} {P : mj_O → mj_S → Prop}
theorem mj_iadd {x y : Int32} (hd : decode M.cc pc = .ok (.iadd, 1))  (h : mj_Ok Γ d M k n (pc + 1) lv (.int (x + y) :: st) S P) : mj_Ok Γ d M k n pc lv (.int y :: .int x :: st) S P := by
  intro p e R s m args below meth c H locs cells slots ls hX hS hW hL hN
  exact lv_iadd hX.1 hX.2.1 hd  (h p e R s m args below meth c H locs cells slots ls hX hS hW hL hN)
theorem mj_isub {x y : Int32} (hd : decode M.cc pc = .ok (.isub, 1))  (h : mj_Ok Γ d M k n (pc + 1) lv (.int (x - y) :: st) S P) : mj_Ok Γ d M k n pc lv (.int y :: .int x :: st) S P := by
  intro p e R s m args below meth c H locs cells slots ls hX hS hW hL hN
  exact lv_isub hX.1 hX.2.1 hd  (h p e R s m args below meth c H locs cells slots ls hX hS hW hL hN)
theorem mj_imul {x y : Int32} (hd : decode M.cc pc = .ok (.imul, 1))  (h : mj_Ok Γ d M k n (pc + 1) lv (.int (x * y) :: st) S P) : mj_Ok Γ d M k n pc lv (.int y :: .int x :: st) S P := by
  intro p e R s m args below meth c H locs cells slots ls hX hS hW hL hN
  exact lv_imul hX.1 hX.2.1 hd  (h p e R s m args below meth c H locs cells slots ls hX hS hW hL hN)
theorem mj_iand {x y : Int32} (hd : decode M.cc pc = .ok (.iand, 1))  (h : mj_Ok Γ d M k n (pc + 1) lv (.int (x &&& y) :: st) S P) : mj_Ok Γ d M k n pc lv (.int y :: .int x :: st) S P := by
  intro p e R s m args below meth c H locs cells slots ls hX hS hW hL hN
  exact lv_iand hX.1 hX.2.1 hd  (h p e R s m args below meth c H locs cells slots ls hX hS hW hL hN)
theorem mj_ior {x y : Int32} (hd : decode M.cc pc = .ok (.ior, 1))  (h : mj_Ok Γ d M k n (pc + 1) lv (.int (x ||| y) :: st) S P) : mj_Ok Γ d M k n pc lv (.int y :: .int x :: st) S P := by
  intro p e R s m args below meth c H locs cells slots ls hX hS hW hL hN
  exact lv_ior hX.1 hX.2.1 hd  (h p e R s m args below meth c H locs cells slots ls hX hS hW hL hN)
theorem mj_ishl {x y : Int32} (hd : decode M.cc pc = .ok (.ishl, 1))  (h : mj_Ok Γ d M k n (pc + 1) lv (.int (x <<< (y &&& 31)) :: st) S P) : mj_Ok Γ d M k n pc lv (.int y :: .int x :: st) S P := by
  intro p e R s m args below meth c H locs cells slots ls hX hS hW hL hN
  exact lv_ishl hX.1 hX.2.1 hd  (h p e R s m args below meth c H locs cells slots ls hX hS hW hL hN)
theorem mj_ishr {x y : Int32} (hd : decode M.cc pc = .ok (.ishr, 1))  (h : mj_Ok Γ d M k n (pc + 1) lv (.int (x >>> (y &&& 31)) :: st) S P) : mj_Ok Γ d M k n pc lv (.int y :: .int x :: st) S P := by
  intro p e R s m args below meth c H locs cells slots ls hX hS hW hL hN
  exact lv_ishr hX.1 hX.2.1 hd  (h p e R s m args below meth c H locs cells slots ls hX hS hW hL hN)
theorem mj_idiv {x y : Int32} (hd : decode M.cc pc = .ok (.idiv, 1)) (hne : ¬ y = 0) (h : mj_Ok Γ d M k n (pc + 1) lv (.int (x / y) :: st) S P) : mj_Ok Γ d M k n pc lv (.int y :: .int x :: st) S P := by
  intro p e R s m args below meth c H locs cells slots ls hX hS hW hL hN
  exact lv_idiv hX.1 hX.2.1 hd hne (h p e R s m args below meth c H locs cells slots ls hX hS hW hL hN)
theorem mj_irem {x y : Int32} (hd : decode M.cc pc = .ok (.irem, 1)) (hne : ¬ y = 0) (h : mj_Ok Γ d M k n (pc + 1) lv (.int (x - x / y * y) :: st) S P) : mj_Ok Γ d M k n pc lv (.int y :: .int x :: st) S P := by
  intro p e R s m args below meth c H locs cells slots ls hX hS hW hL hN
  exact lv_irem hX.1 hX.2.1 hd hne (h p e R s m args below meth c H locs cells slots ls hX hS hW hL hN)
theorem mj_ineg {x : Int32} (hd : decode M.cc pc = .ok (.ineg, 1))  (h : mj_Ok Γ d M k n (pc + 1) lv (.int (-x) :: st) S P) : mj_Ok Γ d M k n pc lv (.int x :: st) S P := by
  intro p e R s m args below meth c H locs cells slots ls hX hS hW hL hN
  exact lv_ineg hX.1 hX.2.1 hd  (h p e R s m args below meth c H locs cells slots ls hX hS hW hL hN)
theorem mj_iconst {i : Int} {v : Int32} (hd : decode M.cc pc = .ok (.iconst i, 1)) (hv : Int32.ofInt i = v) (h : mj_Ok Γ d M k n (pc + 1) lv (.int v :: st) S P) : mj_Ok Γ d M k n pc lv (st) S P := by
  intro p e R s m args below meth c H locs cells slots ls hX hS hW hL hN
  exact lv_iconst hX.1 hX.2.1 hd hv (h p e R s m args below meth c H locs cells slots ls hX hS hW hL hN)
theorem mj_bipush {i : Int} {v : Int32} (hd : decode M.cc pc = .ok (.bipush i, 2)) (hv : (Int8.ofInt i).toInt32 = v) (h : mj_Ok Γ d M k n (pc + 2) lv (.int v :: st) S P) : mj_Ok Γ d M k n pc lv (st) S P := by
  intro p e R s m args below meth c H locs cells slots ls hX hS hW hL hN
  exact lv_bipush hX.1 hX.2.1 hd hv (h p e R s m args below meth c H locs cells slots ls hX hS hW hL hN)
theorem mj_sipush {i : Int} {v : Int32} (hd : decode M.cc pc = .ok (.sipush i, 3)) (hv : (Int16.ofInt i).toInt32 = v) (h : mj_Ok Γ d M k n (pc + 3) lv (.int v :: st) S P) : mj_Ok Γ d M k n pc lv (st) S P := by
  intro p e R s m args below meth c H locs cells slots ls hX hS hW hL hN
  exact lv_sipush hX.1 hX.2.1 hd hv (h p e R s m args below meth c H locs cells slots ls hX hS hW hL hN)
theorem mj_i2l {x : Int32} (hd : decode M.cc pc = .ok (.i2l, 1))  (h : mj_Ok Γ d M k n (pc + 1) lv (.long x.toInt64 :: st) S P) : mj_Ok Γ d M k n pc lv (.int x :: st) S P := by
  intro p e R s m args below meth c H locs cells slots ls hX hS hW hL hN
  exact lv_i2l hX.1 hX.2.1 hd rfl (h p e R s m args below meth c H locs cells slots ls hX hS hW hL hN)
theorem mj_i2c {x : Int32} (hd : decode M.cc pc = .ok (.i2c, 1))  (h : mj_Ok Γ d M k n (pc + 1) lv (.int (x.toUInt32 % 65536).toInt32 :: st) S P) : mj_Ok Γ d M k n pc lv (.int x :: st) S P := by
  intro p e R s m args below meth c H locs cells slots ls hX hS hW hL hN
  exact lv_i2c hX.1 hX.2.1 hd rfl (h p e R s m args below meth c H locs cells slots ls hX hS hW hL hN)
theorem mj_lcmp {x y : Int64} (hd : decode M.cc pc = .ok (.lcmp, 1))  (h : mj_Ok Γ d M k n (pc + 1) lv (.int (lg_cmp x y) :: st) S P) : mj_Ok Γ d M k n pc lv (.long y :: .long x :: st) S P := by
  intro p e R s m args below meth c H locs cells slots ls hX hS hW hL hN
  exact W.lcmp hX.1 hX.2.1 hd  (h p e R s m args below meth c H locs cells slots ls hX hS hW hL hN)
theorem mj_iload {i : Nat} {x : Int32} (hd : decode M.cc pc = .ok (.iload i, 2)) (hi : lv[i]? = some (.int x)) (h : mj_Ok Γ d M k n (pc + 2) lv (.int x :: st) S P) : mj_Ok Γ d M k n pc lv (st) S P := by
  intro p e R s m args below meth c H locs cells slots ls hX hS hW hL hN
  exact lv_iload hX.1 hX.2.1 hd (hL.at hi rfl) (h p e R s m args below meth c H locs cells slots ls hX hS hW hL hN)
theorem mj_aload {i : Nat} {x : Nat} (hd : decode M.cc pc = .ok (.aload i, 2)) (hi : lv[i]? = some (.ref x)) (h : mj_Ok Γ d M k n (pc + 2) lv (.ref x :: st) S P) : mj_Ok Γ d M k n pc lv (st) S P := by
  intro p e R s m args below meth c H locs cells slots ls hX hS hW hL hN
  exact lv_aload hX.1 hX.2.1 hd (hL.at hi rfl) (h p e R s m args below meth c H locs cells slots ls hX hS hW hL hN)
theorem mj_iload_n {i : Fin 4} {x : Int32} (hd : decode M.cc pc = .ok (.iload_n i, 1)) (hi : lv[(i : Nat)]? = some (.int x)) (h : mj_Ok Γ d M k n (pc + 1) lv (.int x :: st) S P) : mj_Ok Γ d M k n pc lv (st) S P := by
  intro p e R s m args below meth c H locs cells slots ls hX hS hW hL hN
  exact lv_iload_n hX.1 hX.2.1 hd rfl (hL.at hi rfl) (h p e R s m args below meth c H locs cells slots ls hX hS hW hL hN)
theorem mj_aload_n {i : Fin 4} {x : Nat} (hd : decode M.cc pc = .ok (.aload_n i, 1)) (hi : lv[(i : Nat)]? = some (.ref x)) (h : mj_Ok Γ d M k n (pc + 1) lv (.ref x :: st) S P) : mj_Ok Γ d M k n pc lv (st) S P := by
  intro p e R s m args below meth c H locs cells slots ls hX hS hW hL hN
  exact lv_aload_n hX.1 hX.2.1 hd rfl (hL.at hi rfl) (h p e R s m args below meth c H locs cells slots ls hX hS hW hL hN)
theorem mj_dup {v : Value} (hd : decode M.cc pc = .ok (.dup, 1)) (hv : v.category = 1) (h : mj_Ok Γ d M k n (pc + 1) lv (v :: v :: st) S P) : mj_Ok Γ d M k n pc lv (v :: st) S P := by
  intro p e R s m args below meth c H locs cells slots ls hX hS hW hL hN
  exact lv_dup hX.1 hX.2.1 hd ((mj_v_cat v).trans hv) (h p e R s m args below meth c H locs cells slots ls hX hS hW hL hN)
theorem mj_dup2 {v w : Value} (hd : decode M.cc pc = .ok (.dup2, 1)) (hv : v.category = 1) (hw : w.category = 1) (h : mj_Ok Γ d M k n (pc + 1) lv (v :: w :: v :: w :: st) S P) : mj_Ok Γ d M k n pc lv (v :: w :: st) S P := by
  intro p e R s m args below meth c H locs cells slots ls hX hS hW hL hN
  exact lv_dup2_11 hX.1 hX.2.1 hd ((mj_v_cat v).trans hv) ((mj_v_cat w).trans hw) (h p e R s m args below meth c H locs cells slots ls hX hS hW hL hN)
theorem mj_pop {v : Value} (hd : decode M.cc pc = .ok (.pop, 1)) (hv : v.category = 1) (h : mj_Ok Γ d M k n (pc + 1) lv (st) S P) : mj_Ok Γ d M k n pc lv (v :: st) S P := by
  intro p e R s m args below meth c H locs cells slots ls hX hS hW hL hN
  exact lv_pop hX.1 hX.2.1 hd ((mj_v_cat v).trans hv) (h p e R s m args below meth c H locs cells slots ls hX hS hW hL hN)
theorem mj_null  (hd : decode M.cc pc = .ok (.aconst_null, 1))  (h : mj_Ok Γ d M k n (pc + 1) lv (.null :: st) S P) : mj_Ok Γ d M k n pc lv (st) S P := by
  intro p e R s m args below meth c H locs cells slots ls hX hS hW hL hN
  exact lv_null hX.1 hX.2.1 hd  (h p e R s m args below meth c H locs cells slots ls hX hS hW hL hN)
theorem mj_istore {i : Nat} {x : Int32} {lv' : List Value} (hd : decode M.cc pc = .ok (.istore i, 2)) (hc : mj_c1 lv = true) (hi : Nat.blt i lv.length = true) (hl : lv.set i (.int x) = lv') (h : mj_Ok Γ d M k n (pc + 2) lv' st S P) : mj_Ok Γ d M k n pc lv (.int x :: st) S P := by
  intro p e R s m args below meth c H locs cells slots ls hX hS hW hL hN
  subst hl
  exact lv_istore hX.1 hX.2.1 hd hL.has (Nat.le_of_ble_eq_true hi) rfl (fun ls' hl' => h p e R s m args below meth c H locs cells slots ls' hX hS hW (mj_L.store (v := .int x) hc hl') (by rw [List.length_set]; exact hN))
theorem mj_astore {i : Nat} {x : Nat} {lv' : List Value} (hd : decode M.cc pc = .ok (.astore i, 2)) (hc : mj_c1 lv = true) (hi : Nat.blt i lv.length = true) (hl : lv.set i (.ref x) = lv') (h : mj_Ok Γ d M k n (pc + 2) lv' st S P) : mj_Ok Γ d M k n pc lv (.ref x :: st) S P := by
  intro p e R s m args below meth c H locs cells slots ls hX hS hW hL hN
  subst hl
  exact lv_astore hX.1 hX.2.1 hd hL.has (Nat.le_of_ble_eq_true hi) rfl (fun ls' hl' => h p e R s m args below meth c H locs cells slots ls' hX hS hW (mj_L.store (v := .ref x) hc hl') (by rw [List.length_set]; exact hN))
theorem mj_istore_n {i : Fin 4} {x : Int32} {lv' : List Value} (hd : decode M.cc pc = .ok (.istore_n i, 1)) (hc : mj_c1 lv = true) (hi : Nat.blt (i : Nat) lv.length = true) (hl : lv.set (i : Nat) (.int x) = lv') (h : mj_Ok Γ d M k n (pc + 1) lv' st S P) : mj_Ok Γ d M k n pc lv (.int x :: st) S P := by
  intro p e R s m args below meth c H locs cells slots ls hX hS hW hL hN
  subst hl
  exact lv_istore_n hX.1 hX.2.1 hd rfl hL.has (Nat.le_of_ble_eq_true hi) rfl (fun ls' hl' => h p e R s m args below meth c H locs cells slots ls' hX hS hW (mj_L.store (v := .int x) hc hl') (by rw [List.length_set]; exact hN))
theorem mj_astore_n {i : Fin 4} {x : Nat} {lv' : List Value} (hd : decode M.cc pc = .ok (.astore_n i, 1)) (hc : mj_c1 lv = true) (hi : Nat.blt (i : Nat) lv.length = true) (hl : lv.set (i : Nat) (.ref x) = lv') (h : mj_Ok Γ d M k n (pc + 1) lv' st S P) : mj_Ok Γ d M k n pc lv (.ref x :: st) S P := by
  intro p e R s m args below meth c H locs cells slots ls hX hS hW hL hN
  subst hl
  exact lv_astore_n hX.1 hX.2.1 hd rfl hL.has (Nat.le_of_ble_eq_true hi) rfl (fun ls' hl' => h p e R s m args below meth c H locs cells slots ls' hX hS hW (mj_L.store (v := .ref x) hc hl') (by rw [List.length_set]; exact hN))
theorem mj_iinc {i : Nat} {z : Int} {x v : Int32} {lv' : List Value} (hd : decode M.cc pc = .ok (.iinc i z, 3)) (hc : mj_c1 lv = true) (hx : lv[i]? = some (.int x)) (hv : x + Int32.ofInt z = v) (hl : lv.set i (.int v) = lv') (h : mj_Ok Γ d M k n (pc + 3) lv' st S P) : mj_Ok Γ d M k n pc lv st S P := by
  intro p e R s m args below meth c H locs cells slots ls hX hS hW hL hN
  subst hl
  obtain ⟨q, hq⟩ := List.getElem?_of_mem (mj_al_mem (Γ := Γ) hx rfl)
  exact lv_iinc hX.1 hX.2.1 hd hL.has (k := q) hq hv (List.getElem?_eq_some_iff.mp hx).1 rfl (fun ls' hl' => h p e R s m args below meth c H locs cells slots ls' hX hS hW (mj_L.store (v := .int v) hc hl') (by rw [List.length_set]; exact hN))
theorem mj_goto {off : Int} (tgt : Nat) (hd : decode M.cc pc = .ok (.goto off, 3)) (ht : (pc : Int) + off = (tgt : Int)) (h : mj_Ok Γ d M k n tgt lv st S P) : mj_Ok Γ d M k n pc lv st S P := by
  intro p e R s m args below meth c H locs cells slots ls hX hS hW hL hN
  exact lv_goto hX.1 hX.2.1 hd ht (h p e R s m args below meth c H locs cells slots ls hX hS hW hL hN)
theorem mj_if_eq {x : Int32} {off : Int} (tgt : Nat) (hd : decode M.cc pc = .ok (.ifCond .eq off, 3)) (ht : (pc : Int) + off = (tgt : Int)) (ht1 : x = 0 → mj_Ok Γ d M k n tgt lv st S P) (hf1 : ¬ (x = 0) → mj_Ok Γ d M k n (pc + 3) lv st S P) : mj_Ok Γ d M k n pc lv (.int x :: st) S P := by
  intro p e R s m args below meth c H locs cells slots ls hX hS hW hL hN
  exact lv_if_eq hX.1 hX.2.1 hd ht (fun q => ht1 q p e R s m args below meth c H locs cells slots ls hX hS hW hL hN) (fun q => hf1 q p e R s m args below meth c H locs cells slots ls hX hS hW hL hN)
theorem mj_icmp_eq {x y : Int32} {off : Int} (tgt : Nat) (hd : decode M.cc pc = .ok (.if_icmp .eq off, 3)) (ht : (pc : Int) + off = (tgt : Int)) (ht1 : x = y → mj_Ok Γ d M k n tgt lv st S P) (hf1 : ¬ (x = y) → mj_Ok Γ d M k n (pc + 3) lv st S P) : mj_Ok Γ d M k n pc lv (.int y :: .int x :: st) S P := by
  intro p e R s m args below meth c H locs cells slots ls hX hS hW hL hN
  exact lv_icmp_eq hX.1 hX.2.1 hd ht (fun q => ht1 q p e R s m args below meth c H locs cells slots ls hX hS hW hL hN) (fun q => hf1 q p e R s m args below meth c H locs cells slots ls hX hS hW hL hN)
theorem mj_if_ne {x : Int32} {off : Int} (tgt : Nat) (hd : decode M.cc pc = .ok (.ifCond .ne off, 3)) (ht : (pc : Int) + off = (tgt : Int)) (ht1 : ¬ x = 0 → mj_Ok Γ d M k n tgt lv st S P) (hf1 : x = 0 → mj_Ok Γ d M k n (pc + 3) lv st S P) : mj_Ok Γ d M k n pc lv (.int x :: st) S P := by
  intro p e R s m args below meth c H locs cells slots ls hX hS hW hL hN
  exact lv_if_ne hX.1 hX.2.1 hd ht (fun q => ht1 q p e R s m args below meth c H locs cells slots ls hX hS hW hL hN) (fun q => hf1 q p e R s m args below meth c H locs cells slots ls hX hS hW hL hN)
theorem mj_icmp_ne {x y : Int32} {off : Int} (tgt : Nat) (hd : decode M.cc pc = .ok (.if_icmp .ne off, 3)) (ht : (pc : Int) + off = (tgt : Int)) (ht1 : ¬ x = y → mj_Ok Γ d M k n tgt lv st S P) (hf1 : x = y → mj_Ok Γ d M k n (pc + 3) lv st S P) : mj_Ok Γ d M k n pc lv (.int y :: .int x :: st) S P := by
  intro p e R s m args below meth c H locs cells slots ls hX hS hW hL hN
  exact lv_icmp_ne hX.1 hX.2.1 hd ht (fun q => ht1 q p e R s m args below meth c H locs cells slots ls hX hS hW hL hN) (fun q => hf1 q p e R s m args below meth c H locs cells slots ls hX hS hW hL hN)
theorem mj_if_lt {x : Int32} {off : Int} (tgt : Nat) (hd : decode M.cc pc = .ok (.ifCond .lt off, 3)) (ht : (pc : Int) + off = (tgt : Int)) (ht1 : x < 0 → mj_Ok Γ d M k n tgt lv st S P) (hf1 : ¬ (x < 0) → mj_Ok Γ d M k n (pc + 3) lv st S P) : mj_Ok Γ d M k n pc lv (.int x :: st) S P := by
  intro p e R s m args below meth c H locs cells slots ls hX hS hW hL hN
  exact lv_if_lt hX.1 hX.2.1 hd ht (fun q => ht1 q p e R s m args below meth c H locs cells slots ls hX hS hW hL hN) (fun q => hf1 q p e R s m args below meth c H locs cells slots ls hX hS hW hL hN)
theorem mj_icmp_lt {x y : Int32} {off : Int} (tgt : Nat) (hd : decode M.cc pc = .ok (.if_icmp .lt off, 3)) (ht : (pc : Int) + off = (tgt : Int)) (ht1 : x < y → mj_Ok Γ d M k n tgt lv st S P) (hf1 : ¬ (x < y) → mj_Ok Γ d M k n (pc + 3) lv st S P) : mj_Ok Γ d M k n pc lv (.int y :: .int x :: st) S P := by
  intro p e R s m args below meth c H locs cells slots ls hX hS hW hL hN
  exact lv_icmp_lt hX.1 hX.2.1 hd ht (fun q => ht1 q p e R s m args below meth c H locs cells slots ls hX hS hW hL hN) (fun q => hf1 q p e R s m args below meth c H locs cells slots ls hX hS hW hL hN)
theorem mj_if_ge {x : Int32} {off : Int} (tgt : Nat) (hd : decode M.cc pc = .ok (.ifCond .ge off, 3)) (ht : (pc : Int) + off = (tgt : Int)) (ht1 : 0 ≤ x → mj_Ok Γ d M k n tgt lv st S P) (hf1 : ¬ (0 ≤ x) → mj_Ok Γ d M k n (pc + 3) lv st S P) : mj_Ok Γ d M k n pc lv (.int x :: st) S P := by
  intro p e R s m args below meth c H locs cells slots ls hX hS hW hL hN
  exact lv_if_ge hX.1 hX.2.1 hd ht (fun q => ht1 q p e R s m args below meth c H locs cells slots ls hX hS hW hL hN) (fun q => hf1 q p e R s m args below meth c H locs cells slots ls hX hS hW hL hN)
theorem mj_icmp_ge {x y : Int32} {off : Int} (tgt : Nat) (hd : decode M.cc pc = .ok (.if_icmp .ge off, 3)) (ht : (pc : Int) + off = (tgt : Int)) (ht1 : y ≤ x → mj_Ok Γ d M k n tgt lv st S P) (hf1 : ¬ (y ≤ x) → mj_Ok Γ d M k n (pc + 3) lv st S P) : mj_Ok Γ d M k n pc lv (.int y :: .int x :: st) S P := by
  intro p e R s m args below meth c H locs cells slots ls hX hS hW hL hN
  exact lv_icmp_ge hX.1 hX.2.1 hd ht (fun q => ht1 q p e R s m args below meth c H locs cells slots ls hX hS hW hL hN) (fun q => hf1 q p e R s m args below meth c H locs cells slots ls hX hS hW hL hN)
theorem mj_if_gt {x : Int32} {off : Int} (tgt : Nat) (hd : decode M.cc pc = .ok (.ifCond .gt off, 3)) (ht : (pc : Int) + off = (tgt : Int)) (ht1 : 0 < x → mj_Ok Γ d M k n tgt lv st S P) (hf1 : ¬ (0 < x) → mj_Ok Γ d M k n (pc + 3) lv st S P) : mj_Ok Γ d M k n pc lv (.int x :: st) S P := by
  intro p e R s m args below meth c H locs cells slots ls hX hS hW hL hN
  exact lv_if_gt hX.1 hX.2.1 hd ht (fun q => ht1 q p e R s m args below meth c H locs cells slots ls hX hS hW hL hN) (fun q => hf1 q p e R s m args below meth c H locs cells slots ls hX hS hW hL hN)
theorem mj_icmp_gt {x y : Int32} {off : Int} (tgt : Nat) (hd : decode M.cc pc = .ok (.if_icmp .gt off, 3)) (ht : (pc : Int) + off = (tgt : Int)) (ht1 : y < x → mj_Ok Γ d M k n tgt lv st S P) (hf1 : ¬ (y < x) → mj_Ok Γ d M k n (pc + 3) lv st S P) : mj_Ok Γ d M k n pc lv (.int y :: .int x :: st) S P := by
  intro p e R s m args below meth c H locs cells slots ls hX hS hW hL hN
  exact lv_icmp_gt hX.1 hX.2.1 hd ht (fun q => ht1 q p e R s m args below meth c H locs cells slots ls hX hS hW hL hN) (fun q => hf1 q p e R s m args below meth c H locs cells slots ls hX hS hW hL hN)
theorem mj_if_le {x : Int32} {off : Int} (tgt : Nat) (hd : decode M.cc pc = .ok (.ifCond .le off, 3)) (ht : (pc : Int) + off = (tgt : Int)) (ht1 : x ≤ 0 → mj_Ok Γ d M k n tgt lv st S P) (hf1 : ¬ (x ≤ 0) → mj_Ok Γ d M k n (pc + 3) lv st S P) : mj_Ok Γ d M k n pc lv (.int x :: st) S P := by
  intro p e R s m args below meth c H locs cells slots ls hX hS hW hL hN
  exact lv_if_le hX.1 hX.2.1 hd ht (fun q => ht1 q p e R s m args below meth c H locs cells slots ls hX hS hW hL hN) (fun q => hf1 q p e R s m args below meth c H locs cells slots ls hX hS hW hL hN)
theorem mj_icmp_le {x y : Int32} {off : Int} (tgt : Nat) (hd : decode M.cc pc = .ok (.if_icmp .le off, 3)) (ht : (pc : Int) + off = (tgt : Int)) (ht1 : x ≤ y → mj_Ok Γ d M k n tgt lv st S P) (hf1 : ¬ (x ≤ y) → mj_Ok Γ d M k n (pc + 3) lv st S P) : mj_Ok Γ d M k n pc lv (.int y :: .int x :: st) S P := by
  intro p e R s m args below meth c H locs cells slots ls hX hS hW hL hN
  exact lv_icmp_le hX.1 hX.2.1 hd ht (fun q => ht1 q p e R s m args below meth c H locs cells slots ls hX hS hW hL hN) (fun q => hf1 q p e R s m args below meth c H locs cells slots ls hX hS hW hL hN)
theorem mj_tabIn {x : Int32} {dflt lo hi off : Int} {offs : Array Int} {len : Nat} (tgt : Nat) (hd : decode M.cc pc = .ok (.tableswitch dflt lo hi offs, len)) (h1 : ¬ x.toInt < lo) (h2 : ¬ hi < x.toInt) (ho : offs[(x.toInt - lo).toNat]? = some off) (ht : (pc : Int) + off = (tgt : Int)) (h : mj_Ok Γ d M k n tgt lv st S P) : mj_Ok Γ d M k n pc lv (.int x :: st) S P := by
  intro p e R s m args below meth c H locs cells slots ls hX hS hW hL hN
  exact lv_tableIn hX.1 hX.2.1 hd h1 h2 ho ht (h p e R s m args below meth c H locs cells slots ls hX hS hW hL hN)
theorem mj_tabOut {x : Int32} {dflt lo hi : Int} {offs : Array Int} {len : Nat} (tgt : Nat) (hd : decode M.cc pc = .ok (.tableswitch dflt lo hi offs, len)) (h1 : x.toInt < lo ∨ hi < x.toInt) (ht : (pc : Int) + dflt = (tgt : Int)) (h : mj_Ok Γ d M k n tgt lv st S P) : mj_Ok Γ d M k n pc lv (.int x :: st) S P := by
  intro p e R s m args below meth c H locs cells slots ls hX hS hW hL hN
  exact lv_tableOut hX.1 hX.2.1 hd h1 ht (h p e R s m args below meth c H locs cells slots ls hX hS hW hL hN)
/-- fewer rooms asked -/
theorem mj_Ok.more {d' k' n' : Nat} (hd : d ≤ d') (hk : k ≤ k') (hn : n ≤ n') (h : mj_Ok Γ d M k n pc lv st S P) : mj_Ok Γ d' M k' n' pc lv st S P := by
  intro p e R s m args below meth c H locs cells slots ls hX hS hW hL hN
  obtain ⟨x1, x2, x3, x4, x5, x6, x7, x8, x9, x10, x11, x12⟩ := hX
  have w := h p e R s m args below meth c H locs (cells + (k' - k)) (slots + (n' - n)) ls ⟨x1, x2, x3, x4, x5, x6, x7, by omega, by omega, by omega, by omega, x12⟩ hS hW hL hN
  have e1 : cells + (k' - k) + k = cells + k' := by omega
  have e2 : slots + (n' - n) + n = slots + n' := by omega
  rw [e1, e2] at w
  exact W.widen (Nat.le_add_right _ _) (Nat.le_add_right _ _) w
theorem mj_Ok.post {P' : mj_O → mj_S → Prop} (hp : ∀ o S', P o S' → P' o S') (h : mj_Ok Γ d M k n pc lv st S P) : mj_Ok Γ d M k n pc lv st S P' := by
  intro p e R s m args below meth c H locs cells slots ls hX hS hW hL hN
  intro T hT X
  obtain ⟨t, a1, o, b1, b2, ⟨out, S', c1, c2, c3⟩, b4⟩ := h p e R s m args below meth c H locs cells slots ls hX hS hW hL hN T hT X
  exact ⟨t, a1, o, b1, b2, ⟨out, S', c1, hp _ _ c2, c3⟩, b4⟩
/-! returns -/
theorem mj_ret_aux {p : Program} {e : Env} {R : Room} {s : State} {m : MethodId} {args : Array Value} {below : List Frame} {meth : Method} {c : Code} {H : Heap} {locs : List Loc} {cells slots : Nat} {g : JFrame} {v : Option Value}
    (hS : va_S (mj_A Γ) s.heap H locs) (hW : mj_W Γ S H) (hP : P (.inl v) S)
    (h : W p Γ.l e R s m args below meth c H locs (cells + k) (slots + n) (MQ below (fun _ _ o t => o = .returned (v.map (mj_v Γ)) ∧ t.heap = H) args s (cells + k) (slots + n) (mj_A Γ)) g) :
    W p Γ.l e R s m args below meth c H locs cells slots (mj_Q Γ below s (cells + k) (slots + n) P) g := by
  refine W.widen (Nat.le_add_right cells k) (Nat.le_add_right slots n) ?_
  intro T hT X
  obtain ⟨t, a1, o, b1, b2, ⟨b3, b5⟩, L, ⟨f1, f2, f3⟩, f4⟩ := h T hT X
  exact ⟨t, a1, o, b1, b2, ⟨.inl v, S, b3, hP, by rw [b5]; exact hW⟩, hS.F b5, f2, L, f3, f4⟩
theorem mj_iret {x : Int32} {ty : FieldType} (hd : decode M.cc pc = .ok (.ireturn, 1)) (hr : M.ret = some ty) (hn : narrow ty (.int x) = .int x) (hP : P (.inl (some (.int x))) S) : mj_Ok Γ d M k n pc lv [.int x] S P := by
  intro p e R s m args below meth c H locs cells slots ls hX hS hW hL hN
  have hlocks : meth.locks = false := hX.2.2.2.1
  exact mj_ret_aux hS hW hP (W.zret hX.1 hX.2.1 (hX.2.2.1.trans hr) hn (fun t ht _ => ⟨rfl, ht⟩) hS.2.2 hd)
theorem mj_vret (hd : decode M.cc pc = .ok (.return_, 1)) (hr : M.ret = none) (hP : P (.inl none) S) : mj_Ok Γ d M k n pc lv [] S P := by
  intro p e R s m args below meth c H locs cells slots ls hX hS hW hL hN
  have hlocks : meth.locks = false := hX.2.2.2.1
  exact mj_ret_aux hS hW hP (W.vret hX.1 hX.2.1 (hX.2.2.1.trans hr) (fun t ht _ => ⟨rfl, ht⟩) hS.2.2 hd)
end MJ4
end
section
/-! mj, part 05: one row an instruction that touches cells. -/
def mj_up (S : mj_S) (a : Nat) (e : mj_E) : mj_S := (va_up S.1 a e, S.2)
theorem mj_up_self (S : mj_S) (a : Nat) (e : mj_E) : (mj_up S a e).1 a = e := va_up_self _ _ _
theorem mj_up_ne (S : mj_S) {a b : Nat} (e : mj_E) (h : b ≠ a) : (mj_up S a e).1 b = S.1 b := va_up_ne _ _ h
theorem mj_up_2 (S : mj_S) (a : Nat) (e : mj_E) : (mj_up S a e).2 = S.2 := rfl
theorem mj_W.get {Γ : mj_G} {S : mj_S} {H : Heap} (h : mj_W Γ S H) {a : Nat} (ha : a < S.2.1) {e : mj_E} (he : S.1 a = e) : va_at Γ.D mj_cl (mj_ad Γ a, mj_e Γ e) H := by
  subst he
  exact h.2.2.2.1 a _ (mj_ws_at ha)
theorem mj_W.put {Γ : mj_G} {S : mj_S} {H H1 : Heap} (h : mj_W Γ S H) {a : Nat} (ha : a < S.2.1) {e : mj_E} (he : va_at Γ.D mj_cl (mj_ad Γ a, mj_e Γ e) H1) (hz : H1.size = H.size) (hq : ∀ q : Nat, q ≠ mj_ad Γ a → H1[q]? = H[q]?) : mj_W Γ (mj_up S a e) H1 := by
  have hD := h.D
  obtain ⟨h1, h2, h3, h4, h5⟩ := h
  refine ⟨hz.trans h1, h2, h3, fun k q hk => ?_, fun k hk => ?_⟩
  · obtain ⟨hk1, rfl⟩ := mj_ws_inv hk
    by_cases e1 : k = a
    · subst e1
      rw [mj_up_self]
      exact he
    · rw [mj_up_ne _ _ e1]
      have hk2 : k < S.2.1 := hk1
      refine (h4 k _ (mj_ws_at hk2)).kept (hq _ fun q => e1 ?_)
      exact hD.1 k a _ _ (mj_ws_at hk2) (mj_ws_at ha) q
  · rw [mj_up_ne _ _ (by omega)]
    exact h5 k hk
theorem mj_S_put {Γ : mj_G} {H0 H H1 : Heap} {locs : List Loc} {a k : Nat} (hS : va_S (mj_A Γ) H0 H locs) (ha : a < mj_st) (hz : H1.size = H.size) (hq : ∀ q : Nat, q ≠ mj_ad Γ a → H1[q]? = H[q]?) : va_S (mj_A Γ) H0 H1 (locs ++ [⟨mj_ad Γ a, k⟩]) :=
  hS.put hz hq (by rw [mj_ad_lt ha]; exact Nat.le_add_right _ _)
section MJ5
variable {Γ : mj_G} {d : Nat} {M : mj_M} {k n pc : Nat} {lv st : List Value} {S : mj_S} {P : mj_O → mj_S → Prop}
/-- the word of a field's entry: its own class's, or a nest mate's -/
def mj_fw (own : String) (idx : Nat) (C nm ds : String) : Prop := Cond.fieldLink own idx C nm ds ∈ mj_tb ∨ Cond.fieldLinkNest own idx C nm ds "IsomerList" ∈ lw_tbl
theorem mj_fw_or {own : String} {idx : Nat} {C nm ds : String} (h : mj_fw own idx C nm ds) : Cond.fieldLink own idx C nm ds ∈ mj_tb ∨ Cond.fieldLinkNest own idx C nm ds "IsomerList" ∈ lw_tbl := h
theorem mj_mem {w : Cond} (i : Nat) (h : lw_tbl[i]? = some w) (g : goodWord w = true) : w ∈ mj_tb := List.mem_filter.mpr ⟨List.mem_of_getElem? h, g⟩
theorem mj_get {idx ci j a : Nat} {q : vw_C} {fs : List Value} {v : Value} (hd : decode M.cc pc = .ok (.getfield idx, 3)) (hq : mj_cl[ci]? = some q) (hw : mj_fw M.own idx (q.2.1 j).1 (q.2.1 j).2.1 (q.2.1 j).2.2.1) (hj : j < q.2.2) (ha : a < S.2.1) (he : S.1 a = .inr (ci, fs)) (hv : fs[j]? = some v)
    (h : mj_Ok Γ d M k n (pc + 3) lv (v :: st) S P) : mj_Ok Γ d M k n pc lv (.ref a :: st) S P := by
  intro p e R s m args below meth c H locs cells slots ls hX hS hW hL hN
  have hv' : (fs.map (mj_v Γ))[j]? = some (mj_v Γ v) := by rw [List.getElem?_map, hv]; rfl
  have he' : (mj_ws Γ S)[a]? = some (mj_ad Γ a, .inr (ci, fs.map (mj_v Γ))) := by rw [mj_ws_at ha, he]; rfl
  have hC := hX.2.2.2.2.2.2.1
  have kk := h p e R s m args below meth c H locs cells slots ls hX hS hW hL hN
  rcases mj_fw_or hw with hw | hw
  · exact va_get hX.1 hX.2.1 (hC.w args) (mj_in ci q hq) hX.2.2.2.2.2.1 hC.K hW.2.2.2.1 a he' hq j hj (hC.w args _ hw) (fun _ h9 => h9) hv' hd kk
  · exact va_getN hX.1 hX.2.1 (hC.w args) (mj_in ci q hq) hX.2.2.2.2.2.1 hC.K hW.2.2.2.1 a he' hq j hj (hC.nF hw args) (fun _ h9 => h9) hv' hd kk
/-- what may be stored into a field of that type -/
def mj_fit (ty : FieldType) (v : Value) : Prop := narrow ty v = v ∧ fits ty v = true
theorem mj_fit_int (x : Int32) : mj_fit .int (.int x) := ⟨rfl, rfl⟩
theorem mj_fit_conc {Γ : mj_G} {ty : FieldType} {v : Value} (h : mj_fit ty v) : mj_fit ty (mj_v Γ v) := by
  cases v with
  | ref a =>
    obtain ⟨h1, h2⟩ := h
    refine ⟨?_, ?_⟩
    · cases ty <;> first | rfl | exact absurd h1 (by simp [narrow])
    · cases ty <;> first | rfl | exact absurd h2 (by simp [fits])
  | _ => exact h
theorem mj_put {idx ci j a : Nat} {q : vw_C} {fs fs' : List Value} {v : Value} (hd : decode M.cc pc = .ok (.putfield idx, 3)) (hq : mj_cl[ci]? = some q) (hw : mj_fw M.own idx (q.2.1 j).1 (q.2.1 j).2.1 (q.2.1 j).2.2.1) (hj : j < q.2.2)
    (hfin : (q.2.1 j).2.2.2 = false ∨ (M.name = "<init>" ∧ (q.2.1 j).1 = M.own ∧ (Cond.fieldLink M.own idx (q.2.1 j).1 (q.2.1 j).2.1 (q.2.1 j).2.2.1) ∈ mj_tb)) (ha : a < S.2.1) (he : S.1 a = .inr (ci, fs)) (hl : j < fs.length) (hfit : mj_fit (mj_t ci j) v) (hs : fs.set j v = fs')
    (h : mj_Ok Γ d M k n (pc + 3) lv st (mj_up S a (.inr (ci, fs'))) P) : mj_Ok Γ d M k n pc lv (v :: .ref a :: st) S P := by
  subst hs
  intro p e R s m args below meth c H locs cells slots ls hX hS hW hL hN
  have hC := hX.2.2.2.2.2.2.1
  have hown := hX.2.2.2.2.2.1
  have hP := hW.2.2.2.1
  have hts := hC.w args
  have hin := mj_in ci q hq
  have has : a < mj_st := Nat.lt_of_lt_of_le ha hW.2.2.1
  obtain ⟨C, T, N⟩ := q
  have hap := va_apart (own := M.own) hts hin (mj_t ci) (mj_ty ci _ hq) (mj_nm ci _ hq) hC.K hq
  have hat := hW.get ha he
  obtain ⟨r, h1, cell, q1, q2, q3, q4⟩ := hat
  have hr : r = (C, T, N) := Option.some.inj (h1.symm.trans hq)
  subst hr
  obtain ⟨hS9, hfc, kC, hkC, hkind⟩ := hC.K.1 ci _ hq
  obtain ⟨cf, kf, fi, f, hi, hsl⟩ := hS9 j hj
  have hst := (u_facts hfc hkC (u_lays hts hin hj) hi).1
  have hfit' := mj_fit_conc (Γ := Γ) hfit
  have hty : parseFieldDescriptor (T j).2.2.1 = some (mj_t ci j) := mj_ty ci _ hq j hj
  have hlen : j < (fs.map (mj_v Γ)).length := by rw [List.length_map]; exact hl
  have fin : ∀ H' : Heap, H'[mj_ad Γ a]? = some (cell.setSlot f.slot (mj_v Γ v)) → H'.size = H.size → (∀ q, q ≠ mj_ad Γ a → H'[q]? = H[q]?) →
      W p Γ.l e R s m args below meth c H' (locs ++ [⟨mj_ad Γ a, f.slot⟩]) cells slots (mj_Q Γ below s (cells + k) (slots + n) P) (F0 m (pc + 3) ls (st.map (mj_v Γ))) := by
    intro H' e1 e2 e3
    rw [hsl] at e1 ⊢
    refine h p e R s m args below meth c H' _ cells slots ls hX (mj_S_put hS has e2 e3) (hW.put ha ?_ e2 e3) hL hN
    refine ⟨_, hq, t_OB.to (V := updV (vp_V (fs.map (mj_v Γ))) j (mj_v Γ v)) ⟨_, e1, q2, q3, t_set q4 hap hj (mj_v Γ v)⟩ (fun i _ => ?_)⟩
    rw [vp_updV_set hlen, List.map_set]
  have hlay0 := hts _ (hin _ (u_in_lay hj))
  rcases hfin with hf | ⟨hf1, hf2, hf3⟩
  · have hlay := hlay0
    unfold u_lay at hlay
    rw [if_neg (by rw [hf]; decide)] at hlay
    have h6 := u_store hfc hkC hkind hlay hi hty hfit'.1 hfit'.2
    rcases mj_fw_or hw with hw | hw
    · exact W.putK hX.1 hX.2.1 (f := f) ⟨hown, hts _ hw, ⟨_, _, _, hi⟩, hst⟩ (by rw [q2]; exact h6) q1 q3 (by rw [hsl]; exact k2_hasslot (q4 j hj)) rfl rfl hd fin
    · exact va_WputK hX.1 hX.2.1 hown (hC.nF hw args) hi hst (by rw [q2]; exact h6) q1 q3 (by rw [hsl]; exact k2_hasslot (q4 j hj)) rfl rfl hd fin
  · cases hfb : (T j).2.2.2 with
    | false =>
      have hlay := hlay0
      unfold u_lay at hlay
      rw [if_neg (by rw [hfb]; decide)] at hlay
      have h6 := u_store hfc hkC hkind hlay hi hty hfit'.1 hfit'.2
      rcases mj_fw_or hw with hw | hw
      · exact W.putK hX.1 hX.2.1 (f := f) ⟨hown, hts _ hw, ⟨_, _, _, hi⟩, hst⟩ (by rw [q2]; exact h6) q1 q3 (by rw [hsl]; exact k2_hasslot (q4 j hj)) rfl rfl hd fin
      · exact va_WputK hX.1 hX.2.1 hown (hC.nF hw args) hi hst (by rw [q2]; exact h6) q1 q3 (by rw [hsl]; exact k2_hasslot (q4 j hj)) rfl rfl hd fin
    | true =>
      have hlay := hlay0
      unfold u_lay at hlay
      rw [if_pos hfb] at hlay
      have hcf : m.cls = cf := by
        obtain ⟨_, _, c', _, _, _, -, -, hf', -, -, -, hown2, -⟩ := Cond.laysFinal_spec hlay
        have e1 : c' = cf := by have := hi.symm.trans hf'; simp at this; exact this.1.symm
        have hf2' : (T j).1 = M.own := hf2
        rw [hf2'] at hown2
        rw [← e1]; exact Option.some.inj (hown.symm.trans hown2)
      have h6 := u_fits hfc hkC hkind (Or.inr hlay) hi hty hfit'.1 hfit'.2
      have hin2 : meth.name = "<init>" := hX.2.2.2.2.2.2.2.2.2.2.2.1.trans hf1
      exact W.putFinK hX.1 hX.2.1 hown (hts _ hf3) hi hst hcf hin2 (by rw [q2]; exact h6) q1 q3 (by rw [hsl]; exact k2_hasslot (q4 j hj)) rfl rfl hd fin
end MJ5
end
section
/-! mj, part 06: arrays, static tables, what is made. -/
section MJ6
variable {Γ : mj_G} {d : Nat} {M : mj_M} {k n pc : Nat} {lv st : List Value} {S : mj_S} {P : mj_O → mj_S → Prop}
theorem mj_wsA {a t : Nat} {x : vp_A} (ha : a < S.2.1) (he : S.1 a = .inl (t, x)) : (mj_ws Γ S)[a]? = some (mj_ad Γ a, .inl (Γ.cA t, x)) := by rw [mj_ws_at ha, he]; rfl
theorem mj_iald {a N j : Nat} {i : Int32} {f : Nat → Int32} (hd : decode M.cc pc = .ok (.iaload, 1)) (ha : a < S.2.1) (he : S.1 a = .inl (0, N, .inl f)) (hi : i = nI j) (hj : j < N) (h : mj_Ok Γ d M k n (pc + 1) lv (.int (f j) :: st) S P) (hN : N < 2147483648 := by decide) : mj_Ok Γ d M k n pc lv (.int i :: .ref a :: st) S P := by
  subst hi
  intro p e R s m args below meth c H locs cells slots ls hX hS hW hL hN9
  have kk := h p e R s m args below meth c H locs cells slots ls hX hS hW hL hN9
  rw [← nI_clamp (n := j) (by omega)] at kk
  exact va_iald hX.1 hX.2.1 hX.2.2.2.2.2.2.1.K hW.2.2.2.1 a 0 (mj_wsA ha he) rfl (vp_in_nI hj hN) hd kk
theorem mj_cald {a N j : Nat} {i : Int32} {f : Nat → Int32} (hd : decode M.cc pc = .ok (.caload, 1)) (ha : a < S.2.1) (he : S.1 a = .inl (1, N, .inl f)) (hi : i = nI j) (hj : j < N) (h : mj_Ok Γ d M k n (pc + 1) lv (.int (f j) :: st) S P) (hN : N < 2147483648 := by decide) : mj_Ok Γ d M k n pc lv (.int i :: .ref a :: st) S P := by
  subst hi
  intro p e R s m args below meth c H locs cells slots ls hX hS hW hL hN9
  have kk := h p e R s m args below meth c H locs cells slots ls hX hS hW hL hN9
  rw [← nI_clamp (n := j) (by omega)] at kk
  exact va_cald hX.1 hX.2.1 hX.2.2.2.2.2.2.1.K hW.2.2.2.1 a 1 (mj_wsA ha he) rfl (vp_in_nI hj hN) hd kk
theorem mj_zald {a N j : Nat} {i : Int32} {f : Nat → Int32} (hd : decode M.cc pc = .ok (.baload, 1)) (ha : a < S.2.1) (he : S.1 a = .inl (2, N, .inl f)) (hi : i = nI j) (hj : j < N) (h : mj_Ok Γ d M k n (pc + 1) lv (.int (f j) :: st) S P) (hN : N < 2147483648 := by decide) : mj_Ok Γ d M k n pc lv (.int i :: .ref a :: st) S P := by
  subst hi
  intro p e R s m args below meth c H locs cells slots ls hX hS hW hL hN9
  have kk := h p e R s m args below meth c H locs cells slots ls hX hS hW hL hN9
  rw [← nI_clamp (n := j) (by omega)] at kk
  exact va_zald hX.1 hX.2.1 hX.2.2.2.2.2.2.1.K hW.2.2.2.1 a 2 (mj_wsA ha he) rfl (vp_in_nI hj hN) hd kk
theorem mj_lald {a N j : Nat} {i : Int32} {f : Nat → Int64} (hd : decode M.cc pc = .ok (.laload, 1)) (ha : a < S.2.1) (he : S.1 a = .inl (3, N, .inr (.inl f))) (hi : i = nI j) (hj : j < N) (h : mj_Ok Γ d M k n (pc + 1) lv (.long (f j) :: st) S P) (hN : N < 2147483648 := by decide) : mj_Ok Γ d M k n pc lv (.int i :: .ref a :: st) S P := by
  subst hi
  intro p e R s m args below meth c H locs cells slots ls hX hS hW hL hN9
  have kk := h p e R s m args below meth c H locs cells slots ls hX hS hW hL hN9
  rw [← nI_clamp (n := j) (by omega)] at kk
  exact va_lald hX.1 hX.2.1 hX.2.2.2.2.2.2.1.K hW.2.2.2.1 a 3 (mj_wsA ha he) rfl (vp_in_nI hj hN) hd kk
/-- the length of a known array -/
theorem mj_alen {a t : Nat} {x : vp_A} {ty : FieldType} (hd : decode M.cc pc = .ok (.arraylength, 1)) (ha : a < S.2.1) (he : S.1 a = .inl (t, x)) (ht : (mj_tys Γ)[t]? = some (Γ.cA t, ty)) (h : mj_Ok Γ d M k n (pc + 1) lv (.int (nI x.1) :: st) S P) : mj_Ok Γ d M k n pc lv (.ref a :: st) S P := by
  intro p e R s m args below meth c H locs cells slots ls hX hS hW hL hN9
  exact va_alen hX.1 hX.2.1 hX.2.2.2.2.2.2.1.K hW.2.2.2.1 a t (mj_wsA ha he) ht rfl hd (h p e R s m args below meth c H locs cells slots ls hX hS hW hL hN9)
theorem mj_at_arr {a t : Nat} {x : vp_A} {H : Heap} (hW : mj_W Γ S H) (ha : a < S.2.1) (he : S.1 a = .inl (t, x)) : H[mj_ad Γ a]? = some (vp_cell (Γ.cA t) x) := hW.get ha he
theorem mj_iast {a N j : Nat} {i x : Int32} {f : Nat → Int32} (hd : decode M.cc pc = .ok (.iastore, 1)) (ha : a < S.2.1) (he : S.1 a = .inl (0, N, .inl f)) (hi : i = nI j) (hj : j < N) (h : mj_Ok Γ d M k n (pc + 1) lv st (mj_up S a (.inl (0, N, .inl (upd f j x)))) P) (hN : N < 2147483648 := by decide) : mj_Ok Γ d M k n pc lv (.int x :: .int i :: .ref a :: st) S P := by
  subst hi
  intro p e R s m args below meth c H locs cells slots ls hX hS hW hL hN9
  have hv : vp_in (nI j) N := vp_in_nI hj hN
  have has : a < mj_st := Nat.lt_of_lt_of_le ha hW.2.2.1
  have hcl := nI_clamp (n := j) (by omega)
  refine W.iast hX.1 hX.2.1 (mj_at_arr hW ha he) ((hX.2.2.2.2.2.2.1.K.2 0 _ rfl).1 N (fun j => .int (f j))) (fun q => by cases q) (by show ¬ (nI j < 0 ∨ (arrV _ _ _).slots.size ≤ _); rw [arrV_size]; exact hv) rfl rfl hd fun H1 e1 z oq => ?_
  refine h p e R s m args below meth c H1 _ cells slots ls hX (mj_S_put hS has z oq) (hW.put ha ?_ z oq) hL hN9
  show H1[_]? = some (vp_cell _ _)
  rw [e1, vp_cell_i, vp_cell_i, arrV_store, hcl]
  congr 2
  funext q
  by_cases hq : q = j
  · subst hq
    simp [updV, upd]
  · simp [updV, upd, hq]
theorem mj_cast {a N j : Nat} {i x : Int32} {f : Nat → Int32} (hd : decode M.cc pc = .ok (.castore, 1)) (ha : a < S.2.1) (he : S.1 a = .inl (1, N, .inl f)) (hi : i = nI j) (hj : j < N) (hx : narrow .char (.int x) = .int x) (h : mj_Ok Γ d M k n (pc + 1) lv st (mj_up S a (.inl (1, N, .inl (upd f j x)))) P) (hN : N < 2147483648 := by decide) : mj_Ok Γ d M k n pc lv (.int x :: .int i :: .ref a :: st) S P := by
  subst hi
  intro p e R s m args below meth c H locs cells slots ls hX hS hW hL hN9
  have hv : vp_in (nI j) N := vp_in_nI hj hN
  have has : a < mj_st := Nat.lt_of_lt_of_le ha hW.2.2.1
  have hcl := nI_clamp (n := j) (by omega)
  refine W.cast hX.1 hX.2.1 (mj_at_arr hW ha he) ((hX.2.2.2.2.2.2.1.K.2 1 _ rfl).1 N (fun j => .int (f j))) (fun q => by cases q) (by show ¬ (nI j < 0 ∨ (arrV _ _ _).slots.size ≤ _); rw [arrV_size]; exact hv) rfl rfl hd fun H1 e1 z oq => ?_
  refine h p e R s m args below meth c H1 _ cells slots ls hX (mj_S_put hS has z oq) (hW.put ha ?_ z oq) hL hN9
  show H1[_]? = some (vp_cell _ _)
  rw [e1, hx, vp_cell_i, vp_cell_i, arrV_store, hcl]
  congr 2
  funext q
  by_cases hq : q = j
  · subst hq
    simp [updV, upd]
  · simp [updV, upd, hq]
theorem mj_zast {a N j : Nat} {i x : Int32} {f : Nat → Int32} (hd : decode M.cc pc = .ok (.bastore, 1)) (ha : a < S.2.1) (he : S.1 a = .inl (2, N, .inl f)) (hi : i = nI j) (hj : j < N) (hx : narrow .boolean (.int x) = .int x) (h : mj_Ok Γ d M k n (pc + 1) lv st (mj_up S a (.inl (2, N, .inl (upd f j x)))) P) (hN : N < 2147483648 := by decide) : mj_Ok Γ d M k n pc lv (.int x :: .int i :: .ref a :: st) S P := by
  subst hi
  intro p e R s m args below meth c H locs cells slots ls hX hS hW hL hN9
  have hv : vp_in (nI j) N := vp_in_nI hj hN
  have has : a < mj_st := Nat.lt_of_lt_of_le ha hW.2.2.1
  have hcl := nI_clamp (n := j) (by omega)
  refine W.zast hX.1 hX.2.1 (mj_at_arr hW ha he) ((hX.2.2.2.2.2.2.1.K.2 2 _ rfl).1 N (fun j => .int (f j))) (fun q => by cases q) (by show ¬ (nI j < 0 ∨ (arrV _ _ _).slots.size ≤ _); rw [arrV_size]; exact hv) rfl rfl hd fun H1 e1 z oq => ?_
  refine h p e R s m args below meth c H1 _ cells slots ls hX (mj_S_put hS has z oq) (hW.put ha ?_ z oq) hL hN9
  show H1[_]? = some (vp_cell _ _)
  rw [e1, hx, vp_cell_i, vp_cell_i, arrV_store, hcl]
  congr 2
  funext q
  by_cases hq : q = j
  · subst hq
    simp [updV, upd]
  · simp [updV, upd, hq]
theorem mj_last {a N j : Nat} {i : Int32} {x : Int64} {f : Nat → Int64} (hd : decode M.cc pc = .ok (.lastore, 1)) (ha : a < S.2.1) (he : S.1 a = .inl (3, N, .inr (.inl f))) (hi : i = nI j) (hj : j < N) (h : mj_Ok Γ d M k n (pc + 1) lv st (mj_up S a (.inl (3, N, .inr (.inl (vp_updL f j x))))) P) (hN : N < 2147483648 := by decide) : mj_Ok Γ d M k n pc lv (.long x :: .int i :: .ref a :: st) S P := by
  subst hi
  intro p e R s m args below meth c H locs cells slots ls hX hS hW hL hN9
  have hv : vp_in (nI j) N := vp_in_nI hj hN
  have has : a < mj_st := Nat.lt_of_lt_of_le ha hW.2.2.1
  have hcl := nI_clamp (n := j) (by omega)
  refine W.last hX.1 hX.2.1 (mj_at_arr hW ha he) ((hX.2.2.2.2.2.2.1.K.2 3 _ rfl).1 N (fun j => .long (f j))) (fun q => by cases q) (by show ¬ (nI j < 0 ∨ (arrV _ _ _).slots.size ≤ _); rw [arrV_size]; exact hv) rfl rfl hd fun H1 e1 z oq => ?_
  refine h p e R s m args below meth c H1 _ cells slots ls hX (mj_S_put hS has z oq) (hW.put ha ?_ z oq) hL hN9
  show H1[_]? = some (vp_cell _ _)
  rw [e1, vp_cell_l, vp_cell_l, arrV_store, hcl]
  congr 2
  funext q
  by_cases hq : q = j
  · subst hq
    simp [updV, vp_updL]
  · simp [updV, vp_updL, hq]
/-! the arrays that nobody writes -/
theorem mj_iro {r j : Nat} {i : Int32} (hd : decode M.cc pc = .ok (.iaload, 1)) (hr : r < 4) (ht : mj_rt r = 0) (hi : i = nI j) (hj : j < (Γ.ro r).1) (hN : (Γ.ro r).1 < 2147483648) (h : mj_Ok Γ d M k n (pc + 1) lv (.int (mj_ai (Γ.ro r) j) :: st) S P) : mj_Ok Γ d M k n pc lv (.int i :: .ref (mj_st + r) :: st) S P := by
  subst hi
  intro p e R s m args below meth c H locs cells slots ls hX hS hW hL hN9
  have kk := h p e R s m args below meth c H locs cells slots ls hX hS hW hL hN9
  have hT := hX.2.2.2.2.2.2.1.T hr
  rw [ht] at hT
  show W _ _ _ _ _ _ _ _ _ _ _ _ _ _ _ (F0 m pc ls (.int (nI j) :: .ref (mj_ad Γ (mj_st + r)) :: st.map (mj_v Γ)))
  rw [mj_ad_ro]
  exact va_ti hX.1 hX.2.1 hT hS (vp_in_nI hj hN) (by rw [nI_clamp (n := j) (by omega)]; rfl) hd kk
theorem mj_cro {r j : Nat} {i : Int32} (hd : decode M.cc pc = .ok (.caload, 1)) (hr : r < 4) (ht : mj_rt r = 1) (hi : i = nI j) (hj : j < (Γ.ro r).1) (hN : (Γ.ro r).1 < 2147483648) (h : mj_Ok Γ d M k n (pc + 1) lv (.int (mj_ai (Γ.ro r) j) :: st) S P) : mj_Ok Γ d M k n pc lv (.int i :: .ref (mj_st + r) :: st) S P := by
  subst hi
  intro p e R s m args below meth c H locs cells slots ls hX hS hW hL hN9
  have kk := h p e R s m args below meth c H locs cells slots ls hX hS hW hL hN9
  have hT := hX.2.2.2.2.2.2.1.T hr
  rw [ht] at hT
  show W _ _ _ _ _ _ _ _ _ _ _ _ _ _ _ (F0 m pc ls (.int (nI j) :: .ref (mj_ad Γ (mj_st + r)) :: st.map (mj_v Γ)))
  rw [mj_ad_ro]
  exact va_tc hX.1 hX.2.1 hT hS (vp_in_nI hj hN) (by rw [nI_clamp (n := j) (by omega)]; rfl) hd kk
theorem mj_lenro {r : Nat} (hd : decode M.cc pc = .ok (.arraylength, 1)) (hr : r < 4) (h : mj_Ok Γ d M k n (pc + 1) lv (.int (nI (Γ.ro r).1) :: st) S P) : mj_Ok Γ d M k n pc lv (.ref (mj_st + r) :: st) S P := by
  intro p e R s m args below meth c H locs cells slots ls hX hS hW hL hN9
  have kk := h p e R s m args below meth c H locs cells slots ls hX hS hW hL hN9
  have hT := hX.2.2.2.2.2.2.1.T hr
  show W _ _ _ _ _ _ _ _ _ _ _ _ _ _ _ (F0 m pc ls (.ref (mj_ad Γ (mj_st + r)) :: st.map (mj_v Γ)))
  rw [mj_ad_ro]
  exact va_tlen hX.1 hX.2.1 hT hS rfl hd kk
theorem mj_gets {idx r : Nat} (hd : decode M.cc pc = .ok (.getstatic idx, 3)) (hr : r < 3) (hw : mj_fw M.own idx "IsomerList" (mj_rn r).1 (mj_rn r).2) (h : mj_Ok Γ d M k n (pc + 3) lv (.ref (mj_st + r) :: st) S P) : mj_Ok Γ d M k n pc lv st S P := by
  intro p e R s m args below meth c H locs cells slots ls hX hS hW hL hN9
  have hC := hX.2.2.2.2.2.2.1
  have kk := h p e R s m args below meth c H locs cells slots ls hX hS hW hL hN9
  have e1 : mj_v Γ (.ref (mj_st + r)) = .ref (Γ.ra r) := congrArg Value.ref (mj_ad_ro r)
  rw [mj_map_cons, e1] at kk
  rcases mj_fw_or hw with hw | hw
  · exact va_gets hX.1 hX.2.1 (hC.Z hr) hS hX.2.2.2.2.2.1 (hC.w args _ hw) (fun _ h9 => h9) hd kk
  · exact va_getsN hX.1 hX.2.1 (hC.Z hr) hS hX.2.2.2.2.2.1 (hC.nF hw args) (fun _ h9 => h9) hd kk
/-! what is made -/
def mj_push (S : mj_S) (e : mj_E) : mj_S := (va_up S.1 S.2.1 e, S.2.1 + 1, S.2.2 + 1)
theorem mj_W.push {H H1 : Heap} {e : mj_E} (h : mj_W Γ S H) (hex : S.2.1 = S.2.2) (hst : S.2.1 < mj_st) (he : va_at Γ.D mj_cl (mj_ad Γ S.2.1, mj_e Γ e) H1) (hz : H1.size = H.size + 1) (hq : ∀ q : Nat, q < H.size → H1[q]? = H[q]?) : mj_W Γ (mj_push S e) H1 := by
  obtain ⟨h1, h2, h3, h4, h5⟩ := h
  refine ⟨by rw [hz, h1]; rfl, Nat.succ_le_succ h2, hst, fun i q hk => ?_, fun i hi => ?_⟩
  · obtain ⟨hk1, rfl⟩ := mj_ws_inv hk
    have hk1 : i < S.2.1 + 1 := hk1
    by_cases e1 : i = S.2.1
    · subst e1
      show va_at Γ.D mj_cl (_, mj_e Γ (va_up S.1 S.2.1 e S.2.1)) H1
      rw [va_up_self]
      exact he
    · show va_at Γ.D mj_cl (_, mj_e Γ (va_up S.1 S.2.1 e i)) H1
      rw [va_up_ne _ _ e1]
      have h6 := h4 i _ (mj_ws_at (by omega))
      exact h6.kept (hq _ h6.lt)
  · show va_up S.1 S.2.1 e (mj_st + i) = _
    rw [va_up_ne _ _ (by omega)]
    exact h5 i hi
theorem mj_S_push {H0 H H1 : Heap} {locs : List Loc} (hS : va_S (mj_A Γ) H0 H locs) (hz : H1.size = H.size + 1) (hq : ∀ q : Nat, q < H.size → H1[q]? = H[q]?) : va_S (mj_A Γ) H0 H1 locs :=
  ⟨Nat.le_trans hS.1 (by omega), fun x h1 h2 => (hq x (Nat.lt_of_lt_of_le h1 hS.1)).trans (hS.2.1 x h1 h2), hS.2.2⟩
theorem mj_new {idx ci : Nat} {q : vw_C} {fs : List Value} (hd : decode M.cc pc = .ok (.new idx, 3)) (hq : mj_cl[ci]? = some q) (hw1 : (Cond.classLink M.own idx q.1) ∈ mj_tb) (hw2 : (Cond.instantiable q.1 q.2.2) ∈ mj_tb) (hw3 : (Cond.initialized q.1) ∈ mj_tb)
    (hfs : ∀ j, j < q.2.2 → defaultValue (mj_t ci j) = vp_V fs j) (hnr : fs.all (fun v => match v with | .ref _ => false | _ => true) = true) (hex : S.2.1 = S.2.2) (hst : S.2.1 < mj_st)
    (h : mj_Ok Γ d M k n (pc + 3) lv (.ref S.2.1 :: st) (mj_push S (.inr (ci, fs))) P) : mj_Ok Γ d M (k + 1) (n + q.2.2) pc lv st S P := by
  intro p e R s m args below meth c H locs cells slots ls hX hS hW hL hN9
  have hC := hX.2.2.2.2.2.2.1
  have hts := hC.w args
  obtain ⟨x1, x2, x3, x4, x5, x6, x7, x8, x9, x10, x11, x12⟩ := hX
  obtain ⟨C, T, N⟩ := q
  have hKn := hC.K.1 ci _ hq
  have x11 : slots + (n + N) ≤ R.slots := x11
  have hmap : fs.map (mj_v Γ) = fs := by
    have : fs.map (mj_v Γ) = fs.map id := List.map_congr_left fun v hv => by
      have := List.all_eq_true.mp hnr v hv
      cases v <;> first | rfl | simp at this
    rw [this, List.map_id]
  refine W.newcK x1 x2 x6 (hts _ hw1) (hts _ hw2) (hts _ hw3) rfl hd (by omega) (by omega) hKn.2.1 rfl fun H1 kC hkC e1 z1 o1 => ?_
  have w := h p e R s m args below meth c H1 locs (cells + 1) (slots + N) ls ⟨x1, x2, x3, x4, x5, x6, x7, x8, x9, by omega, by omega, x12⟩ (mj_S_push hS z1 o1) (hW.push hex hst ?_ z1 o1) hL hN9
  · rw [show cells + 1 + k = cells + (k + 1) by omega, show slots + N + n = slots + (n + N) by omega] at w
    have e2 : mj_v Γ (.ref S.2.1) = .ref H.size := congrArg Value.ref (by rw [mj_ad_lt hst, hW.1, ← hex])
    rw [mj_map_cons, e2] at w
    exact w
  · have e3 : mj_ad Γ S.2.1 = H.size := by rw [mj_ad_lt hst, hW.1, ← hex]
    rw [e3]
    refine ⟨_, hq, ?_⟩
    show t_OB H.size _ N _ H1 (vp_V (fs.map (mj_v Γ)))
    rw [hmap]
    exact (u_born (mj_t ci) hts (mj_in ci _ hq) hKn hkC e1 (mj_ty ci _ hq)).to hfs
theorem mj_newa {atype : ArrayType} {t N : Nat} {i : Int32} {a0 : vp_A} (hd : decode M.cc pc = .ok (.newarray atype, 2)) (hty : newarray.typeOf atype = mj_at t) (ht : (mj_tys Γ)[t]? = some (Γ.cA t, mj_at t)) (hw : (Cond.arrayClass (mj_at t)) ∈ mj_tb) (hi : i = nI N) (hN : N < 100000) (hb : N * componentBytes (mj_at t) ≤ 536870912)
    (ha : ∀ cA : ClassId, vp_cell cA a0 = arrV cA N (fun _ => defaultValue (mj_at t))) (hex : S.2.1 = S.2.2) (hst : S.2.1 < mj_st)
    (h : mj_Ok Γ d M k n (pc + 2) lv (.ref S.2.1 :: st) (mj_push S (.inl (t, a0))) P) : mj_Ok Γ d M (k + 1) (n + N) pc lv (.int i :: st) S P := by
  subst hi
  intro p e R s m args below meth c H locs cells slots ls hX hS hW hL hN9
  have hC := hX.2.2.2.2.2.2.1
  have hts := hC.w args
  obtain ⟨x1, x2, x3, x4, x5, x6, x7, x8, x9, x10, x11, x12⟩ := hX
  refine va_newaK x1 x2 (by rw [hty]; exact hts _ hw) rfl hd rfl (nI_pos (by omega)) (nI_clamp (n := N) (by omega)) (by rw [hty]; exact hb) (by omega) (by omega) rfl fun H1 cA e1 z1 o1 hAr hNm => ?_
  rw [hty] at e1 hAr hNm
  have hcA : cA = Γ.cA t := by
    have h2 := (hC.K.2 t _ ht).2
    have h3 : s.vm.findClass ("[" ++ (mj_at t).toString) = some (Γ.cA t) := by
      unfold mj_at at h2 ⊢
      split at h2 <;> exact h2
    exact Option.some.inj (hNm.symm.trans h3)
  subst hcA
  have w := h p e R s m args below meth c H1 locs (cells + 1) (slots + N) ls ⟨x1, x2, x3, x4, x5, x6, x7, x8, x9, by omega, by omega, x12⟩ (mj_S_push hS z1 o1) (hW.push hex hst ?_ z1 o1) hL hN9
  · rw [show cells + 1 + k = cells + (k + 1) by omega, show slots + N + n = slots + (n + N) by omega] at w
    have e2 : mj_v Γ (.ref S.2.1) = .ref H.size := congrArg Value.ref (by rw [mj_ad_lt hst, hW.1, ← hex])
    rw [mj_map_cons, e2] at w
    exact w
  · have e3 : mj_ad Γ S.2.1 = H.size := by rw [mj_ad_lt hst, hW.1, ← hex]
    rw [e3]
    show H1[H.size]? = some (vp_cell _ _)
    rw [ha]
    exact e1
end MJ6
end
section
/-! mj, part 07: a method from its entry; calls. -/
def mj_ret (Q : Option Value → mj_S → Prop) : mj_O → mj_S → Prop := fun o S => match o with
  | .inl v => Q v S
  | .inr _ => False
theorem mj_args_mem : ∀ (vs : List Value) (i j : Nat) (v : Value), mj_c1 vs = true → vs[j]? = some v → (i + j, v) ∈ lv_args i vs := by
  intro vs
  induction vs with
  | nil => intro i j v _ h; simp at h
  | cons a r ih =>
    intro i j v hc h
    have hc' : a.category = 1 ∧ mj_c1 r = true := by simpa [mj_c1] using hc
    cases j with
    | zero =>
      simp at h
      subst h
      simp [lv_args]
    | succ j =>
      have h' : r[j]? = some v := by simpa using h
      have h2 := ih (i + 1) j v hc'.2 h'
      have e : i + (j + 1) = i + 1 + j := by omega
      rw [e]
      simp only [lv_args, hc'.1]
      exact List.mem_cons_of_mem _ h2
theorem mj_c1_map {Γ : mj_G} {vs : List Value} (h : mj_c1 vs = true) : mj_c1 (vs.map (mj_v Γ)) = true := by
  unfold mj_c1 at h ⊢
  rw [List.all_map]
  refine List.all_eq_true.mpr fun v hv => ?_
  have := List.all_eq_true.mp h v hv
  simpa [mj_v_cat] using this
theorem mj_sl_len : ∀ vs : List Value, mj_c1 vs = true → (lg_sl vs).length = vs.length := by
  intro vs
  induction vs with
  | nil => intro _; rfl
  | cons a r ih =>
    intro hc
    have hc' : a.category = 1 ∧ mj_c1 r = true := by simpa [mj_c1] using hc
    have h2 := ih hc'.2
    cases a <;> simp_all [lg_sl, Value.category]
/-- A METHOD FROM ITS ENTRY -/
theorem mj_Met.of {Γ : mj_G} {d : Nat} {y : MethodName} {M : mj_M} {av lv : List Value} {S : mj_S} {mc ms : Nat} {P : mj_O → mj_S → Prop} (hy : plainName y.cls = true) (hM : y.cls = M.own ∧ y.name = M.name) (hc : mj_c1 av = true) (hlv : lv = av ++ List.replicate (M.nL - av.length) (.retAddr 0)) (hle : Nat.ble av.length M.nL = true)
    (h : mj_Ok Γ d M mc ms 0 lv [] S P) : mj_Met Γ d y M av S mc ms P := by
  refine MetFree.of_bodyS (code := M.cc) (maxLocals := M.nL) (ret := M.ret) hy ?_ ?_
  · intro args s m h hn
    obtain ⟨meth, c, h1, h2, h3, h4, h5, h6, -, -⟩ := Cond.code_spec hn (atoms_spec (ws := [Cond.code y M.cc M.nL M.ret]) h _ List.mem_cons_self)
    exact ⟨meth, c, h1, h2, h3, h4, h5, h6⟩
  · intro p e s m args below meth c s₁ B hml hP _
    obtain ⟨rfl, hC, hW⟩ := hP
    have hh0 : s₁.heap = s.heap := by rw [B.state]; rfl
    have hcode : (Cond.code y M.cc M.nL M.ret).before (av.map (mj_v Γ)).toArray s = true := atoms_spec (ws := [Cond.code y M.cc M.nL M.ret]) B.pre _ List.mem_cons_self
    have hown : s.vm.findClass M.own = some m.cls := by rw [← hM.1]; exact findClass_of_methodNamed B.named
    have hnm : meth.name = M.name := ((name_of_methodNamed B.named B.method).1).trans hM.2
    have hle' : av.length ≤ M.nL := Nat.le_of_ble_eq_true hle
    have hc1 := mj_c1_map (Γ := Γ) hc
    have hsl : (lg_sl (av.map (mj_v Γ))).length = av.length := by rw [mj_sl_len _ hc1, List.length_map]
    have hl := lv_entry (av.map (mj_v Γ)) (n := M.nL) (by rw [hsl]; exact hle')
    have hlen : lv.length = M.nL := by rw [hlv, List.length_append, List.length_replicate]; omega
    have hL : mj_L Γ ((lg_sl (av.map (mj_v Γ)) ++ List.replicate (M.nL - (lg_sl (av.map (mj_v Γ))).length) Slot.unset).toArray) lv := by
      refine ⟨hl.1.trans hlen.symm, hl.2.1, fun i v hi hj => ?_⟩
      rw [hlv] at hi
      by_cases hlt : i < av.length
      · rw [List.getElem?_append_left hlt] at hi
        have h3 : (av.map (mj_v Γ))[i]? = some (mj_v Γ v) := by rw [List.getElem?_map, hi]; rfl
        have h4 := mj_args_mem _ 0 i _ hc1 h3
        rw [Nat.zero_add] at h4
        exact hl.2.2 _ h4
      · rw [List.getElem?_append_right (by omega)] at hi
        have h5 := List.mem_of_getElem? hi
        rw [(List.mem_replicate.mp h5).2] at hj
        exact absurd hj (by decide)
    have w := h p e (headSpec [Cond.code y M.cc M.nL M.ret] { frames := d, cells := mc, slots := ms, locals := 40 * d }).room s m (av.map (mj_v Γ)).toArray below meth c s.heap [] 0 0 _
      ⟨B.exec, B.bytes, B.returns, B.notSynchronized, hml, hown, hC, Nat.le_refl _, Nat.le_refl _, by simp [headSpec], by simp [headSpec], hnm, BodyLoose.noHandlers B hcode⟩ va_S.rf hW hL hlen
    rw [Nat.zero_add, Nat.zero_add] at w
    have w2 : W p Γ.l e (headSpec [Cond.code y M.cc M.nL M.ret] { frames := d, cells := mc, slots := ms, locals := 40 * d }).room s m (av.map (mj_v Γ)).toArray below meth c s.heap [] 0 0 (mj_Q Γ below s mc ms P) (entryFrame m (av.map (mj_v Γ)).toArray M.nL) := by
      rw [lg_entry_eq]
      exact w
    obtain ⟨t, a1, o, b1, b2, b3⟩ := w2 s₁ hh0 (Stand.of_body B)
    exact ⟨t, o, a1, b1, b2, b3⟩
theorem mj_Met.more {Γ : mj_G} {d : Nat} {y : MethodName} {M : mj_M} {av : List Value} {S : mj_S} {mc ms : Nat} {P P' : mj_O → mj_S → Prop} (hp : ∀ o S', P o S' → P' o S') (h : mj_Met Γ d y M av S mc ms P) : mj_Met Γ d y M av S mc ms P' := by
  intro p e h1 h2 h3 s m args below h4 h5 h6 h7
  obtain ⟨n, o, a1, a2, a3, ⟨out, S', c1, c2, c3⟩, c4⟩ := h p e h1 h2 h3 s m args below h4 h5 h6 h7
  exact ⟨n, o, a1, a2, a3, ⟨out, S', c1, hp _ _ c2, c3⟩, c4⟩
/-- a method that returns, as the kit's contract -/
theorem mj_Met.met {Γ : mj_G} {d : Nat} {y : MethodName} {M : mj_M} {av : List Value} {S : mj_S} {mc ms : Nat} {Q : Option Value → mj_S → Prop} (h : mj_Met Γ d y M av S mc ms (mj_ret Q)) :
    Met Γ.l y [Cond.code y M.cc M.nL M.ret] { frames := d, cells := mc, slots := ms, locals := 40 * d } (fun v U => v = (av.map (mj_v Γ)).toArray ∧ mj_C Γ U ∧ mj_W Γ S U.heap) (fun _ st o t => mj_R Γ st mc ms (mj_ret Q) o t) mc ms (mj_A Γ) := by
  intro p e h1 h2 h3 s m args below h4 h5 h6 h7
  obtain ⟨n, o, a1, a2, a3, b⟩ := h p e h1 h2 h3 s m args below h4 h5 h6 h7
  refine ⟨n, o, a1, a2, a3, b, ?_⟩
  obtain ⟨⟨out, S', c1, c2, c3⟩, c4, c5, L, c6, c7⟩ := b
  refine ⟨L, ⟨?_, c5, c6⟩, c7⟩
  cases out with
  | inl v => exact ⟨_, c1⟩
  | inr x => exact c2.elim
theorem mj_C.here {Γ : mj_G} {s U : State} {H : Heap} {locs : List Loc} (h : mj_C Γ s) (hS : va_S (mj_A Γ) s.heap H locs) (hU : U.heap = H) (hw : s.WarmedH U.vm) : mj_C Γ U := by
  obtain ⟨h1, h2, h3, h4⟩ := h
  exact ⟨h1, State.WarmedH.trans h2 hw, by rw [hU]; exact Nat.le_trans h3 hS.1, fun q hq => by rw [hU]; exact (hS.2.1 q (Nat.lt_of_lt_of_le hq h3) (Nat.not_le.mpr hq)).trans (h4 q hq)⟩
section MJ7
variable {Γ : mj_G} {d d1 : Nat} {M M1 : mj_M} {k n pc mc ms : Nat} {lv st : List Value} {S : mj_S} {P : mj_O → mj_S → Prop} {Q : Option Value → mj_S → Prop} {y : MethodName}
theorem mj_go {p : Program} {e : Env} {R : Room} {s : State} {m : MethodId} {args : Array Value} {below : List Frame} {meth : Method} {c : Code} {H : Heap} {locs : List Loc} {cells slots : Nat} {ls : Array Slot} {st0 : List Value}
    (hX : mj_X Γ d M (k + mc) (n + ms) p R s m meth c cells slots) (hS : va_S (mj_A Γ) s.heap H locs) (hL : mj_L Γ ls lv) (hN : lv.length = M.nL)
    (hr : va_Run p Γ.l e R s m args below meth c H locs cells slots mc ms (F0 m pc ls st0) (st.map (mj_v Γ)) (fun st o t => mj_R Γ st mc ms (mj_ret Q) o t) (mj_A Γ))
    (hk : ∀ (v : Option Value) (S' : mj_S), Q v S' → mj_Ok Γ d M k n (pc + 3) lv (v.toList ++ st) S' P) :
    W p Γ.l e R s m args below meth c H locs cells slots (mj_Q Γ below s (cells + (k + mc)) (slots + (n + ms)) P) (F0 m pc ls st0) := by
  intro T hT X
  obtain ⟨v, st₀, t, T', L, h0, X', hL', e1, e2, ⟨⟨out, S', c1, c2, c3⟩, ⟨f1, f2⟩, c5⟩, hgo⟩ := hr T hT X
  cases out with
  | inr x => exact c2.elim
  | inl v0 =>
    have hv : v = v0.map (mj_v Γ) := Outcome.returned.inj c1
    subst hv
    obtain ⟨x1, x2, x3, x4, x5, x6, x7, x8, x9, x10, x11, x12⟩ := hX
    rw [h0] at f1 f2
    have hS' : va_S (mj_A Γ) s.heap T'.heap (locs ++ L) := by
      refine ⟨Nat.le_trans hS.1 (by rw [e1]; exact f1), fun q h1 h2 => ?_, fun q hq => ?_⟩
      · rw [e1, f2 q (Nat.lt_of_lt_of_le h1 hS.1) h2]
        exact hS.2.1 q h1 h2
      · rcases List.mem_append.mp hq with h | h
        · exact hS.2.2 q h
        · exact hL' q h
    have w := hk v0 S' c2 p e R s m args below meth c T'.heap (locs ++ L) (cells + mc) (slots + ms) ls ⟨x1, x2, x3, x4, x5, x6, x7, x8, x9, by omega, by omega, x12⟩ hS' (by rw [e1]; exact c3) hL hN
    rw [show cells + mc + k = cells + (k + mc) by omega, show slots + ms + n = slots + (n + ms) by omega] at w
    have e3 : (v0.toList ++ st).map (mj_v Γ) = (v0.map (mj_v Γ)).toList ++ st.map (mj_v Γ) := by
      cases v0 <;> simp
    rw [e3] at w
    obtain ⟨t2, a1, b1⟩ := w T' rfl X'
    exact ⟨t2, hgo t2 a1, b1⟩
/-- what a call asks of the tables, besides the link -/
def mj_cw (y : MethodName) (M : mj_M) (n : Nat) : Prop :=
  Cond.code y M.cc M.nL M.ret ∈ mj_tb ∧ Cond.initialized y.cls ∈ mj_tb ∧ (y.cls ≠ "java/lang/invoke/MethodHandle" ∧ y.cls ≠ "java/lang/invoke/VarHandle" ∧ (parseMethodDescriptor y.desc).map (fun d => d.parameters.length) = some n) ∧ M.nL ≤ 21
theorem mj_cw_spec {y : MethodName} {M : mj_M} {n : Nat} (h : mj_cw y M n) : Cond.code y M.cc M.nL M.ret ∈ mj_tb ∧ Cond.initialized y.cls ∈ mj_tb ∧ (y.cls ≠ "java/lang/invoke/MethodHandle" ∧ y.cls ≠ "java/lang/invoke/VarHandle" ∧ (parseMethodDescriptor y.desc).map (fun d => d.parameters.length) = some n) ∧ M.nL ≤ 21 := h
theorem mj_goodIn {ws : List Cond} (h : ∀ w ∈ ws, w ∈ mj_tb) : GoodIn mj_tb ws := fun w hw => ⟨h w hw, good_of_word (mj_tb_good (h w hw)).2⟩
theorem mj_pre {s : State} {H : Heap} {locs : List Loc} {av : List Value} (hC : mj_C Γ s) (hS : va_S (mj_A Γ) s.heap H locs) (hW : mj_W Γ S H) : PreS s H (fun v U => v = (av.map (mj_v Γ)).toArray ∧ mj_C Γ U ∧ mj_W Γ S U.heap) (av.map (mj_v Γ)) :=
  ⟨fun _ _ _ _ h => h, fun U hU hw => ⟨rfl, hC.here hS hU hw, by rw [hU]; exact hW⟩⟩
theorem mj_callV {idx a ci : Nat} {q : vw_C} {fs As : List Value} (hd : decode M.cc pc = .ok (.invokevirtual idx, 3)) (hM : mj_Met Γ d1 y M1 (.ref a :: As) S mc ms (mj_ret Q)) (hcw : mj_cw y M1 As.length) (hw : Cond.methodLink M.own idx y ∈ mj_tb ∧ Cond.instanceMethod y ∈ mj_tb ∧ Cond.selects y.cls y y ∈ mj_tb)
    (hq : mj_cl[ci]? = some q) (hqc : q.1 = y.cls) (ha : a < S.2.1) (he : S.1 a = .inr (ci, fs)) (hd1 : d1 < d) (hst : Nat.ble (st.map fun v => v.category).sum 8 = true)
    (hk : ∀ (v : Option Value) (S' : mj_S), Q v S' → mj_Ok Γ d M k n (pc + 3) lv (v.toList ++ st) S' P) : mj_Ok Γ d M (k + mc) (n + ms) pc lv (As.reverse ++ .ref a :: st) S P := by
  intro p e R s m args below meth c H locs cells slots ls hX hS hW hL hN
  have hX0 := hX
  obtain ⟨x1, x2, x3, x4, x5, x6, x7, x8, x9, x10, x11, x12⟩ := hX
  obtain ⟨g1, g2, g3, g4⟩ := mj_cw_spec hcw
  obtain ⟨w1, w2, w3⟩ := hw
  have hts := x7.w args
  have hB : CallB R s args M.own idx y M1.cc M1.nL M1.ret [Cond.code y M1.cc M1.nL M1.ret] { frames := d1, cells := mc, slots := ms, locals := 40 * d1 } mc ms As.length :=
    callB_of As.length hts (mj_goodIn (by simpa using g1)) rfl rfl rfl (hts _ g2) (hts _ w1) g3 ⟨by show d1 + 1 ≤ _; omega, by show 8 + (M1.nL + 11) + 40 * d1 ≤ _; omega⟩
  have hp := mj_pre (av := .ref a :: As) x7 hS hW
  have he' : (mj_ws Γ S)[a]? = some (mj_ad Γ a, .inr (ci, fs.map (mj_v Γ))) := by rw [mj_ws_at ha, he]; rfl
  have hrec := va_recv x7.K hW.2.2.2.1 hq he'
  rw [hqc] at hrec
  have hroom : 2 * (F0 m pc ls ((As.reverse ++ .ref a :: st).map (mj_v Γ))).monitorRoom + ((st.map (mj_v Γ)).map fun v => v.category).sum ≤ 8 := by
    have : (st.map (mj_v Γ)).map (fun v => v.category) = st.map (fun v => v.category) := by simp [mj_v_cat]
    rw [this]
    exact lv_room (rest := (As.reverse ++ .ref a :: st).map (mj_v Γ)) (Nat.le_of_ble_eq_true hst)
  refine mj_go hX0 hS hL hN (va_runV (As := As.map (mj_v Γ)) (rest := st.map (mj_v Γ)) (nL := M.nL) ⟨x1, x2, x5, x6, hts⟩ hM.met ⟨hB, hts _ w2, hts _ w3⟩ ⟨hp.1, hrec, hp.2⟩ rfl (List.length_map _) (hL.1.trans hN) ?_ hroom hd ⟨by omega, by omega⟩) hk
  simp [mj_v]
theorem mj_stat_pre {As : List Value} : ((As.reverse ++ st).map (mj_v Γ)) = (As.map (mj_v Γ)).reverse ++ st.map (mj_v Γ) := by simp
theorem mj_callS {idx : Nat} {As : List Value} (hd : decode M.cc pc = .ok (.invokestatic idx, 3)) (hM : mj_Met Γ d1 y M1 As S mc ms (mj_ret Q)) (hcw : mj_cw y M1 As.length) (hw : Cond.methodLink M.own idx y ∈ mj_tb ∧ Cond.static y ∈ mj_tb)
    (hd1 : d1 < d) (hst : Nat.ble (st.map fun v => v.category).sum 8 = true)
    (hk : ∀ (v : Option Value) (S' : mj_S), Q v S' → mj_Ok Γ d M k n (pc + 3) lv (v.toList ++ st) S' P) : mj_Ok Γ d M (k + mc) (n + ms) pc lv (As.reverse ++ st) S P := by
  intro p e R s m args below meth c H locs cells slots ls hX hS hW hL hN
  have hX0 := hX
  obtain ⟨x1, x2, x3, x4, x5, x6, x7, x8, x9, x10, x11, x12⟩ := hX
  obtain ⟨g1, g2, g3, g4⟩ := mj_cw_spec hcw
  obtain ⟨w1, w2⟩ := hw
  have hts := x7.w args
  have hB : CallB R s args M.own idx y M1.cc M1.nL M1.ret [Cond.code y M1.cc M1.nL M1.ret] { frames := d1, cells := mc, slots := ms, locals := 40 * d1 } mc ms As.length :=
    callB_of As.length hts (mj_goodIn (by simpa using g1)) rfl rfl rfl (hts _ g2) (hts _ w1) g3 ⟨by show d1 + 1 ≤ _; omega, by show 8 + (M1.nL + 11) + 40 * d1 ≤ _; omega⟩
  have hroom : 2 * (F0 m pc ls ((As.reverse ++ st).map (mj_v Γ))).monitorRoom + ((st.map (mj_v Γ)).map fun v => v.category).sum ≤ 8 := by
    have : (st.map (mj_v Γ)).map (fun v => v.category) = st.map (fun v => v.category) := by simp [mj_v_cat]
    rw [this]
    exact lv_room (rest := (As.reverse ++ st).map (mj_v Γ)) (Nat.le_of_ble_eq_true hst)
  exact mj_go hX0 hS hL hN (va_runS (As := As.map (mj_v Γ)) (rest := st.map (mj_v Γ)) (nL := M.nL) ⟨x1, x2, x5, x6, hts⟩ hM.met ⟨hB, hts _ w2⟩ (mj_pre (av := As) x7 hS hW) rfl (List.length_map _) (hL.1.trans hN) mj_stat_pre hroom hd ⟨by omega, by omega⟩) hk
theorem mj_callSN {idx : Nat} {As : List Value} (hd : decode M.cc pc = .ok (.invokestatic idx, 3)) (hM : mj_Met Γ d1 y M1 As S mc ms (mj_ret Q)) (hcw : mj_cw y M1 As.length) (hw : Cond.methodLinkNest M.own idx y "IsomerList" ∈ lw_tbl ∧ Cond.static y ∈ mj_tb)
    (hd1 : d1 < d) (hst : Nat.ble (st.map fun v => v.category).sum 8 = true)
    (hk : ∀ (v : Option Value) (S' : mj_S), Q v S' → mj_Ok Γ d M k n (pc + 3) lv (v.toList ++ st) S' P) : mj_Ok Γ d M (k + mc) (n + ms) pc lv (As.reverse ++ st) S P := by
  intro p e R s m args below meth c H locs cells slots ls hX hS hW hL hN
  have hX0 := hX
  obtain ⟨x1, x2, x3, x4, x5, x6, x7, x8, x9, x10, x11, x12⟩ := hX
  obtain ⟨g1, g2, g3, g4⟩ := mj_cw_spec hcw
  obtain ⟨w1, w2⟩ := hw
  have hts := x7.w args
  have hB : va_CN R s args M.own idx y "IsomerList" M1.cc M1.nL M1.ret [Cond.code y M1.cc M1.nL M1.ret] { frames := d1, cells := mc, slots := ms, locals := 40 * d1 } mc ms As.length :=
    va_cnB As.length hts (mj_goodIn (by simpa using g1)) rfl rfl rfl (x7.nM w1) (hts _ g2) g3 ⟨by show d1 + 1 ≤ _; omega, by show 8 + (M1.nL + 11) + 40 * d1 ≤ _; omega⟩
  have hroom : 2 * (F0 m pc ls ((As.reverse ++ st).map (mj_v Γ))).monitorRoom + ((st.map (mj_v Γ)).map fun v => v.category).sum ≤ 8 := by
    have : (st.map (mj_v Γ)).map (fun v => v.category) = st.map (fun v => v.category) := by simp [mj_v_cat]
    rw [this]
    exact lv_room (rest := (As.reverse ++ st).map (mj_v Γ)) (Nat.le_of_ble_eq_true hst)
  exact mj_go hX0 hS hL hN (va_runSN (As := As.map (mj_v Γ)) (rest := st.map (mj_v Γ)) (nL := M.nL) ⟨x1, x2, x5, x6, hts⟩ hM.met ⟨hB, hts _ w2, trivial⟩ (mj_pre (av := As) x7 hS hW) rfl (List.length_map _) (hL.1.trans hN) mj_stat_pre hroom hd ⟨by omega, by omega⟩) hk
theorem mj_callI {idx a : Nat} {As : List Value} (hd : decode M.cc pc = .ok (.invokespecial idx, 3)) (hM : mj_Met Γ d1 y M1 (.ref a :: As) S mc ms (mj_ret Q)) (hcw : mj_cw y M1 As.length) (hw : Cond.methodLink M.own idx y ∈ mj_tb ∧ Cond.instanceMethod y ∈ mj_tb ∧ y.name = "<init>") (hrn : M1.ret = none)
    (hd1 : d1 < d) (hst : Nat.ble (st.map fun v => v.category).sum 8 = true)
    (hk : ∀ (v : Option Value) (S' : mj_S), Q v S' → mj_Ok Γ d M k n (pc + 3) lv (v.toList ++ st) S' P) : mj_Ok Γ d M (k + mc) (n + ms) pc lv (As.reverse ++ .ref a :: st) S P := by
  intro p e R s m args below meth c H locs cells slots ls hX hS hW hL hN
  have hX0 := hX
  obtain ⟨x1, x2, x3, x4, x5, x6, x7, x8, x9, x10, x11, x12⟩ := hX
  obtain ⟨g1, g2, g3, g4⟩ := mj_cw_spec hcw
  obtain ⟨w1, w2, w3⟩ := hw
  have hts := x7.w args
  have hM' := hM.met
  rw [hrn] at hM' g1
  have hB : CallB R s args M.own idx y M1.cc M1.nL none [Cond.code y M1.cc M1.nL none] { frames := d1, cells := mc, slots := ms, locals := 40 * d1 } mc ms As.length :=
    callB_of As.length hts (mj_goodIn (by simpa using g1)) rfl rfl rfl (hts _ g2) (hts _ w1) g3 ⟨by show d1 + 1 ≤ _; omega, by show 8 + (M1.nL + 11) + 40 * d1 ≤ _; omega⟩
  have hroom : 2 * (F0 m pc ls ((As.reverse ++ .ref a :: st).map (mj_v Γ))).monitorRoom + ((st.map (mj_v Γ)).map fun v => v.category).sum ≤ 8 := by
    have : (st.map (mj_v Γ)).map (fun v => v.category) = st.map (fun v => v.category) := by simp [mj_v_cat]
    rw [this]
    exact lv_room (rest := (As.reverse ++ .ref a :: st).map (mj_v Γ)) (Nat.le_of_ble_eq_true hst)
  refine mj_go hX0 hS hL hN (va_runI (b := mj_ad Γ a) (As := As.map (mj_v Γ)) (rest := st.map (mj_v Γ)) (nL := M.nL) ⟨x1, x2, x5, x6, hts⟩ hM' ⟨hB, w3, hts _ w2⟩ (mj_pre (av := .ref a :: As) x7 hS hW) rfl (List.length_map _) (hL.1.trans hN) ?_ hroom hd ⟨by omega, by omega⟩) hk
  simp [mj_v]
theorem mj_callIN {idx a : Nat} {As : List Value} (hd : decode M.cc pc = .ok (.invokespecial idx, 3)) (hM : mj_Met Γ d1 y M1 (.ref a :: As) S mc ms (mj_ret Q)) (hcw : mj_cw y M1 As.length) (hw : Cond.methodLinkNest M.own idx y "IsomerList" ∈ lw_tbl ∧ Cond.instanceMethod y ∈ mj_tb ∧ y.name = "<init>") (hrn : M1.ret = none)
    (hd1 : d1 < d) (hst : Nat.ble (st.map fun v => v.category).sum 8 = true)
    (hk : ∀ (v : Option Value) (S' : mj_S), Q v S' → mj_Ok Γ d M k n (pc + 3) lv (v.toList ++ st) S' P) : mj_Ok Γ d M (k + mc) (n + ms) pc lv (As.reverse ++ .ref a :: st) S P := by
  intro p e R s m args below meth c H locs cells slots ls hX hS hW hL hN
  have hX0 := hX
  obtain ⟨x1, x2, x3, x4, x5, x6, x7, x8, x9, x10, x11, x12⟩ := hX
  obtain ⟨g1, g2, g3, g4⟩ := mj_cw_spec hcw
  obtain ⟨w1, w2, w3⟩ := hw
  have hts := x7.w args
  have hM' := hM.met
  rw [hrn] at hM' g1
  have hB : va_CN R s args M.own idx y "IsomerList" M1.cc M1.nL none [Cond.code y M1.cc M1.nL none] { frames := d1, cells := mc, slots := ms, locals := 40 * d1 } mc ms As.length :=
    va_cnB As.length hts (mj_goodIn (by simpa using g1)) rfl rfl rfl (x7.nM w1) (hts _ g2) g3 ⟨by show d1 + 1 ≤ _; omega, by show 8 + (M1.nL + 11) + 40 * d1 ≤ _; omega⟩
  have hroom : 2 * (F0 m pc ls ((As.reverse ++ .ref a :: st).map (mj_v Γ))).monitorRoom + ((st.map (mj_v Γ)).map fun v => v.category).sum ≤ 8 := by
    have : (st.map (mj_v Γ)).map (fun v => v.category) = st.map (fun v => v.category) := by simp [mj_v_cat]
    rw [this]
    exact lv_room (rest := (As.reverse ++ .ref a :: st).map (mj_v Γ)) (Nat.le_of_ble_eq_true hst)
  refine mj_go hX0 hS hL hN (va_runIN (b := mj_ad Γ a) (As := As.map (mj_v Γ)) (rest := st.map (mj_v Γ)) (nL := M.nL) ⟨x1, x2, x5, x6, hts⟩ hM' ⟨hB, w3, hts _ w2⟩ (mj_pre (av := .ref a :: As) x7 hS hW) rfl (List.length_map _) (hL.1.trans hN) ?_ hroom hd ⟨by omega, by omega⟩) hk
  simp [mj_v]
theorem mj_objInit {idx a : Nat} (hd : decode M.cc pc = .ok (.invokespecial idx, 3)) (hw : Cond.methodLink M.own idx objectInit ∈ mj_tb ∧ Cond.instanceMethod objectInit ∈ mj_tb ∧ Cond.code objectInit ⟨#[0xb1]⟩ 1 none ∈ mj_tb) (hd0 : 0 < d) (hst : Nat.ble (st.map fun v => v.category).sum 8 = true)
    (h : mj_Ok Γ d M k n (pc + 3) lv st S P) : mj_Ok Γ d M k n pc lv (.ref a :: st) S P := by
  intro p e R s m args below meth c H locs cells slots ls hX hS hW hL hN
  have hX0 := hX
  obtain ⟨x1, x2, x3, x4, x5, x6, x7, x8, x9, x10, x11, x12⟩ := hX
  obtain ⟨w1, w2, w3⟩ := hw
  have hts := x7.w args
  have h8 : ((st.map (mj_v Γ)).map fun v => v.category).sum ≤ 8 := by
    have : (st.map (mj_v Γ)).map (fun v => v.category) = st.map (fun v => v.category) := by simp [mj_v_cat]
    rw [this]
    exact Nat.le_of_ble_eq_true hst
  refine W.objInit x1 x2 x6 (hts _ w1) (hts _ w2) (hts _ w3) rfl (by rw [x5]; exact hL.1.trans hN) rfl hd (by omega) (by show 2 * 0 + _ + 12 ≤ _; omega) ?_
  exact h p e R s m args below meth c H locs cells slots ls hX0 hS hW hL hN
end MJ7
end
section
/-! mj, part 08: an int as an integer: iZ z; the rows again, over such numbers. -/
def iZ (z : Int) : Int32 := Int32.ofInt z
/-- z is an int -/
abbrev iR (z : Int) : Prop := -2147483648 ≤ z ∧ z ≤ 2147483647
theorem iZ_toInt {z : Int} (h : iR z) : (iZ z).toInt = z := Int32.toInt_ofInt_of_le h.1 (by have := h.2; omega)
theorem iZ_add (x y : Int) : iZ x + iZ y = iZ (x + y) := (Int32.ofInt_add x y).symm
theorem iZ_sub (x y : Int) : iZ x - iZ y = iZ (x - y) := (Int32.ofInt_sub x y).symm
theorem iZ_mul (x y : Int) : iZ x * iZ y = iZ (x * y) := (Int32.ofInt_mul x y).symm
theorem iZ_neg (x : Int) : -iZ x = iZ (-x) := (Int32.ofInt_neg x).symm
theorem iZ_nat (n : Nat) : iZ (n : Int) = nI n := rfl
theorem iZ_lt {x y : Int} (hx : iR x) (hy : iR y) : iZ x < iZ y ↔ x < y := by
  rw [Int32.lt_iff_toInt_lt, iZ_toInt hx, iZ_toInt hy]
theorem iZ_le {x y : Int} (hx : iR x) (hy : iR y) : iZ x ≤ iZ y ↔ x ≤ y := by
  rw [Int32.le_iff_toInt_le, iZ_toInt hx, iZ_toInt hy]
theorem iZ_eq {x y : Int} (hx : iR x) (hy : iR y) : iZ x = iZ y ↔ x = y := by
  rw [← Int32.toInt_inj, iZ_toInt hx, iZ_toInt hy]
theorem iZ_0 : iZ 0 = 0 := rfl
theorem iZ_div {a b : Int} (ha : 0 ≤ a) (ha2 : a ≤ 2147483647) (hb : 0 < b) (hb2 : b ≤ 2147483647) : iZ a / iZ b = iZ (a / b) := by
  obtain ⟨m, rfl⟩ := Int.eq_ofNat_of_zero_le ha
  obtain ⟨n, rfl⟩ := Int.eq_ofNat_of_zero_le (Int.le_of_lt hb)
  rw [iZ_nat, iZ_nat, pk_div (by omega) (by omega) (by omega), ← iZ_nat, Int.natCast_ediv]
theorem iZ_rem {a b : Int} (ha : 0 ≤ a) (ha2 : a ≤ 2147483647) (hb : 0 < b) (hb2 : b ≤ 2147483647) : iZ a - iZ a / iZ b * iZ b = iZ (a % b) := by
  rw [iZ_div ha ha2 hb hb2, iZ_mul, iZ_sub]
  congr 1
  rw [Int.emod_def, Int.mul_comm]
/-- an array's contents -/
def mj_z (A : Nat → Int) : Nat → Int32 := fun j => iZ (A j)
theorem mj_z_up (A : Nat → Int) (j : Nat) (v : Int) : upd (mj_z A) j (iZ v) = mj_z (va_up A j v) := by
  funext i
  by_cases h : i = j
  · subst h; simp [upd, mj_z, va_up]
  · simp [upd, mj_z, va_up, h]
/-- what lies outside l is as it was -/
def mj_fr (S S' : mj_S) (l : List Nat) : Prop := S'.2 = S.2 ∧ ∀ j, j ∉ l → S'.1 j = S.1 j
theorem mj_fr.rf (S : mj_S) (l : List Nat) : mj_fr S S l := ⟨rfl, fun _ _ => rfl⟩
theorem mj_fr.tr {S S1 S2 : mj_S} {l1 l2 l : List Nat} (h1 : mj_fr S S1 l1) (h2 : mj_fr S1 S2 l2) (hl1 : ∀ j ∈ l1, j ∈ l) (hl2 : ∀ j ∈ l2, j ∈ l) : mj_fr S S2 l :=
  ⟨h2.1.trans h1.1, fun j hj => (h2.2 j fun q => hj (hl2 j q)).trans (h1.2 j fun q => hj (hl1 j q))⟩
theorem mj_fr.w {S S' : mj_S} {l : List Nat} (h : mj_fr S S' l) : S'.2.1 = S.2.1 := by rw [h.1]
theorem mj_fr.up (S : mj_S) (a : Nat) (e : mj_E) : mj_fr S (mj_up S a e) [a] := ⟨rfl, fun j hj => mj_up_ne S e (by simpa using hj)⟩
theorem mj_fr.at {S S' : mj_S} {l : List Nat} (h : mj_fr S S' l) {a : Nat} {e : mj_E} (he : S.1 a = e) (ha : a ∉ l) : S'.1 a = e := (h.2 a ha).trans he
section MJ8
variable {Γ : mj_G} {d : Nat} {M : mj_M} {k n pc : Nat} {lv st : List Value} {S : mj_S} {P : mj_O → mj_S → Prop}
theorem mz_iadd {x y : Int} (hd : decode M.cc pc = .ok (.iadd, 1)) (h : mj_Ok Γ d M k n (pc + 1) lv (.int (iZ (x + y)) :: st) S P) : mj_Ok Γ d M k n pc lv (.int (iZ y) :: .int (iZ x) :: st) S P := mj_iadd hd (by rw [iZ_add]; exact h)
theorem mz_isub {x y : Int} (hd : decode M.cc pc = .ok (.isub, 1)) (h : mj_Ok Γ d M k n (pc + 1) lv (.int (iZ (x - y)) :: st) S P) : mj_Ok Γ d M k n pc lv (.int (iZ y) :: .int (iZ x) :: st) S P := mj_isub hd (by rw [iZ_sub]; exact h)
theorem mz_imul {x y : Int} (hd : decode M.cc pc = .ok (.imul, 1)) (h : mj_Ok Γ d M k n (pc + 1) lv (.int (iZ (x * y)) :: st) S P) : mj_Ok Γ d M k n pc lv (.int (iZ y) :: .int (iZ x) :: st) S P := mj_imul hd (by rw [iZ_mul]; exact h)
theorem mz_idiv {x y : Int} (hd : decode M.cc pc = .ok (.idiv, 1)) (hx : 0 ≤ x) (hx2 : x ≤ 2147483647) (hy : 0 < y) (hy2 : y ≤ 2147483647) (h : mj_Ok Γ d M k n (pc + 1) lv (.int (iZ (x / y)) :: st) S P) : mj_Ok Γ d M k n pc lv (.int (iZ y) :: .int (iZ x) :: st) S P :=
  mj_idiv hd (fun e => by have := (iZ_eq (x := y) (y := 0) (by omega) (by omega)).mp e; omega) (by rw [iZ_div hx hx2 hy hy2]; exact h)
theorem mz_irem {x y : Int} (hd : decode M.cc pc = .ok (.irem, 1)) (hx : 0 ≤ x) (hx2 : x ≤ 2147483647) (hy : 0 < y) (hy2 : y ≤ 2147483647) (h : mj_Ok Γ d M k n (pc + 1) lv (.int (iZ (x % y)) :: st) S P) : mj_Ok Γ d M k n pc lv (.int (iZ y) :: .int (iZ x) :: st) S P :=
  mj_irem hd (fun e => by have := (iZ_eq (x := y) (y := 0) (by omega) (by omega)).mp e; omega) (by rw [iZ_rem hx hx2 hy hy2]; exact h)
theorem mz_ineg {x : Int} (hd : decode M.cc pc = .ok (.ineg, 1)) (h : mj_Ok Γ d M k n (pc + 1) lv (.int (iZ (-x)) :: st) S P) : mj_Ok Γ d M k n pc lv (.int (iZ x) :: st) S P := mj_ineg hd (by rw [iZ_neg]; exact h)
theorem mz_iconst {i : Int} (hd : decode M.cc pc = .ok (.iconst i, 1)) (h : mj_Ok Γ d M k n (pc + 1) lv (.int (iZ i) :: st) S P) : mj_Ok Γ d M k n pc lv st S P := mj_iconst hd rfl h
theorem mz_bipush {i : Int} (hd : decode M.cc pc = .ok (.bipush i, 2)) (hv : (Int8.ofInt i).toInt32 = iZ i) (h : mj_Ok Γ d M k n (pc + 2) lv (.int (iZ i) :: st) S P) : mj_Ok Γ d M k n pc lv st S P := mj_bipush hd hv h
theorem mz_sipush {i : Int} (hd : decode M.cc pc = .ok (.sipush i, 3)) (hv : (Int16.ofInt i).toInt32 = iZ i) (h : mj_Ok Γ d M k n (pc + 3) lv (.int (iZ i) :: st) S P) : mj_Ok Γ d M k n pc lv st S P := mj_sipush hd hv h
theorem mz_iinc {i : Nat} {x z : Int} {lv' : List Value} (hd : decode M.cc pc = .ok (.iinc i z, 3)) (hc : mj_c1 lv = true) (hx : lv[i]? = some (.int (iZ x))) (hl : lv.set i (.int (iZ (x + z))) = lv') (h : mj_Ok Γ d M k n (pc + 3) lv' st S P) : mj_Ok Γ d M k n pc lv st S P := mj_iinc hd hc hx (iZ_add x z) hl h
theorem mz_if_eq {x : Int} {off : Int} (tgt : Nat) (hd : decode M.cc pc = .ok (.ifCond .eq off, 3)) (ht : (pc : Int) + off = (tgt : Int)) (hx : iR x) (ht1 : x = 0 → mj_Ok Γ d M k n tgt lv st S P) (hf1 : x ≠ 0 → mj_Ok Γ d M k n (pc + 3) lv st S P) : mj_Ok Γ d M k n pc lv (.int (iZ x) :: st) S P := mj_if_eq tgt hd ht (fun q => ht1 ((iZ_eq (x := x) (y := 0) hx (by omega)).mp q)) (fun q => hf1 fun e => q ((iZ_eq (x := x) (y := 0) hx (by omega)).mpr e))
theorem mz_icmp_eq {x y : Int} {off : Int} (tgt : Nat) (hd : decode M.cc pc = .ok (.if_icmp .eq off, 3)) (ht : (pc : Int) + off = (tgt : Int)) (hx : iR x) (hy : iR y) (ht1 : x = y → mj_Ok Γ d M k n tgt lv st S P) (hf1 : x ≠ y → mj_Ok Γ d M k n (pc + 3) lv st S P) : mj_Ok Γ d M k n pc lv (.int (iZ y) :: .int (iZ x) :: st) S P := mj_icmp_eq tgt hd ht (fun q => ht1 ((iZ_eq (x := x) (y := y) hx hy).mp q)) (fun q => hf1 fun e => q ((iZ_eq (x := x) (y := y) hx hy).mpr e))
theorem mz_if_ne {x : Int} {off : Int} (tgt : Nat) (hd : decode M.cc pc = .ok (.ifCond .ne off, 3)) (ht : (pc : Int) + off = (tgt : Int)) (hx : iR x) (ht1 : x ≠ 0 → mj_Ok Γ d M k n tgt lv st S P) (hf1 : x = 0 → mj_Ok Γ d M k n (pc + 3) lv st S P) : mj_Ok Γ d M k n pc lv (.int (iZ x) :: st) S P := mj_if_ne tgt hd ht (fun q => ht1 fun e => q ((iZ_eq (x := x) (y := 0) hx (by omega)).mpr e)) (fun q => hf1 ((iZ_eq (x := x) (y := 0) hx (by omega)).mp q))
theorem mz_icmp_ne {x y : Int} {off : Int} (tgt : Nat) (hd : decode M.cc pc = .ok (.if_icmp .ne off, 3)) (ht : (pc : Int) + off = (tgt : Int)) (hx : iR x) (hy : iR y) (ht1 : x ≠ y → mj_Ok Γ d M k n tgt lv st S P) (hf1 : x = y → mj_Ok Γ d M k n (pc + 3) lv st S P) : mj_Ok Γ d M k n pc lv (.int (iZ y) :: .int (iZ x) :: st) S P := mj_icmp_ne tgt hd ht (fun q => ht1 fun e => q ((iZ_eq (x := x) (y := y) hx hy).mpr e)) (fun q => hf1 ((iZ_eq (x := x) (y := y) hx hy).mp q))
theorem mz_if_lt {x : Int} {off : Int} (tgt : Nat) (hd : decode M.cc pc = .ok (.ifCond .lt off, 3)) (ht : (pc : Int) + off = (tgt : Int)) (hx : iR x) (ht1 : x < 0 → mj_Ok Γ d M k n tgt lv st S P) (hf1 : 0 ≤ x → mj_Ok Γ d M k n (pc + 3) lv st S P) : mj_Ok Γ d M k n pc lv (.int (iZ x) :: st) S P := mj_if_lt tgt hd ht (fun q => ht1 ((iZ_lt (x := x) (y := 0) hx (by omega)).mp q)) (fun q => hf1 (by have w9 : ¬ (x < 0) := fun e => q ((iZ_lt (x := x) (y := 0) hx (by omega)).mpr e); omega))
theorem mz_icmp_lt {x y : Int} {off : Int} (tgt : Nat) (hd : decode M.cc pc = .ok (.if_icmp .lt off, 3)) (ht : (pc : Int) + off = (tgt : Int)) (hx : iR x) (hy : iR y) (ht1 : x < y → mj_Ok Γ d M k n tgt lv st S P) (hf1 : y ≤ x → mj_Ok Γ d M k n (pc + 3) lv st S P) : mj_Ok Γ d M k n pc lv (.int (iZ y) :: .int (iZ x) :: st) S P := mj_icmp_lt tgt hd ht (fun q => ht1 ((iZ_lt (x := x) (y := y) hx hy).mp q)) (fun q => hf1 (by have w9 : ¬ (x < y) := fun e => q ((iZ_lt (x := x) (y := y) hx hy).mpr e); omega))
theorem mz_if_ge {x : Int} {off : Int} (tgt : Nat) (hd : decode M.cc pc = .ok (.ifCond .ge off, 3)) (ht : (pc : Int) + off = (tgt : Int)) (hx : iR x) (ht1 : 0 ≤ x → mj_Ok Γ d M k n tgt lv st S P) (hf1 : x < 0 → mj_Ok Γ d M k n (pc + 3) lv st S P) : mj_Ok Γ d M k n pc lv (.int (iZ x) :: st) S P := mj_if_ge tgt hd ht (fun q => ht1 ((iZ_le (x := 0) (y := x) (by omega) hx).mp q)) (fun q => hf1 (by have w9 : ¬ (0 ≤ x) := fun e => q ((iZ_le (x := 0) (y := x) (by omega) hx).mpr e); omega))
theorem mz_icmp_ge {x y : Int} {off : Int} (tgt : Nat) (hd : decode M.cc pc = .ok (.if_icmp .ge off, 3)) (ht : (pc : Int) + off = (tgt : Int)) (hx : iR x) (hy : iR y) (ht1 : y ≤ x → mj_Ok Γ d M k n tgt lv st S P) (hf1 : x < y → mj_Ok Γ d M k n (pc + 3) lv st S P) : mj_Ok Γ d M k n pc lv (.int (iZ y) :: .int (iZ x) :: st) S P := mj_icmp_ge tgt hd ht (fun q => ht1 ((iZ_le (x := y) (y := x) hy hx).mp q)) (fun q => hf1 (by have w9 : ¬ (y ≤ x) := fun e => q ((iZ_le (x := y) (y := x) hy hx).mpr e); omega))
theorem mz_if_gt {x : Int} {off : Int} (tgt : Nat) (hd : decode M.cc pc = .ok (.ifCond .gt off, 3)) (ht : (pc : Int) + off = (tgt : Int)) (hx : iR x) (ht1 : 0 < x → mj_Ok Γ d M k n tgt lv st S P) (hf1 : x ≤ 0 → mj_Ok Γ d M k n (pc + 3) lv st S P) : mj_Ok Γ d M k n pc lv (.int (iZ x) :: st) S P := mj_if_gt tgt hd ht (fun q => ht1 ((iZ_lt (x := 0) (y := x) (by omega) hx).mp q)) (fun q => hf1 (by have w9 : ¬ (0 < x) := fun e => q ((iZ_lt (x := 0) (y := x) (by omega) hx).mpr e); omega))
theorem mz_icmp_gt {x y : Int} {off : Int} (tgt : Nat) (hd : decode M.cc pc = .ok (.if_icmp .gt off, 3)) (ht : (pc : Int) + off = (tgt : Int)) (hx : iR x) (hy : iR y) (ht1 : y < x → mj_Ok Γ d M k n tgt lv st S P) (hf1 : x ≤ y → mj_Ok Γ d M k n (pc + 3) lv st S P) : mj_Ok Γ d M k n pc lv (.int (iZ y) :: .int (iZ x) :: st) S P := mj_icmp_gt tgt hd ht (fun q => ht1 ((iZ_lt (x := y) (y := x) hy hx).mp q)) (fun q => hf1 (by have w9 : ¬ (y < x) := fun e => q ((iZ_lt (x := y) (y := x) hy hx).mpr e); omega))
theorem mz_if_le {x : Int} {off : Int} (tgt : Nat) (hd : decode M.cc pc = .ok (.ifCond .le off, 3)) (ht : (pc : Int) + off = (tgt : Int)) (hx : iR x) (ht1 : x ≤ 0 → mj_Ok Γ d M k n tgt lv st S P) (hf1 : 0 < x → mj_Ok Γ d M k n (pc + 3) lv st S P) : mj_Ok Γ d M k n pc lv (.int (iZ x) :: st) S P := mj_if_le tgt hd ht (fun q => ht1 ((iZ_le (x := x) (y := 0) hx (by omega)).mp q)) (fun q => hf1 (by have w9 : ¬ (x ≤ 0) := fun e => q ((iZ_le (x := x) (y := 0) hx (by omega)).mpr e); omega))
theorem mz_icmp_le {x y : Int} {off : Int} (tgt : Nat) (hd : decode M.cc pc = .ok (.if_icmp .le off, 3)) (ht : (pc : Int) + off = (tgt : Int)) (hx : iR x) (hy : iR y) (ht1 : x ≤ y → mj_Ok Γ d M k n tgt lv st S P) (hf1 : y < x → mj_Ok Γ d M k n (pc + 3) lv st S P) : mj_Ok Γ d M k n pc lv (.int (iZ y) :: .int (iZ x) :: st) S P := mj_icmp_le tgt hd ht (fun q => ht1 ((iZ_le (x := x) (y := y) hx hy).mp q)) (fun q => hf1 (by have w9 : ¬ (x ≤ y) := fun e => q ((iZ_le (x := x) (y := y) hx hy).mpr e); omega))
theorem mz_iald {a N j : Nat} {z : Int} {A : Nat → Int} (hd : decode M.cc pc = .ok (.iaload, 1)) (ha : a < S.2.1) (he : S.1 a = .inl (0, N, .inl (mj_z A))) (hz : z = (j : Int)) (hj : j < N) (h : mj_Ok Γ d M k n (pc + 1) lv (.int (iZ (A j)) :: st) S P) (hN : N < 2147483648 := by decide) : mj_Ok Γ d M k n pc lv (.int (iZ z) :: .ref a :: st) S P := mj_iald hd ha he (by rw [hz]; rfl) hj h hN
theorem mz_cald {a N j : Nat} {z : Int} {A : Nat → Int} (hd : decode M.cc pc = .ok (.caload, 1)) (ha : a < S.2.1) (he : S.1 a = .inl (1, N, .inl (mj_z A))) (hz : z = (j : Int)) (hj : j < N) (h : mj_Ok Γ d M k n (pc + 1) lv (.int (iZ (A j)) :: st) S P) (hN : N < 2147483648 := by decide) : mj_Ok Γ d M k n pc lv (.int (iZ z) :: .ref a :: st) S P := mj_cald hd ha he (by rw [hz]; rfl) hj h hN
theorem mz_zald {a N j : Nat} {z : Int} {A : Nat → Int} (hd : decode M.cc pc = .ok (.baload, 1)) (ha : a < S.2.1) (he : S.1 a = .inl (2, N, .inl (mj_z A))) (hz : z = (j : Int)) (hj : j < N) (h : mj_Ok Γ d M k n (pc + 1) lv (.int (iZ (A j)) :: st) S P) (hN : N < 2147483648 := by decide) : mj_Ok Γ d M k n pc lv (.int (iZ z) :: .ref a :: st) S P := mj_zald hd ha he (by rw [hz]; rfl) hj h hN
theorem mz_iast {a N j : Nat} {z v : Int} {A : Nat → Int} (hd : decode M.cc pc = .ok (.iastore, 1)) (ha : a < S.2.1) (he : S.1 a = .inl (0, N, .inl (mj_z A))) (hz : z = (j : Int)) (hj : j < N)  (h : ∀ S1 : mj_S, S1.2.1 = S.2.1 → S1.1 a = .inl (0, N, .inl (mj_z (va_up A j v))) → mj_fr S S1 [a] → mj_Ok Γ d M k n (pc + 1) lv st S1 P) (hN : N < 2147483648 := by decide) : mj_Ok Γ d M k n pc lv (.int (iZ v) :: .int (iZ z) :: .ref a :: st) S P :=
  mj_iast hd ha he (by rw [hz]; rfl) hj (h _ rfl (by rw [mj_up_self, mj_z_up]) (mj_fr.up _ _ _)) hN
theorem mz_cast {a N j : Nat} {z v : Int} {A : Nat → Int} (hd : decode M.cc pc = .ok (.castore, 1)) (ha : a < S.2.1) (he : S.1 a = .inl (1, N, .inl (mj_z A))) (hz : z = (j : Int)) (hj : j < N) (hx : narrow .char (.int (iZ v)) = .int (iZ v)) (h : ∀ S1 : mj_S, S1.2.1 = S.2.1 → S1.1 a = .inl (1, N, .inl (mj_z (va_up A j v))) → mj_fr S S1 [a] → mj_Ok Γ d M k n (pc + 1) lv st S1 P) (hN : N < 2147483648 := by decide) : mj_Ok Γ d M k n pc lv (.int (iZ v) :: .int (iZ z) :: .ref a :: st) S P :=
  mj_cast hd ha he (by rw [hz]; rfl) hj hx (h _ rfl (by rw [mj_up_self, mj_z_up]) (mj_fr.up _ _ _)) hN
theorem mz_zast {a N j : Nat} {z v : Int} {A : Nat → Int} (hd : decode M.cc pc = .ok (.bastore, 1)) (ha : a < S.2.1) (he : S.1 a = .inl (2, N, .inl (mj_z A))) (hz : z = (j : Int)) (hj : j < N) (hx : narrow .boolean (.int (iZ v)) = .int (iZ v)) (h : ∀ S1 : mj_S, S1.2.1 = S.2.1 → S1.1 a = .inl (2, N, .inl (mj_z (va_up A j v))) → mj_fr S S1 [a] → mj_Ok Γ d M k n (pc + 1) lv st S1 P) (hN : N < 2147483648 := by decide) : mj_Ok Γ d M k n pc lv (.int (iZ v) :: .int (iZ z) :: .ref a :: st) S P :=
  mj_zast hd ha he (by rw [hz]; rfl) hj hx (h _ rfl (by rw [mj_up_self, mj_z_up]) (mj_fr.up _ _ _)) hN
theorem mz_iro {r j : Nat} {z : Int} (hd : decode M.cc pc = .ok (.iaload, 1)) (hr : r < 4) (ht : mj_rt r = 0) (hz : z = (j : Int)) (hj : j < (Γ.ro r).1) (hN : (Γ.ro r).1 < 2147483648) {v : Int} (hv : mj_ai (Γ.ro r) j = iZ v) (h : mj_Ok Γ d M k n (pc + 1) lv (.int (iZ v) :: st) S P) : mj_Ok Γ d M k n pc lv (.int (iZ z) :: .ref (mj_st + r) :: st) S P := mj_iro hd hr ht (by rw [hz]; rfl) hj hN (by rw [hv]; exact h)
theorem mz_cro {r j : Nat} {z : Int} (hd : decode M.cc pc = .ok (.caload, 1)) (hr : r < 4) (ht : mj_rt r = 1) (hz : z = (j : Int)) (hj : j < (Γ.ro r).1) (hN : (Γ.ro r).1 < 2147483648) {v : Int} (hv : mj_ai (Γ.ro r) j = iZ v) (h : mj_Ok Γ d M k n (pc + 1) lv (.int (iZ v) :: st) S P) : mj_Ok Γ d M k n pc lv (.int (iZ z) :: .ref (mj_st + r) :: st) S P := mj_cro hd hr ht (by rw [hz]; rfl) hj hN (by rw [hv]; exact h)
theorem mz_put {idx ci j a : Nat} {q : vw_C} {fs fs' : List Value} {v : Value} (hd : decode M.cc pc = .ok (.putfield idx, 3)) (hq : mj_cl[ci]? = some q) (hw : mj_fw M.own idx (q.2.1 j).1 (q.2.1 j).2.1 (q.2.1 j).2.2.1) (hj : j < q.2.2)
    (hfin : (q.2.1 j).2.2.2 = false) (ha : a < S.2.1) (he : S.1 a = .inr (ci, fs)) (hl : j < fs.length) (hfit : mj_fit (mj_t ci j) v) (hs : fs.set j v = fs')
    (h : ∀ S1 : mj_S, S1.2.1 = S.2.1 → S1.1 a = .inr (ci, fs') → mj_fr S S1 [a] → mj_Ok Γ d M k n (pc + 3) lv st S1 P) : mj_Ok Γ d M k n pc lv (v :: .ref a :: st) S P :=
  mj_put hd hq hw hj (Or.inl hfin) ha he hl hfit hs (h _ rfl (mj_up_self _ _ _) (mj_fr.up _ _ _))
theorem mz_putF {idx ci j a : Nat} {q : vw_C} {fs fs' : List Value} {v : Value} (hd : decode M.cc pc = .ok (.putfield idx, 3)) (hq : mj_cl[ci]? = some q) (hw : mj_fw M.own idx (q.2.1 j).1 (q.2.1 j).2.1 (q.2.1 j).2.2.1) (hj : j < q.2.2)
    (hfin : M.name = "<init>" ∧ (q.2.1 j).1 = M.own ∧ Cond.fieldLink M.own idx (q.2.1 j).1 (q.2.1 j).2.1 (q.2.1 j).2.2.1 ∈ mj_tb) (ha : a < S.2.1) (he : S.1 a = .inr (ci, fs)) (hl : j < fs.length) (hfit : mj_fit (mj_t ci j) v) (hs : fs.set j v = fs')
    (h : ∀ S1 : mj_S, S1.2.1 = S.2.1 → S1.1 a = .inr (ci, fs') → mj_fr S S1 [a] → mj_Ok Γ d M k n (pc + 3) lv st S1 P) : mj_Ok Γ d M k n pc lv (v :: .ref a :: st) S P :=
  mj_put hd hq hw hj (Or.inr hfin) ha he hl hfit hs (h _ rfl (mj_up_self _ _ _) (mj_fr.up _ _ _))
variable {d1 mc ms : Nat} {M1 : mj_M} {Q : Option Value → mj_S → Prop} {y : MethodName}
theorem mz_callV0 {idx a ci : Nat} {q : vw_C} {fs : List Value} (hd : decode M.cc pc = .ok (.invokevirtual idx, 3)) (hM : mj_Met Γ d1 y M1 (.ref a :: []) S mc ms (mj_ret Q)) (hcw : mj_cw y M1 0) (hw : Cond.methodLink M.own idx y ∈ mj_tb ∧ Cond.instanceMethod y ∈ mj_tb ∧ Cond.selects y.cls y y ∈ mj_tb)
    (hq : mj_cl[ci]? = some q) (hqc : q.1 = y.cls) (ha : a < S.2.1) (he : S.1 a = .inr (ci, fs)) (hd1 : d1 < d) (hst : Nat.ble (st.map fun v => v.category).sum 8 = true)
    (hk : ∀ (v : Option Value) (S' : mj_S), Q v S' → mj_Ok Γ d M k n (pc + 3) lv (v.toList ++ st) S' P) : mj_Ok Γ d M (k + mc) (n + ms) pc lv (.ref a :: st) S P := mj_callV (As := []) hd hM hcw hw hq hqc ha he hd1 hst hk
theorem mz_callS0 {idx : Nat} (hd : decode M.cc pc = .ok (.invokestatic idx, 3)) (hM : mj_Met Γ d1 y M1 [] S mc ms (mj_ret Q)) (hcw : mj_cw y M1 0) (hw : Cond.methodLink M.own idx y ∈ mj_tb ∧ Cond.static y ∈ mj_tb)
    (hd1 : d1 < d) (hst : Nat.ble (st.map fun v => v.category).sum 8 = true)
    (hk : ∀ (v : Option Value) (S' : mj_S), Q v S' → mj_Ok Γ d M k n (pc + 3) lv (v.toList ++ st) S' P) : mj_Ok Γ d M (k + mc) (n + ms) pc lv (st) S P := mj_callS (As := []) hd hM hcw hw hd1 hst hk
theorem mz_callSN0 {idx : Nat} (hd : decode M.cc pc = .ok (.invokestatic idx, 3)) (hM : mj_Met Γ d1 y M1 [] S mc ms (mj_ret Q)) (hcw : mj_cw y M1 0) (hw : Cond.methodLinkNest M.own idx y "IsomerList" ∈ lw_tbl ∧ Cond.static y ∈ mj_tb)
    (hd1 : d1 < d) (hst : Nat.ble (st.map fun v => v.category).sum 8 = true)
    (hk : ∀ (v : Option Value) (S' : mj_S), Q v S' → mj_Ok Γ d M k n (pc + 3) lv (v.toList ++ st) S' P) : mj_Ok Γ d M (k + mc) (n + ms) pc lv (st) S P := mj_callSN (As := []) hd hM hcw hw hd1 hst hk
theorem mz_callV1 {idx a ci : Nat} {q : vw_C} {fs : List Value} {v1 : Value} (hd : decode M.cc pc = .ok (.invokevirtual idx, 3)) (hM : mj_Met Γ d1 y M1 (.ref a :: [v1]) S mc ms (mj_ret Q)) (hcw : mj_cw y M1 1) (hw : Cond.methodLink M.own idx y ∈ mj_tb ∧ Cond.instanceMethod y ∈ mj_tb ∧ Cond.selects y.cls y y ∈ mj_tb)
    (hq : mj_cl[ci]? = some q) (hqc : q.1 = y.cls) (ha : a < S.2.1) (he : S.1 a = .inr (ci, fs)) (hd1 : d1 < d) (hst : Nat.ble (st.map fun v => v.category).sum 8 = true)
    (hk : ∀ (v : Option Value) (S' : mj_S), Q v S' → mj_Ok Γ d M k n (pc + 3) lv (v.toList ++ st) S' P) : mj_Ok Γ d M (k + mc) (n + ms) pc lv (v1 :: .ref a :: st) S P := mj_callV (As := [v1]) hd hM hcw hw hq hqc ha he hd1 hst hk
theorem mz_callS1 {idx : Nat} {v1 : Value} (hd : decode M.cc pc = .ok (.invokestatic idx, 3)) (hM : mj_Met Γ d1 y M1 [v1] S mc ms (mj_ret Q)) (hcw : mj_cw y M1 1) (hw : Cond.methodLink M.own idx y ∈ mj_tb ∧ Cond.static y ∈ mj_tb)
    (hd1 : d1 < d) (hst : Nat.ble (st.map fun v => v.category).sum 8 = true)
    (hk : ∀ (v : Option Value) (S' : mj_S), Q v S' → mj_Ok Γ d M k n (pc + 3) lv (v.toList ++ st) S' P) : mj_Ok Γ d M (k + mc) (n + ms) pc lv (v1 :: st) S P := mj_callS (As := [v1]) hd hM hcw hw hd1 hst hk
theorem mz_callSN1 {idx : Nat} {v1 : Value} (hd : decode M.cc pc = .ok (.invokestatic idx, 3)) (hM : mj_Met Γ d1 y M1 [v1] S mc ms (mj_ret Q)) (hcw : mj_cw y M1 1) (hw : Cond.methodLinkNest M.own idx y "IsomerList" ∈ lw_tbl ∧ Cond.static y ∈ mj_tb)
    (hd1 : d1 < d) (hst : Nat.ble (st.map fun v => v.category).sum 8 = true)
    (hk : ∀ (v : Option Value) (S' : mj_S), Q v S' → mj_Ok Γ d M k n (pc + 3) lv (v.toList ++ st) S' P) : mj_Ok Γ d M (k + mc) (n + ms) pc lv (v1 :: st) S P := mj_callSN (As := [v1]) hd hM hcw hw hd1 hst hk
theorem mz_callV2 {idx a ci : Nat} {q : vw_C} {fs : List Value} {v1 v2 : Value} (hd : decode M.cc pc = .ok (.invokevirtual idx, 3)) (hM : mj_Met Γ d1 y M1 (.ref a :: [v1, v2]) S mc ms (mj_ret Q)) (hcw : mj_cw y M1 2) (hw : Cond.methodLink M.own idx y ∈ mj_tb ∧ Cond.instanceMethod y ∈ mj_tb ∧ Cond.selects y.cls y y ∈ mj_tb)
    (hq : mj_cl[ci]? = some q) (hqc : q.1 = y.cls) (ha : a < S.2.1) (he : S.1 a = .inr (ci, fs)) (hd1 : d1 < d) (hst : Nat.ble (st.map fun v => v.category).sum 8 = true)
    (hk : ∀ (v : Option Value) (S' : mj_S), Q v S' → mj_Ok Γ d M k n (pc + 3) lv (v.toList ++ st) S' P) : mj_Ok Γ d M (k + mc) (n + ms) pc lv (v2 :: v1 :: .ref a :: st) S P := mj_callV (As := [v1, v2]) hd hM hcw hw hq hqc ha he hd1 hst hk
theorem mz_callS2 {idx : Nat} {v1 v2 : Value} (hd : decode M.cc pc = .ok (.invokestatic idx, 3)) (hM : mj_Met Γ d1 y M1 [v1, v2] S mc ms (mj_ret Q)) (hcw : mj_cw y M1 2) (hw : Cond.methodLink M.own idx y ∈ mj_tb ∧ Cond.static y ∈ mj_tb)
    (hd1 : d1 < d) (hst : Nat.ble (st.map fun v => v.category).sum 8 = true)
    (hk : ∀ (v : Option Value) (S' : mj_S), Q v S' → mj_Ok Γ d M k n (pc + 3) lv (v.toList ++ st) S' P) : mj_Ok Γ d M (k + mc) (n + ms) pc lv (v2 :: v1 :: st) S P := mj_callS (As := [v1, v2]) hd hM hcw hw hd1 hst hk
theorem mz_callSN2 {idx : Nat} {v1 v2 : Value} (hd : decode M.cc pc = .ok (.invokestatic idx, 3)) (hM : mj_Met Γ d1 y M1 [v1, v2] S mc ms (mj_ret Q)) (hcw : mj_cw y M1 2) (hw : Cond.methodLinkNest M.own idx y "IsomerList" ∈ lw_tbl ∧ Cond.static y ∈ mj_tb)
    (hd1 : d1 < d) (hst : Nat.ble (st.map fun v => v.category).sum 8 = true)
    (hk : ∀ (v : Option Value) (S' : mj_S), Q v S' → mj_Ok Γ d M k n (pc + 3) lv (v.toList ++ st) S' P) : mj_Ok Γ d M (k + mc) (n + ms) pc lv (v2 :: v1 :: st) S P := mj_callSN (As := [v1, v2]) hd hM hcw hw hd1 hst hk
theorem mz_callV3 {idx a ci : Nat} {q : vw_C} {fs : List Value} {v1 v2 v3 : Value} (hd : decode M.cc pc = .ok (.invokevirtual idx, 3)) (hM : mj_Met Γ d1 y M1 (.ref a :: [v1, v2, v3]) S mc ms (mj_ret Q)) (hcw : mj_cw y M1 3) (hw : Cond.methodLink M.own idx y ∈ mj_tb ∧ Cond.instanceMethod y ∈ mj_tb ∧ Cond.selects y.cls y y ∈ mj_tb)
    (hq : mj_cl[ci]? = some q) (hqc : q.1 = y.cls) (ha : a < S.2.1) (he : S.1 a = .inr (ci, fs)) (hd1 : d1 < d) (hst : Nat.ble (st.map fun v => v.category).sum 8 = true)
    (hk : ∀ (v : Option Value) (S' : mj_S), Q v S' → mj_Ok Γ d M k n (pc + 3) lv (v.toList ++ st) S' P) : mj_Ok Γ d M (k + mc) (n + ms) pc lv (v3 :: v2 :: v1 :: .ref a :: st) S P := mj_callV (As := [v1, v2, v3]) hd hM hcw hw hq hqc ha he hd1 hst hk
theorem mz_callS3 {idx : Nat} {v1 v2 v3 : Value} (hd : decode M.cc pc = .ok (.invokestatic idx, 3)) (hM : mj_Met Γ d1 y M1 [v1, v2, v3] S mc ms (mj_ret Q)) (hcw : mj_cw y M1 3) (hw : Cond.methodLink M.own idx y ∈ mj_tb ∧ Cond.static y ∈ mj_tb)
    (hd1 : d1 < d) (hst : Nat.ble (st.map fun v => v.category).sum 8 = true)
    (hk : ∀ (v : Option Value) (S' : mj_S), Q v S' → mj_Ok Γ d M k n (pc + 3) lv (v.toList ++ st) S' P) : mj_Ok Γ d M (k + mc) (n + ms) pc lv (v3 :: v2 :: v1 :: st) S P := mj_callS (As := [v1, v2, v3]) hd hM hcw hw hd1 hst hk
theorem mz_callSN3 {idx : Nat} {v1 v2 v3 : Value} (hd : decode M.cc pc = .ok (.invokestatic idx, 3)) (hM : mj_Met Γ d1 y M1 [v1, v2, v3] S mc ms (mj_ret Q)) (hcw : mj_cw y M1 3) (hw : Cond.methodLinkNest M.own idx y "IsomerList" ∈ lw_tbl ∧ Cond.static y ∈ mj_tb)
    (hd1 : d1 < d) (hst : Nat.ble (st.map fun v => v.category).sum 8 = true)
    (hk : ∀ (v : Option Value) (S' : mj_S), Q v S' → mj_Ok Γ d M k n (pc + 3) lv (v.toList ++ st) S' P) : mj_Ok Γ d M (k + mc) (n + ms) pc lv (v3 :: v2 :: v1 :: st) S P := mj_callSN (As := [v1, v2, v3]) hd hM hcw hw hd1 hst hk
theorem mz_callV4 {idx a ci : Nat} {q : vw_C} {fs : List Value} {v1 v2 v3 v4 : Value} (hd : decode M.cc pc = .ok (.invokevirtual idx, 3)) (hM : mj_Met Γ d1 y M1 (.ref a :: [v1, v2, v3, v4]) S mc ms (mj_ret Q)) (hcw : mj_cw y M1 4) (hw : Cond.methodLink M.own idx y ∈ mj_tb ∧ Cond.instanceMethod y ∈ mj_tb ∧ Cond.selects y.cls y y ∈ mj_tb)
    (hq : mj_cl[ci]? = some q) (hqc : q.1 = y.cls) (ha : a < S.2.1) (he : S.1 a = .inr (ci, fs)) (hd1 : d1 < d) (hst : Nat.ble (st.map fun v => v.category).sum 8 = true)
    (hk : ∀ (v : Option Value) (S' : mj_S), Q v S' → mj_Ok Γ d M k n (pc + 3) lv (v.toList ++ st) S' P) : mj_Ok Γ d M (k + mc) (n + ms) pc lv (v4 :: v3 :: v2 :: v1 :: .ref a :: st) S P := mj_callV (As := [v1, v2, v3, v4]) hd hM hcw hw hq hqc ha he hd1 hst hk
theorem mz_callS4 {idx : Nat} {v1 v2 v3 v4 : Value} (hd : decode M.cc pc = .ok (.invokestatic idx, 3)) (hM : mj_Met Γ d1 y M1 [v1, v2, v3, v4] S mc ms (mj_ret Q)) (hcw : mj_cw y M1 4) (hw : Cond.methodLink M.own idx y ∈ mj_tb ∧ Cond.static y ∈ mj_tb)
    (hd1 : d1 < d) (hst : Nat.ble (st.map fun v => v.category).sum 8 = true)
    (hk : ∀ (v : Option Value) (S' : mj_S), Q v S' → mj_Ok Γ d M k n (pc + 3) lv (v.toList ++ st) S' P) : mj_Ok Γ d M (k + mc) (n + ms) pc lv (v4 :: v3 :: v2 :: v1 :: st) S P := mj_callS (As := [v1, v2, v3, v4]) hd hM hcw hw hd1 hst hk
theorem mz_callSN4 {idx : Nat} {v1 v2 v3 v4 : Value} (hd : decode M.cc pc = .ok (.invokestatic idx, 3)) (hM : mj_Met Γ d1 y M1 [v1, v2, v3, v4] S mc ms (mj_ret Q)) (hcw : mj_cw y M1 4) (hw : Cond.methodLinkNest M.own idx y "IsomerList" ∈ lw_tbl ∧ Cond.static y ∈ mj_tb)
    (hd1 : d1 < d) (hst : Nat.ble (st.map fun v => v.category).sum 8 = true)
    (hk : ∀ (v : Option Value) (S' : mj_S), Q v S' → mj_Ok Γ d M k n (pc + 3) lv (v.toList ++ st) S' P) : mj_Ok Γ d M (k + mc) (n + ms) pc lv (v4 :: v3 :: v2 :: v1 :: st) S P := mj_callSN (As := [v1, v2, v3, v4]) hd hM hcw hw hd1 hst hk
theorem mz_callI0 {idx a : Nat} (hd : decode M.cc pc = .ok (.invokespecial idx, 3)) (hM : mj_Met Γ d1 y M1 (.ref a :: []) S mc ms (mj_ret Q)) (hcw : mj_cw y M1 0) (hw : Cond.methodLink M.own idx y ∈ mj_tb ∧ Cond.instanceMethod y ∈ mj_tb ∧ y.name = "<init>") (hrn : M1.ret = none)
    (hd1 : d1 < d) (hst : Nat.ble (st.map fun v => v.category).sum 8 = true)
    (hk : ∀ (v : Option Value) (S' : mj_S), Q v S' → mj_Ok Γ d M k n (pc + 3) lv (v.toList ++ st) S' P) : mj_Ok Γ d M (k + mc) (n + ms) pc lv (.ref a :: st) S P := mj_callI (As := []) hd hM hcw hw hrn hd1 hst hk
theorem mz_callIN0 {idx a : Nat} (hd : decode M.cc pc = .ok (.invokespecial idx, 3)) (hM : mj_Met Γ d1 y M1 (.ref a :: []) S mc ms (mj_ret Q)) (hcw : mj_cw y M1 0) (hw : Cond.methodLinkNest M.own idx y "IsomerList" ∈ lw_tbl ∧ Cond.instanceMethod y ∈ mj_tb ∧ y.name = "<init>") (hrn : M1.ret = none)
    (hd1 : d1 < d) (hst : Nat.ble (st.map fun v => v.category).sum 8 = true)
    (hk : ∀ (v : Option Value) (S' : mj_S), Q v S' → mj_Ok Γ d M k n (pc + 3) lv (v.toList ++ st) S' P) : mj_Ok Γ d M (k + mc) (n + ms) pc lv (.ref a :: st) S P := mj_callIN (As := []) hd hM hcw hw hrn hd1 hst hk
theorem mz_callI1 {idx a : Nat} {v1 : Value} (hd : decode M.cc pc = .ok (.invokespecial idx, 3)) (hM : mj_Met Γ d1 y M1 (.ref a :: [v1]) S mc ms (mj_ret Q)) (hcw : mj_cw y M1 1) (hw : Cond.methodLink M.own idx y ∈ mj_tb ∧ Cond.instanceMethod y ∈ mj_tb ∧ y.name = "<init>") (hrn : M1.ret = none)
    (hd1 : d1 < d) (hst : Nat.ble (st.map fun v => v.category).sum 8 = true)
    (hk : ∀ (v : Option Value) (S' : mj_S), Q v S' → mj_Ok Γ d M k n (pc + 3) lv (v.toList ++ st) S' P) : mj_Ok Γ d M (k + mc) (n + ms) pc lv (v1 :: .ref a :: st) S P := mj_callI (As := [v1]) hd hM hcw hw hrn hd1 hst hk
theorem mz_callIN1 {idx a : Nat} {v1 : Value} (hd : decode M.cc pc = .ok (.invokespecial idx, 3)) (hM : mj_Met Γ d1 y M1 (.ref a :: [v1]) S mc ms (mj_ret Q)) (hcw : mj_cw y M1 1) (hw : Cond.methodLinkNest M.own idx y "IsomerList" ∈ lw_tbl ∧ Cond.instanceMethod y ∈ mj_tb ∧ y.name = "<init>") (hrn : M1.ret = none)
    (hd1 : d1 < d) (hst : Nat.ble (st.map fun v => v.category).sum 8 = true)
    (hk : ∀ (v : Option Value) (S' : mj_S), Q v S' → mj_Ok Γ d M k n (pc + 3) lv (v.toList ++ st) S' P) : mj_Ok Γ d M (k + mc) (n + ms) pc lv (v1 :: .ref a :: st) S P := mj_callIN (As := [v1]) hd hM hcw hw hrn hd1 hst hk
end MJ8
end
section
/-! names of the methods: code, own class, locals, what it returns, name (by names.py) -/
abbrev M_IL_init : mj_M := (prog_1_method_1_code, "IsomerList", 1, none, "<init>")
abbrev y_IL_init : MethodName := ⟨"IsomerList", "<init>", "()V"⟩
abbrev M_Ln_init : mj_M := (prog_4_method_1_code, "IsomerList$Line", 1, none, "<init>")
abbrev y_Ln_init : MethodName := ⟨"IsomerList$Line", "<init>", "()V"⟩
abbrev M_Fr_init : mj_M := (prog_3_method_1_code, "IsomerList$FormulaReader", 1, none, "<init>")
abbrev y_Fr_init : MethodName := ⟨"IsomerList$FormulaReader", "<init>", "()V"⟩
abbrev M_Tr_init : mj_M := (prog_8_method_1_code, "IsomerList$TextReader", 1, none, "<init>")
abbrev y_Tr_init : MethodName := ⟨"IsomerList$TextReader", "<init>", "()V"⟩
abbrev M_Ml_init : mj_M := (prog_6_method_1_code, "IsomerList$Molecule", 1, none, "<init>")
abbrev y_Ml_init : MethodName := ⟨"IsomerList$Molecule", "<init>", "()V"⟩
abbrev M_Tw_init : mj_M := (prog_9_method_1_code, "IsomerList$TextWriter", 1, none, "<init>")
abbrev y_Tw_init : MethodName := ⟨"IsomerList$TextWriter", "<init>", "()V"⟩
abbrev M_Nu_init : mj_M := (prog_7_method_1_code, "IsomerList$Numbering", 1, none, "<init>")
abbrev y_Nu_init : MethodName := ⟨"IsomerList$Numbering", "<init>", "()V"⟩
abbrev M_Ls_init : mj_M := (prog_5_method_1_code, "IsomerList$Lister", 2, none, "<init>")
abbrev y_Ls_init : MethodName := ⟨"IsomerList$Lister", "<init>", "(LIsomerList$Numbering;)V"⟩
abbrev M_Ca_init : mj_M := (prog_2_method_1_code, "IsomerList$Catalogue", 1, none, "<init>")
abbrev y_Ca_init : MethodName := ⟨"IsomerList$Catalogue", "<init>", "()V"⟩
abbrev M_IL_erase : mj_M := (prog_1_method_3_code, "IsomerList", 2, (some .int), "erase")
abbrev y_IL_erase : MethodName := ⟨"IsomerList", "erase", "()I"⟩
abbrev M_Ln_clear : mj_M := (prog_4_method_2_code, "IsomerList$Line", 1, none, "clear")
abbrev y_Ln_clear : MethodName := ⟨"IsomerList$Line", "clear", "()V"⟩
abbrev M_IL_formula : mj_M := (prog_1_method_4_code, "IsomerList", 2, (some .int), "formula")
abbrev y_IL_formula : MethodName := ⟨"IsomerList", "formula", "()I"⟩
abbrev M_Fr_readFrom : mj_M := (prog_3_method_2_code, "IsomerList$FormulaReader", 4, (some .int), "readFrom")
abbrev y_Fr_readFrom : MethodName := ⟨"IsomerList$FormulaReader", "readFrom", "(LIsomerList$Line;)I"⟩
abbrev M_Ar_fill : mj_M := (prog_18_method_103_code, "java/util/Arrays", 4, none, "fill")
abbrev y_Ar_fill : MethodName := ⟨"java/util/Arrays", "fill", "([II)V"⟩
abbrev M_Fr_readElement : mj_M := (prog_3_method_3_code, "IsomerList$FormulaReader", 5, (some .int), "readElement")
abbrev y_Fr_readElement : MethodName := ⟨"IsomerList$FormulaReader", "readElement", "(LIsomerList$Line;)I"⟩
abbrev M_Ln_elementAt : mj_M := (prog_4_method_5_code, "IsomerList$Line", 4, (some .int), "elementAt")
abbrev y_Ln_elementAt : MethodName := ⟨"IsomerList$Line", "elementAt", "(I)I"⟩
abbrev M_Ln_at : mj_M := (prog_4_method_4_code, "IsomerList$Line", 2, (some .char), "at")
abbrev y_Ln_at : MethodName := ⟨"IsomerList$Line", "at", "(I)C"⟩
abbrev M_IL_signLength : mj_M := (prog_1_method_19_code, "IsomerList", 1, (some .int), "signLength")
abbrev y_IL_signLength : MethodName := ⟨"IsomerList", "signLength", "(I)I"⟩
abbrev M_Fr_digitsAhead : mj_M := (prog_3_method_4_code, "IsomerList$FormulaReader", 3, (some .int), "digitsAhead")
abbrev y_Fr_digitsAhead : MethodName := ⟨"IsomerList$FormulaReader", "digitsAhead", "(LIsomerList$Line;)I"⟩
abbrev M_IL_isDigit : mj_M := (prog_1_method_18_code, "IsomerList", 1, (some .boolean), "isDigit")
abbrev y_IL_isDigit : MethodName := ⟨"IsomerList", "isDigit", "(C)Z"⟩
abbrev M_Fr_numberAhead : mj_M := (prog_3_method_5_code, "IsomerList$FormulaReader", 4, (some .int), "numberAhead")
abbrev y_Fr_numberAhead : MethodName := ⟨"IsomerList$FormulaReader", "numberAhead", "(LIsomerList$Line;I)I"⟩
abbrev M_Fr_heavyAtoms : mj_M := (prog_3_method_6_code, "IsomerList$FormulaReader", 3, (some .int), "heavyAtoms")
abbrev y_Fr_heavyAtoms : MethodName := ⟨"IsomerList$FormulaReader", "heavyAtoms", "()I"⟩
abbrev M_Ca_take : mj_M := (prog_2_method_2_code, "IsomerList$Catalogue", 4, none, "take")
abbrev y_Ca_take : MethodName := ⟨"IsomerList$Catalogue", "take", "([I)V"⟩
abbrev M_IL_listSpare : mj_M := (prog_1_method_16_code, "IsomerList", 2, (some .int), "listSpare")
abbrev y_IL_listSpare : MethodName := ⟨"IsomerList", "listSpare", "()I"⟩
abbrev M_Ca_hasSameFormula : mj_M := (prog_2_method_5_code, "IsomerList$Catalogue", 3, (some .boolean), "hasSameFormula")
abbrev y_Ca_hasSameFormula : MethodName := ⟨"IsomerList$Catalogue", "hasSameFormula", "(LIsomerList$Catalogue;)Z"⟩
abbrev M_Ls_fill : mj_M := (prog_5_method_2_code, "IsomerList$Lister", 3, none, "fill")
abbrev y_Ls_fill : MethodName := ⟨"IsomerList$Lister", "fill", "(LIsomerList$Catalogue;)V"⟩
abbrev M_Ml_addAtomsOf : mj_M := (prog_6_method_4_code, "IsomerList$Molecule", 3, none, "addAtomsOf")
abbrev y_Ml_addAtomsOf : MethodName := ⟨"IsomerList$Molecule", "addAtomsOf", "(LIsomerList$Catalogue;)V"⟩
abbrev M_Ml_clear : mj_M := (prog_6_method_2_code, "IsomerList$Molecule", 1, none, "clear")
abbrev y_Ml_clear : MethodName := ⟨"IsomerList$Molecule", "clear", "()V"⟩
abbrev M_Ml_addAtom : mj_M := (prog_6_method_3_code, "IsomerList$Molecule", 2, none, "addAtom")
abbrev y_Ml_addAtom : MethodName := ⟨"IsomerList$Molecule", "addAtom", "(I)V"⟩
abbrev M_Ls_sumValences : mj_M := (prog_5_method_3_code, "IsomerList$Lister", 2, none, "sumValences")
abbrev y_Ls_sumValences : MethodName := ⟨"IsomerList$Lister", "sumValences", "()V"⟩
abbrev M_Ls_endRow : mj_M := (prog_5_method_5_code, "IsomerList$Lister", 5, none, "endRow")
abbrev y_Ls_endRow : MethodName := ⟨"IsomerList$Lister", "endRow", "(III)V"⟩
abbrev M_Ls_canBeEnded : mj_M := (prog_5_method_6_code, "IsomerList$Lister", 4, (some .boolean), "canBeEnded")
abbrev y_Ls_canBeEnded : MethodName := ⟨"IsomerList$Lister", "canBeEnded", "(II)Z"⟩
abbrev M_Ls_countGroups : mj_M := (prog_5_method_7_code, "IsomerList$Lister", 5, (some .int), "countGroups")
abbrev y_Ls_countGroups : MethodName := ⟨"IsomerList$Lister", "countGroups", "(I)I"⟩
abbrev M_Ml_between : mj_M := (prog_6_method_6_code, "IsomerList$Molecule", 3, (some .int), "between")
abbrev y_Ml_between : MethodName := ⟨"IsomerList$Molecule", "between", "(II)I"⟩
abbrev M_Ls_joinGroups : mj_M := (prog_5_method_8_code, "IsomerList$Lister", 5, none, "joinGroups")
abbrev y_Ls_joinGroups : MethodName := ⟨"IsomerList$Lister", "joinGroups", "(III)V"⟩
abbrev M_Nu_isGreatest : mj_M := (prog_7_method_3_code, "IsomerList$Numbering", 4, (some .boolean), "isGreatest")
abbrev y_Nu_isGreatest : MethodName := ⟨"IsomerList$Numbering", "isGreatest", "(LIsomerList$Molecule;II)Z"⟩
abbrev M_Nu_canBeBeaten : mj_M := (prog_7_method_6_code, "IsomerList$Numbering", 6, (some .boolean), "canBeBeaten")
abbrev y_Nu_canBeBeaten : MethodName := ⟨"IsomerList$Numbering", "canBeBeaten", "(II)Z"⟩
abbrev M_IL_rowShift : mj_M := (prog_1_method_21_code, "IsomerList", 1, (some .int), "rowShift")
abbrev y_IL_rowShift : MethodName := ⟨"IsomerList", "rowShift", "(I)I"⟩
abbrev M_Nu_row : mj_M := (prog_7_method_8_code, "IsomerList$Numbering", 5, (some .int), "row")
abbrev y_Nu_row : MethodName := ⟨"IsomerList$Numbering", "row", "(II)I"⟩
abbrev M_Nu_canBeBeatenWith : mj_M := (prog_7_method_7_code, "IsomerList$Numbering", 5, (some .boolean), "canBeBeatenWith")
abbrev y_Nu_canBeBeatenWith : MethodName := ⟨"IsomerList$Numbering", "canBeBeatenWith", "(III)Z"⟩
abbrev M_Ca_add : mj_M := (prog_2_method_3_code, "IsomerList$Catalogue", 2, none, "add")
abbrev y_Ca_add : MethodName := ⟨"IsomerList$Catalogue", "add", "(I)V"⟩
abbrev M_Ls_bindOn : mj_M := (prog_5_method_4_code, "IsomerList$Lister", 8, none, "bindOn")
abbrev y_Ls_bindOn : MethodName := ⟨"IsomerList$Lister", "bindOn", "(IIII)V"⟩
abbrev M_Ma_min : mj_M := (prog_15_method_69_code, "java/lang/Math", 2, (some .int), "min")
abbrev y_Ma_min : MethodName := ⟨"java/lang/Math", "min", "(II)I"⟩
abbrev M_Ca_isOverfull : mj_M := (prog_2_method_4_code, "IsomerList$Catalogue", 1, (some .boolean), "isOverfull")
abbrev y_Ca_isOverfull : MethodName := ⟨"IsomerList$Catalogue", "isOverfull", "()Z"⟩
abbrev M_Ml_bind : mj_M := (prog_6_method_7_code, "IsomerList$Molecule", 5, none, "bind")
abbrev y_Ml_bind : MethodName := ⟨"IsomerList$Molecule", "bind", "(III)V"⟩
abbrev M_IL_read : mj_M := (prog_1_method_5_code, "IsomerList", 2, (some .int), "read")
abbrev y_IL_read : MethodName := ⟨"IsomerList", "read", "()I"⟩
abbrev M_Tr_readFrom : mj_M := (prog_8_method_2_code, "IsomerList$TextReader", 4, (some .int), "readFrom")
abbrev y_Tr_readFrom : MethodName := ⟨"IsomerList$TextReader", "readFrom", "(LIsomerList$Line;)I"⟩
abbrev M_Tr_readAtom : mj_M := (prog_8_method_7_code, "IsomerList$TextReader", 5, (some .int), "readAtom")
abbrev y_Tr_readAtom : MethodName := ⟨"IsomerList$TextReader", "readAtom", "(LIsomerList$Line;I)I"⟩
abbrev M_Ma_max : mj_M := (prog_15_method_65_code, "java/lang/Math", 2, (some .int), "max")
abbrev y_Ma_max : MethodName := ⟨"java/lang/Math", "max", "(II)I"⟩
abbrev M_Tr_readPart : mj_M := (prog_8_method_3_code, "IsomerList$TextReader", 5, (some .int), "readPart")
abbrev y_Tr_readPart : MethodName := ⟨"IsomerList$TextReader", "readPart", "(LIsomerList$Line;)I"⟩
abbrev M_Tr_closeBranch : mj_M := (prog_8_method_5_code, "IsomerList$TextReader", 1, (some .int), "closeBranch")
abbrev y_Tr_closeBranch : MethodName := ⟨"IsomerList$TextReader", "closeBranch", "()I"⟩
abbrev M_Tr_openBranch : mj_M := (prog_8_method_4_code, "IsomerList$TextReader", 3, (some .int), "openBranch")
abbrev y_Tr_openBranch : MethodName := ⟨"IsomerList$TextReader", "openBranch", "(LIsomerList$Line;)I"⟩
abbrev M_Tr_readBond : mj_M := (prog_8_method_6_code, "IsomerList$TextReader", 4, (some .int), "readBond")
abbrev y_Tr_readBond : MethodName := ⟨"IsomerList$TextReader", "readBond", "(LIsomerList$Line;)I"⟩
abbrev M_Tr_readRing : mj_M := (prog_8_method_8_code, "IsomerList$TextReader", 6, (some .int), "readRing")
abbrev y_Tr_readRing : MethodName := ⟨"IsomerList$TextReader", "readRing", "(II)I"⟩
abbrev M_Tr_faultAtEnd : mj_M := (prog_8_method_9_code, "IsomerList$TextReader", 2, (some .int), "faultAtEnd")
abbrev y_Tr_faultAtEnd : MethodName := ⟨"IsomerList$TextReader", "faultAtEnd", "()I"⟩
abbrev M_Ml_isOverbound : mj_M := (prog_6_method_9_code, "IsomerList$Molecule", 2, (some .boolean), "isOverbound")
abbrev y_Ml_isOverbound : MethodName := ⟨"IsomerList$Molecule", "isOverbound", "()Z"⟩
abbrev M_IL_findInList : mj_M := (prog_1_method_17_code, "IsomerList", 2, (some .int), "findInList")
abbrev y_IL_findInList : MethodName := ⟨"IsomerList", "findInList", "(LIsomerList$Molecule;)I"⟩
abbrev M_Ca_hasFormulaOf : mj_M := (prog_2_method_6_code, "IsomerList$Catalogue", 4, (some .boolean), "hasFormulaOf")
abbrev y_Ca_hasFormulaOf : MethodName := ⟨"IsomerList$Catalogue", "hasFormulaOf", "(LIsomerList$Molecule;)Z"⟩
abbrev M_Ml_freeSum : mj_M := (prog_6_method_8_code, "IsomerList$Molecule", 3, (some .int), "freeSum")
abbrev y_Ml_freeSum : MethodName := ⟨"IsomerList$Molecule", "freeSum", "()I"⟩
abbrev M_IL_occurrences : mj_M := (prog_1_method_20_code, "IsomerList", 5, (some .int), "occurrences")
abbrev y_IL_occurrences : MethodName := ⟨"IsomerList", "occurrences", "(I[II)I"⟩
abbrev M_Nu_search : mj_M := (prog_7_method_2_code, "IsomerList$Numbering", 4, none, "search")
abbrev y_Nu_search : MethodName := ⟨"IsomerList$Numbering", "search", "(LIsomerList$Molecule;[II)V"⟩
abbrev M_Nu_choose : mj_M := (prog_7_method_4_code, "IsomerList$Numbering", 6, none, "choose")
abbrev y_Nu_choose : MethodName := ⟨"IsomerList$Numbering", "choose", "(II)V"⟩
abbrev M_Nu_noteCode : mj_M := (prog_7_method_5_code, "IsomerList$Numbering", 2, none, "noteCode")
abbrev y_Nu_noteCode : MethodName := ⟨"IsomerList$Numbering", "noteCode", "(I)V"⟩
abbrev M_Ca_find : mj_M := (prog_2_method_7_code, "IsomerList$Catalogue", 3, (some .int), "find")
abbrev y_Ca_find : MethodName := ⟨"IsomerList$Catalogue", "find", "(I)I"⟩
abbrev M_IL_place : mj_M := (prog_1_method_6_code, "IsomerList", 1, (some .int), "place")
abbrev y_IL_place : MethodName := ⟨"IsomerList", "place", "()I"⟩
abbrev M_IL_count : mj_M := (prog_1_method_7_code, "IsomerList", 2, (some .int), "count")
abbrev y_IL_count : MethodName := ⟨"IsomerList", "count", "(I)I"⟩
abbrev M_IL_character : mj_M := (prog_1_method_13_code, "IsomerList", 2, (some .char), "character")
abbrev y_IL_character : MethodName := ⟨"IsomerList", "character", "(I)C"⟩
abbrev M_Lw_type : mj_M := (method_3_code, "IsomerListLaw", 4, (some .int), "type")
abbrev y_Lw_type : MethodName := ⟨"IsomerListLaw", "type", "(LIsomerList;C[J)I"⟩
abbrev M_IL_type : mj_M := (prog_1_method_2_code, "IsomerList", 2, (some .int), "type")
abbrev y_IL_type : MethodName := ⟨"IsomerList", "type", "(C)I"⟩
abbrev M_Ln_add : mj_M := (prog_4_method_3_code, "IsomerList$Line", 2, none, "add")
abbrev y_Ln_add : MethodName := ⟨"IsomerList$Line", "add", "(C)V"⟩
abbrev M_Lw_element : mj_M := (method_4_code, "IsomerListLaw", 4, (some .int), "element")
abbrev y_Lw_element : MethodName := ⟨"IsomerListLaw", "element", "(LIsomerList;I[J)I"⟩
abbrev M_IL_element : mj_M := (prog_1_method_8_code, "IsomerList", 2, (some .int), "element")
abbrev y_IL_element : MethodName := ⟨"IsomerList", "element", "(I)I"⟩
abbrev M_IL_checkAtom : mj_M := (prog_1_method_15_code, "IsomerList", 2, none, "checkAtom")
abbrev y_IL_checkAtom : MethodName := ⟨"IsomerList", "checkAtom", "(I)V"⟩
abbrev M_Lw_bond : mj_M := (method_5_code, "IsomerListLaw", 6, (some .int), "bond")
abbrev y_Lw_bond : MethodName := ⟨"IsomerListLaw", "bond", "(LIsomerList;III[J)I"⟩
abbrev M_IL_bond : mj_M := (prog_1_method_9_code, "IsomerList", 4, (some .int), "bond")
abbrev y_IL_bond : MethodName := ⟨"IsomerList", "bond", "(III)I"⟩
abbrev M_IL_checkStructure : mj_M := (prog_1_method_14_code, "IsomerList", 2, none, "checkStructure")
abbrev y_IL_checkStructure : MethodName := ⟨"IsomerList", "checkStructure", "(I)V"⟩
abbrev M_Ml_build : mj_M := (prog_6_method_5_code, "IsomerList$Molecule", 7, none, "build")
abbrev y_Ml_build : MethodName := ⟨"IsomerList$Molecule", "build", "(LIsomerList$Catalogue;I)V"⟩
abbrev M_Lw_hydrogens : mj_M := (method_6_code, "IsomerListLaw", 5, (some .int), "hydrogens")
abbrev y_Lw_hydrogens : MethodName := ⟨"IsomerListLaw", "hydrogens", "(LIsomerList;II[J)I"⟩
abbrev M_IL_hydrogens : mj_M := (prog_1_method_10_code, "IsomerList", 3, (some .int), "hydrogens")
abbrev y_IL_hydrogens : MethodName := ⟨"IsomerList", "hydrogens", "(II)I"⟩
abbrev M_Lw_ways : mj_M := (method_7_code, "IsomerListLaw", 4, (some .int), "ways")
abbrev y_Lw_ways : MethodName := ⟨"IsomerListLaw", "ways", "(LIsomerList;I[J)I"⟩
abbrev M_IL_ways : mj_M := (prog_1_method_11_code, "IsomerList", 2, (some .int), "ways")
abbrev y_IL_ways : MethodName := ⟨"IsomerList", "ways", "(I)I"⟩
abbrev M_Lw_write : mj_M := (method_8_code, "IsomerListLaw", 4, (some .int), "write")
abbrev y_Lw_write : MethodName := ⟨"IsomerListLaw", "write", "(LIsomerList;I[J)I"⟩
abbrev M_IL_write : mj_M := (prog_1_method_12_code, "IsomerList", 2, (some .int), "write")
abbrev y_IL_write : MethodName := ⟨"IsomerList", "write", "(I)I"⟩
abbrev M_Tw_writeTo : mj_M := (prog_9_method_2_code, "IsomerList$TextWriter", 3, none, "writeTo")
abbrev y_Tw_writeTo : MethodName := ⟨"IsomerList$TextWriter", "writeTo", "(LIsomerList$Line;LIsomerList$Molecule;)V"⟩
abbrev M_Tw_goThrough : mj_M := (prog_9_method_3_code, "IsomerList$TextWriter", 4, none, "goThrough")
abbrev y_Tw_goThrough : MethodName := ⟨"IsomerList$TextWriter", "goThrough", "(II)V"⟩
abbrev M_Tw_meetRing : mj_M := (prog_9_method_4_code, "IsomerList$TextWriter", 4, none, "meetRing")
abbrev y_Tw_meetRing : MethodName := ⟨"IsomerList$TextWriter", "meetRing", "(II)V"⟩
abbrev M_Tw_putAtom : mj_M := (prog_9_method_5_code, "IsomerList$TextWriter", 4, none, "putAtom")
abbrev y_Tw_putAtom : MethodName := ⟨"IsomerList$TextWriter", "putAtom", "(I)V"⟩
abbrev M_Ln_addElement : mj_M := (prog_4_method_6_code, "IsomerList$Line", 2, none, "addElement")
abbrev y_Ln_addElement : MethodName := ⟨"IsomerList$Line", "addElement", "(I)V"⟩
abbrev M_Tw_putRings : mj_M := (prog_9_method_7_code, "IsomerList$TextWriter", 3, none, "putRings")
abbrev y_Tw_putRings : MethodName := ⟨"IsomerList$TextWriter", "putRings", "(I)V"⟩
abbrev M_Ln_addBond : mj_M := (prog_4_method_7_code, "IsomerList$Line", 2, none, "addBond")
abbrev y_Ln_addBond : MethodName := ⟨"IsomerList$Line", "addBond", "(I)V"⟩
abbrev M_Tw_lastFurtherOn : mj_M := (prog_9_method_8_code, "IsomerList$TextWriter", 3, (some .int), "lastFurtherOn")
abbrev y_Tw_lastFurtherOn : MethodName := ⟨"IsomerList$TextWriter", "lastFurtherOn", "(I)I"⟩
abbrev M_Tw_putBound : mj_M := (prog_9_method_6_code, "IsomerList$TextWriter", 3, none, "putBound")
abbrev y_Tw_putBound : MethodName := ⟨"IsomerList$TextWriter", "putBound", "(II)V"⟩
abbrev M_Mo_init : mj_M := (prog_11_method_1_code, "IsomerListModel", 1, none, "<init>")
abbrev y_Mo_init : MethodName := ⟨"IsomerListModel", "<init>", "()V"⟩
abbrev M_Mo_thrown : mj_M := (prog_11_method_2_code, "IsomerListModel", 1, (some .int), "thrown")
abbrev y_Mo_thrown : MethodName := ⟨"IsomerListModel", "thrown", "()I"⟩
abbrev M_Mo_type : mj_M := (prog_11_method_6_code, "IsomerListModel", 2, (some .int), "type")
abbrev y_Mo_type : MethodName := ⟨"IsomerListModel", "type", "(C)I"⟩
abbrev M_Mo_refused : mj_M := (prog_11_method_3_code, "IsomerListModel", 2, (some .boolean), "refused")
abbrev y_Mo_refused : MethodName := ⟨"IsomerListModel", "refused", "(I)Z"⟩
abbrev M_Mo_erase : mj_M := (prog_11_method_7_code, "IsomerListModel", 2, (some .int), "erase")
abbrev y_Mo_erase : MethodName := ⟨"IsomerListModel", "erase", "()I"⟩
abbrev M_Mo_character : mj_M := (prog_11_method_9_code, "IsomerListModel", 2, (some .char), "character")
abbrev y_Mo_character : MethodName := ⟨"IsomerListModel", "character", "(I)C"⟩
abbrev M_Mo_formula : mj_M := (prog_11_method_14_code, "IsomerListModel", 6, (some .int), "formula")
abbrev y_Mo_formula : MethodName := ⟨"IsomerListModel", "formula", "()I"⟩
abbrev M_Mo_elementAt : mj_M := (prog_11_method_10_code, "IsomerListModel", 4, (some .int), "elementAt")
abbrev y_Mo_elementAt : MethodName := ⟨"IsomerListModel", "elementAt", "(I)I"⟩
abbrev M_Mo_at : mj_M := (prog_11_method_8_code, "IsomerListModel", 2, (some .char), "at")
abbrev y_Mo_at : MethodName := ⟨"IsomerListModel", "at", "(I)C"⟩
abbrev M_Mo_fault : mj_M := (prog_11_method_13_code, "IsomerListModel", 3, (some .int), "fault")
abbrev y_Mo_fault : MethodName := ⟨"IsomerListModel", "fault", "(II)I"⟩
abbrev M_Mo_signSize : mj_M := (prog_11_method_11_code, "IsomerListModel", 1, (some .int), "signSize")
abbrev y_Mo_signSize : MethodName := ⟨"IsomerListModel", "signSize", "(I)I"⟩
abbrev M_Mo_isDigit : mj_M := (prog_11_method_12_code, "IsomerListModel", 1, (some .boolean), "isDigit")
abbrev y_Mo_isDigit : MethodName := ⟨"IsomerListModel", "isDigit", "(C)Z"⟩
abbrev M_Mo_valence : mj_M := (prog_11_method_5_code, "IsomerListModel", 1, (some .int), "valence")
abbrev y_Mo_valence : MethodName := ⟨"IsomerListModel", "valence", "(I)I"⟩
abbrev M_Mo_search : mj_M := (prog_11_method_19_code, "IsomerListModel", 4, none, "search")
abbrev y_Mo_search : MethodName := ⟨"IsomerListModel", "search", "()V"⟩
abbrev M_Mo_keep : mj_M := (prog_11_method_20_code, "IsomerListModel", 3, none, "keep")
abbrev y_Mo_keep : MethodName := ⟨"IsomerListModel", "keep", "(I)V"⟩
abbrev M_Mo_isOne : mj_M := (prog_11_method_21_code, "IsomerListModel", 6, (some .boolean), "isOne")
abbrev y_Mo_isOne : MethodName := ⟨"IsomerListModel", "isOne", "(I)Z"⟩
abbrev M_Mo_upper : mj_M := (prog_11_method_15_code, "IsomerListModel", 2, (some .int), "upper")
abbrev y_Mo_upper : MethodName := ⟨"IsomerListModel", "upper", "(I)I"⟩
abbrev M_Mo_lower : mj_M := (prog_11_method_16_code, "IsomerListModel", 1, (some .int), "lower")
abbrev y_Mo_lower : MethodName := ⟨"IsomerListModel", "lower", "(I)I"⟩
abbrev M_Mo_change : mj_M := (prog_11_method_17_code, "IsomerListModel", 3, none, "change")
abbrev y_Mo_change : MethodName := ⟨"IsomerListModel", "change", "(II)V"⟩
abbrev M_Mo_least : mj_M := (prog_11_method_18_code, "IsomerListModel", 2, (some .int), "least")
abbrev y_Mo_least : MethodName := ⟨"IsomerListModel", "least", "(II)I"⟩
abbrev M_Mo_numberings : mj_M := (prog_11_method_22_code, "IsomerListModel", 6, (some .int), "numberings")
abbrev y_Mo_numberings : MethodName := ⟨"IsomerListModel", "numberings", "(I)I"⟩
abbrev M_Mo_row : mj_M := (prog_11_method_23_code, "IsomerListModel", 5, (some .int), "row")
abbrev y_Mo_row : MethodName := ⟨"IsomerListModel", "row", "(I)I"⟩
abbrev M_Mo_pair : mj_M := (prog_11_method_4_code, "IsomerListModel", 2, (some .int), "pair")
abbrev y_Mo_pair : MethodName := ⟨"IsomerListModel", "pair", "(II)I"⟩
abbrev M_Mo_read : mj_M := (prog_11_method_24_code, "IsomerListModel", 2, (some .int), "read")
abbrev y_Mo_read : MethodName := ⟨"IsomerListModel", "read", "()I"⟩
abbrev M_Mo_parse : mj_M := (prog_11_method_25_code, "IsomerListModel", 13, (some .int), "parse")
abbrev y_Mo_parse : MethodName := ⟨"IsomerListModel", "parse", "()I"⟩
abbrev M_Mo_atEnd : mj_M := (prog_11_method_26_code, "IsomerListModel", 2, (some .int), "atEnd")
abbrev y_Mo_atEnd : MethodName := ⟨"IsomerListModel", "atEnd", "()I"⟩
abbrev M_Mo_sumOf : mj_M := (prog_11_method_27_code, "IsomerListModel", 4, (some .int), "sumOf")
abbrev y_Mo_sumOf : MethodName := ⟨"IsomerListModel", "sumOf", "(I)I"⟩
abbrev M_Mo_numberInList : mj_M := (prog_11_method_28_code, "IsomerListModel", 6, (some .int), "numberInList")
abbrev y_Mo_numberInList : MethodName := ⟨"IsomerListModel", "numberInList", "()I"⟩
abbrev M_Mo_greatest : mj_M := (prog_11_method_29_code, "IsomerListModel", 4, (some .boolean), "greatest")
abbrev y_Mo_greatest : MethodName := ⟨"IsomerListModel", "greatest", "()Z"⟩
abbrev M_Mo_take : mj_M := (prog_11_method_30_code, "IsomerListModel", 6, none, "take")
abbrev y_Mo_take : MethodName := ⟨"IsomerListModel", "take", "()V"⟩
abbrev M_Mo_place : mj_M := (prog_11_method_31_code, "IsomerListModel", 1, (some .int), "place")
abbrev y_Mo_place : MethodName := ⟨"IsomerListModel", "place", "()I"⟩
abbrev M_Mo_count : mj_M := (prog_11_method_32_code, "IsomerListModel", 2, (some .int), "count")
abbrev y_Mo_count : MethodName := ⟨"IsomerListModel", "count", "(I)I"⟩
abbrev M_Mo_element : mj_M := (prog_11_method_35_code, "IsomerListModel", 2, (some .int), "element")
abbrev y_Mo_element : MethodName := ⟨"IsomerListModel", "element", "(I)I"⟩
abbrev M_Mo_isAtom : mj_M := (prog_11_method_33_code, "IsomerListModel", 2, (some .boolean), "isAtom")
abbrev y_Mo_isAtom : MethodName := ⟨"IsomerListModel", "isAtom", "(I)Z"⟩
abbrev M_Mo_bond : mj_M := (prog_11_method_37_code, "IsomerListModel", 4, (some .int), "bond")
abbrev y_Mo_bond : MethodName := ⟨"IsomerListModel", "bond", "(III)I"⟩
abbrev M_Mo_isStructure : mj_M := (prog_11_method_34_code, "IsomerListModel", 2, (some .boolean), "isStructure")
abbrev y_Mo_isStructure : MethodName := ⟨"IsomerListModel", "isStructure", "(I)Z"⟩
abbrev M_Mo_bondOf : mj_M := (prog_11_method_36_code, "IsomerListModel", 4, (some .int), "bondOf")
abbrev y_Mo_bondOf : MethodName := ⟨"IsomerListModel", "bondOf", "(III)I"⟩
abbrev M_Mo_hydrogens : mj_M := (prog_11_method_38_code, "IsomerListModel", 5, (some .int), "hydrogens")
abbrev y_Mo_hydrogens : MethodName := ⟨"IsomerListModel", "hydrogens", "(II)I"⟩
abbrev M_Mo_ways : mj_M := (prog_11_method_39_code, "IsomerListModel", 3, (some .int), "ways")
abbrev y_Mo_ways : MethodName := ⟨"IsomerListModel", "ways", "(I)I"⟩
abbrev M_Mo_write : mj_M := (prog_11_method_43_code, "IsomerListModel", 5, (some .int), "write")
abbrev y_Mo_write : MethodName := ⟨"IsomerListModel", "write", "(I)I"⟩
abbrev M_Mo_go : mj_M := (prog_11_method_46_code, "IsomerListModel", 5, none, "go")
abbrev y_Mo_go : MethodName := ⟨"IsomerListModel", "go", "(I)V"⟩
abbrev M_Mo_putAtom : mj_M := (prog_11_method_44_code, "IsomerListModel", 5, none, "putAtom")
abbrev y_Mo_putAtom : MethodName := ⟨"IsomerListModel", "putAtom", "(II)V"⟩
abbrev M_Mo_putSign : mj_M := (prog_11_method_42_code, "IsomerListModel", 2, none, "putSign")
abbrev y_Mo_putSign : MethodName := ⟨"IsomerListModel", "putSign", "(I)V"⟩
abbrev M_Mo_put : mj_M := (prog_11_method_40_code, "IsomerListModel", 2, none, "put")
abbrev y_Mo_put : MethodName := ⟨"IsomerListModel", "put", "(C)V"⟩
abbrev M_Mo_putBond : mj_M := (prog_11_method_41_code, "IsomerListModel", 2, none, "putBond")
abbrev y_Mo_putBond : MethodName := ⟨"IsomerListModel", "putBond", "(I)V"⟩
abbrev M_Mo_further : mj_M := (prog_11_method_45_code, "IsomerListModel", 4, (some .int), "further")
abbrev y_Mo_further : MethodName := ⟨"IsomerListModel", "further", "(II)I"⟩
abbrev M_Lw_law : mj_M := (code, "IsomerListLaw", 7, (some .boolean), "law")
abbrev y_Lw_law : MethodName := ⟨"IsomerListLaw", "law", "([I)Z"⟩
theorem ini_IL : Cond.initialized "IsomerList" ∈ mj_tb := mj_mem 59 (by decide +kernel) (by decide +kernel)
theorem ini_Ln : Cond.initialized "IsomerList$Line" ∈ mj_tb := mj_mem 60 (by decide +kernel) (by decide +kernel)
theorem ini_Fr : Cond.initialized "IsomerList$FormulaReader" ∈ mj_tb := mj_mem 61 (by decide +kernel) (by decide +kernel)
theorem ini_Tr : Cond.initialized "IsomerList$TextReader" ∈ mj_tb := mj_mem 62 (by decide +kernel) (by decide +kernel)
theorem ini_Ml : Cond.initialized "IsomerList$Molecule" ∈ mj_tb := mj_mem 63 (by decide +kernel) (by decide +kernel)
theorem ini_Tw : Cond.initialized "IsomerList$TextWriter" ∈ mj_tb := mj_mem 64 (by decide +kernel) (by decide +kernel)
theorem ini_Nu : Cond.initialized "IsomerList$Numbering" ∈ mj_tb := mj_mem 65 (by decide +kernel) (by decide +kernel)
theorem ini_Ls : Cond.initialized "IsomerList$Lister" ∈ mj_tb := mj_mem 66 (by decide +kernel) (by decide +kernel)
theorem ini_Ca : Cond.initialized "IsomerList$Catalogue" ∈ mj_tb := mj_mem 67 (by decide +kernel) (by decide +kernel)
theorem ini_Ar : Cond.initialized "java/util/Arrays" ∈ mj_tb := mj_mem 73 (by decide +kernel) (by decide +kernel)
theorem ini_Ma : Cond.initialized "java/lang/Math" ∈ mj_tb := mj_mem 74 (by decide +kernel) (by decide +kernel)
theorem ini_Mo : Cond.initialized "IsomerListModel" ∈ mj_tb := mj_mem 68 (by decide +kernel) (by decide +kernel)
theorem cw_IL_init : mj_cw y_IL_init M_IL_init 0 := ⟨mj_mem 80 (by decide +kernel) (by decide +kernel), ini_IL, by decide +kernel, by decide +kernel⟩
theorem cw_Ln_init : mj_cw y_Ln_init M_Ln_init 0 := ⟨mj_mem 88 (by decide +kernel) (by decide +kernel), ini_Ln, by decide +kernel, by decide +kernel⟩
theorem cw_Fr_init : mj_cw y_Fr_init M_Fr_init 0 := ⟨mj_mem 105 (by decide +kernel) (by decide +kernel), ini_Fr, by decide +kernel, by decide +kernel⟩
theorem cw_Tr_init : mj_cw y_Tr_init M_Tr_init 0 := ⟨mj_mem 121 (by decide +kernel) (by decide +kernel), ini_Tr, by decide +kernel, by decide +kernel⟩
theorem cw_Ml_init : mj_cw y_Ml_init M_Ml_init 0 := ⟨mj_mem 127 (by decide +kernel) (by decide +kernel), ini_Ml, by decide +kernel, by decide +kernel⟩
theorem cw_Tw_init : mj_cw y_Tw_init M_Tw_init 0 := ⟨mj_mem 184 (by decide +kernel) (by decide +kernel), ini_Tw, by decide +kernel, by decide +kernel⟩
theorem cw_Nu_init : mj_cw y_Nu_init M_Nu_init 0 := ⟨mj_mem 209 (by decide +kernel) (by decide +kernel), ini_Nu, by decide +kernel, by decide +kernel⟩
theorem cw_Ls_init : mj_cw y_Ls_init M_Ls_init 1 := ⟨mj_mem 240 (by decide +kernel) (by decide +kernel), ini_Ls, by decide +kernel, by decide +kernel⟩
theorem cw_Ca_init : mj_cw y_Ca_init M_Ca_init 0 := ⟨mj_mem 266 (by decide +kernel) (by decide +kernel), ini_Ca, by decide +kernel, by decide +kernel⟩
theorem cw_IL_erase : mj_cw y_IL_erase M_IL_erase 0 := ⟨mj_mem 327 (by decide +kernel) (by decide +kernel), ini_IL, by decide +kernel, by decide +kernel⟩
theorem cw_Ln_clear : mj_cw y_Ln_clear M_Ln_clear 0 := ⟨mj_mem 331 (by decide +kernel) (by decide +kernel), ini_Ln, by decide +kernel, by decide +kernel⟩
theorem cw_IL_formula : mj_cw y_IL_formula M_IL_formula 0 := ⟨mj_mem 335 (by decide +kernel) (by decide +kernel), ini_IL, by decide +kernel, by decide +kernel⟩
theorem cw_Fr_readFrom : mj_cw y_Fr_readFrom M_Fr_readFrom 1 := ⟨mj_mem 339 (by decide +kernel) (by decide +kernel), ini_Fr, by decide +kernel, by decide +kernel⟩
theorem cw_Ar_fill : mj_cw y_Ar_fill M_Ar_fill 2 := ⟨mj_mem 342 (by decide +kernel) (by decide +kernel), ini_Ar, by decide +kernel, by decide +kernel⟩
theorem cw_Fr_readElement : mj_cw y_Fr_readElement M_Fr_readElement 1 := ⟨mj_mem 346 (by decide +kernel) (by decide +kernel), ini_Fr, by decide +kernel, by decide +kernel⟩
theorem cw_Ln_elementAt : mj_cw y_Ln_elementAt M_Ln_elementAt 1 := ⟨mj_mem 350 (by decide +kernel) (by decide +kernel), ini_Ln, by decide +kernel, by decide +kernel⟩
theorem cw_Ln_at : mj_cw y_Ln_at M_Ln_at 1 := ⟨mj_mem 356 (by decide +kernel) (by decide +kernel), ini_Ln, by decide +kernel, by decide +kernel⟩
theorem cw_IL_signLength : mj_cw y_IL_signLength M_IL_signLength 1 := ⟨mj_mem 361 (by decide +kernel) (by decide +kernel), ini_IL, by decide +kernel, by decide +kernel⟩
theorem cw_Fr_digitsAhead : mj_cw y_Fr_digitsAhead M_Fr_digitsAhead 1 := ⟨mj_mem 366 (by decide +kernel) (by decide +kernel), ini_Fr, by decide +kernel, by decide +kernel⟩
theorem cw_IL_isDigit : mj_cw y_IL_isDigit M_IL_isDigit 1 := ⟨mj_mem 370 (by decide +kernel) (by decide +kernel), ini_IL, by decide +kernel, by decide +kernel⟩
theorem cw_Fr_numberAhead : mj_cw y_Fr_numberAhead M_Fr_numberAhead 2 := ⟨mj_mem 374 (by decide +kernel) (by decide +kernel), ini_Fr, by decide +kernel, by decide +kernel⟩
theorem cw_Fr_heavyAtoms : mj_cw y_Fr_heavyAtoms M_Fr_heavyAtoms 0 := ⟨mj_mem 378 (by decide +kernel) (by decide +kernel), ini_Fr, by decide +kernel, by decide +kernel⟩
theorem cw_Ca_take : mj_cw y_Ca_take M_Ca_take 1 := ⟨mj_mem 382 (by decide +kernel) (by decide +kernel), ini_Ca, by decide +kernel, by decide +kernel⟩
theorem cw_IL_listSpare : mj_cw y_IL_listSpare M_IL_listSpare 0 := ⟨mj_mem 386 (by decide +kernel) (by decide +kernel), ini_IL, by decide +kernel, by decide +kernel⟩
theorem cw_Ca_hasSameFormula : mj_cw y_Ca_hasSameFormula M_Ca_hasSameFormula 1 := ⟨mj_mem 390 (by decide +kernel) (by decide +kernel), ini_Ca, by decide +kernel, by decide +kernel⟩
theorem cw_Ls_fill : mj_cw y_Ls_fill M_Ls_fill 1 := ⟨mj_mem 394 (by decide +kernel) (by decide +kernel), ini_Ls, by decide +kernel, by decide +kernel⟩
theorem cw_Ml_addAtomsOf : mj_cw y_Ml_addAtomsOf M_Ml_addAtomsOf 1 := ⟨mj_mem 398 (by decide +kernel) (by decide +kernel), ini_Ml, by decide +kernel, by decide +kernel⟩
theorem cw_Ml_clear : mj_cw y_Ml_clear M_Ml_clear 0 := ⟨mj_mem 402 (by decide +kernel) (by decide +kernel), ini_Ml, by decide +kernel, by decide +kernel⟩
theorem cw_Ml_addAtom : mj_cw y_Ml_addAtom M_Ml_addAtom 1 := ⟨mj_mem 407 (by decide +kernel) (by decide +kernel), ini_Ml, by decide +kernel, by decide +kernel⟩
theorem cw_Ls_sumValences : mj_cw y_Ls_sumValences M_Ls_sumValences 0 := ⟨mj_mem 413 (by decide +kernel) (by decide +kernel), ini_Ls, by decide +kernel, by decide +kernel⟩
theorem cw_Ls_endRow : mj_cw y_Ls_endRow M_Ls_endRow 3 := ⟨mj_mem 417 (by decide +kernel) (by decide +kernel), ini_Ls, by decide +kernel, by decide +kernel⟩
theorem cw_Ls_canBeEnded : mj_cw y_Ls_canBeEnded M_Ls_canBeEnded 2 := ⟨mj_mem 421 (by decide +kernel) (by decide +kernel), ini_Ls, by decide +kernel, by decide +kernel⟩
theorem cw_Ls_countGroups : mj_cw y_Ls_countGroups M_Ls_countGroups 1 := ⟨mj_mem 425 (by decide +kernel) (by decide +kernel), ini_Ls, by decide +kernel, by decide +kernel⟩
theorem cw_Ml_between : mj_cw y_Ml_between M_Ml_between 2 := ⟨mj_mem 429 (by decide +kernel) (by decide +kernel), ini_Ml, by decide +kernel, by decide +kernel⟩
theorem cw_Ls_joinGroups : mj_cw y_Ls_joinGroups M_Ls_joinGroups 3 := ⟨mj_mem 433 (by decide +kernel) (by decide +kernel), ini_Ls, by decide +kernel, by decide +kernel⟩
theorem cw_Nu_isGreatest : mj_cw y_Nu_isGreatest M_Nu_isGreatest 3 := ⟨mj_mem 437 (by decide +kernel) (by decide +kernel), ini_Nu, by decide +kernel, by decide +kernel⟩
theorem cw_Nu_canBeBeaten : mj_cw y_Nu_canBeBeaten M_Nu_canBeBeaten 2 := ⟨mj_mem 441 (by decide +kernel) (by decide +kernel), ini_Nu, by decide +kernel, by decide +kernel⟩
theorem cw_IL_rowShift : mj_cw y_IL_rowShift M_IL_rowShift 1 := ⟨mj_mem 444 (by decide +kernel) (by decide +kernel), ini_IL, by decide +kernel, by decide +kernel⟩
theorem cw_Nu_row : mj_cw y_Nu_row M_Nu_row 2 := ⟨mj_mem 448 (by decide +kernel) (by decide +kernel), ini_Nu, by decide +kernel, by decide +kernel⟩
theorem cw_Nu_canBeBeatenWith : mj_cw y_Nu_canBeBeatenWith M_Nu_canBeBeatenWith 3 := ⟨mj_mem 452 (by decide +kernel) (by decide +kernel), ini_Nu, by decide +kernel, by decide +kernel⟩
theorem cw_Ca_add : mj_cw y_Ca_add M_Ca_add 1 := ⟨mj_mem 456 (by decide +kernel) (by decide +kernel), ini_Ca, by decide +kernel, by decide +kernel⟩
theorem cw_Ls_bindOn : mj_cw y_Ls_bindOn M_Ls_bindOn 4 := ⟨mj_mem 460 (by decide +kernel) (by decide +kernel), ini_Ls, by decide +kernel, by decide +kernel⟩
theorem cw_Ma_min : mj_cw y_Ma_min M_Ma_min 2 := ⟨mj_mem 464 (by decide +kernel) (by decide +kernel), ini_Ma, by decide +kernel, by decide +kernel⟩
theorem cw_Ca_isOverfull : mj_cw y_Ca_isOverfull M_Ca_isOverfull 0 := ⟨mj_mem 468 (by decide +kernel) (by decide +kernel), ini_Ca, by decide +kernel, by decide +kernel⟩
theorem cw_Ml_bind : mj_cw y_Ml_bind M_Ml_bind 3 := ⟨mj_mem 472 (by decide +kernel) (by decide +kernel), ini_Ml, by decide +kernel, by decide +kernel⟩
theorem cw_IL_read : mj_cw y_IL_read M_IL_read 0 := ⟨mj_mem 478 (by decide +kernel) (by decide +kernel), ini_IL, by decide +kernel, by decide +kernel⟩
theorem cw_Tr_readFrom : mj_cw y_Tr_readFrom M_Tr_readFrom 1 := ⟨mj_mem 482 (by decide +kernel) (by decide +kernel), ini_Tr, by decide +kernel, by decide +kernel⟩
theorem cw_Tr_readAtom : mj_cw y_Tr_readAtom M_Tr_readAtom 2 := ⟨mj_mem 488 (by decide +kernel) (by decide +kernel), ini_Tr, by decide +kernel, by decide +kernel⟩
theorem cw_Ma_max : mj_cw y_Ma_max M_Ma_max 2 := ⟨mj_mem 493 (by decide +kernel) (by decide +kernel), ini_Ma, by decide +kernel, by decide +kernel⟩
theorem cw_Tr_readPart : mj_cw y_Tr_readPart M_Tr_readPart 1 := ⟨mj_mem 499 (by decide +kernel) (by decide +kernel), ini_Tr, by decide +kernel, by decide +kernel⟩
theorem cw_Tr_closeBranch : mj_cw y_Tr_closeBranch M_Tr_closeBranch 0 := ⟨mj_mem 504 (by decide +kernel) (by decide +kernel), ini_Tr, by decide +kernel, by decide +kernel⟩
theorem cw_Tr_openBranch : mj_cw y_Tr_openBranch M_Tr_openBranch 1 := ⟨mj_mem 508 (by decide +kernel) (by decide +kernel), ini_Tr, by decide +kernel, by decide +kernel⟩
theorem cw_Tr_readBond : mj_cw y_Tr_readBond M_Tr_readBond 1 := ⟨mj_mem 512 (by decide +kernel) (by decide +kernel), ini_Tr, by decide +kernel, by decide +kernel⟩
theorem cw_Tr_readRing : mj_cw y_Tr_readRing M_Tr_readRing 2 := ⟨mj_mem 517 (by decide +kernel) (by decide +kernel), ini_Tr, by decide +kernel, by decide +kernel⟩
theorem cw_Tr_faultAtEnd : mj_cw y_Tr_faultAtEnd M_Tr_faultAtEnd 0 := ⟨mj_mem 522 (by decide +kernel) (by decide +kernel), ini_Tr, by decide +kernel, by decide +kernel⟩
theorem cw_Ml_isOverbound : mj_cw y_Ml_isOverbound M_Ml_isOverbound 0 := ⟨mj_mem 526 (by decide +kernel) (by decide +kernel), ini_Ml, by decide +kernel, by decide +kernel⟩
theorem cw_IL_findInList : mj_cw y_IL_findInList M_IL_findInList 1 := ⟨mj_mem 530 (by decide +kernel) (by decide +kernel), ini_IL, by decide +kernel, by decide +kernel⟩
theorem cw_Ca_hasFormulaOf : mj_cw y_Ca_hasFormulaOf M_Ca_hasFormulaOf 1 := ⟨mj_mem 534 (by decide +kernel) (by decide +kernel), ini_Ca, by decide +kernel, by decide +kernel⟩
theorem cw_Ml_freeSum : mj_cw y_Ml_freeSum M_Ml_freeSum 0 := ⟨mj_mem 538 (by decide +kernel) (by decide +kernel), ini_Ml, by decide +kernel, by decide +kernel⟩
theorem cw_IL_occurrences : mj_cw y_IL_occurrences M_IL_occurrences 3 := ⟨mj_mem 541 (by decide +kernel) (by decide +kernel), ini_IL, by decide +kernel, by decide +kernel⟩
theorem cw_Nu_search : mj_cw y_Nu_search M_Nu_search 3 := ⟨mj_mem 545 (by decide +kernel) (by decide +kernel), ini_Nu, by decide +kernel, by decide +kernel⟩
theorem cw_Nu_choose : mj_cw y_Nu_choose M_Nu_choose 2 := ⟨mj_mem 549 (by decide +kernel) (by decide +kernel), ini_Nu, by decide +kernel, by decide +kernel⟩
theorem cw_Nu_noteCode : mj_cw y_Nu_noteCode M_Nu_noteCode 1 := ⟨mj_mem 553 (by decide +kernel) (by decide +kernel), ini_Nu, by decide +kernel, by decide +kernel⟩
theorem cw_Ca_find : mj_cw y_Ca_find M_Ca_find 1 := ⟨mj_mem 557 (by decide +kernel) (by decide +kernel), ini_Ca, by decide +kernel, by decide +kernel⟩
theorem cw_IL_place : mj_cw y_IL_place M_IL_place 0 := ⟨mj_mem 561 (by decide +kernel) (by decide +kernel), ini_IL, by decide +kernel, by decide +kernel⟩
theorem cw_IL_count : mj_cw y_IL_count M_IL_count 1 := ⟨mj_mem 565 (by decide +kernel) (by decide +kernel), ini_IL, by decide +kernel, by decide +kernel⟩
theorem cw_IL_character : mj_cw y_IL_character M_IL_character 1 := ⟨mj_mem 569 (by decide +kernel) (by decide +kernel), ini_IL, by decide +kernel, by decide +kernel⟩
theorem cw_IL_type : mj_cw y_IL_type M_IL_type 1 := ⟨mj_mem 578 (by decide +kernel) (by decide +kernel), ini_IL, by decide +kernel, by decide +kernel⟩
theorem cw_Ln_add : mj_cw y_Ln_add M_Ln_add 1 := ⟨mj_mem 644 (by decide +kernel) (by decide +kernel), ini_Ln, by decide +kernel, by decide +kernel⟩
theorem cw_IL_element : mj_cw y_IL_element M_IL_element 1 := ⟨mj_mem 652 (by decide +kernel) (by decide +kernel), ini_IL, by decide +kernel, by decide +kernel⟩
theorem cw_IL_checkAtom : mj_cw y_IL_checkAtom M_IL_checkAtom 1 := ⟨mj_mem 656 (by decide +kernel) (by decide +kernel), ini_IL, by decide +kernel, by decide +kernel⟩
theorem cw_IL_bond : mj_cw y_IL_bond M_IL_bond 3 := ⟨mj_mem 678 (by decide +kernel) (by decide +kernel), ini_IL, by decide +kernel, by decide +kernel⟩
theorem cw_IL_checkStructure : mj_cw y_IL_checkStructure M_IL_checkStructure 1 := ⟨mj_mem 682 (by decide +kernel) (by decide +kernel), ini_IL, by decide +kernel, by decide +kernel⟩
theorem cw_Ml_build : mj_cw y_Ml_build M_Ml_build 2 := ⟨mj_mem 686 (by decide +kernel) (by decide +kernel), ini_Ml, by decide +kernel, by decide +kernel⟩
theorem cw_IL_hydrogens : mj_cw y_IL_hydrogens M_IL_hydrogens 2 := ⟨mj_mem 697 (by decide +kernel) (by decide +kernel), ini_IL, by decide +kernel, by decide +kernel⟩
theorem cw_IL_ways : mj_cw y_IL_ways M_IL_ways 1 := ⟨mj_mem 704 (by decide +kernel) (by decide +kernel), ini_IL, by decide +kernel, by decide +kernel⟩
theorem cw_IL_write : mj_cw y_IL_write M_IL_write 1 := ⟨mj_mem 711 (by decide +kernel) (by decide +kernel), ini_IL, by decide +kernel, by decide +kernel⟩
theorem cw_Tw_writeTo : mj_cw y_Tw_writeTo M_Tw_writeTo 2 := ⟨mj_mem 715 (by decide +kernel) (by decide +kernel), ini_Tw, by decide +kernel, by decide +kernel⟩
theorem cw_Tw_goThrough : mj_cw y_Tw_goThrough M_Tw_goThrough 2 := ⟨mj_mem 720 (by decide +kernel) (by decide +kernel), ini_Tw, by decide +kernel, by decide +kernel⟩
theorem cw_Tw_meetRing : mj_cw y_Tw_meetRing M_Tw_meetRing 2 := ⟨mj_mem 725 (by decide +kernel) (by decide +kernel), ini_Tw, by decide +kernel, by decide +kernel⟩
theorem cw_Tw_putAtom : mj_cw y_Tw_putAtom M_Tw_putAtom 1 := ⟨mj_mem 730 (by decide +kernel) (by decide +kernel), ini_Tw, by decide +kernel, by decide +kernel⟩
theorem cw_Ln_addElement : mj_cw y_Ln_addElement M_Ln_addElement 1 := ⟨mj_mem 734 (by decide +kernel) (by decide +kernel), ini_Ln, by decide +kernel, by decide +kernel⟩
theorem cw_Tw_putRings : mj_cw y_Tw_putRings M_Tw_putRings 1 := ⟨mj_mem 739 (by decide +kernel) (by decide +kernel), ini_Tw, by decide +kernel, by decide +kernel⟩
theorem cw_Ln_addBond : mj_cw y_Ln_addBond M_Ln_addBond 1 := ⟨mj_mem 743 (by decide +kernel) (by decide +kernel), ini_Ln, by decide +kernel, by decide +kernel⟩
theorem cw_Tw_lastFurtherOn : mj_cw y_Tw_lastFurtherOn M_Tw_lastFurtherOn 1 := ⟨mj_mem 748 (by decide +kernel) (by decide +kernel), ini_Tw, by decide +kernel, by decide +kernel⟩
theorem cw_Tw_putBound : mj_cw y_Tw_putBound M_Tw_putBound 2 := ⟨mj_mem 752 (by decide +kernel) (by decide +kernel), ini_Tw, by decide +kernel, by decide +kernel⟩
theorem cw_Mo_init : mj_cw y_Mo_init M_Mo_init 0 := ⟨mj_mem 757 (by decide +kernel) (by decide +kernel), ini_Mo, by decide +kernel, by decide +kernel⟩
theorem cw_Mo_thrown : mj_cw y_Mo_thrown M_Mo_thrown 0 := ⟨mj_mem 862 (by decide +kernel) (by decide +kernel), ini_Mo, by decide +kernel, by decide +kernel⟩
theorem cw_Mo_type : mj_cw y_Mo_type M_Mo_type 1 := ⟨mj_mem 866 (by decide +kernel) (by decide +kernel), ini_Mo, by decide +kernel, by decide +kernel⟩
theorem cw_Mo_refused : mj_cw y_Mo_refused M_Mo_refused 1 := ⟨mj_mem 870 (by decide +kernel) (by decide +kernel), ini_Mo, by decide +kernel, by decide +kernel⟩
theorem cw_Mo_erase : mj_cw y_Mo_erase M_Mo_erase 0 := ⟨mj_mem 874 (by decide +kernel) (by decide +kernel), ini_Mo, by decide +kernel, by decide +kernel⟩
theorem cw_Mo_character : mj_cw y_Mo_character M_Mo_character 1 := ⟨mj_mem 878 (by decide +kernel) (by decide +kernel), ini_Mo, by decide +kernel, by decide +kernel⟩
theorem cw_Mo_formula : mj_cw y_Mo_formula M_Mo_formula 0 := ⟨mj_mem 882 (by decide +kernel) (by decide +kernel), ini_Mo, by decide +kernel, by decide +kernel⟩
theorem cw_Mo_elementAt : mj_cw y_Mo_elementAt M_Mo_elementAt 1 := ⟨mj_mem 886 (by decide +kernel) (by decide +kernel), ini_Mo, by decide +kernel, by decide +kernel⟩
theorem cw_Mo_at : mj_cw y_Mo_at M_Mo_at 1 := ⟨mj_mem 890 (by decide +kernel) (by decide +kernel), ini_Mo, by decide +kernel, by decide +kernel⟩
theorem cw_Mo_fault : mj_cw y_Mo_fault M_Mo_fault 2 := ⟨mj_mem 894 (by decide +kernel) (by decide +kernel), ini_Mo, by decide +kernel, by decide +kernel⟩
theorem cw_Mo_signSize : mj_cw y_Mo_signSize M_Mo_signSize 1 := ⟨mj_mem 897 (by decide +kernel) (by decide +kernel), ini_Mo, by decide +kernel, by decide +kernel⟩
theorem cw_Mo_isDigit : mj_cw y_Mo_isDigit M_Mo_isDigit 1 := ⟨mj_mem 900 (by decide +kernel) (by decide +kernel), ini_Mo, by decide +kernel, by decide +kernel⟩
theorem cw_Mo_valence : mj_cw y_Mo_valence M_Mo_valence 1 := ⟨mj_mem 903 (by decide +kernel) (by decide +kernel), ini_Mo, by decide +kernel, by decide +kernel⟩
theorem cw_Mo_search : mj_cw y_Mo_search M_Mo_search 0 := ⟨mj_mem 907 (by decide +kernel) (by decide +kernel), ini_Mo, by decide +kernel, by decide +kernel⟩
theorem cw_Mo_keep : mj_cw y_Mo_keep M_Mo_keep 1 := ⟨mj_mem 911 (by decide +kernel) (by decide +kernel), ini_Mo, by decide +kernel, by decide +kernel⟩
theorem cw_Mo_isOne : mj_cw y_Mo_isOne M_Mo_isOne 1 := ⟨mj_mem 915 (by decide +kernel) (by decide +kernel), ini_Mo, by decide +kernel, by decide +kernel⟩
theorem cw_Mo_upper : mj_cw y_Mo_upper M_Mo_upper 1 := ⟨mj_mem 918 (by decide +kernel) (by decide +kernel), ini_Mo, by decide +kernel, by decide +kernel⟩
theorem cw_Mo_lower : mj_cw y_Mo_lower M_Mo_lower 1 := ⟨mj_mem 921 (by decide +kernel) (by decide +kernel), ini_Mo, by decide +kernel, by decide +kernel⟩
theorem cw_Mo_change : mj_cw y_Mo_change M_Mo_change 2 := ⟨mj_mem 925 (by decide +kernel) (by decide +kernel), ini_Mo, by decide +kernel, by decide +kernel⟩
theorem cw_Mo_least : mj_cw y_Mo_least M_Mo_least 2 := ⟨mj_mem 928 (by decide +kernel) (by decide +kernel), ini_Mo, by decide +kernel, by decide +kernel⟩
theorem cw_Mo_numberings : mj_cw y_Mo_numberings M_Mo_numberings 1 := ⟨mj_mem 932 (by decide +kernel) (by decide +kernel), ini_Mo, by decide +kernel, by decide +kernel⟩
theorem cw_Mo_row : mj_cw y_Mo_row M_Mo_row 1 := ⟨mj_mem 936 (by decide +kernel) (by decide +kernel), ini_Mo, by decide +kernel, by decide +kernel⟩
theorem cw_Mo_pair : mj_cw y_Mo_pair M_Mo_pair 2 := ⟨mj_mem 939 (by decide +kernel) (by decide +kernel), ini_Mo, by decide +kernel, by decide +kernel⟩
theorem cw_Mo_read : mj_cw y_Mo_read M_Mo_read 0 := ⟨mj_mem 943 (by decide +kernel) (by decide +kernel), ini_Mo, by decide +kernel, by decide +kernel⟩
theorem cw_Mo_parse : mj_cw y_Mo_parse M_Mo_parse 0 := ⟨mj_mem 947 (by decide +kernel) (by decide +kernel), ini_Mo, by decide +kernel, by decide +kernel⟩
theorem cw_Mo_atEnd : mj_cw y_Mo_atEnd M_Mo_atEnd 0 := ⟨mj_mem 951 (by decide +kernel) (by decide +kernel), ini_Mo, by decide +kernel, by decide +kernel⟩
theorem cw_Mo_sumOf : mj_cw y_Mo_sumOf M_Mo_sumOf 1 := ⟨mj_mem 955 (by decide +kernel) (by decide +kernel), ini_Mo, by decide +kernel, by decide +kernel⟩
theorem cw_Mo_numberInList : mj_cw y_Mo_numberInList M_Mo_numberInList 0 := ⟨mj_mem 959 (by decide +kernel) (by decide +kernel), ini_Mo, by decide +kernel, by decide +kernel⟩
theorem cw_Mo_greatest : mj_cw y_Mo_greatest M_Mo_greatest 0 := ⟨mj_mem 963 (by decide +kernel) (by decide +kernel), ini_Mo, by decide +kernel, by decide +kernel⟩
theorem cw_Mo_take : mj_cw y_Mo_take M_Mo_take 0 := ⟨mj_mem 967 (by decide +kernel) (by decide +kernel), ini_Mo, by decide +kernel, by decide +kernel⟩
theorem cw_Mo_place : mj_cw y_Mo_place M_Mo_place 0 := ⟨mj_mem 971 (by decide +kernel) (by decide +kernel), ini_Mo, by decide +kernel, by decide +kernel⟩
theorem cw_Mo_count : mj_cw y_Mo_count M_Mo_count 1 := ⟨mj_mem 975 (by decide +kernel) (by decide +kernel), ini_Mo, by decide +kernel, by decide +kernel⟩
theorem cw_Mo_element : mj_cw y_Mo_element M_Mo_element 1 := ⟨mj_mem 979 (by decide +kernel) (by decide +kernel), ini_Mo, by decide +kernel, by decide +kernel⟩
theorem cw_Mo_isAtom : mj_cw y_Mo_isAtom M_Mo_isAtom 1 := ⟨mj_mem 983 (by decide +kernel) (by decide +kernel), ini_Mo, by decide +kernel, by decide +kernel⟩
theorem cw_Mo_bond : mj_cw y_Mo_bond M_Mo_bond 3 := ⟨mj_mem 987 (by decide +kernel) (by decide +kernel), ini_Mo, by decide +kernel, by decide +kernel⟩
theorem cw_Mo_isStructure : mj_cw y_Mo_isStructure M_Mo_isStructure 1 := ⟨mj_mem 991 (by decide +kernel) (by decide +kernel), ini_Mo, by decide +kernel, by decide +kernel⟩
theorem cw_Mo_bondOf : mj_cw y_Mo_bondOf M_Mo_bondOf 3 := ⟨mj_mem 995 (by decide +kernel) (by decide +kernel), ini_Mo, by decide +kernel, by decide +kernel⟩
theorem cw_Mo_hydrogens : mj_cw y_Mo_hydrogens M_Mo_hydrogens 2 := ⟨mj_mem 999 (by decide +kernel) (by decide +kernel), ini_Mo, by decide +kernel, by decide +kernel⟩
theorem cw_Mo_ways : mj_cw y_Mo_ways M_Mo_ways 1 := ⟨mj_mem 1003 (by decide +kernel) (by decide +kernel), ini_Mo, by decide +kernel, by decide +kernel⟩
theorem cw_Mo_write : mj_cw y_Mo_write M_Mo_write 1 := ⟨mj_mem 1007 (by decide +kernel) (by decide +kernel), ini_Mo, by decide +kernel, by decide +kernel⟩
theorem cw_Mo_go : mj_cw y_Mo_go M_Mo_go 1 := ⟨mj_mem 1011 (by decide +kernel) (by decide +kernel), ini_Mo, by decide +kernel, by decide +kernel⟩
theorem cw_Mo_putAtom : mj_cw y_Mo_putAtom M_Mo_putAtom 2 := ⟨mj_mem 1015 (by decide +kernel) (by decide +kernel), ini_Mo, by decide +kernel, by decide +kernel⟩
theorem cw_Mo_putSign : mj_cw y_Mo_putSign M_Mo_putSign 1 := ⟨mj_mem 1019 (by decide +kernel) (by decide +kernel), ini_Mo, by decide +kernel, by decide +kernel⟩
theorem cw_Mo_put : mj_cw y_Mo_put M_Mo_put 1 := ⟨mj_mem 1023 (by decide +kernel) (by decide +kernel), ini_Mo, by decide +kernel, by decide +kernel⟩
theorem cw_Mo_putBond : mj_cw y_Mo_putBond M_Mo_putBond 1 := ⟨mj_mem 1027 (by decide +kernel) (by decide +kernel), ini_Mo, by decide +kernel, by decide +kernel⟩
theorem cw_Mo_further : mj_cw y_Mo_further M_Mo_further 2 := ⟨mj_mem 1031 (by decide +kernel) (by decide +kernel), ini_Mo, by decide +kernel, by decide +kernel⟩
theorem w_Ln_9 : mj_fw "IsomerList$Line" 9 "IsomerList$Line" "characters" "[C" := Or.inl (mj_mem 90 (by decide +kernel) (by decide +kernel))
theorem wl_Ln_9 : Cond.fieldLink "IsomerList$Line" 9 "IsomerList$Line" "characters" "[C" ∈ mj_tb := mj_mem 90 (by decide +kernel) (by decide +kernel)
theorem w_Ln_15 : mj_fw "IsomerList$Line" 15 "IsomerList$Line" "length" "I" := Or.inl (mj_mem 91 (by decide +kernel) (by decide +kernel))
theorem wl_Ln_15 : Cond.fieldLink "IsomerList$Line" 15 "IsomerList$Line" "length" "I" ∈ mj_tb := mj_mem 91 (by decide +kernel) (by decide +kernel)
theorem w_Fr_9 : mj_fw "IsomerList$FormulaReader" 9 "IsomerList$FormulaReader" "counts" "[I" := Or.inl (mj_mem 107 (by decide +kernel) (by decide +kernel))
theorem wl_Fr_9 : Cond.fieldLink "IsomerList$FormulaReader" 9 "IsomerList$FormulaReader" "counts" "[I" ∈ mj_tb := mj_mem 107 (by decide +kernel) (by decide +kernel)
theorem w_Fr_21 : mj_fw "IsomerList$FormulaReader" 21 "IsomerList$FormulaReader" "at" "I" := Or.inl (mj_mem 109 (by decide +kernel) (by decide +kernel))
theorem wl_Fr_21 : Cond.fieldLink "IsomerList$FormulaReader" 21 "IsomerList$FormulaReader" "at" "I" ∈ mj_tb := mj_mem 109 (by decide +kernel) (by decide +kernel)
theorem w_Ml_9 : mj_fw "IsomerList$Molecule" 9 "IsomerList$Molecule" "kinds" "[I" := Or.inl (mj_mem 129 (by decide +kernel) (by decide +kernel))
theorem wl_Ml_9 : Cond.fieldLink "IsomerList$Molecule" 9 "IsomerList$Molecule" "kinds" "[I" ∈ mj_tb := mj_mem 129 (by decide +kernel) (by decide +kernel)
theorem w_Ml_15 : mj_fw "IsomerList$Molecule" 15 "IsomerList$Molecule" "free" "[I" := Or.inl (mj_mem 133 (by decide +kernel) (by decide +kernel))
theorem wl_Ml_15 : Cond.fieldLink "IsomerList$Molecule" 15 "IsomerList$Molecule" "free" "[I" ∈ mj_tb := mj_mem 133 (by decide +kernel) (by decide +kernel)
theorem w_Ml_18 : mj_fw "IsomerList$Molecule" 18 "IsomerList$Molecule" "bonds" "[I" := Or.inl (mj_mem 136 (by decide +kernel) (by decide +kernel))
theorem wl_Ml_18 : Cond.fieldLink "IsomerList$Molecule" 18 "IsomerList$Molecule" "bonds" "[I" ∈ mj_tb := mj_mem 136 (by decide +kernel) (by decide +kernel)
theorem w_Ml_21 : mj_fw "IsomerList$Molecule" 21 "IsomerList$Molecule" "atoms" "I" := Or.inl (mj_mem 138 (by decide +kernel) (by decide +kernel))
theorem wl_Ml_21 : Cond.fieldLink "IsomerList$Molecule" 21 "IsomerList$Molecule" "atoms" "I" ∈ mj_tb := mj_mem 138 (by decide +kernel) (by decide +kernel)
theorem w_Tr_12 : mj_fw "IsomerList$TextReader" 12 "IsomerList$TextReader" "molecule" "LIsomerList$Molecule;" := Or.inl (mj_mem 153 (by decide +kernel) (by decide +kernel))
theorem wl_Tr_12 : Cond.fieldLink "IsomerList$TextReader" 12 "IsomerList$TextReader" "molecule" "LIsomerList$Molecule;" ∈ mj_tb := mj_mem 153 (by decide +kernel) (by decide +kernel)
theorem w_Tr_18 : mj_fw "IsomerList$TextReader" 18 "IsomerList$TextReader" "ringAtoms" "[I" := Or.inl (mj_mem 155 (by decide +kernel) (by decide +kernel))
theorem wl_Tr_18 : Cond.fieldLink "IsomerList$TextReader" 18 "IsomerList$TextReader" "ringAtoms" "[I" ∈ mj_tb := mj_mem 155 (by decide +kernel) (by decide +kernel)
theorem w_Tr_22 : mj_fw "IsomerList$TextReader" 22 "IsomerList$TextReader" "ringBonds" "[I" := Or.inl (mj_mem 156 (by decide +kernel) (by decide +kernel))
theorem wl_Tr_22 : Cond.fieldLink "IsomerList$TextReader" 22 "IsomerList$TextReader" "ringBonds" "[I" ∈ mj_tb := mj_mem 156 (by decide +kernel) (by decide +kernel)
theorem w_Tr_25 : mj_fw "IsomerList$TextReader" 25 "IsomerList$TextReader" "branchAtoms" "[I" := Or.inl (mj_mem 157 (by decide +kernel) (by decide +kernel))
theorem wl_Tr_25 : Cond.fieldLink "IsomerList$TextReader" 25 "IsomerList$TextReader" "branchAtoms" "[I" ∈ mj_tb := mj_mem 157 (by decide +kernel) (by decide +kernel)
theorem w_Tr_37 : mj_fw "IsomerList$TextReader" 37 "IsomerList$TextReader" "branches" "I" := Or.inl (mj_mem 158 (by decide +kernel) (by decide +kernel))
theorem wl_Tr_37 : Cond.fieldLink "IsomerList$TextReader" 37 "IsomerList$TextReader" "branches" "I" ∈ mj_tb := mj_mem 158 (by decide +kernel) (by decide +kernel)
theorem w_Tr_41 : mj_fw "IsomerList$TextReader" 41 "IsomerList$TextReader" "last" "I" := Or.inl (mj_mem 159 (by decide +kernel) (by decide +kernel))
theorem wl_Tr_41 : Cond.fieldLink "IsomerList$TextReader" 41 "IsomerList$TextReader" "last" "I" ∈ mj_tb := mj_mem 159 (by decide +kernel) (by decide +kernel)
theorem w_Tr_76 : mj_fw "IsomerList$TextReader" 76 "IsomerList$TextReader" "ringsMayFollow" "Z" := Or.inl (mj_mem 160 (by decide +kernel) (by decide +kernel))
theorem wl_Tr_76 : Cond.fieldLink "IsomerList$TextReader" 76 "IsomerList$TextReader" "ringsMayFollow" "Z" ∈ mj_tb := mj_mem 160 (by decide +kernel) (by decide +kernel)
theorem w_Tr_44 : mj_fw "IsomerList$TextReader" 44 "IsomerList$TextReader" "at" "I" := Or.inl (mj_mem 161 (by decide +kernel) (by decide +kernel))
theorem wl_Tr_44 : Cond.fieldLink "IsomerList$TextReader" 44 "IsomerList$TextReader" "at" "I" ∈ mj_tb := mj_mem 161 (by decide +kernel) (by decide +kernel)
theorem w_Tw_9 : mj_fw "IsomerList$TextWriter" 9 "IsomerList$TextWriter" "cameFrom" "[I" := Or.inl (mj_mem 186 (by decide +kernel) (by decide +kernel))
theorem wl_Tw_9 : Cond.fieldLink "IsomerList$TextWriter" 9 "IsomerList$TextWriter" "cameFrom" "[I" ∈ mj_tb := mj_mem 186 (by decide +kernel) (by decide +kernel)
theorem w_Tw_15 : mj_fw "IsomerList$TextWriter" 15 "IsomerList$TextWriter" "ringStarts" "[I" := Or.inl (mj_mem 187 (by decide +kernel) (by decide +kernel))
theorem wl_Tw_15 : Cond.fieldLink "IsomerList$TextWriter" 15 "IsomerList$TextWriter" "ringStarts" "[I" ∈ mj_tb := mj_mem 187 (by decide +kernel) (by decide +kernel)
theorem w_Tw_18 : mj_fw "IsomerList$TextWriter" 18 "IsomerList$TextWriter" "ringEnds" "[I" := Or.inl (mj_mem 188 (by decide +kernel) (by decide +kernel))
theorem wl_Tw_18 : Cond.fieldLink "IsomerList$TextWriter" 18 "IsomerList$TextWriter" "ringEnds" "[I" ∈ mj_tb := mj_mem 188 (by decide +kernel) (by decide +kernel)
theorem w_Tw_29 : mj_fw "IsomerList$TextWriter" 29 "IsomerList$TextWriter" "rings" "I" := Or.inl (mj_mem 189 (by decide +kernel) (by decide +kernel))
theorem wl_Tw_29 : Cond.fieldLink "IsomerList$TextWriter" 29 "IsomerList$TextWriter" "rings" "I" ∈ mj_tb := mj_mem 189 (by decide +kernel) (by decide +kernel)
theorem w_Tw_25 : mj_fw "IsomerList$TextWriter" 25 "IsomerList$TextWriter" "molecule" "LIsomerList$Molecule;" := Or.inl (mj_mem 190 (by decide +kernel) (by decide +kernel))
theorem wl_Tw_25 : Cond.fieldLink "IsomerList$TextWriter" 25 "IsomerList$TextWriter" "molecule" "LIsomerList$Molecule;" ∈ mj_tb := mj_mem 190 (by decide +kernel) (by decide +kernel)
theorem w_Tw_21 : mj_fw "IsomerList$TextWriter" 21 "IsomerList$TextWriter" "line" "LIsomerList$Line;" := Or.inl (mj_mem 191 (by decide +kernel) (by decide +kernel))
theorem wl_Tw_21 : Cond.fieldLink "IsomerList$TextWriter" 21 "IsomerList$TextWriter" "line" "LIsomerList$Line;" ∈ mj_tb := mj_mem 191 (by decide +kernel) (by decide +kernel)
theorem w_Nu_9 : mj_fw "IsomerList$Numbering" 9 "IsomerList$Numbering" "chosen" "[I" := Or.inl (mj_mem 211 (by decide +kernel) (by decide +kernel))
theorem wl_Nu_9 : Cond.fieldLink "IsomerList$Numbering" 9 "IsomerList$Numbering" "chosen" "[I" ∈ mj_tb := mj_mem 211 (by decide +kernel) (by decide +kernel)
theorem w_Nu_15 : mj_fw "IsomerList$Numbering" 15 "IsomerList$Numbering" "taken" "[Z" := Or.inl (mj_mem 212 (by decide +kernel) (by decide +kernel))
theorem wl_Nu_15 : Cond.fieldLink "IsomerList$Numbering" 15 "IsomerList$Numbering" "taken" "[Z" ∈ mj_tb := mj_mem 212 (by decide +kernel) (by decide +kernel)
theorem w_Nu_19 : mj_fw "IsomerList$Numbering" 19 "IsomerList$Numbering" "molecule" "LIsomerList$Molecule;" := Or.inl (mj_mem 213 (by decide +kernel) (by decide +kernel))
theorem wl_Nu_19 : Cond.fieldLink "IsomerList$Numbering" 19 "IsomerList$Numbering" "molecule" "LIsomerList$Molecule;" ∈ mj_tb := mj_mem 213 (by decide +kernel) (by decide +kernel)
theorem w_Nu_23 : mj_fw "IsomerList$Numbering" 23 "IsomerList$Numbering" "wanted" "[I" := Or.inl (mj_mem 214 (by decide +kernel) (by decide +kernel))
theorem wl_Nu_23 : Cond.fieldLink "IsomerList$Numbering" 23 "IsomerList$Numbering" "wanted" "[I" ∈ mj_tb := mj_mem 214 (by decide +kernel) (by decide +kernel)
theorem w_Nu_32 : mj_fw "IsomerList$Numbering" 32 "IsomerList$Numbering" "atoms" "I" := Or.inl (mj_mem 215 (by decide +kernel) (by decide +kernel))
theorem wl_Nu_32 : Cond.fieldLink "IsomerList$Numbering" 32 "IsomerList$Numbering" "atoms" "I" ∈ mj_tb := mj_mem 215 (by decide +kernel) (by decide +kernel)
theorem w_Nu_33 : mj_fw "IsomerList$Numbering" 33 "IsomerList$Numbering" "greatest" "I" := Or.inl (mj_mem 216 (by decide +kernel) (by decide +kernel))
theorem wl_Nu_33 : Cond.fieldLink "IsomerList$Numbering" 33 "IsomerList$Numbering" "greatest" "I" ∈ mj_tb := mj_mem 216 (by decide +kernel) (by decide +kernel)
theorem w_Nu_36 : mj_fw "IsomerList$Numbering" 36 "IsomerList$Numbering" "sharers" "I" := Or.inl (mj_mem 218 (by decide +kernel) (by decide +kernel))
theorem wl_Nu_36 : Cond.fieldLink "IsomerList$Numbering" 36 "IsomerList$Numbering" "sharers" "I" ∈ mj_tb := mj_mem 218 (by decide +kernel) (by decide +kernel)
theorem w_Ls_25 : mj_fw "IsomerList$Lister" 25 "IsomerList$Lister" "numbering" "LIsomerList$Numbering;" := Or.inl (mj_mem 244 (by decide +kernel) (by decide +kernel))
theorem wl_Ls_25 : Cond.fieldLink "IsomerList$Lister" 25 "IsomerList$Lister" "numbering" "LIsomerList$Numbering;" ∈ mj_tb := mj_mem 244 (by decide +kernel) (by decide +kernel)
theorem w_Ls_12 : mj_fw "IsomerList$Lister" 12 "IsomerList$Lister" "molecule" "LIsomerList$Molecule;" := Or.inl (mj_mem 245 (by decide +kernel) (by decide +kernel))
theorem wl_Ls_12 : Cond.fieldLink "IsomerList$Lister" 12 "IsomerList$Lister" "molecule" "LIsomerList$Molecule;" ∈ mj_tb := mj_mem 245 (by decide +kernel) (by decide +kernel)
theorem w_Ls_18 : mj_fw "IsomerList$Lister" 18 "IsomerList$Lister" "valencesFrom" "[I" := Or.inl (mj_mem 246 (by decide +kernel) (by decide +kernel))
theorem wl_Ls_18 : Cond.fieldLink "IsomerList$Lister" 18 "IsomerList$Lister" "valencesFrom" "[I" ∈ mj_tb := mj_mem 246 (by decide +kernel) (by decide +kernel)
theorem w_Ls_22 : mj_fw "IsomerList$Lister" 22 "IsomerList$Lister" "groups" "[I" := Or.inl (mj_mem 247 (by decide +kernel) (by decide +kernel))
theorem wl_Ls_22 : Cond.fieldLink "IsomerList$Lister" 22 "IsomerList$Lister" "groups" "[I" ∈ mj_tb := mj_mem 247 (by decide +kernel) (by decide +kernel)
theorem w_Ls_29 : mj_fw "IsomerList$Lister" 29 "IsomerList$Lister" "catalogue" "LIsomerList$Catalogue;" := Or.inl (mj_mem 248 (by decide +kernel) (by decide +kernel))
theorem wl_Ls_29 : Cond.fieldLink "IsomerList$Lister" 29 "IsomerList$Lister" "catalogue" "LIsomerList$Catalogue;" ∈ mj_tb := mj_mem 248 (by decide +kernel) (by decide +kernel)
theorem w_Ca_9 : mj_fw "IsomerList$Catalogue" 9 "IsomerList$Catalogue" "kinds" "[I" := Or.inl (mj_mem 268 (by decide +kernel) (by decide +kernel))
theorem wl_Ca_9 : Cond.fieldLink "IsomerList$Catalogue" 9 "IsomerList$Catalogue" "kinds" "[I" ∈ mj_tb := mj_mem 268 (by decide +kernel) (by decide +kernel)
theorem w_Ca_15 : mj_fw "IsomerList$Catalogue" 15 "IsomerList$Catalogue" "codes" "[I" := Or.inl (mj_mem 271 (by decide +kernel) (by decide +kernel))
theorem wl_Ca_15 : Cond.fieldLink "IsomerList$Catalogue" 15 "IsomerList$Catalogue" "codes" "[I" ∈ mj_tb := mj_mem 271 (by decide +kernel) (by decide +kernel)
theorem w_Ca_18 : mj_fw "IsomerList$Catalogue" 18 "IsomerList$Catalogue" "atoms" "I" := Or.inl (mj_mem 274 (by decide +kernel) (by decide +kernel))
theorem wl_Ca_18 : Cond.fieldLink "IsomerList$Catalogue" 18 "IsomerList$Catalogue" "atoms" "I" ∈ mj_tb := mj_mem 274 (by decide +kernel) (by decide +kernel)
theorem w_Ca_25 : mj_fw "IsomerList$Catalogue" 25 "IsomerList$Catalogue" "hydrogenSum" "I" := Or.inl (mj_mem 277 (by decide +kernel) (by decide +kernel))
theorem wl_Ca_25 : Cond.fieldLink "IsomerList$Catalogue" 25 "IsomerList$Catalogue" "hydrogenSum" "I" ∈ mj_tb := mj_mem 277 (by decide +kernel) (by decide +kernel)
theorem w_Ca_22 : mj_fw "IsomerList$Catalogue" 22 "IsomerList$Catalogue" "size" "I" := Or.inl (mj_mem 280 (by decide +kernel) (by decide +kernel))
theorem wl_Ca_22 : Cond.fieldLink "IsomerList$Catalogue" 22 "IsomerList$Catalogue" "size" "I" ∈ mj_tb := mj_mem 280 (by decide +kernel) (by decide +kernel)
theorem w_IL_10 : mj_fw "IsomerList" 10 "IsomerList" "line" "LIsomerList$Line;" := Or.inl (mj_mem 293 (by decide +kernel) (by decide +kernel))
theorem wl_IL_10 : Cond.fieldLink "IsomerList" 10 "IsomerList" "line" "LIsomerList$Line;" ∈ mj_tb := mj_mem 293 (by decide +kernel) (by decide +kernel)
theorem w_IL_19 : mj_fw "IsomerList" 19 "IsomerList" "formulaReader" "LIsomerList$FormulaReader;" := Or.inl (mj_mem 294 (by decide +kernel) (by decide +kernel))
theorem wl_IL_19 : Cond.fieldLink "IsomerList" 19 "IsomerList" "formulaReader" "LIsomerList$FormulaReader;" ∈ mj_tb := mj_mem 294 (by decide +kernel) (by decide +kernel)
theorem w_IL_26 : mj_fw "IsomerList" 26 "IsomerList" "textReader" "LIsomerList$TextReader;" := Or.inl (mj_mem 295 (by decide +kernel) (by decide +kernel))
theorem wl_IL_26 : Cond.fieldLink "IsomerList" 26 "IsomerList" "textReader" "LIsomerList$TextReader;" ∈ mj_tb := mj_mem 295 (by decide +kernel) (by decide +kernel)
theorem w_IL_33 : mj_fw "IsomerList" 33 "IsomerList" "textWriter" "LIsomerList$TextWriter;" := Or.inl (mj_mem 296 (by decide +kernel) (by decide +kernel))
theorem wl_IL_33 : Cond.fieldLink "IsomerList" 33 "IsomerList" "textWriter" "LIsomerList$TextWriter;" ∈ mj_tb := mj_mem 296 (by decide +kernel) (by decide +kernel)
theorem w_IL_40 : mj_fw "IsomerList" 40 "IsomerList" "numbering" "LIsomerList$Numbering;" := Or.inl (mj_mem 297 (by decide +kernel) (by decide +kernel))
theorem wl_IL_40 : Cond.fieldLink "IsomerList" 40 "IsomerList" "numbering" "LIsomerList$Numbering;" ∈ mj_tb := mj_mem 297 (by decide +kernel) (by decide +kernel)
theorem w_IL_49 : mj_fw "IsomerList" 49 "IsomerList" "lister" "LIsomerList$Lister;" := Or.inl (mj_mem 298 (by decide +kernel) (by decide +kernel))
theorem wl_IL_49 : Cond.fieldLink "IsomerList" 49 "IsomerList" "lister" "LIsomerList$Lister;" ∈ mj_tb := mj_mem 298 (by decide +kernel) (by decide +kernel)
theorem w_IL_56 : mj_fw "IsomerList" 56 "IsomerList" "shown" "LIsomerList$Molecule;" := Or.inl (mj_mem 299 (by decide +kernel) (by decide +kernel))
theorem wl_IL_56 : Cond.fieldLink "IsomerList" 56 "IsomerList" "shown" "LIsomerList$Molecule;" ∈ mj_tb := mj_mem 299 (by decide +kernel) (by decide +kernel)
theorem w_IL_63 : mj_fw "IsomerList" 63 "IsomerList" "current" "LIsomerList$Catalogue;" := Or.inl (mj_mem 300 (by decide +kernel) (by decide +kernel))
theorem wl_IL_63 : Cond.fieldLink "IsomerList" 63 "IsomerList" "current" "LIsomerList$Catalogue;" ∈ mj_tb := mj_mem 300 (by decide +kernel) (by decide +kernel)
theorem w_IL_67 : mj_fw "IsomerList" 67 "IsomerList" "spare" "LIsomerList$Catalogue;" := Or.inl (mj_mem 301 (by decide +kernel) (by decide +kernel))
theorem wl_IL_67 : Cond.fieldLink "IsomerList" 67 "IsomerList" "spare" "LIsomerList$Catalogue;" ∈ mj_tb := mj_mem 301 (by decide +kernel) (by decide +kernel)
theorem w_IL_70 : mj_fw "IsomerList" 70 "IsomerList" "faultPlace" "I" := Or.inl (mj_mem 302 (by decide +kernel) (by decide +kernel))
theorem wl_IL_70 : Cond.fieldLink "IsomerList" 70 "IsomerList" "faultPlace" "I" ∈ mj_tb := mj_mem 302 (by decide +kernel) (by decide +kernel)
theorem w_IL_188 : mj_fw "IsomerList" 188 "IsomerList" "SECOND_LETTERS" "[C" := Or.inl (mj_mem 362 (by decide +kernel) (by decide +kernel))
theorem wl_IL_188 : Cond.fieldLink "IsomerList" 188 "IsomerList" "SECOND_LETTERS" "[C" ∈ mj_tb := mj_mem 362 (by decide +kernel) (by decide +kernel)
theorem w_Mo_85 : mj_fw "IsomerListModel" 85 "IsomerListModel" "refusal" "I" := Or.inl (mj_mem 759 (by decide +kernel) (by decide +kernel))
theorem wl_Mo_85 : Cond.fieldLink "IsomerListModel" 85 "IsomerListModel" "refusal" "I" ∈ mj_tb := mj_mem 759 (by decide +kernel) (by decide +kernel)
theorem w_Mo_88 : mj_fw "IsomerListModel" 88 "IsomerListModel" "size" "I" := Or.inl (mj_mem 760 (by decide +kernel) (by decide +kernel))
theorem wl_Mo_88 : Cond.fieldLink "IsomerListModel" 88 "IsomerListModel" "size" "I" ∈ mj_tb := mj_mem 760 (by decide +kernel) (by decide +kernel)
theorem w_Mo_7 : mj_fw "IsomerListModel" 7 "IsomerListModel" "line" "[C" := Or.inl (mj_mem 761 (by decide +kernel) (by decide +kernel))
theorem wl_Mo_7 : Cond.fieldLink "IsomerListModel" 7 "IsomerListModel" "line" "[C" ∈ mj_tb := mj_mem 761 (by decide +kernel) (by decide +kernel)
theorem w_Mo_13 : mj_fw "IsomerListModel" 13 "IsomerListModel" "wrong" "I" := Or.inl (mj_mem 762 (by decide +kernel) (by decide +kernel))
theorem wl_Mo_13 : Cond.fieldLink "IsomerListModel" 13 "IsomerListModel" "wrong" "I" ∈ mj_tb := mj_mem 762 (by decide +kernel) (by decide +kernel)
theorem w_Mo_129 : mj_fw "IsomerListModel" 129 "IsomerListModel" "atoms" "I" := Or.inl (mj_mem 763 (by decide +kernel) (by decide +kernel))
theorem wl_Mo_129 : Cond.fieldLink "IsomerListModel" 129 "IsomerListModel" "atoms" "I" ∈ mj_tb := mj_mem 763 (by decide +kernel) (by decide +kernel)
theorem w_Mo_132 : mj_fw "IsomerListModel" 132 "IsomerListModel" "hydrogenSum" "I" := Or.inl (mj_mem 764 (by decide +kernel) (by decide +kernel))
theorem wl_Mo_132 : Cond.fieldLink "IsomerListModel" 132 "IsomerListModel" "hydrogenSum" "I" ∈ mj_tb := mj_mem 764 (by decide +kernel) (by decide +kernel)
theorem w_Mo_17 : mj_fw "IsomerListModel" 17 "IsomerListModel" "elements" "[I" := Or.inl (mj_mem 765 (by decide +kernel) (by decide +kernel))
theorem wl_Mo_17 : Cond.fieldLink "IsomerListModel" 17 "IsomerListModel" "elements" "[I" ∈ mj_tb := mj_mem 765 (by decide +kernel) (by decide +kernel)
theorem w_Mo_135 : mj_fw "IsomerListModel" 135 "IsomerListModel" "structures" "I" := Or.inl (mj_mem 766 (by decide +kernel) (by decide +kernel))
theorem wl_Mo_135 : Cond.fieldLink "IsomerListModel" 135 "IsomerListModel" "structures" "I" ∈ mj_tb := mj_mem 766 (by decide +kernel) (by decide +kernel)
theorem w_Mo_21 : mj_fw "IsomerListModel" 21 "IsomerListModel" "list" "[I" := Or.inl (mj_mem 767 (by decide +kernel) (by decide +kernel))
theorem wl_Mo_21 : Cond.fieldLink "IsomerListModel" 21 "IsomerListModel" "list" "[I" ∈ mj_tb := mj_mem 767 (by decide +kernel) (by decide +kernel)
theorem w_Mo_117 : mj_fw "IsomerListModel" 117 "IsomerListModel" "tried" "I" := Or.inl (mj_mem 768 (by decide +kernel) (by decide +kernel))
theorem wl_Mo_117 : Cond.fieldLink "IsomerListModel" 117 "IsomerListModel" "tried" "I" ∈ mj_tb := mj_mem 768 (by decide +kernel) (by decide +kernel)
theorem w_Mo_24 : mj_fw "IsomerListModel" 24 "IsomerListModel" "kind" "[I" := Or.inl (mj_mem 769 (by decide +kernel) (by decide +kernel))
theorem wl_Mo_24 : Cond.fieldLink "IsomerListModel" 24 "IsomerListModel" "kind" "[I" ∈ mj_tb := mj_mem 769 (by decide +kernel) (by decide +kernel)
theorem w_Mo_27 : mj_fw "IsomerListModel" 27 "IsomerListModel" "code" "[I" := Or.inl (mj_mem 770 (by decide +kernel) (by decide +kernel))
theorem wl_Mo_27 : Cond.fieldLink "IsomerListModel" 27 "IsomerListModel" "code" "[I" ∈ mj_tb := mj_mem 770 (by decide +kernel) (by decide +kernel)
theorem w_Mo_30 : mj_fw "IsomerListModel" 30 "IsomerListModel" "free" "[I" := Or.inl (mj_mem 771 (by decide +kernel) (by decide +kernel))
theorem wl_Mo_30 : Cond.fieldLink "IsomerListModel" 30 "IsomerListModel" "free" "[I" ∈ mj_tb := mj_mem 771 (by decide +kernel) (by decide +kernel)
theorem w_Mo_123 : mj_fw "IsomerListModel" 123 "IsomerListModel" "rest" "I" := Or.inl (mj_mem 772 (by decide +kernel) (by decide +kernel))
theorem wl_Mo_123 : Cond.fieldLink "IsomerListModel" 123 "IsomerListModel" "rest" "I" ∈ mj_tb := mj_mem 772 (by decide +kernel) (by decide +kernel)
theorem w_Mo_33 : mj_fw "IsomerListModel" 33 "IsomerListModel" "next" "[I" := Or.inl (mj_mem 773 (by decide +kernel) (by decide +kernel))
theorem wl_Mo_33 : Cond.fieldLink "IsomerListModel" 33 "IsomerListModel" "next" "[I" ∈ mj_tb := mj_mem 773 (by decide +kernel) (by decide +kernel)
theorem w_Mo_120 : mj_fw "IsomerListModel" 120 "IsomerListModel" "found" "I" := Or.inl (mj_mem 774 (by decide +kernel) (by decide +kernel))
theorem wl_Mo_120 : Cond.fieldLink "IsomerListModel" 120 "IsomerListModel" "found" "I" ∈ mj_tb := mj_mem 774 (by decide +kernel) (by decide +kernel)
theorem w_Mo_36 : mj_fw "IsomerListModel" 36 "IsomerListModel" "fresh" "[I" := Or.inl (mj_mem 775 (by decide +kernel) (by decide +kernel))
theorem wl_Mo_36 : Cond.fieldLink "IsomerListModel" 36 "IsomerListModel" "fresh" "[I" ∈ mj_tb := mj_mem 775 (by decide +kernel) (by decide +kernel)
theorem w_Mo_39 : mj_fw "IsomerListModel" 39 "IsomerListModel" "numbered" "[I" := Or.inl (mj_mem 776 (by decide +kernel) (by decide +kernel))
theorem wl_Mo_39 : Cond.fieldLink "IsomerListModel" 39 "IsomerListModel" "numbered" "[I" ∈ mj_tb := mj_mem 776 (by decide +kernel) (by decide +kernel)
theorem w_Mo_42 : mj_fw "IsomerListModel" 42 "IsomerListModel" "isTaken" "[Z" := Or.inl (mj_mem 777 (by decide +kernel) (by decide +kernel))
theorem wl_Mo_42 : Cond.fieldLink "IsomerListModel" 42 "IsomerListModel" "isTaken" "[Z" ∈ mj_tb := mj_mem 777 (by decide +kernel) (by decide +kernel)
theorem w_Mo_167 : mj_fw "IsomerListModel" 167 "IsomerListModel" "signs" "I" := Or.inl (mj_mem 778 (by decide +kernel) (by decide +kernel))
theorem wl_Mo_167 : Cond.fieldLink "IsomerListModel" 167 "IsomerListModel" "signs" "I" ∈ mj_tb := mj_mem 778 (by decide +kernel) (by decide +kernel)
theorem w_Mo_46 : mj_fw "IsomerListModel" 46 "IsomerListModel" "signOf" "[I" := Or.inl (mj_mem 779 (by decide +kernel) (by decide +kernel))
theorem wl_Mo_46 : Cond.fieldLink "IsomerListModel" 46 "IsomerListModel" "signOf" "[I" ∈ mj_tb := mj_mem 779 (by decide +kernel) (by decide +kernel)
theorem w_Mo_49 : mj_fw "IsomerListModel" 49 "IsomerListModel" "bonds" "[I" := Or.inl (mj_mem 780 (by decide +kernel) (by decide +kernel))
theorem wl_Mo_49 : Cond.fieldLink "IsomerListModel" 49 "IsomerListModel" "bonds" "[I" ∈ mj_tb := mj_mem 780 (by decide +kernel) (by decide +kernel)
theorem w_Mo_52 : mj_fw "IsomerListModel" 52 "IsomerListModel" "best" "[I" := Or.inl (mj_mem 781 (by decide +kernel) (by decide +kernel))
theorem wl_Mo_52 : Cond.fieldLink "IsomerListModel" 52 "IsomerListModel" "best" "[I" ∈ mj_tb := mj_mem 781 (by decide +kernel) (by decide +kernel)
theorem w_Mo_55 : mj_fw "IsomerListModel" 55 "IsomerListModel" "many" "[I" := Or.inl (mj_mem 782 (by decide +kernel) (by decide +kernel))
theorem wl_Mo_55 : Cond.fieldLink "IsomerListModel" 55 "IsomerListModel" "many" "[I" ∈ mj_tb := mj_mem 782 (by decide +kernel) (by decide +kernel)
theorem w_Mo_58 : mj_fw "IsomerListModel" 58 "IsomerListModel" "pile" "[I" := Or.inl (mj_mem 783 (by decide +kernel) (by decide +kernel))
theorem wl_Mo_58 : Cond.fieldLink "IsomerListModel" 58 "IsomerListModel" "pile" "[I" ∈ mj_tb := mj_mem 783 (by decide +kernel) (by decide +kernel)
theorem w_Mo_61 : mj_fw "IsomerListModel" 61 "IsomerListModel" "ringAtom" "[I" := Or.inl (mj_mem 784 (by decide +kernel) (by decide +kernel))
theorem wl_Mo_61 : Cond.fieldLink "IsomerListModel" 61 "IsomerListModel" "ringAtom" "[I" ∈ mj_tb := mj_mem 784 (by decide +kernel) (by decide +kernel)
theorem w_Mo_64 : mj_fw "IsomerListModel" 64 "IsomerListModel" "ringBond" "[I" := Or.inl (mj_mem 785 (by decide +kernel) (by decide +kernel))
theorem wl_Mo_64 : Cond.fieldLink "IsomerListModel" 64 "IsomerListModel" "ringBond" "[I" ∈ mj_tb := mj_mem 785 (by decide +kernel) (by decide +kernel)
theorem w_Mo_67 : mj_fw "IsomerListModel" 67 "IsomerListModel" "before" "[I" := Or.inl (mj_mem 786 (by decide +kernel) (by decide +kernel))
theorem wl_Mo_67 : Cond.fieldLink "IsomerListModel" 67 "IsomerListModel" "before" "[I" ∈ mj_tb := mj_mem 786 (by decide +kernel) (by decide +kernel)
theorem w_Mo_70 : mj_fw "IsomerListModel" 70 "IsomerListModel" "rings" "[I" := Or.inl (mj_mem 787 (by decide +kernel) (by decide +kernel))
theorem wl_Mo_70 : Cond.fieldLink "IsomerListModel" 70 "IsomerListModel" "rings" "[I" ∈ mj_tb := mj_mem 787 (by decide +kernel) (by decide +kernel)
theorem w_Mo_73 : mj_fw "IsomerListModel" 73 "IsomerListModel" "done" "[I" := Or.inl (mj_mem 788 (by decide +kernel) (by decide +kernel))
theorem wl_Mo_73 : Cond.fieldLink "IsomerListModel" 73 "IsomerListModel" "done" "[I" ∈ mj_tb := mj_mem 788 (by decide +kernel) (by decide +kernel)
theorem w_Mo_76 : mj_fw "IsomerListModel" 76 "IsomerListModel" "isOpen" "[Z" := Or.inl (mj_mem 789 (by decide +kernel) (by decide +kernel))
theorem wl_Mo_76 : Cond.fieldLink "IsomerListModel" 76 "IsomerListModel" "isOpen" "[Z" ∈ mj_tb := mj_mem 789 (by decide +kernel) (by decide +kernel)
theorem w_Mo_79 : mj_fw "IsomerListModel" 79 "IsomerListModel" "isReached" "[Z" := Or.inl (mj_mem 790 (by decide +kernel) (by decide +kernel))
theorem wl_Mo_79 : Cond.fieldLink "IsomerListModel" 79 "IsomerListModel" "isReached" "[Z" ∈ mj_tb := mj_mem 790 (by decide +kernel) (by decide +kernel)
theorem w_Mo_82 : mj_fw "IsomerListModel" 82 "IsomerListModel" "last" "[I" := Or.inl (mj_mem 791 (by decide +kernel) (by decide +kernel))
theorem wl_Mo_82 : Cond.fieldLink "IsomerListModel" 82 "IsomerListModel" "last" "[I" ∈ mj_tb := mj_mem 791 (by decide +kernel) (by decide +kernel)
theorem w_IL_74 : mj_fw "IsomerList" 74 "IsomerList$Line" "length" "I" := Or.inr (List.mem_of_getElem? (i := 92) (by decide +kernel))
theorem w_Fr_25 : mj_fw "IsomerList$FormulaReader" 25 "IsomerList$Line" "length" "I" := Or.inr (List.mem_of_getElem? (i := 93) (by decide +kernel))
theorem w_Tr_51 : mj_fw "IsomerList$TextReader" 51 "IsomerList$Line" "length" "I" := Or.inr (List.mem_of_getElem? (i := 94) (by decide +kernel))
theorem w_IL_91 : mj_fw "IsomerList" 91 "IsomerList$FormulaReader" "counts" "[I" := Or.inr (List.mem_of_getElem? (i := 108) (by decide +kernel))
theorem w_IL_103 : mj_fw "IsomerList" 103 "IsomerList$FormulaReader" "at" "I" := Or.inr (List.mem_of_getElem? (i := 110) (by decide +kernel))
theorem w_Nu_43 : mj_fw "IsomerList$Numbering" 43 "IsomerList$Molecule" "kinds" "[I" := Or.inr (List.mem_of_getElem? (i := 130) (by decide +kernel))
theorem w_Tw_64 : mj_fw "IsomerList$TextWriter" 64 "IsomerList$Molecule" "kinds" "[I" := Or.inr (List.mem_of_getElem? (i := 131) (by decide +kernel))
theorem w_Ca_35 : mj_fw "IsomerList$Catalogue" 35 "IsomerList$Molecule" "kinds" "[I" := Or.inr (List.mem_of_getElem? (i := 132) (by decide +kernel))
theorem w_Ls_53 : mj_fw "IsomerList$Lister" 53 "IsomerList$Molecule" "free" "[I" := Or.inr (List.mem_of_getElem? (i := 134) (by decide +kernel))
theorem w_IL_142 : mj_fw "IsomerList" 142 "IsomerList$Molecule" "free" "[I" := Or.inr (List.mem_of_getElem? (i := 135) (by decide +kernel))
theorem w_Nu_66 : mj_fw "IsomerList$Numbering" 66 "IsomerList$Molecule" "bonds" "[I" := Or.inr (List.mem_of_getElem? (i := 137) (by decide +kernel))
theorem w_Nu_26 : mj_fw "IsomerList$Numbering" 26 "IsomerList$Molecule" "atoms" "I" := Or.inr (List.mem_of_getElem? (i := 139) (by decide +kernel))
theorem w_Ls_50 : mj_fw "IsomerList$Lister" 50 "IsomerList$Molecule" "atoms" "I" := Or.inr (List.mem_of_getElem? (i := 140) (by decide +kernel))
theorem w_Tw_52 : mj_fw "IsomerList$TextWriter" 52 "IsomerList$Molecule" "atoms" "I" := Or.inr (List.mem_of_getElem? (i := 141) (by decide +kernel))
theorem w_Ca_28 : mj_fw "IsomerList$Catalogue" 28 "IsomerList$Molecule" "atoms" "I" := Or.inr (List.mem_of_getElem? (i := 142) (by decide +kernel))
theorem w_Tr_92 : mj_fw "IsomerList$TextReader" 92 "IsomerList$Molecule" "atoms" "I" := Or.inr (List.mem_of_getElem? (i := 143) (by decide +kernel))
theorem w_IL_111 : mj_fw "IsomerList" 111 "IsomerList$TextReader" "molecule" "LIsomerList$Molecule;" := Or.inr (List.mem_of_getElem? (i := 154) (by decide +kernel))
theorem w_IL_110 : mj_fw "IsomerList" 110 "IsomerList$TextReader" "at" "I" := Or.inr (List.mem_of_getElem? (i := 162) (by decide +kernel))
theorem w_IL_181 : mj_fw "IsomerList" 181 "IsomerList$Numbering" "greatest" "I" := Or.inr (List.mem_of_getElem? (i := 217) (by decide +kernel))
theorem w_IL_152 : mj_fw "IsomerList" 152 "IsomerList$Numbering" "sharers" "I" := Or.inr (List.mem_of_getElem? (i := 219) (by decide +kernel))
theorem w_Ml_40 : mj_fw "IsomerList$Molecule" 40 "IsomerList$Catalogue" "kinds" "[I" := Or.inr (List.mem_of_getElem? (i := 269) (by decide +kernel))
theorem w_IL_128 : mj_fw "IsomerList" 128 "IsomerList$Catalogue" "kinds" "[I" := Or.inr (List.mem_of_getElem? (i := 270) (by decide +kernel))
theorem w_Ml_49 : mj_fw "IsomerList$Molecule" 49 "IsomerList$Catalogue" "codes" "[I" := Or.inr (List.mem_of_getElem? (i := 272) (by decide +kernel))
theorem w_IL_145 : mj_fw "IsomerList" 145 "IsomerList$Catalogue" "codes" "[I" := Or.inr (List.mem_of_getElem? (i := 273) (by decide +kernel))
theorem w_Ml_37 : mj_fw "IsomerList$Molecule" 37 "IsomerList$Catalogue" "atoms" "I" := Or.inr (List.mem_of_getElem? (i := 275) (by decide +kernel))
theorem w_IL_118 : mj_fw "IsomerList" 118 "IsomerList$Catalogue" "atoms" "I" := Or.inr (List.mem_of_getElem? (i := 276) (by decide +kernel))
theorem w_Ls_40 : mj_fw "IsomerList$Lister" 40 "IsomerList$Catalogue" "hydrogenSum" "I" := Or.inr (List.mem_of_getElem? (i := 278) (by decide +kernel))
theorem w_IL_121 : mj_fw "IsomerList" 121 "IsomerList$Catalogue" "hydrogenSum" "I" := Or.inr (List.mem_of_getElem? (i := 279) (by decide +kernel))
theorem w_IL_106 : mj_fw "IsomerList" 106 "IsomerList$Catalogue" "size" "I" := Or.inr (List.mem_of_getElem? (i := 281) (by decide +kernel))
theorem w_Ln_19 : mj_fw "IsomerList$Line" 19 "IsomerList" "FIRST_LETTERS" "[C" := Or.inr (List.mem_of_getElem? (i := 351) (by decide +kernel))
theorem w_Ln_26 : mj_fw "IsomerList$Line" 26 "IsomerList" "SECOND_LETTERS" "[C" := Or.inr (List.mem_of_getElem? (i := 357) (by decide +kernel))
theorem w_Ml_31 : mj_fw "IsomerList$Molecule" 31 "IsomerList" "VALENCES" "[I" := Or.inr (List.mem_of_getElem? (i := 408) (by decide +kernel))
theorem im_IL_init : Cond.instanceMethod y_IL_init ∈ mj_tb := mj_mem 79 (by decide +kernel) (by decide +kernel)
theorem lk_Lw_35 : Cond.methodLink "IsomerListLaw" 35 y_IL_init ∈ mj_tb ∧ Cond.instanceMethod y_IL_init ∈ mj_tb ∧ (y_IL_init).name = "<init>" := ⟨mj_mem 78 (by decide +kernel) (by decide +kernel), im_IL_init, rfl⟩
theorem im_Ls_init : Cond.instanceMethod y_Ls_init ∈ mj_tb := mj_mem 239 (by decide +kernel) (by decide +kernel)
theorem lk_IL_46 : Cond.methodLink "IsomerList" 46 y_Ls_init ∈ mj_tb ∧ Cond.instanceMethod y_Ls_init ∈ mj_tb ∧ (y_Ls_init).name = "<init>" := ⟨mj_mem 238 (by decide +kernel) (by decide +kernel), im_Ls_init, rfl⟩
theorem im_IL_erase : Cond.instanceMethod y_IL_erase ∈ mj_tb := mj_mem 325 (by decide +kernel) (by decide +kernel)
theorem se_IL_erase : Cond.selects (y_IL_erase).cls y_IL_erase y_IL_erase ∈ mj_tb := mj_mem 326 (by decide +kernel) (by decide +kernel)
theorem lk_Lw_49 : Cond.methodLink "IsomerListLaw" 49 y_IL_erase ∈ mj_tb ∧ Cond.instanceMethod y_IL_erase ∈ mj_tb ∧ Cond.selects (y_IL_erase).cls y_IL_erase y_IL_erase ∈ mj_tb := ⟨mj_mem 324 (by decide +kernel) (by decide +kernel), im_IL_erase, se_IL_erase⟩
theorem im_Ln_clear : Cond.instanceMethod y_Ln_clear ∈ mj_tb := mj_mem 329 (by decide +kernel) (by decide +kernel)
theorem se_Ln_clear : Cond.selects (y_Ln_clear).cls y_Ln_clear y_Ln_clear ∈ mj_tb := mj_mem 330 (by decide +kernel) (by decide +kernel)
theorem lk_IL_84 : Cond.methodLink "IsomerList" 84 y_Ln_clear ∈ mj_tb ∧ Cond.instanceMethod y_Ln_clear ∈ mj_tb ∧ Cond.selects (y_Ln_clear).cls y_Ln_clear y_Ln_clear ∈ mj_tb := ⟨mj_mem 328 (by decide +kernel) (by decide +kernel), im_Ln_clear, se_Ln_clear⟩
theorem im_IL_formula : Cond.instanceMethod y_IL_formula ∈ mj_tb := mj_mem 333 (by decide +kernel) (by decide +kernel)
theorem se_IL_formula : Cond.selects (y_IL_formula).cls y_IL_formula y_IL_formula ∈ mj_tb := mj_mem 334 (by decide +kernel) (by decide +kernel)
theorem lk_Lw_53 : Cond.methodLink "IsomerListLaw" 53 y_IL_formula ∈ mj_tb ∧ Cond.instanceMethod y_IL_formula ∈ mj_tb ∧ Cond.selects (y_IL_formula).cls y_IL_formula y_IL_formula ∈ mj_tb := ⟨mj_mem 332 (by decide +kernel) (by decide +kernel), im_IL_formula, se_IL_formula⟩
theorem im_Fr_readFrom : Cond.instanceMethod y_Fr_readFrom ∈ mj_tb := mj_mem 337 (by decide +kernel) (by decide +kernel)
theorem se_Fr_readFrom : Cond.selects (y_Fr_readFrom).cls y_Fr_readFrom y_Fr_readFrom ∈ mj_tb := mj_mem 338 (by decide +kernel) (by decide +kernel)
theorem lk_IL_87 : Cond.methodLink "IsomerList" 87 y_Fr_readFrom ∈ mj_tb ∧ Cond.instanceMethod y_Fr_readFrom ∈ mj_tb ∧ Cond.selects (y_Fr_readFrom).cls y_Fr_readFrom y_Fr_readFrom ∈ mj_tb := ⟨mj_mem 336 (by decide +kernel) (by decide +kernel), im_Fr_readFrom, se_Fr_readFrom⟩
theorem st_Ar_fill : Cond.static y_Ar_fill ∈ mj_tb := mj_mem 341 (by decide +kernel) (by decide +kernel)
theorem lk_Fr_15 : Cond.methodLink "IsomerList$FormulaReader" 15 y_Ar_fill ∈ mj_tb ∧ Cond.static y_Ar_fill ∈ mj_tb := ⟨mj_mem 340 (by decide +kernel) (by decide +kernel), st_Ar_fill⟩
theorem im_Fr_readElement : Cond.instanceMethod y_Fr_readElement ∈ mj_tb := mj_mem 345 (by decide +kernel) (by decide +kernel)
theorem se_Fr_readElement : Cond.selects (y_Fr_readElement).cls y_Fr_readElement y_Fr_readElement ∈ mj_tb := mj_mem 0 (by decide +kernel) (by decide +kernel)
theorem lk_Fr_30 : Cond.methodLink "IsomerList$FormulaReader" 30 y_Fr_readElement ∈ mj_tb ∧ Cond.instanceMethod y_Fr_readElement ∈ mj_tb ∧ Cond.selects (y_Fr_readElement).cls y_Fr_readElement y_Fr_readElement ∈ mj_tb := ⟨mj_mem 343 (by decide +kernel) (by decide +kernel), im_Fr_readElement, se_Fr_readElement⟩
theorem im_Ln_elementAt : Cond.instanceMethod y_Ln_elementAt ∈ mj_tb := mj_mem 348 (by decide +kernel) (by decide +kernel)
theorem se_Ln_elementAt : Cond.selects (y_Ln_elementAt).cls y_Ln_elementAt y_Ln_elementAt ∈ mj_tb := mj_mem 349 (by decide +kernel) (by decide +kernel)
theorem lk_Fr_38 : Cond.methodLink "IsomerList$FormulaReader" 38 y_Ln_elementAt ∈ mj_tb ∧ Cond.instanceMethod y_Ln_elementAt ∈ mj_tb ∧ Cond.selects (y_Ln_elementAt).cls y_Ln_elementAt y_Ln_elementAt ∈ mj_tb := ⟨mj_mem 347 (by decide +kernel) (by decide +kernel), im_Ln_elementAt, se_Ln_elementAt⟩
theorem im_Ln_at : Cond.instanceMethod y_Ln_at ∈ mj_tb := mj_mem 354 (by decide +kernel) (by decide +kernel)
theorem se_Ln_at : Cond.selects (y_Ln_at).cls y_Ln_at y_Ln_at ∈ mj_tb := mj_mem 355 (by decide +kernel) (by decide +kernel)
theorem lk_Ln_22 : Cond.methodLink "IsomerList$Line" 22 y_Ln_at ∈ mj_tb ∧ Cond.instanceMethod y_Ln_at ∈ mj_tb ∧ Cond.selects (y_Ln_at).cls y_Ln_at y_Ln_at ∈ mj_tb := ⟨mj_mem 353 (by decide +kernel) (by decide +kernel), im_Ln_at, se_Ln_at⟩
theorem im_Fr_digitsAhead : Cond.instanceMethod y_Fr_digitsAhead ∈ mj_tb := mj_mem 365 (by decide +kernel) (by decide +kernel)
theorem se_Fr_digitsAhead : Cond.selects (y_Fr_digitsAhead).cls y_Fr_digitsAhead y_Fr_digitsAhead ∈ mj_tb := mj_mem 1 (by decide +kernel) (by decide +kernel)
theorem lk_Fr_45 : Cond.methodLink "IsomerList$FormulaReader" 45 y_Fr_digitsAhead ∈ mj_tb ∧ Cond.instanceMethod y_Fr_digitsAhead ∈ mj_tb ∧ Cond.selects (y_Fr_digitsAhead).cls y_Fr_digitsAhead y_Fr_digitsAhead ∈ mj_tb := ⟨mj_mem 363 (by decide +kernel) (by decide +kernel), im_Fr_digitsAhead, se_Fr_digitsAhead⟩
theorem lk_Fr_52 : Cond.methodLink "IsomerList$FormulaReader" 52 y_Ln_at ∈ mj_tb ∧ Cond.instanceMethod y_Ln_at ∈ mj_tb ∧ Cond.selects (y_Ln_at).cls y_Ln_at y_Ln_at ∈ mj_tb := ⟨mj_mem 367 (by decide +kernel) (by decide +kernel), im_Ln_at, se_Ln_at⟩
theorem im_Fr_numberAhead : Cond.instanceMethod y_Fr_numberAhead ∈ mj_tb := mj_mem 373 (by decide +kernel) (by decide +kernel)
theorem se_Fr_numberAhead : Cond.selects (y_Fr_numberAhead).cls y_Fr_numberAhead y_Fr_numberAhead ∈ mj_tb := mj_mem 2 (by decide +kernel) (by decide +kernel)
theorem lk_Fr_48 : Cond.methodLink "IsomerList$FormulaReader" 48 y_Fr_numberAhead ∈ mj_tb ∧ Cond.instanceMethod y_Fr_numberAhead ∈ mj_tb ∧ Cond.selects (y_Fr_numberAhead).cls y_Fr_numberAhead y_Fr_numberAhead ∈ mj_tb := ⟨mj_mem 371 (by decide +kernel) (by decide +kernel), im_Fr_numberAhead, se_Fr_numberAhead⟩
theorem im_Fr_heavyAtoms : Cond.instanceMethod y_Fr_heavyAtoms ∈ mj_tb := mj_mem 377 (by decide +kernel) (by decide +kernel)
theorem se_Fr_heavyAtoms : Cond.selects (y_Fr_heavyAtoms).cls y_Fr_heavyAtoms y_Fr_heavyAtoms ∈ mj_tb := mj_mem 3 (by decide +kernel) (by decide +kernel)
theorem lk_Fr_34 : Cond.methodLink "IsomerList$FormulaReader" 34 y_Fr_heavyAtoms ∈ mj_tb ∧ Cond.instanceMethod y_Fr_heavyAtoms ∈ mj_tb ∧ Cond.selects (y_Fr_heavyAtoms).cls y_Fr_heavyAtoms y_Fr_heavyAtoms ∈ mj_tb := ⟨mj_mem 375 (by decide +kernel) (by decide +kernel), im_Fr_heavyAtoms, se_Fr_heavyAtoms⟩
theorem im_Ca_take : Cond.instanceMethod y_Ca_take ∈ mj_tb := mj_mem 380 (by decide +kernel) (by decide +kernel)
theorem se_Ca_take : Cond.selects (y_Ca_take).cls y_Ca_take y_Ca_take ∈ mj_tb := mj_mem 381 (by decide +kernel) (by decide +kernel)
theorem lk_IL_95 : Cond.methodLink "IsomerList" 95 y_Ca_take ∈ mj_tb ∧ Cond.instanceMethod y_Ca_take ∈ mj_tb ∧ Cond.selects (y_Ca_take).cls y_Ca_take y_Ca_take ∈ mj_tb := ⟨mj_mem 379 (by decide +kernel) (by decide +kernel), im_Ca_take, se_Ca_take⟩
theorem im_IL_listSpare : Cond.instanceMethod y_IL_listSpare ∈ mj_tb := mj_mem 385 (by decide +kernel) (by decide +kernel)
theorem se_IL_listSpare : Cond.selects (y_IL_listSpare).cls y_IL_listSpare y_IL_listSpare ∈ mj_tb := mj_mem 4 (by decide +kernel) (by decide +kernel)
theorem lk_IL_99 : Cond.methodLink "IsomerList" 99 y_IL_listSpare ∈ mj_tb ∧ Cond.instanceMethod y_IL_listSpare ∈ mj_tb ∧ Cond.selects (y_IL_listSpare).cls y_IL_listSpare y_IL_listSpare ∈ mj_tb := ⟨mj_mem 383 (by decide +kernel) (by decide +kernel), im_IL_listSpare, se_IL_listSpare⟩
theorem im_Ca_hasSameFormula : Cond.instanceMethod y_Ca_hasSameFormula ∈ mj_tb := mj_mem 388 (by decide +kernel) (by decide +kernel)
theorem se_Ca_hasSameFormula : Cond.selects (y_Ca_hasSameFormula).cls y_Ca_hasSameFormula y_Ca_hasSameFormula ∈ mj_tb := mj_mem 389 (by decide +kernel) (by decide +kernel)
theorem lk_IL_165 : Cond.methodLink "IsomerList" 165 y_Ca_hasSameFormula ∈ mj_tb ∧ Cond.instanceMethod y_Ca_hasSameFormula ∈ mj_tb ∧ Cond.selects (y_Ca_hasSameFormula).cls y_Ca_hasSameFormula y_Ca_hasSameFormula ∈ mj_tb := ⟨mj_mem 387 (by decide +kernel) (by decide +kernel), im_Ca_hasSameFormula, se_Ca_hasSameFormula⟩
theorem im_Ls_fill : Cond.instanceMethod y_Ls_fill ∈ mj_tb := mj_mem 392 (by decide +kernel) (by decide +kernel)
theorem se_Ls_fill : Cond.selects (y_Ls_fill).cls y_Ls_fill y_Ls_fill ∈ mj_tb := mj_mem 393 (by decide +kernel) (by decide +kernel)
theorem lk_IL_169 : Cond.methodLink "IsomerList" 169 y_Ls_fill ∈ mj_tb ∧ Cond.instanceMethod y_Ls_fill ∈ mj_tb ∧ Cond.selects (y_Ls_fill).cls y_Ls_fill y_Ls_fill ∈ mj_tb := ⟨mj_mem 391 (by decide +kernel) (by decide +kernel), im_Ls_fill, se_Ls_fill⟩
theorem im_Ml_addAtomsOf : Cond.instanceMethod y_Ml_addAtomsOf ∈ mj_tb := mj_mem 396 (by decide +kernel) (by decide +kernel)
theorem se_Ml_addAtomsOf : Cond.selects (y_Ml_addAtomsOf).cls y_Ml_addAtomsOf y_Ml_addAtomsOf ∈ mj_tb := mj_mem 397 (by decide +kernel) (by decide +kernel)
theorem lk_Ls_33 : Cond.methodLink "IsomerList$Lister" 33 y_Ml_addAtomsOf ∈ mj_tb ∧ Cond.instanceMethod y_Ml_addAtomsOf ∈ mj_tb ∧ Cond.selects (y_Ml_addAtomsOf).cls y_Ml_addAtomsOf y_Ml_addAtomsOf ∈ mj_tb := ⟨mj_mem 395 (by decide +kernel) (by decide +kernel), im_Ml_addAtomsOf, se_Ml_addAtomsOf⟩
theorem im_Ml_clear : Cond.instanceMethod y_Ml_clear ∈ mj_tb := mj_mem 400 (by decide +kernel) (by decide +kernel)
theorem se_Ml_clear : Cond.selects (y_Ml_clear).cls y_Ml_clear y_Ml_clear ∈ mj_tb := mj_mem 401 (by decide +kernel) (by decide +kernel)
theorem lk_Ml_34 : Cond.methodLink "IsomerList$Molecule" 34 y_Ml_clear ∈ mj_tb ∧ Cond.instanceMethod y_Ml_clear ∈ mj_tb ∧ Cond.selects (y_Ml_clear).cls y_Ml_clear y_Ml_clear ∈ mj_tb := ⟨mj_mem 399 (by decide +kernel) (by decide +kernel), im_Ml_clear, se_Ml_clear⟩
theorem lk_Ml_25 : Cond.methodLink "IsomerList$Molecule" 25 y_Ar_fill ∈ mj_tb ∧ Cond.static y_Ar_fill ∈ mj_tb := ⟨mj_mem 403 (by decide +kernel) (by decide +kernel), st_Ar_fill⟩
theorem im_Ml_addAtom : Cond.instanceMethod y_Ml_addAtom ∈ mj_tb := mj_mem 405 (by decide +kernel) (by decide +kernel)
theorem se_Ml_addAtom : Cond.selects (y_Ml_addAtom).cls y_Ml_addAtom y_Ml_addAtom ∈ mj_tb := mj_mem 406 (by decide +kernel) (by decide +kernel)
theorem lk_Ml_41 : Cond.methodLink "IsomerList$Molecule" 41 y_Ml_addAtom ∈ mj_tb ∧ Cond.instanceMethod y_Ml_addAtom ∈ mj_tb ∧ Cond.selects (y_Ml_addAtom).cls y_Ml_addAtom y_Ml_addAtom ∈ mj_tb := ⟨mj_mem 404 (by decide +kernel) (by decide +kernel), im_Ml_addAtom, se_Ml_addAtom⟩
theorem im_Ls_sumValences : Cond.instanceMethod y_Ls_sumValences ∈ mj_tb := mj_mem 412 (by decide +kernel) (by decide +kernel)
theorem se_Ls_sumValences : Cond.selects (y_Ls_sumValences).cls y_Ls_sumValences y_Ls_sumValences ∈ mj_tb := mj_mem 5 (by decide +kernel) (by decide +kernel)
theorem lk_Ls_37 : Cond.methodLink "IsomerList$Lister" 37 y_Ls_sumValences ∈ mj_tb ∧ Cond.instanceMethod y_Ls_sumValences ∈ mj_tb ∧ Cond.selects (y_Ls_sumValences).cls y_Ls_sumValences y_Ls_sumValences ∈ mj_tb := ⟨mj_mem 410 (by decide +kernel) (by decide +kernel), im_Ls_sumValences, se_Ls_sumValences⟩
theorem im_Ls_endRow : Cond.instanceMethod y_Ls_endRow ∈ mj_tb := mj_mem 416 (by decide +kernel) (by decide +kernel)
theorem se_Ls_endRow : Cond.selects (y_Ls_endRow).cls y_Ls_endRow y_Ls_endRow ∈ mj_tb := mj_mem 6 (by decide +kernel) (by decide +kernel)
theorem lk_Ls_46 : Cond.methodLink "IsomerList$Lister" 46 y_Ls_endRow ∈ mj_tb ∧ Cond.instanceMethod y_Ls_endRow ∈ mj_tb ∧ Cond.selects (y_Ls_endRow).cls y_Ls_endRow y_Ls_endRow ∈ mj_tb := ⟨mj_mem 414 (by decide +kernel) (by decide +kernel), im_Ls_endRow, se_Ls_endRow⟩
theorem im_Ls_canBeEnded : Cond.instanceMethod y_Ls_canBeEnded ∈ mj_tb := mj_mem 420 (by decide +kernel) (by decide +kernel)
theorem se_Ls_canBeEnded : Cond.selects (y_Ls_canBeEnded).cls y_Ls_canBeEnded y_Ls_canBeEnded ∈ mj_tb := mj_mem 7 (by decide +kernel) (by decide +kernel)
theorem lk_Ls_77 : Cond.methodLink "IsomerList$Lister" 77 y_Ls_canBeEnded ∈ mj_tb ∧ Cond.instanceMethod y_Ls_canBeEnded ∈ mj_tb ∧ Cond.selects (y_Ls_canBeEnded).cls y_Ls_canBeEnded y_Ls_canBeEnded ∈ mj_tb := ⟨mj_mem 418 (by decide +kernel) (by decide +kernel), im_Ls_canBeEnded, se_Ls_canBeEnded⟩
theorem im_Ls_countGroups : Cond.instanceMethod y_Ls_countGroups ∈ mj_tb := mj_mem 424 (by decide +kernel) (by decide +kernel)
theorem se_Ls_countGroups : Cond.selects (y_Ls_countGroups).cls y_Ls_countGroups y_Ls_countGroups ∈ mj_tb := mj_mem 8 (by decide +kernel) (by decide +kernel)
theorem lk_Ls_91 : Cond.methodLink "IsomerList$Lister" 91 y_Ls_countGroups ∈ mj_tb ∧ Cond.instanceMethod y_Ls_countGroups ∈ mj_tb ∧ Cond.selects (y_Ls_countGroups).cls y_Ls_countGroups y_Ls_countGroups ∈ mj_tb := ⟨mj_mem 422 (by decide +kernel) (by decide +kernel), im_Ls_countGroups, se_Ls_countGroups⟩
theorem im_Ml_between : Cond.instanceMethod y_Ml_between ∈ mj_tb := mj_mem 427 (by decide +kernel) (by decide +kernel)
theorem se_Ml_between : Cond.selects (y_Ml_between).cls y_Ml_between y_Ml_between ∈ mj_tb := mj_mem 428 (by decide +kernel) (by decide +kernel)
theorem lk_Ls_94 : Cond.methodLink "IsomerList$Lister" 94 y_Ml_between ∈ mj_tb ∧ Cond.instanceMethod y_Ml_between ∈ mj_tb ∧ Cond.selects (y_Ml_between).cls y_Ml_between y_Ml_between ∈ mj_tb := ⟨mj_mem 426 (by decide +kernel) (by decide +kernel), im_Ml_between, se_Ml_between⟩
theorem im_Ls_joinGroups : Cond.instanceMethod y_Ls_joinGroups ∈ mj_tb := mj_mem 432 (by decide +kernel) (by decide +kernel)
theorem se_Ls_joinGroups : Cond.selects (y_Ls_joinGroups).cls y_Ls_joinGroups y_Ls_joinGroups ∈ mj_tb := mj_mem 9 (by decide +kernel) (by decide +kernel)
theorem lk_Ls_97 : Cond.methodLink "IsomerList$Lister" 97 y_Ls_joinGroups ∈ mj_tb ∧ Cond.instanceMethod y_Ls_joinGroups ∈ mj_tb ∧ Cond.selects (y_Ls_joinGroups).cls y_Ls_joinGroups y_Ls_joinGroups ∈ mj_tb := ⟨mj_mem 430 (by decide +kernel) (by decide +kernel), im_Ls_joinGroups, se_Ls_joinGroups⟩
theorem im_Nu_isGreatest : Cond.instanceMethod y_Nu_isGreatest ∈ mj_tb := mj_mem 435 (by decide +kernel) (by decide +kernel)
theorem se_Nu_isGreatest : Cond.selects (y_Nu_isGreatest).cls y_Nu_isGreatest y_Nu_isGreatest ∈ mj_tb := mj_mem 436 (by decide +kernel) (by decide +kernel)
theorem lk_Ls_81 : Cond.methodLink "IsomerList$Lister" 81 y_Nu_isGreatest ∈ mj_tb ∧ Cond.instanceMethod y_Nu_isGreatest ∈ mj_tb ∧ Cond.selects (y_Nu_isGreatest).cls y_Nu_isGreatest y_Nu_isGreatest ∈ mj_tb := ⟨mj_mem 434 (by decide +kernel) (by decide +kernel), im_Nu_isGreatest, se_Nu_isGreatest⟩
theorem im_Nu_canBeBeaten : Cond.instanceMethod y_Nu_canBeBeaten ∈ mj_tb := mj_mem 440 (by decide +kernel) (by decide +kernel)
theorem se_Nu_canBeBeaten : Cond.selects (y_Nu_canBeBeaten).cls y_Nu_canBeBeaten y_Nu_canBeBeaten ∈ mj_tb := mj_mem 10 (by decide +kernel) (by decide +kernel)
theorem lk_Nu_46 : Cond.methodLink "IsomerList$Numbering" 46 y_Nu_canBeBeaten ∈ mj_tb ∧ Cond.instanceMethod y_Nu_canBeBeaten ∈ mj_tb ∧ Cond.selects (y_Nu_canBeBeaten).cls y_Nu_canBeBeaten y_Nu_canBeBeaten ∈ mj_tb := ⟨mj_mem 438 (by decide +kernel) (by decide +kernel), im_Nu_canBeBeaten, se_Nu_canBeBeaten⟩
theorem im_Nu_row : Cond.instanceMethod y_Nu_row ∈ mj_tb := mj_mem 447 (by decide +kernel) (by decide +kernel)
theorem se_Nu_row : Cond.selects (y_Nu_row).cls y_Nu_row y_Nu_row ∈ mj_tb := mj_mem 11 (by decide +kernel) (by decide +kernel)
theorem lk_Nu_58 : Cond.methodLink "IsomerList$Numbering" 58 y_Nu_row ∈ mj_tb ∧ Cond.instanceMethod y_Nu_row ∈ mj_tb ∧ Cond.selects (y_Nu_row).cls y_Nu_row y_Nu_row ∈ mj_tb := ⟨mj_mem 445 (by decide +kernel) (by decide +kernel), im_Nu_row, se_Nu_row⟩
theorem im_Nu_canBeBeatenWith : Cond.instanceMethod y_Nu_canBeBeatenWith ∈ mj_tb := mj_mem 451 (by decide +kernel) (by decide +kernel)
theorem se_Nu_canBeBeatenWith : Cond.selects (y_Nu_canBeBeatenWith).cls y_Nu_canBeBeatenWith y_Nu_canBeBeatenWith ∈ mj_tb := mj_mem 12 (by decide +kernel) (by decide +kernel)
theorem lk_Nu_62 : Cond.methodLink "IsomerList$Numbering" 62 y_Nu_canBeBeatenWith ∈ mj_tb ∧ Cond.instanceMethod y_Nu_canBeBeatenWith ∈ mj_tb ∧ Cond.selects (y_Nu_canBeBeatenWith).cls y_Nu_canBeBeatenWith y_Nu_canBeBeatenWith ∈ mj_tb := ⟨mj_mem 449 (by decide +kernel) (by decide +kernel), im_Nu_canBeBeatenWith, se_Nu_canBeBeatenWith⟩
theorem im_Ca_add : Cond.instanceMethod y_Ca_add ∈ mj_tb := mj_mem 454 (by decide +kernel) (by decide +kernel)
theorem se_Ca_add : Cond.selects (y_Ca_add).cls y_Ca_add y_Ca_add ∈ mj_tb := mj_mem 455 (by decide +kernel) (by decide +kernel)
theorem lk_Ls_87 : Cond.methodLink "IsomerList$Lister" 87 y_Ca_add ∈ mj_tb ∧ Cond.instanceMethod y_Ca_add ∈ mj_tb ∧ Cond.selects (y_Ca_add).cls y_Ca_add y_Ca_add ∈ mj_tb := ⟨mj_mem 453 (by decide +kernel) (by decide +kernel), im_Ca_add, se_Ca_add⟩
theorem im_Ls_bindOn : Cond.instanceMethod y_Ls_bindOn ∈ mj_tb := mj_mem 459 (by decide +kernel) (by decide +kernel)
theorem se_Ls_bindOn : Cond.selects (y_Ls_bindOn).cls y_Ls_bindOn y_Ls_bindOn ∈ mj_tb := mj_mem 13 (by decide +kernel) (by decide +kernel)
theorem lk_Ls_73 : Cond.methodLink "IsomerList$Lister" 73 y_Ls_bindOn ∈ mj_tb ∧ Cond.instanceMethod y_Ls_bindOn ∈ mj_tb ∧ Cond.selects (y_Ls_bindOn).cls y_Ls_bindOn y_Ls_bindOn ∈ mj_tb := ⟨mj_mem 457 (by decide +kernel) (by decide +kernel), im_Ls_bindOn, se_Ls_bindOn⟩
theorem st_Ma_min : Cond.static y_Ma_min ∈ mj_tb := mj_mem 463 (by decide +kernel) (by decide +kernel)
theorem lk_Ls_60 : Cond.methodLink "IsomerList$Lister" 60 y_Ma_min ∈ mj_tb ∧ Cond.static y_Ma_min ∈ mj_tb := ⟨mj_mem 462 (by decide +kernel) (by decide +kernel), st_Ma_min⟩
theorem im_Ca_isOverfull : Cond.instanceMethod y_Ca_isOverfull ∈ mj_tb := mj_mem 466 (by decide +kernel) (by decide +kernel)
theorem se_Ca_isOverfull : Cond.selects (y_Ca_isOverfull).cls y_Ca_isOverfull y_Ca_isOverfull ∈ mj_tb := mj_mem 467 (by decide +kernel) (by decide +kernel)
theorem lk_Ls_66 : Cond.methodLink "IsomerList$Lister" 66 y_Ca_isOverfull ∈ mj_tb ∧ Cond.instanceMethod y_Ca_isOverfull ∈ mj_tb ∧ Cond.selects (y_Ca_isOverfull).cls y_Ca_isOverfull y_Ca_isOverfull ∈ mj_tb := ⟨mj_mem 465 (by decide +kernel) (by decide +kernel), im_Ca_isOverfull, se_Ca_isOverfull⟩
theorem im_Ml_bind : Cond.instanceMethod y_Ml_bind ∈ mj_tb := mj_mem 470 (by decide +kernel) (by decide +kernel)
theorem se_Ml_bind : Cond.selects (y_Ml_bind).cls y_Ml_bind y_Ml_bind ∈ mj_tb := mj_mem 471 (by decide +kernel) (by decide +kernel)
theorem lk_Ls_70 : Cond.methodLink "IsomerList$Lister" 70 y_Ml_bind ∈ mj_tb ∧ Cond.instanceMethod y_Ml_bind ∈ mj_tb ∧ Cond.selects (y_Ml_bind).cls y_Ml_bind y_Ml_bind ∈ mj_tb := ⟨mj_mem 469 (by decide +kernel) (by decide +kernel), im_Ml_bind, se_Ml_bind⟩
theorem lk_Ml_60 : Cond.methodLink "IsomerList$Molecule" 60 y_Ml_between ∈ mj_tb ∧ Cond.instanceMethod y_Ml_between ∈ mj_tb ∧ Cond.selects (y_Ml_between).cls y_Ml_between y_Ml_between ∈ mj_tb := ⟨mj_mem 473 (by decide +kernel) (by decide +kernel), im_Ml_between, se_Ml_between⟩
theorem lk_IL_173 : Cond.methodLink "IsomerList" 173 y_Ca_isOverfull ∈ mj_tb ∧ Cond.instanceMethod y_Ca_isOverfull ∈ mj_tb ∧ Cond.selects (y_Ca_isOverfull).cls y_Ca_isOverfull y_Ca_isOverfull ∈ mj_tb := ⟨mj_mem 474 (by decide +kernel) (by decide +kernel), im_Ca_isOverfull, se_Ca_isOverfull⟩
theorem im_IL_read : Cond.instanceMethod y_IL_read ∈ mj_tb := mj_mem 476 (by decide +kernel) (by decide +kernel)
theorem se_IL_read : Cond.selects (y_IL_read).cls y_IL_read y_IL_read ∈ mj_tb := mj_mem 477 (by decide +kernel) (by decide +kernel)
theorem lk_Lw_57 : Cond.methodLink "IsomerListLaw" 57 y_IL_read ∈ mj_tb ∧ Cond.instanceMethod y_IL_read ∈ mj_tb ∧ Cond.selects (y_IL_read).cls y_IL_read y_IL_read ∈ mj_tb := ⟨mj_mem 475 (by decide +kernel) (by decide +kernel), im_IL_read, se_IL_read⟩
theorem im_Tr_readFrom : Cond.instanceMethod y_Tr_readFrom ∈ mj_tb := mj_mem 480 (by decide +kernel) (by decide +kernel)
theorem se_Tr_readFrom : Cond.selects (y_Tr_readFrom).cls y_Tr_readFrom y_Tr_readFrom ∈ mj_tb := mj_mem 481 (by decide +kernel) (by decide +kernel)
theorem lk_IL_109 : Cond.methodLink "IsomerList" 109 y_Tr_readFrom ∈ mj_tb ∧ Cond.instanceMethod y_Tr_readFrom ∈ mj_tb ∧ Cond.selects (y_Tr_readFrom).cls y_Tr_readFrom y_Tr_readFrom ∈ mj_tb := ⟨mj_mem 479 (by decide +kernel) (by decide +kernel), im_Tr_readFrom, se_Tr_readFrom⟩
theorem lk_Tr_28 : Cond.methodLink "IsomerList$TextReader" 28 y_Ml_clear ∈ mj_tb ∧ Cond.instanceMethod y_Ml_clear ∈ mj_tb ∧ Cond.selects (y_Ml_clear).cls y_Ml_clear y_Ml_clear ∈ mj_tb := ⟨mj_mem 483 (by decide +kernel) (by decide +kernel), im_Ml_clear, se_Ml_clear⟩
theorem lk_Tr_31 : Cond.methodLink "IsomerList$TextReader" 31 y_Ar_fill ∈ mj_tb ∧ Cond.static y_Ar_fill ∈ mj_tb := ⟨mj_mem 484 (by decide +kernel) (by decide +kernel), st_Ar_fill⟩
theorem im_Tr_readAtom : Cond.instanceMethod y_Tr_readAtom ∈ mj_tb := mj_mem 487 (by decide +kernel) (by decide +kernel)
theorem se_Tr_readAtom : Cond.selects (y_Tr_readAtom).cls y_Tr_readAtom y_Tr_readAtom ∈ mj_tb := mj_mem 14 (by decide +kernel) (by decide +kernel)
theorem lk_Tr_47 : Cond.methodLink "IsomerList$TextReader" 47 y_Tr_readAtom ∈ mj_tb ∧ Cond.instanceMethod y_Tr_readAtom ∈ mj_tb ∧ Cond.selects (y_Tr_readAtom).cls y_Tr_readAtom y_Tr_readAtom ∈ mj_tb := ⟨mj_mem 485 (by decide +kernel) (by decide +kernel), im_Tr_readAtom, se_Tr_readAtom⟩
theorem lk_Tr_88 : Cond.methodLink "IsomerList$TextReader" 88 y_Ln_elementAt ∈ mj_tb ∧ Cond.instanceMethod y_Ln_elementAt ∈ mj_tb ∧ Cond.selects (y_Ln_elementAt).cls y_Ln_elementAt y_Ln_elementAt ∈ mj_tb := ⟨mj_mem 489 (by decide +kernel) (by decide +kernel), im_Ln_elementAt, se_Ln_elementAt⟩
theorem lk_Tr_95 : Cond.methodLink "IsomerList$TextReader" 95 y_Ml_addAtom ∈ mj_tb ∧ Cond.instanceMethod y_Ml_addAtom ∈ mj_tb ∧ Cond.selects (y_Ml_addAtom).cls y_Ml_addAtom y_Ml_addAtom ∈ mj_tb := ⟨mj_mem 490 (by decide +kernel) (by decide +kernel), im_Ml_addAtom, se_Ml_addAtom⟩
theorem st_Ma_max : Cond.static y_Ma_max ∈ mj_tb := mj_mem 492 (by decide +kernel) (by decide +kernel)
theorem lk_Tr_99 : Cond.methodLink "IsomerList$TextReader" 99 y_Ma_max ∈ mj_tb ∧ Cond.static y_Ma_max ∈ mj_tb := ⟨mj_mem 491 (by decide +kernel) (by decide +kernel), st_Ma_max⟩
theorem lk_Tr_104 : Cond.methodLink "IsomerList$TextReader" 104 y_Ml_bind ∈ mj_tb ∧ Cond.instanceMethod y_Ml_bind ∈ mj_tb ∧ Cond.selects (y_Ml_bind).cls y_Ml_bind y_Ml_bind ∈ mj_tb := ⟨mj_mem 494 (by decide +kernel) (by decide +kernel), im_Ml_bind, se_Ml_bind⟩
theorem im_Tr_readPart : Cond.instanceMethod y_Tr_readPart ∈ mj_tb := mj_mem 498 (by decide +kernel) (by decide +kernel)
theorem se_Tr_readPart : Cond.selects (y_Tr_readPart).cls y_Tr_readPart y_Tr_readPart ∈ mj_tb := mj_mem 15 (by decide +kernel) (by decide +kernel)
theorem lk_Tr_56 : Cond.methodLink "IsomerList$TextReader" 56 y_Tr_readPart ∈ mj_tb ∧ Cond.instanceMethod y_Tr_readPart ∈ mj_tb ∧ Cond.selects (y_Tr_readPart).cls y_Tr_readPart y_Tr_readPart ∈ mj_tb := ⟨mj_mem 496 (by decide +kernel) (by decide +kernel), im_Tr_readPart, se_Tr_readPart⟩
theorem lk_Tr_64 : Cond.methodLink "IsomerList$TextReader" 64 y_Ln_at ∈ mj_tb ∧ Cond.instanceMethod y_Ln_at ∈ mj_tb ∧ Cond.selects (y_Ln_at).cls y_Ln_at y_Ln_at ∈ mj_tb := ⟨mj_mem 500 (by decide +kernel) (by decide +kernel), im_Ln_at, se_Ln_at⟩
theorem im_Tr_closeBranch : Cond.instanceMethod y_Tr_closeBranch ∈ mj_tb := mj_mem 503 (by decide +kernel) (by decide +kernel)
theorem se_Tr_closeBranch : Cond.selects (y_Tr_closeBranch).cls y_Tr_closeBranch y_Tr_closeBranch ∈ mj_tb := mj_mem 16 (by decide +kernel) (by decide +kernel)
theorem lk_Tr_67 : Cond.methodLink "IsomerList$TextReader" 67 y_Tr_closeBranch ∈ mj_tb ∧ Cond.instanceMethod y_Tr_closeBranch ∈ mj_tb ∧ Cond.selects (y_Tr_closeBranch).cls y_Tr_closeBranch y_Tr_closeBranch ∈ mj_tb := ⟨mj_mem 501 (by decide +kernel) (by decide +kernel), im_Tr_closeBranch, se_Tr_closeBranch⟩
theorem im_Tr_openBranch : Cond.instanceMethod y_Tr_openBranch ∈ mj_tb := mj_mem 507 (by decide +kernel) (by decide +kernel)
theorem se_Tr_openBranch : Cond.selects (y_Tr_openBranch).cls y_Tr_openBranch y_Tr_openBranch ∈ mj_tb := mj_mem 17 (by decide +kernel) (by decide +kernel)
theorem lk_Tr_70 : Cond.methodLink "IsomerList$TextReader" 70 y_Tr_openBranch ∈ mj_tb ∧ Cond.instanceMethod y_Tr_openBranch ∈ mj_tb ∧ Cond.selects (y_Tr_openBranch).cls y_Tr_openBranch y_Tr_openBranch ∈ mj_tb := ⟨mj_mem 505 (by decide +kernel) (by decide +kernel), im_Tr_openBranch, se_Tr_openBranch⟩
theorem im_Tr_readBond : Cond.instanceMethod y_Tr_readBond ∈ mj_tb := mj_mem 511 (by decide +kernel) (by decide +kernel)
theorem se_Tr_readBond : Cond.selects (y_Tr_readBond).cls y_Tr_readBond y_Tr_readBond ∈ mj_tb := mj_mem 18 (by decide +kernel) (by decide +kernel)
theorem lk_Tr_73 : Cond.methodLink "IsomerList$TextReader" 73 y_Tr_readBond ∈ mj_tb ∧ Cond.instanceMethod y_Tr_readBond ∈ mj_tb ∧ Cond.selects (y_Tr_readBond).cls y_Tr_readBond y_Tr_readBond ∈ mj_tb := ⟨mj_mem 509 (by decide +kernel) (by decide +kernel), im_Tr_readBond, se_Tr_readBond⟩
theorem im_Tr_readRing : Cond.instanceMethod y_Tr_readRing ∈ mj_tb := mj_mem 516 (by decide +kernel) (by decide +kernel)
theorem se_Tr_readRing : Cond.selects (y_Tr_readRing).cls y_Tr_readRing y_Tr_readRing ∈ mj_tb := mj_mem 19 (by decide +kernel) (by decide +kernel)
theorem lk_Tr_84 : Cond.methodLink "IsomerList$TextReader" 84 y_Tr_readRing ∈ mj_tb ∧ Cond.instanceMethod y_Tr_readRing ∈ mj_tb ∧ Cond.selects (y_Tr_readRing).cls y_Tr_readRing y_Tr_readRing ∈ mj_tb := ⟨mj_mem 514 (by decide +kernel) (by decide +kernel), im_Tr_readRing, se_Tr_readRing⟩
theorem lk_Tr_111 : Cond.methodLink "IsomerList$TextReader" 111 y_Ml_between ∈ mj_tb ∧ Cond.instanceMethod y_Ml_between ∈ mj_tb ∧ Cond.selects (y_Ml_between).cls y_Ml_between y_Ml_between ∈ mj_tb := ⟨mj_mem 518 (by decide +kernel) (by decide +kernel), im_Ml_between, se_Ml_between⟩
theorem im_Tr_faultAtEnd : Cond.instanceMethod y_Tr_faultAtEnd ∈ mj_tb := mj_mem 521 (by decide +kernel) (by decide +kernel)
theorem se_Tr_faultAtEnd : Cond.selects (y_Tr_faultAtEnd).cls y_Tr_faultAtEnd y_Tr_faultAtEnd ∈ mj_tb := mj_mem 20 (by decide +kernel) (by decide +kernel)
theorem lk_Tr_60 : Cond.methodLink "IsomerList$TextReader" 60 y_Tr_faultAtEnd ∈ mj_tb ∧ Cond.instanceMethod y_Tr_faultAtEnd ∈ mj_tb ∧ Cond.selects (y_Tr_faultAtEnd).cls y_Tr_faultAtEnd y_Tr_faultAtEnd ∈ mj_tb := ⟨mj_mem 519 (by decide +kernel) (by decide +kernel), im_Tr_faultAtEnd, se_Tr_faultAtEnd⟩
theorem im_Ml_isOverbound : Cond.instanceMethod y_Ml_isOverbound ∈ mj_tb := mj_mem 524 (by decide +kernel) (by decide +kernel)
theorem se_Ml_isOverbound : Cond.selects (y_Ml_isOverbound).cls y_Ml_isOverbound y_Ml_isOverbound ∈ mj_tb := mj_mem 525 (by decide +kernel) (by decide +kernel)
theorem lk_Tr_114 : Cond.methodLink "IsomerList$TextReader" 114 y_Ml_isOverbound ∈ mj_tb ∧ Cond.instanceMethod y_Ml_isOverbound ∈ mj_tb ∧ Cond.selects (y_Ml_isOverbound).cls y_Ml_isOverbound y_Ml_isOverbound ∈ mj_tb := ⟨mj_mem 523 (by decide +kernel) (by decide +kernel), im_Ml_isOverbound, se_Ml_isOverbound⟩
theorem im_IL_findInList : Cond.instanceMethod y_IL_findInList ∈ mj_tb := mj_mem 529 (by decide +kernel) (by decide +kernel)
theorem se_IL_findInList : Cond.selects (y_IL_findInList).cls y_IL_findInList y_IL_findInList ∈ mj_tb := mj_mem 21 (by decide +kernel) (by decide +kernel)
theorem lk_IL_114 : Cond.methodLink "IsomerList" 114 y_IL_findInList ∈ mj_tb ∧ Cond.instanceMethod y_IL_findInList ∈ mj_tb ∧ Cond.selects (y_IL_findInList).cls y_IL_findInList y_IL_findInList ∈ mj_tb := ⟨mj_mem 527 (by decide +kernel) (by decide +kernel), im_IL_findInList, se_IL_findInList⟩
theorem im_Ca_hasFormulaOf : Cond.instanceMethod y_Ca_hasFormulaOf ∈ mj_tb := mj_mem 532 (by decide +kernel) (by decide +kernel)
theorem se_Ca_hasFormulaOf : Cond.selects (y_Ca_hasFormulaOf).cls y_Ca_hasFormulaOf y_Ca_hasFormulaOf ∈ mj_tb := mj_mem 533 (by decide +kernel) (by decide +kernel)
theorem lk_IL_177 : Cond.methodLink "IsomerList" 177 y_Ca_hasFormulaOf ∈ mj_tb ∧ Cond.instanceMethod y_Ca_hasFormulaOf ∈ mj_tb ∧ Cond.selects (y_Ca_hasFormulaOf).cls y_Ca_hasFormulaOf y_Ca_hasFormulaOf ∈ mj_tb := ⟨mj_mem 531 (by decide +kernel) (by decide +kernel), im_Ca_hasFormulaOf, se_Ca_hasFormulaOf⟩
theorem im_Ml_freeSum : Cond.instanceMethod y_Ml_freeSum ∈ mj_tb := mj_mem 536 (by decide +kernel) (by decide +kernel)
theorem se_Ml_freeSum : Cond.selects (y_Ml_freeSum).cls y_Ml_freeSum y_Ml_freeSum ∈ mj_tb := mj_mem 537 (by decide +kernel) (by decide +kernel)
theorem lk_Ca_31 : Cond.methodLink "IsomerList$Catalogue" 31 y_Ml_freeSum ∈ mj_tb ∧ Cond.instanceMethod y_Ml_freeSum ∈ mj_tb ∧ Cond.selects (y_Ml_freeSum).cls y_Ml_freeSum y_Ml_freeSum ∈ mj_tb := ⟨mj_mem 535 (by decide +kernel) (by decide +kernel), im_Ml_freeSum, se_Ml_freeSum⟩
theorem im_Nu_search : Cond.instanceMethod y_Nu_search ∈ mj_tb := mj_mem 543 (by decide +kernel) (by decide +kernel)
theorem se_Nu_search : Cond.selects (y_Nu_search).cls y_Nu_search y_Nu_search ∈ mj_tb := mj_mem 544 (by decide +kernel) (by decide +kernel)
theorem lk_IL_148 : Cond.methodLink "IsomerList" 148 y_Nu_search ∈ mj_tb ∧ Cond.instanceMethod y_Nu_search ∈ mj_tb ∧ Cond.selects (y_Nu_search).cls y_Nu_search y_Nu_search ∈ mj_tb := ⟨mj_mem 542 (by decide +kernel) (by decide +kernel), im_Nu_search, se_Nu_search⟩
theorem im_Nu_choose : Cond.instanceMethod y_Nu_choose ∈ mj_tb := mj_mem 548 (by decide +kernel) (by decide +kernel)
theorem se_Nu_choose : Cond.selects (y_Nu_choose).cls y_Nu_choose y_Nu_choose ∈ mj_tb := mj_mem 22 (by decide +kernel) (by decide +kernel)
theorem lk_Nu_39 : Cond.methodLink "IsomerList$Numbering" 39 y_Nu_choose ∈ mj_tb ∧ Cond.instanceMethod y_Nu_choose ∈ mj_tb ∧ Cond.selects (y_Nu_choose).cls y_Nu_choose y_Nu_choose ∈ mj_tb := ⟨mj_mem 546 (by decide +kernel) (by decide +kernel), im_Nu_choose, se_Nu_choose⟩
theorem im_Nu_noteCode : Cond.instanceMethod y_Nu_noteCode ∈ mj_tb := mj_mem 552 (by decide +kernel) (by decide +kernel)
theorem se_Nu_noteCode : Cond.selects (y_Nu_noteCode).cls y_Nu_noteCode y_Nu_noteCode ∈ mj_tb := mj_mem 23 (by decide +kernel) (by decide +kernel)
theorem lk_Nu_50 : Cond.methodLink "IsomerList$Numbering" 50 y_Nu_noteCode ∈ mj_tb ∧ Cond.instanceMethod y_Nu_noteCode ∈ mj_tb ∧ Cond.selects (y_Nu_noteCode).cls y_Nu_noteCode y_Nu_noteCode ∈ mj_tb := ⟨mj_mem 550 (by decide +kernel) (by decide +kernel), im_Nu_noteCode, se_Nu_noteCode⟩
theorem im_Ca_find : Cond.instanceMethod y_Ca_find ∈ mj_tb := mj_mem 555 (by decide +kernel) (by decide +kernel)
theorem se_Ca_find : Cond.selects (y_Ca_find).cls y_Ca_find y_Ca_find ∈ mj_tb := mj_mem 556 (by decide +kernel) (by decide +kernel)
theorem lk_IL_184 : Cond.methodLink "IsomerList" 184 y_Ca_find ∈ mj_tb ∧ Cond.instanceMethod y_Ca_find ∈ mj_tb ∧ Cond.selects (y_Ca_find).cls y_Ca_find y_Ca_find ∈ mj_tb := ⟨mj_mem 554 (by decide +kernel) (by decide +kernel), im_Ca_find, se_Ca_find⟩
theorem im_IL_place : Cond.instanceMethod y_IL_place ∈ mj_tb := mj_mem 559 (by decide +kernel) (by decide +kernel)
theorem se_IL_place : Cond.selects (y_IL_place).cls y_IL_place y_IL_place ∈ mj_tb := mj_mem 560 (by decide +kernel) (by decide +kernel)
theorem lk_Lw_61 : Cond.methodLink "IsomerListLaw" 61 y_IL_place ∈ mj_tb ∧ Cond.instanceMethod y_IL_place ∈ mj_tb ∧ Cond.selects (y_IL_place).cls y_IL_place y_IL_place ∈ mj_tb := ⟨mj_mem 558 (by decide +kernel) (by decide +kernel), im_IL_place, se_IL_place⟩
theorem im_IL_count : Cond.instanceMethod y_IL_count ∈ mj_tb := mj_mem 563 (by decide +kernel) (by decide +kernel)
theorem se_IL_count : Cond.selects (y_IL_count).cls y_IL_count y_IL_count ∈ mj_tb := mj_mem 564 (by decide +kernel) (by decide +kernel)
theorem lk_Lw_65 : Cond.methodLink "IsomerListLaw" 65 y_IL_count ∈ mj_tb ∧ Cond.instanceMethod y_IL_count ∈ mj_tb ∧ Cond.selects (y_IL_count).cls y_IL_count y_IL_count ∈ mj_tb := ⟨mj_mem 562 (by decide +kernel) (by decide +kernel), im_IL_count, se_IL_count⟩
theorem im_IL_character : Cond.instanceMethod y_IL_character ∈ mj_tb := mj_mem 567 (by decide +kernel) (by decide +kernel)
theorem se_IL_character : Cond.selects (y_IL_character).cls y_IL_character y_IL_character ∈ mj_tb := mj_mem 568 (by decide +kernel) (by decide +kernel)
theorem lk_Lw_87 : Cond.methodLink "IsomerListLaw" 87 y_IL_character ∈ mj_tb ∧ Cond.instanceMethod y_IL_character ∈ mj_tb ∧ Cond.selects (y_IL_character).cls y_IL_character y_IL_character ∈ mj_tb := ⟨mj_mem 566 (by decide +kernel) (by decide +kernel), im_IL_character, se_IL_character⟩
theorem lk_IL_159 : Cond.methodLink "IsomerList" 159 y_Ln_at ∈ mj_tb ∧ Cond.instanceMethod y_Ln_at ∈ mj_tb ∧ Cond.selects (y_Ln_at).cls y_Ln_at y_Ln_at ∈ mj_tb := ⟨mj_mem 570 (by decide +kernel) (by decide +kernel), im_Ln_at, se_Ln_at⟩
theorem im_IL_type : Cond.instanceMethod y_IL_type ∈ mj_tb := mj_mem 576 (by decide +kernel) (by decide +kernel)
theorem se_IL_type : Cond.selects (y_IL_type).cls y_IL_type y_IL_type ∈ mj_tb := mj_mem 577 (by decide +kernel) (by decide +kernel)
theorem lk_Lw_7 : Cond.methodLink "IsomerListLaw" 7 y_IL_type ∈ mj_tb ∧ Cond.instanceMethod y_IL_type ∈ mj_tb ∧ Cond.selects (y_IL_type).cls y_IL_type y_IL_type ∈ mj_tb := ⟨mj_mem 575 (by decide +kernel) (by decide +kernel), im_IL_type, se_IL_type⟩
theorem im_Ln_add : Cond.instanceMethod y_Ln_add ∈ mj_tb := mj_mem 642 (by decide +kernel) (by decide +kernel)
theorem se_Ln_add : Cond.selects (y_Ln_add).cls y_Ln_add y_Ln_add ∈ mj_tb := mj_mem 643 (by decide +kernel) (by decide +kernel)
theorem lk_IL_80 : Cond.methodLink "IsomerList" 80 y_Ln_add ∈ mj_tb ∧ Cond.instanceMethod y_Ln_add ∈ mj_tb ∧ Cond.selects (y_Ln_add).cls y_Ln_add y_Ln_add ∈ mj_tb := ⟨mj_mem 641 (by decide +kernel) (by decide +kernel), im_Ln_add, se_Ln_add⟩
theorem im_IL_element : Cond.instanceMethod y_IL_element ∈ mj_tb := mj_mem 650 (by decide +kernel) (by decide +kernel)
theorem se_IL_element : Cond.selects (y_IL_element).cls y_IL_element y_IL_element ∈ mj_tb := mj_mem 651 (by decide +kernel) (by decide +kernel)
theorem lk_Lw_15 : Cond.methodLink "IsomerListLaw" 15 y_IL_element ∈ mj_tb ∧ Cond.instanceMethod y_IL_element ∈ mj_tb ∧ Cond.selects (y_IL_element).cls y_IL_element y_IL_element ∈ mj_tb := ⟨mj_mem 649 (by decide +kernel) (by decide +kernel), im_IL_element, se_IL_element⟩
theorem im_IL_checkAtom : Cond.instanceMethod y_IL_checkAtom ∈ mj_tb := mj_mem 655 (by decide +kernel) (by decide +kernel)
theorem se_IL_checkAtom : Cond.selects (y_IL_checkAtom).cls y_IL_checkAtom y_IL_checkAtom ∈ mj_tb := mj_mem 25 (by decide +kernel) (by decide +kernel)
theorem lk_IL_124 : Cond.methodLink "IsomerList" 124 y_IL_checkAtom ∈ mj_tb ∧ Cond.instanceMethod y_IL_checkAtom ∈ mj_tb ∧ Cond.selects (y_IL_checkAtom).cls y_IL_checkAtom y_IL_checkAtom ∈ mj_tb := ⟨mj_mem 653 (by decide +kernel) (by decide +kernel), im_IL_checkAtom, se_IL_checkAtom⟩
theorem im_IL_bond : Cond.instanceMethod y_IL_bond ∈ mj_tb := mj_mem 676 (by decide +kernel) (by decide +kernel)
theorem se_IL_bond : Cond.selects (y_IL_bond).cls y_IL_bond y_IL_bond ∈ mj_tb := mj_mem 677 (by decide +kernel) (by decide +kernel)
theorem lk_Lw_21 : Cond.methodLink "IsomerListLaw" 21 y_IL_bond ∈ mj_tb ∧ Cond.instanceMethod y_IL_bond ∈ mj_tb ∧ Cond.selects (y_IL_bond).cls y_IL_bond y_IL_bond ∈ mj_tb := ⟨mj_mem 675 (by decide +kernel) (by decide +kernel), im_IL_bond, se_IL_bond⟩
theorem im_IL_checkStructure : Cond.instanceMethod y_IL_checkStructure ∈ mj_tb := mj_mem 681 (by decide +kernel) (by decide +kernel)
theorem se_IL_checkStructure : Cond.selects (y_IL_checkStructure).cls y_IL_checkStructure y_IL_checkStructure ∈ mj_tb := mj_mem 26 (by decide +kernel) (by decide +kernel)
theorem lk_IL_131 : Cond.methodLink "IsomerList" 131 y_IL_checkStructure ∈ mj_tb ∧ Cond.instanceMethod y_IL_checkStructure ∈ mj_tb ∧ Cond.selects (y_IL_checkStructure).cls y_IL_checkStructure y_IL_checkStructure ∈ mj_tb := ⟨mj_mem 679 (by decide +kernel) (by decide +kernel), im_IL_checkStructure, se_IL_checkStructure⟩
theorem im_Ml_build : Cond.instanceMethod y_Ml_build ∈ mj_tb := mj_mem 684 (by decide +kernel) (by decide +kernel)
theorem se_Ml_build : Cond.selects (y_Ml_build).cls y_Ml_build y_Ml_build ∈ mj_tb := mj_mem 685 (by decide +kernel) (by decide +kernel)
theorem lk_IL_134 : Cond.methodLink "IsomerList" 134 y_Ml_build ∈ mj_tb ∧ Cond.instanceMethod y_Ml_build ∈ mj_tb ∧ Cond.selects (y_Ml_build).cls y_Ml_build y_Ml_build ∈ mj_tb := ⟨mj_mem 683 (by decide +kernel) (by decide +kernel), im_Ml_build, se_Ml_build⟩
theorem lk_Ml_45 : Cond.methodLink "IsomerList$Molecule" 45 y_Ml_addAtomsOf ∈ mj_tb ∧ Cond.instanceMethod y_Ml_addAtomsOf ∈ mj_tb ∧ Cond.selects (y_Ml_addAtomsOf).cls y_Ml_addAtomsOf y_Ml_addAtomsOf ∈ mj_tb := ⟨mj_mem 687 (by decide +kernel) (by decide +kernel), im_Ml_addAtomsOf, se_Ml_addAtomsOf⟩
theorem lk_Ml_56 : Cond.methodLink "IsomerList$Molecule" 56 y_Ml_bind ∈ mj_tb ∧ Cond.instanceMethod y_Ml_bind ∈ mj_tb ∧ Cond.selects (y_Ml_bind).cls y_Ml_bind y_Ml_bind ∈ mj_tb := ⟨mj_mem 689 (by decide +kernel) (by decide +kernel), im_Ml_bind, se_Ml_bind⟩
theorem lk_IL_138 : Cond.methodLink "IsomerList" 138 y_Ml_between ∈ mj_tb ∧ Cond.instanceMethod y_Ml_between ∈ mj_tb ∧ Cond.selects (y_Ml_between).cls y_Ml_between y_Ml_between ∈ mj_tb := ⟨mj_mem 690 (by decide +kernel) (by decide +kernel), im_Ml_between, se_Ml_between⟩
theorem im_IL_hydrogens : Cond.instanceMethod y_IL_hydrogens ∈ mj_tb := mj_mem 695 (by decide +kernel) (by decide +kernel)
theorem se_IL_hydrogens : Cond.selects (y_IL_hydrogens).cls y_IL_hydrogens y_IL_hydrogens ∈ mj_tb := mj_mem 696 (by decide +kernel) (by decide +kernel)
theorem lk_Lw_25 : Cond.methodLink "IsomerListLaw" 25 y_IL_hydrogens ∈ mj_tb ∧ Cond.instanceMethod y_IL_hydrogens ∈ mj_tb ∧ Cond.selects (y_IL_hydrogens).cls y_IL_hydrogens y_IL_hydrogens ∈ mj_tb := ⟨mj_mem 694 (by decide +kernel) (by decide +kernel), im_IL_hydrogens, se_IL_hydrogens⟩
theorem im_IL_ways : Cond.instanceMethod y_IL_ways ∈ mj_tb := mj_mem 702 (by decide +kernel) (by decide +kernel)
theorem se_IL_ways : Cond.selects (y_IL_ways).cls y_IL_ways y_IL_ways ∈ mj_tb := mj_mem 703 (by decide +kernel) (by decide +kernel)
theorem lk_Lw_29 : Cond.methodLink "IsomerListLaw" 29 y_IL_ways ∈ mj_tb ∧ Cond.instanceMethod y_IL_ways ∈ mj_tb ∧ Cond.selects (y_IL_ways).cls y_IL_ways y_IL_ways ∈ mj_tb := ⟨mj_mem 701 (by decide +kernel) (by decide +kernel), im_IL_ways, se_IL_ways⟩
theorem im_IL_write : Cond.instanceMethod y_IL_write ∈ mj_tb := mj_mem 709 (by decide +kernel) (by decide +kernel)
theorem se_IL_write : Cond.selects (y_IL_write).cls y_IL_write y_IL_write ∈ mj_tb := mj_mem 710 (by decide +kernel) (by decide +kernel)
theorem lk_Lw_32 : Cond.methodLink "IsomerListLaw" 32 y_IL_write ∈ mj_tb ∧ Cond.instanceMethod y_IL_write ∈ mj_tb ∧ Cond.selects (y_IL_write).cls y_IL_write y_IL_write ∈ mj_tb := ⟨mj_mem 708 (by decide +kernel) (by decide +kernel), im_IL_write, se_IL_write⟩
theorem im_Tw_writeTo : Cond.instanceMethod y_Tw_writeTo ∈ mj_tb := mj_mem 713 (by decide +kernel) (by decide +kernel)
theorem se_Tw_writeTo : Cond.selects (y_Tw_writeTo).cls y_Tw_writeTo y_Tw_writeTo ∈ mj_tb := mj_mem 714 (by decide +kernel) (by decide +kernel)
theorem lk_IL_155 : Cond.methodLink "IsomerList" 155 y_Tw_writeTo ∈ mj_tb ∧ Cond.instanceMethod y_Tw_writeTo ∈ mj_tb ∧ Cond.selects (y_Tw_writeTo).cls y_Tw_writeTo y_Tw_writeTo ∈ mj_tb := ⟨mj_mem 712 (by decide +kernel) (by decide +kernel), im_Tw_writeTo, se_Tw_writeTo⟩
theorem lk_Tw_33 : Cond.methodLink "IsomerList$TextWriter" 33 y_Ar_fill ∈ mj_tb ∧ Cond.static y_Ar_fill ∈ mj_tb := ⟨mj_mem 716 (by decide +kernel) (by decide +kernel), st_Ar_fill⟩
theorem im_Tw_goThrough : Cond.instanceMethod y_Tw_goThrough ∈ mj_tb := mj_mem 719 (by decide +kernel) (by decide +kernel)
theorem se_Tw_goThrough : Cond.selects (y_Tw_goThrough).cls y_Tw_goThrough y_Tw_goThrough ∈ mj_tb := mj_mem 27 (by decide +kernel) (by decide +kernel)
theorem lk_Tw_39 : Cond.methodLink "IsomerList$TextWriter" 39 y_Tw_goThrough ∈ mj_tb ∧ Cond.instanceMethod y_Tw_goThrough ∈ mj_tb ∧ Cond.selects (y_Tw_goThrough).cls y_Tw_goThrough y_Tw_goThrough ∈ mj_tb := ⟨mj_mem 717 (by decide +kernel) (by decide +kernel), im_Tw_goThrough, se_Tw_goThrough⟩
theorem lk_Tw_57 : Cond.methodLink "IsomerList$TextWriter" 57 y_Ml_between ∈ mj_tb ∧ Cond.instanceMethod y_Ml_between ∈ mj_tb ∧ Cond.selects (y_Ml_between).cls y_Ml_between y_Ml_between ∈ mj_tb := ⟨mj_mem 721 (by decide +kernel) (by decide +kernel), im_Ml_between, se_Ml_between⟩
theorem im_Tw_meetRing : Cond.instanceMethod y_Tw_meetRing ∈ mj_tb := mj_mem 724 (by decide +kernel) (by decide +kernel)
theorem se_Tw_meetRing : Cond.selects (y_Tw_meetRing).cls y_Tw_meetRing y_Tw_meetRing ∈ mj_tb := mj_mem 28 (by decide +kernel) (by decide +kernel)
theorem lk_Tw_61 : Cond.methodLink "IsomerList$TextWriter" 61 y_Tw_meetRing ∈ mj_tb ∧ Cond.instanceMethod y_Tw_meetRing ∈ mj_tb ∧ Cond.selects (y_Tw_meetRing).cls y_Tw_meetRing y_Tw_meetRing ∈ mj_tb := ⟨mj_mem 722 (by decide +kernel) (by decide +kernel), im_Tw_meetRing, se_Tw_meetRing⟩
theorem lk_Tw_43 : Cond.methodLink "IsomerList$TextWriter" 43 y_Ln_clear ∈ mj_tb ∧ Cond.instanceMethod y_Ln_clear ∈ mj_tb ∧ Cond.selects (y_Ln_clear).cls y_Ln_clear y_Ln_clear ∈ mj_tb := ⟨mj_mem 726 (by decide +kernel) (by decide +kernel), im_Ln_clear, se_Ln_clear⟩
theorem im_Tw_putAtom : Cond.instanceMethod y_Tw_putAtom ∈ mj_tb := mj_mem 729 (by decide +kernel) (by decide +kernel)
theorem se_Tw_putAtom : Cond.selects (y_Tw_putAtom).cls y_Tw_putAtom y_Tw_putAtom ∈ mj_tb := mj_mem 29 (by decide +kernel) (by decide +kernel)
theorem lk_Tw_48 : Cond.methodLink "IsomerList$TextWriter" 48 y_Tw_putAtom ∈ mj_tb ∧ Cond.instanceMethod y_Tw_putAtom ∈ mj_tb ∧ Cond.selects (y_Tw_putAtom).cls y_Tw_putAtom y_Tw_putAtom ∈ mj_tb := ⟨mj_mem 727 (by decide +kernel) (by decide +kernel), im_Tw_putAtom, se_Tw_putAtom⟩
theorem im_Ln_addElement : Cond.instanceMethod y_Ln_addElement ∈ mj_tb := mj_mem 732 (by decide +kernel) (by decide +kernel)
theorem se_Ln_addElement : Cond.selects (y_Ln_addElement).cls y_Ln_addElement y_Ln_addElement ∈ mj_tb := mj_mem 733 (by decide +kernel) (by decide +kernel)
theorem lk_Tw_67 : Cond.methodLink "IsomerList$TextWriter" 67 y_Ln_addElement ∈ mj_tb ∧ Cond.instanceMethod y_Ln_addElement ∈ mj_tb ∧ Cond.selects (y_Ln_addElement).cls y_Ln_addElement y_Ln_addElement ∈ mj_tb := ⟨mj_mem 731 (by decide +kernel) (by decide +kernel), im_Ln_addElement, se_Ln_addElement⟩
theorem lk_Ln_29 : Cond.methodLink "IsomerList$Line" 29 y_Ln_add ∈ mj_tb ∧ Cond.instanceMethod y_Ln_add ∈ mj_tb ∧ Cond.selects (y_Ln_add).cls y_Ln_add y_Ln_add ∈ mj_tb := ⟨mj_mem 735 (by decide +kernel) (by decide +kernel), im_Ln_add, se_Ln_add⟩
theorem im_Tw_putRings : Cond.instanceMethod y_Tw_putRings ∈ mj_tb := mj_mem 738 (by decide +kernel) (by decide +kernel)
theorem se_Tw_putRings : Cond.selects (y_Tw_putRings).cls y_Tw_putRings y_Tw_putRings ∈ mj_tb := mj_mem 30 (by decide +kernel) (by decide +kernel)
theorem lk_Tw_70 : Cond.methodLink "IsomerList$TextWriter" 70 y_Tw_putRings ∈ mj_tb ∧ Cond.instanceMethod y_Tw_putRings ∈ mj_tb ∧ Cond.selects (y_Tw_putRings).cls y_Tw_putRings y_Tw_putRings ∈ mj_tb := ⟨mj_mem 736 (by decide +kernel) (by decide +kernel), im_Tw_putRings, se_Tw_putRings⟩
theorem im_Ln_addBond : Cond.instanceMethod y_Ln_addBond ∈ mj_tb := mj_mem 741 (by decide +kernel) (by decide +kernel)
theorem se_Ln_addBond : Cond.selects (y_Ln_addBond).cls y_Ln_addBond y_Ln_addBond ∈ mj_tb := mj_mem 742 (by decide +kernel) (by decide +kernel)
theorem lk_Tw_84 : Cond.methodLink "IsomerList$TextWriter" 84 y_Ln_addBond ∈ mj_tb ∧ Cond.instanceMethod y_Ln_addBond ∈ mj_tb ∧ Cond.selects (y_Ln_addBond).cls y_Ln_addBond y_Ln_addBond ∈ mj_tb := ⟨mj_mem 740 (by decide +kernel) (by decide +kernel), im_Ln_addBond, se_Ln_addBond⟩
theorem lk_Tw_77 : Cond.methodLink "IsomerList$TextWriter" 77 y_Ln_add ∈ mj_tb ∧ Cond.instanceMethod y_Ln_add ∈ mj_tb ∧ Cond.selects (y_Ln_add).cls y_Ln_add y_Ln_add ∈ mj_tb := ⟨mj_mem 744 (by decide +kernel) (by decide +kernel), im_Ln_add, se_Ln_add⟩
theorem im_Tw_lastFurtherOn : Cond.instanceMethod y_Tw_lastFurtherOn ∈ mj_tb := mj_mem 747 (by decide +kernel) (by decide +kernel)
theorem se_Tw_lastFurtherOn : Cond.selects (y_Tw_lastFurtherOn).cls y_Tw_lastFurtherOn y_Tw_lastFurtherOn ∈ mj_tb := mj_mem 31 (by decide +kernel) (by decide +kernel)
theorem lk_Tw_73 : Cond.methodLink "IsomerList$TextWriter" 73 y_Tw_lastFurtherOn ∈ mj_tb ∧ Cond.instanceMethod y_Tw_lastFurtherOn ∈ mj_tb ∧ Cond.selects (y_Tw_lastFurtherOn).cls y_Tw_lastFurtherOn y_Tw_lastFurtherOn ∈ mj_tb := ⟨mj_mem 745 (by decide +kernel) (by decide +kernel), im_Tw_lastFurtherOn, se_Tw_lastFurtherOn⟩
theorem im_Tw_putBound : Cond.instanceMethod y_Tw_putBound ∈ mj_tb := mj_mem 751 (by decide +kernel) (by decide +kernel)
theorem se_Tw_putBound : Cond.selects (y_Tw_putBound).cls y_Tw_putBound y_Tw_putBound ∈ mj_tb := mj_mem 32 (by decide +kernel) (by decide +kernel)
theorem lk_Tw_81 : Cond.methodLink "IsomerList$TextWriter" 81 y_Tw_putBound ∈ mj_tb ∧ Cond.instanceMethod y_Tw_putBound ∈ mj_tb ∧ Cond.selects (y_Tw_putBound).cls y_Tw_putBound y_Tw_putBound ∈ mj_tb := ⟨mj_mem 749 (by decide +kernel) (by decide +kernel), im_Tw_putBound, se_Tw_putBound⟩
theorem im_Mo_init : Cond.instanceMethod y_Mo_init ∈ mj_tb := mj_mem 756 (by decide +kernel) (by decide +kernel)
theorem lk_Lw_38 : Cond.methodLink "IsomerListLaw" 38 y_Mo_init ∈ mj_tb ∧ Cond.instanceMethod y_Mo_init ∈ mj_tb ∧ (y_Mo_init).name = "<init>" := ⟨mj_mem 755 (by decide +kernel) (by decide +kernel), im_Mo_init, rfl⟩
theorem im_Mo_thrown : Cond.instanceMethod y_Mo_thrown ∈ mj_tb := mj_mem 860 (by decide +kernel) (by decide +kernel)
theorem se_Mo_thrown : Cond.selects (y_Mo_thrown).cls y_Mo_thrown y_Mo_thrown ∈ mj_tb := mj_mem 861 (by decide +kernel) (by decide +kernel)
theorem lk_Lw_45 : Cond.methodLink "IsomerListLaw" 45 y_Mo_thrown ∈ mj_tb ∧ Cond.instanceMethod y_Mo_thrown ∈ mj_tb ∧ Cond.selects (y_Mo_thrown).cls y_Mo_thrown y_Mo_thrown ∈ mj_tb := ⟨mj_mem 859 (by decide +kernel) (by decide +kernel), im_Mo_thrown, se_Mo_thrown⟩
theorem im_Mo_type : Cond.instanceMethod y_Mo_type ∈ mj_tb := mj_mem 864 (by decide +kernel) (by decide +kernel)
theorem se_Mo_type : Cond.selects (y_Mo_type).cls y_Mo_type y_Mo_type ∈ mj_tb := mj_mem 865 (by decide +kernel) (by decide +kernel)
theorem lk_Lw_44 : Cond.methodLink "IsomerListLaw" 44 y_Mo_type ∈ mj_tb ∧ Cond.instanceMethod y_Mo_type ∈ mj_tb ∧ Cond.selects (y_Mo_type).cls y_Mo_type y_Mo_type ∈ mj_tb := ⟨mj_mem 863 (by decide +kernel) (by decide +kernel), im_Mo_type, se_Mo_type⟩
theorem im_Mo_refused : Cond.instanceMethod y_Mo_refused ∈ mj_tb := mj_mem 869 (by decide +kernel) (by decide +kernel)
theorem se_Mo_refused : Cond.selects (y_Mo_refused).cls y_Mo_refused y_Mo_refused ∈ mj_tb := mj_mem 33 (by decide +kernel) (by decide +kernel)
theorem lk_Mo_91 : Cond.methodLink "IsomerListModel" 91 y_Mo_refused ∈ mj_tb ∧ Cond.instanceMethod y_Mo_refused ∈ mj_tb ∧ Cond.selects (y_Mo_refused).cls y_Mo_refused y_Mo_refused ∈ mj_tb := ⟨mj_mem 867 (by decide +kernel) (by decide +kernel), im_Mo_refused, se_Mo_refused⟩
theorem im_Mo_erase : Cond.instanceMethod y_Mo_erase ∈ mj_tb := mj_mem 872 (by decide +kernel) (by decide +kernel)
theorem se_Mo_erase : Cond.selects (y_Mo_erase).cls y_Mo_erase y_Mo_erase ∈ mj_tb := mj_mem 873 (by decide +kernel) (by decide +kernel)
theorem lk_Lw_52 : Cond.methodLink "IsomerListLaw" 52 y_Mo_erase ∈ mj_tb ∧ Cond.instanceMethod y_Mo_erase ∈ mj_tb ∧ Cond.selects (y_Mo_erase).cls y_Mo_erase y_Mo_erase ∈ mj_tb := ⟨mj_mem 871 (by decide +kernel) (by decide +kernel), im_Mo_erase, se_Mo_erase⟩
theorem im_Mo_character : Cond.instanceMethod y_Mo_character ∈ mj_tb := mj_mem 876 (by decide +kernel) (by decide +kernel)
theorem se_Mo_character : Cond.selects (y_Mo_character).cls y_Mo_character y_Mo_character ∈ mj_tb := mj_mem 877 (by decide +kernel) (by decide +kernel)
theorem lk_Lw_91 : Cond.methodLink "IsomerListLaw" 91 y_Mo_character ∈ mj_tb ∧ Cond.instanceMethod y_Mo_character ∈ mj_tb ∧ Cond.selects (y_Mo_character).cls y_Mo_character y_Mo_character ∈ mj_tb := ⟨mj_mem 875 (by decide +kernel) (by decide +kernel), im_Mo_character, se_Mo_character⟩
theorem im_Mo_formula : Cond.instanceMethod y_Mo_formula ∈ mj_tb := mj_mem 880 (by decide +kernel) (by decide +kernel)
theorem se_Mo_formula : Cond.selects (y_Mo_formula).cls y_Mo_formula y_Mo_formula ∈ mj_tb := mj_mem 881 (by decide +kernel) (by decide +kernel)
theorem lk_Lw_56 : Cond.methodLink "IsomerListLaw" 56 y_Mo_formula ∈ mj_tb ∧ Cond.instanceMethod y_Mo_formula ∈ mj_tb ∧ Cond.selects (y_Mo_formula).cls y_Mo_formula y_Mo_formula ∈ mj_tb := ⟨mj_mem 879 (by decide +kernel) (by decide +kernel), im_Mo_formula, se_Mo_formula⟩
theorem im_Mo_elementAt : Cond.instanceMethod y_Mo_elementAt ∈ mj_tb := mj_mem 885 (by decide +kernel) (by decide +kernel)
theorem se_Mo_elementAt : Cond.selects (y_Mo_elementAt).cls y_Mo_elementAt y_Mo_elementAt ∈ mj_tb := mj_mem 34 (by decide +kernel) (by decide +kernel)
theorem lk_Mo_99 : Cond.methodLink "IsomerListModel" 99 y_Mo_elementAt ∈ mj_tb ∧ Cond.instanceMethod y_Mo_elementAt ∈ mj_tb ∧ Cond.selects (y_Mo_elementAt).cls y_Mo_elementAt y_Mo_elementAt ∈ mj_tb := ⟨mj_mem 883 (by decide +kernel) (by decide +kernel), im_Mo_elementAt, se_Mo_elementAt⟩
theorem im_Mo_at : Cond.instanceMethod y_Mo_at ∈ mj_tb := mj_mem 889 (by decide +kernel) (by decide +kernel)
theorem se_Mo_at : Cond.selects (y_Mo_at).cls y_Mo_at y_Mo_at ∈ mj_tb := mj_mem 35 (by decide +kernel) (by decide +kernel)
theorem lk_Mo_95 : Cond.methodLink "IsomerListModel" 95 y_Mo_at ∈ mj_tb ∧ Cond.instanceMethod y_Mo_at ∈ mj_tb ∧ Cond.selects (y_Mo_at).cls y_Mo_at y_Mo_at ∈ mj_tb := ⟨mj_mem 887 (by decide +kernel) (by decide +kernel), im_Mo_at, se_Mo_at⟩
theorem im_Mo_fault : Cond.instanceMethod y_Mo_fault ∈ mj_tb := mj_mem 893 (by decide +kernel) (by decide +kernel)
theorem se_Mo_fault : Cond.selects (y_Mo_fault).cls y_Mo_fault y_Mo_fault ∈ mj_tb := mj_mem 36 (by decide +kernel) (by decide +kernel)
theorem lk_Mo_103 : Cond.methodLink "IsomerListModel" 103 y_Mo_fault ∈ mj_tb ∧ Cond.instanceMethod y_Mo_fault ∈ mj_tb ∧ Cond.selects (y_Mo_fault).cls y_Mo_fault y_Mo_fault ∈ mj_tb := ⟨mj_mem 891 (by decide +kernel) (by decide +kernel), im_Mo_fault, se_Mo_fault⟩
theorem st_Mo_signSize : Cond.static y_Mo_signSize ∈ mj_tb := mj_mem 896 (by decide +kernel) (by decide +kernel)
theorem lk_Mo_107 : Cond.methodLink "IsomerListModel" 107 y_Mo_signSize ∈ mj_tb ∧ Cond.static y_Mo_signSize ∈ mj_tb := ⟨mj_mem 895 (by decide +kernel) (by decide +kernel), st_Mo_signSize⟩
theorem st_Mo_isDigit : Cond.static y_Mo_isDigit ∈ mj_tb := mj_mem 899 (by decide +kernel) (by decide +kernel)
theorem lk_Mo_110 : Cond.methodLink "IsomerListModel" 110 y_Mo_isDigit ∈ mj_tb ∧ Cond.static y_Mo_isDigit ∈ mj_tb := ⟨mj_mem 898 (by decide +kernel) (by decide +kernel), st_Mo_isDigit⟩
theorem st_Mo_valence : Cond.static y_Mo_valence ∈ mj_tb := mj_mem 902 (by decide +kernel) (by decide +kernel)
theorem lk_Mo_114 : Cond.methodLink "IsomerListModel" 114 y_Mo_valence ∈ mj_tb ∧ Cond.static y_Mo_valence ∈ mj_tb := ⟨mj_mem 901 (by decide +kernel) (by decide +kernel), st_Mo_valence⟩
theorem im_Mo_search : Cond.instanceMethod y_Mo_search ∈ mj_tb := mj_mem 906 (by decide +kernel) (by decide +kernel)
theorem se_Mo_search : Cond.selects (y_Mo_search).cls y_Mo_search y_Mo_search ∈ mj_tb := mj_mem 37 (by decide +kernel) (by decide +kernel)
theorem lk_Mo_126 : Cond.methodLink "IsomerListModel" 126 y_Mo_search ∈ mj_tb ∧ Cond.instanceMethod y_Mo_search ∈ mj_tb ∧ Cond.selects (y_Mo_search).cls y_Mo_search y_Mo_search ∈ mj_tb := ⟨mj_mem 904 (by decide +kernel) (by decide +kernel), im_Mo_search, se_Mo_search⟩
theorem im_Mo_keep : Cond.instanceMethod y_Mo_keep ∈ mj_tb := mj_mem 910 (by decide +kernel) (by decide +kernel)
theorem se_Mo_keep : Cond.selects (y_Mo_keep).cls y_Mo_keep y_Mo_keep ∈ mj_tb := mj_mem 38 (by decide +kernel) (by decide +kernel)
theorem lk_Mo_144 : Cond.methodLink "IsomerListModel" 144 y_Mo_keep ∈ mj_tb ∧ Cond.instanceMethod y_Mo_keep ∈ mj_tb ∧ Cond.selects (y_Mo_keep).cls y_Mo_keep y_Mo_keep ∈ mj_tb := ⟨mj_mem 908 (by decide +kernel) (by decide +kernel), im_Mo_keep, se_Mo_keep⟩
theorem im_Mo_isOne : Cond.instanceMethod y_Mo_isOne ∈ mj_tb := mj_mem 914 (by decide +kernel) (by decide +kernel)
theorem se_Mo_isOne : Cond.selects (y_Mo_isOne).cls y_Mo_isOne y_Mo_isOne ∈ mj_tb := mj_mem 39 (by decide +kernel) (by decide +kernel)
theorem lk_Mo_158 : Cond.methodLink "IsomerListModel" 158 y_Mo_isOne ∈ mj_tb ∧ Cond.instanceMethod y_Mo_isOne ∈ mj_tb ∧ Cond.selects (y_Mo_isOne).cls y_Mo_isOne y_Mo_isOne ∈ mj_tb := ⟨mj_mem 912 (by decide +kernel) (by decide +kernel), im_Mo_isOne, se_Mo_isOne⟩
theorem st_Mo_upper : Cond.static y_Mo_upper ∈ mj_tb := mj_mem 917 (by decide +kernel) (by decide +kernel)
theorem lk_Mo_138 : Cond.methodLink "IsomerListModel" 138 y_Mo_upper ∈ mj_tb ∧ Cond.static y_Mo_upper ∈ mj_tb := ⟨mj_mem 916 (by decide +kernel) (by decide +kernel), st_Mo_upper⟩
theorem st_Mo_lower : Cond.static y_Mo_lower ∈ mj_tb := mj_mem 920 (by decide +kernel) (by decide +kernel)
theorem lk_Mo_141 : Cond.methodLink "IsomerListModel" 141 y_Mo_lower ∈ mj_tb ∧ Cond.static y_Mo_lower ∈ mj_tb := ⟨mj_mem 919 (by decide +kernel) (by decide +kernel), st_Mo_lower⟩
theorem im_Mo_change : Cond.instanceMethod y_Mo_change ∈ mj_tb := mj_mem 924 (by decide +kernel) (by decide +kernel)
theorem se_Mo_change : Cond.selects (y_Mo_change).cls y_Mo_change y_Mo_change ∈ mj_tb := mj_mem 40 (by decide +kernel) (by decide +kernel)
theorem lk_Mo_148 : Cond.methodLink "IsomerListModel" 148 y_Mo_change ∈ mj_tb ∧ Cond.instanceMethod y_Mo_change ∈ mj_tb ∧ Cond.selects (y_Mo_change).cls y_Mo_change y_Mo_change ∈ mj_tb := ⟨mj_mem 922 (by decide +kernel) (by decide +kernel), im_Mo_change, se_Mo_change⟩
theorem st_Mo_least : Cond.static y_Mo_least ∈ mj_tb := mj_mem 927 (by decide +kernel) (by decide +kernel)
theorem lk_Mo_152 : Cond.methodLink "IsomerListModel" 152 y_Mo_least ∈ mj_tb ∧ Cond.static y_Mo_least ∈ mj_tb := ⟨mj_mem 926 (by decide +kernel) (by decide +kernel), st_Mo_least⟩
theorem im_Mo_numberings : Cond.instanceMethod y_Mo_numberings ∈ mj_tb := mj_mem 931 (by decide +kernel) (by decide +kernel)
theorem se_Mo_numberings : Cond.selects (y_Mo_numberings).cls y_Mo_numberings y_Mo_numberings ∈ mj_tb := mj_mem 41 (by decide +kernel) (by decide +kernel)
theorem lk_Mo_155 : Cond.methodLink "IsomerListModel" 155 y_Mo_numberings ∈ mj_tb ∧ Cond.instanceMethod y_Mo_numberings ∈ mj_tb ∧ Cond.selects (y_Mo_numberings).cls y_Mo_numberings y_Mo_numberings ∈ mj_tb := ⟨mj_mem 929 (by decide +kernel) (by decide +kernel), im_Mo_numberings, se_Mo_numberings⟩
theorem im_Mo_row : Cond.instanceMethod y_Mo_row ∈ mj_tb := mj_mem 935 (by decide +kernel) (by decide +kernel)
theorem se_Mo_row : Cond.selects (y_Mo_row).cls y_Mo_row y_Mo_row ∈ mj_tb := mj_mem 42 (by decide +kernel) (by decide +kernel)
theorem lk_Mo_161 : Cond.methodLink "IsomerListModel" 161 y_Mo_row ∈ mj_tb ∧ Cond.instanceMethod y_Mo_row ∈ mj_tb ∧ Cond.selects (y_Mo_row).cls y_Mo_row y_Mo_row ∈ mj_tb := ⟨mj_mem 933 (by decide +kernel) (by decide +kernel), im_Mo_row, se_Mo_row⟩
theorem st_Mo_pair : Cond.static y_Mo_pair ∈ mj_tb := mj_mem 938 (by decide +kernel) (by decide +kernel)
theorem lk_Mo_164 : Cond.methodLink "IsomerListModel" 164 y_Mo_pair ∈ mj_tb ∧ Cond.static y_Mo_pair ∈ mj_tb := ⟨mj_mem 937 (by decide +kernel) (by decide +kernel), st_Mo_pair⟩
theorem im_Mo_read : Cond.instanceMethod y_Mo_read ∈ mj_tb := mj_mem 941 (by decide +kernel) (by decide +kernel)
theorem se_Mo_read : Cond.selects (y_Mo_read).cls y_Mo_read y_Mo_read ∈ mj_tb := mj_mem 942 (by decide +kernel) (by decide +kernel)
theorem lk_Lw_60 : Cond.methodLink "IsomerListLaw" 60 y_Mo_read ∈ mj_tb ∧ Cond.instanceMethod y_Mo_read ∈ mj_tb ∧ Cond.selects (y_Mo_read).cls y_Mo_read y_Mo_read ∈ mj_tb := ⟨mj_mem 940 (by decide +kernel) (by decide +kernel), im_Mo_read, se_Mo_read⟩
theorem im_Mo_parse : Cond.instanceMethod y_Mo_parse ∈ mj_tb := mj_mem 946 (by decide +kernel) (by decide +kernel)
theorem se_Mo_parse : Cond.selects (y_Mo_parse).cls y_Mo_parse y_Mo_parse ∈ mj_tb := mj_mem 43 (by decide +kernel) (by decide +kernel)
theorem lk_Mo_170 : Cond.methodLink "IsomerListModel" 170 y_Mo_parse ∈ mj_tb ∧ Cond.instanceMethod y_Mo_parse ∈ mj_tb ∧ Cond.selects (y_Mo_parse).cls y_Mo_parse y_Mo_parse ∈ mj_tb := ⟨mj_mem 944 (by decide +kernel) (by decide +kernel), im_Mo_parse, se_Mo_parse⟩
theorem im_Mo_atEnd : Cond.instanceMethod y_Mo_atEnd ∈ mj_tb := mj_mem 950 (by decide +kernel) (by decide +kernel)
theorem se_Mo_atEnd : Cond.selects (y_Mo_atEnd).cls y_Mo_atEnd y_Mo_atEnd ∈ mj_tb := mj_mem 44 (by decide +kernel) (by decide +kernel)
theorem lk_Mo_177 : Cond.methodLink "IsomerListModel" 177 y_Mo_atEnd ∈ mj_tb ∧ Cond.instanceMethod y_Mo_atEnd ∈ mj_tb ∧ Cond.selects (y_Mo_atEnd).cls y_Mo_atEnd y_Mo_atEnd ∈ mj_tb := ⟨mj_mem 948 (by decide +kernel) (by decide +kernel), im_Mo_atEnd, se_Mo_atEnd⟩
theorem im_Mo_sumOf : Cond.instanceMethod y_Mo_sumOf ∈ mj_tb := mj_mem 954 (by decide +kernel) (by decide +kernel)
theorem se_Mo_sumOf : Cond.selects (y_Mo_sumOf).cls y_Mo_sumOf y_Mo_sumOf ∈ mj_tb := mj_mem 45 (by decide +kernel) (by decide +kernel)
theorem lk_Mo_180 : Cond.methodLink "IsomerListModel" 180 y_Mo_sumOf ∈ mj_tb ∧ Cond.instanceMethod y_Mo_sumOf ∈ mj_tb ∧ Cond.selects (y_Mo_sumOf).cls y_Mo_sumOf y_Mo_sumOf ∈ mj_tb := ⟨mj_mem 952 (by decide +kernel) (by decide +kernel), im_Mo_sumOf, se_Mo_sumOf⟩
theorem im_Mo_numberInList : Cond.instanceMethod y_Mo_numberInList ∈ mj_tb := mj_mem 958 (by decide +kernel) (by decide +kernel)
theorem se_Mo_numberInList : Cond.selects (y_Mo_numberInList).cls y_Mo_numberInList y_Mo_numberInList ∈ mj_tb := mj_mem 46 (by decide +kernel) (by decide +kernel)
theorem lk_Mo_174 : Cond.methodLink "IsomerListModel" 174 y_Mo_numberInList ∈ mj_tb ∧ Cond.instanceMethod y_Mo_numberInList ∈ mj_tb ∧ Cond.selects (y_Mo_numberInList).cls y_Mo_numberInList y_Mo_numberInList ∈ mj_tb := ⟨mj_mem 956 (by decide +kernel) (by decide +kernel), im_Mo_numberInList, se_Mo_numberInList⟩
theorem im_Mo_greatest : Cond.instanceMethod y_Mo_greatest ∈ mj_tb := mj_mem 962 (by decide +kernel) (by decide +kernel)
theorem se_Mo_greatest : Cond.selects (y_Mo_greatest).cls y_Mo_greatest y_Mo_greatest ∈ mj_tb := mj_mem 47 (by decide +kernel) (by decide +kernel)
theorem lk_Mo_183 : Cond.methodLink "IsomerListModel" 183 y_Mo_greatest ∈ mj_tb ∧ Cond.instanceMethod y_Mo_greatest ∈ mj_tb ∧ Cond.selects (y_Mo_greatest).cls y_Mo_greatest y_Mo_greatest ∈ mj_tb := ⟨mj_mem 960 (by decide +kernel) (by decide +kernel), im_Mo_greatest, se_Mo_greatest⟩
theorem im_Mo_take : Cond.instanceMethod y_Mo_take ∈ mj_tb := mj_mem 966 (by decide +kernel) (by decide +kernel)
theorem se_Mo_take : Cond.selects (y_Mo_take).cls y_Mo_take y_Mo_take ∈ mj_tb := mj_mem 48 (by decide +kernel) (by decide +kernel)
theorem lk_Mo_187 : Cond.methodLink "IsomerListModel" 187 y_Mo_take ∈ mj_tb ∧ Cond.instanceMethod y_Mo_take ∈ mj_tb ∧ Cond.selects (y_Mo_take).cls y_Mo_take y_Mo_take ∈ mj_tb := ⟨mj_mem 964 (by decide +kernel) (by decide +kernel), im_Mo_take, se_Mo_take⟩
theorem im_Mo_place : Cond.instanceMethod y_Mo_place ∈ mj_tb := mj_mem 969 (by decide +kernel) (by decide +kernel)
theorem se_Mo_place : Cond.selects (y_Mo_place).cls y_Mo_place y_Mo_place ∈ mj_tb := mj_mem 970 (by decide +kernel) (by decide +kernel)
theorem lk_Lw_64 : Cond.methodLink "IsomerListLaw" 64 y_Mo_place ∈ mj_tb ∧ Cond.instanceMethod y_Mo_place ∈ mj_tb ∧ Cond.selects (y_Mo_place).cls y_Mo_place y_Mo_place ∈ mj_tb := ⟨mj_mem 968 (by decide +kernel) (by decide +kernel), im_Mo_place, se_Mo_place⟩
theorem im_Mo_count : Cond.instanceMethod y_Mo_count ∈ mj_tb := mj_mem 973 (by decide +kernel) (by decide +kernel)
theorem se_Mo_count : Cond.selects (y_Mo_count).cls y_Mo_count y_Mo_count ∈ mj_tb := mj_mem 974 (by decide +kernel) (by decide +kernel)
theorem lk_Lw_68 : Cond.methodLink "IsomerListLaw" 68 y_Mo_count ∈ mj_tb ∧ Cond.instanceMethod y_Mo_count ∈ mj_tb ∧ Cond.selects (y_Mo_count).cls y_Mo_count y_Mo_count ∈ mj_tb := ⟨mj_mem 972 (by decide +kernel) (by decide +kernel), im_Mo_count, se_Mo_count⟩
theorem im_Mo_element : Cond.instanceMethod y_Mo_element ∈ mj_tb := mj_mem 977 (by decide +kernel) (by decide +kernel)
theorem se_Mo_element : Cond.selects (y_Mo_element).cls y_Mo_element y_Mo_element ∈ mj_tb := mj_mem 978 (by decide +kernel) (by decide +kernel)
theorem lk_Lw_72 : Cond.methodLink "IsomerListLaw" 72 y_Mo_element ∈ mj_tb ∧ Cond.instanceMethod y_Mo_element ∈ mj_tb ∧ Cond.selects (y_Mo_element).cls y_Mo_element y_Mo_element ∈ mj_tb := ⟨mj_mem 976 (by decide +kernel) (by decide +kernel), im_Mo_element, se_Mo_element⟩
theorem im_Mo_isAtom : Cond.instanceMethod y_Mo_isAtom ∈ mj_tb := mj_mem 982 (by decide +kernel) (by decide +kernel)
theorem se_Mo_isAtom : Cond.selects (y_Mo_isAtom).cls y_Mo_isAtom y_Mo_isAtom ∈ mj_tb := mj_mem 49 (by decide +kernel) (by decide +kernel)
theorem lk_Mo_190 : Cond.methodLink "IsomerListModel" 190 y_Mo_isAtom ∈ mj_tb ∧ Cond.instanceMethod y_Mo_isAtom ∈ mj_tb ∧ Cond.selects (y_Mo_isAtom).cls y_Mo_isAtom y_Mo_isAtom ∈ mj_tb := ⟨mj_mem 980 (by decide +kernel) (by decide +kernel), im_Mo_isAtom, se_Mo_isAtom⟩
theorem im_Mo_bond : Cond.instanceMethod y_Mo_bond ∈ mj_tb := mj_mem 985 (by decide +kernel) (by decide +kernel)
theorem se_Mo_bond : Cond.selects (y_Mo_bond).cls y_Mo_bond y_Mo_bond ∈ mj_tb := mj_mem 986 (by decide +kernel) (by decide +kernel)
theorem lk_Lw_76 : Cond.methodLink "IsomerListLaw" 76 y_Mo_bond ∈ mj_tb ∧ Cond.instanceMethod y_Mo_bond ∈ mj_tb ∧ Cond.selects (y_Mo_bond).cls y_Mo_bond y_Mo_bond ∈ mj_tb := ⟨mj_mem 984 (by decide +kernel) (by decide +kernel), im_Mo_bond, se_Mo_bond⟩
theorem im_Mo_isStructure : Cond.instanceMethod y_Mo_isStructure ∈ mj_tb := mj_mem 990 (by decide +kernel) (by decide +kernel)
theorem se_Mo_isStructure : Cond.selects (y_Mo_isStructure).cls y_Mo_isStructure y_Mo_isStructure ∈ mj_tb := mj_mem 50 (by decide +kernel) (by decide +kernel)
theorem lk_Mo_193 : Cond.methodLink "IsomerListModel" 193 y_Mo_isStructure ∈ mj_tb ∧ Cond.instanceMethod y_Mo_isStructure ∈ mj_tb ∧ Cond.selects (y_Mo_isStructure).cls y_Mo_isStructure y_Mo_isStructure ∈ mj_tb := ⟨mj_mem 988 (by decide +kernel) (by decide +kernel), im_Mo_isStructure, se_Mo_isStructure⟩
theorem im_Mo_bondOf : Cond.instanceMethod y_Mo_bondOf ∈ mj_tb := mj_mem 994 (by decide +kernel) (by decide +kernel)
theorem se_Mo_bondOf : Cond.selects (y_Mo_bondOf).cls y_Mo_bondOf y_Mo_bondOf ∈ mj_tb := mj_mem 51 (by decide +kernel) (by decide +kernel)
theorem lk_Mo_196 : Cond.methodLink "IsomerListModel" 196 y_Mo_bondOf ∈ mj_tb ∧ Cond.instanceMethod y_Mo_bondOf ∈ mj_tb ∧ Cond.selects (y_Mo_bondOf).cls y_Mo_bondOf y_Mo_bondOf ∈ mj_tb := ⟨mj_mem 992 (by decide +kernel) (by decide +kernel), im_Mo_bondOf, se_Mo_bondOf⟩
theorem im_Mo_hydrogens : Cond.instanceMethod y_Mo_hydrogens ∈ mj_tb := mj_mem 997 (by decide +kernel) (by decide +kernel)
theorem se_Mo_hydrogens : Cond.selects (y_Mo_hydrogens).cls y_Mo_hydrogens y_Mo_hydrogens ∈ mj_tb := mj_mem 998 (by decide +kernel) (by decide +kernel)
theorem lk_Lw_80 : Cond.methodLink "IsomerListLaw" 80 y_Mo_hydrogens ∈ mj_tb ∧ Cond.instanceMethod y_Mo_hydrogens ∈ mj_tb ∧ Cond.selects (y_Mo_hydrogens).cls y_Mo_hydrogens y_Mo_hydrogens ∈ mj_tb := ⟨mj_mem 996 (by decide +kernel) (by decide +kernel), im_Mo_hydrogens, se_Mo_hydrogens⟩
theorem im_Mo_ways : Cond.instanceMethod y_Mo_ways ∈ mj_tb := mj_mem 1001 (by decide +kernel) (by decide +kernel)
theorem se_Mo_ways : Cond.selects (y_Mo_ways).cls y_Mo_ways y_Mo_ways ∈ mj_tb := mj_mem 1002 (by decide +kernel) (by decide +kernel)
theorem lk_Lw_83 : Cond.methodLink "IsomerListLaw" 83 y_Mo_ways ∈ mj_tb ∧ Cond.instanceMethod y_Mo_ways ∈ mj_tb ∧ Cond.selects (y_Mo_ways).cls y_Mo_ways y_Mo_ways ∈ mj_tb := ⟨mj_mem 1000 (by decide +kernel) (by decide +kernel), im_Mo_ways, se_Mo_ways⟩
theorem im_Mo_write : Cond.instanceMethod y_Mo_write ∈ mj_tb := mj_mem 1005 (by decide +kernel) (by decide +kernel)
theorem se_Mo_write : Cond.selects (y_Mo_write).cls y_Mo_write y_Mo_write ∈ mj_tb := mj_mem 1006 (by decide +kernel) (by decide +kernel)
theorem lk_Lw_86 : Cond.methodLink "IsomerListLaw" 86 y_Mo_write ∈ mj_tb ∧ Cond.instanceMethod y_Mo_write ∈ mj_tb ∧ Cond.selects (y_Mo_write).cls y_Mo_write y_Mo_write ∈ mj_tb := ⟨mj_mem 1004 (by decide +kernel) (by decide +kernel), im_Mo_write, se_Mo_write⟩
theorem im_Mo_go : Cond.instanceMethod y_Mo_go ∈ mj_tb := mj_mem 1010 (by decide +kernel) (by decide +kernel)
theorem se_Mo_go : Cond.selects (y_Mo_go).cls y_Mo_go y_Mo_go ∈ mj_tb := mj_mem 52 (by decide +kernel) (by decide +kernel)
theorem lk_Mo_204 : Cond.methodLink "IsomerListModel" 204 y_Mo_go ∈ mj_tb ∧ Cond.instanceMethod y_Mo_go ∈ mj_tb ∧ Cond.selects (y_Mo_go).cls y_Mo_go y_Mo_go ∈ mj_tb := ⟨mj_mem 1008 (by decide +kernel) (by decide +kernel), im_Mo_go, se_Mo_go⟩
theorem im_Mo_putAtom : Cond.instanceMethod y_Mo_putAtom ∈ mj_tb := mj_mem 1014 (by decide +kernel) (by decide +kernel)
theorem se_Mo_putAtom : Cond.selects (y_Mo_putAtom).cls y_Mo_putAtom y_Mo_putAtom ∈ mj_tb := mj_mem 53 (by decide +kernel) (by decide +kernel)
theorem lk_Mo_207 : Cond.methodLink "IsomerListModel" 207 y_Mo_putAtom ∈ mj_tb ∧ Cond.instanceMethod y_Mo_putAtom ∈ mj_tb ∧ Cond.selects (y_Mo_putAtom).cls y_Mo_putAtom y_Mo_putAtom ∈ mj_tb := ⟨mj_mem 1012 (by decide +kernel) (by decide +kernel), im_Mo_putAtom, se_Mo_putAtom⟩
theorem im_Mo_putSign : Cond.instanceMethod y_Mo_putSign ∈ mj_tb := mj_mem 1018 (by decide +kernel) (by decide +kernel)
theorem se_Mo_putSign : Cond.selects (y_Mo_putSign).cls y_Mo_putSign y_Mo_putSign ∈ mj_tb := mj_mem 54 (by decide +kernel) (by decide +kernel)
theorem lk_Mo_216 : Cond.methodLink "IsomerListModel" 216 y_Mo_putSign ∈ mj_tb ∧ Cond.instanceMethod y_Mo_putSign ∈ mj_tb ∧ Cond.selects (y_Mo_putSign).cls y_Mo_putSign y_Mo_putSign ∈ mj_tb := ⟨mj_mem 1016 (by decide +kernel) (by decide +kernel), im_Mo_putSign, se_Mo_putSign⟩
theorem im_Mo_put : Cond.instanceMethod y_Mo_put ∈ mj_tb := mj_mem 1022 (by decide +kernel) (by decide +kernel)
theorem se_Mo_put : Cond.selects (y_Mo_put).cls y_Mo_put y_Mo_put ∈ mj_tb := mj_mem 55 (by decide +kernel) (by decide +kernel)
theorem lk_Mo_200 : Cond.methodLink "IsomerListModel" 200 y_Mo_put ∈ mj_tb ∧ Cond.instanceMethod y_Mo_put ∈ mj_tb ∧ Cond.selects (y_Mo_put).cls y_Mo_put y_Mo_put ∈ mj_tb := ⟨mj_mem 1020 (by decide +kernel) (by decide +kernel), im_Mo_put, se_Mo_put⟩
theorem im_Mo_putBond : Cond.instanceMethod y_Mo_putBond ∈ mj_tb := mj_mem 1026 (by decide +kernel) (by decide +kernel)
theorem se_Mo_putBond : Cond.selects (y_Mo_putBond).cls y_Mo_putBond y_Mo_putBond ∈ mj_tb := mj_mem 56 (by decide +kernel) (by decide +kernel)
theorem lk_Mo_213 : Cond.methodLink "IsomerListModel" 213 y_Mo_putBond ∈ mj_tb ∧ Cond.instanceMethod y_Mo_putBond ∈ mj_tb ∧ Cond.selects (y_Mo_putBond).cls y_Mo_putBond y_Mo_putBond ∈ mj_tb := ⟨mj_mem 1024 (by decide +kernel) (by decide +kernel), im_Mo_putBond, se_Mo_putBond⟩
theorem im_Mo_further : Cond.instanceMethod y_Mo_further ∈ mj_tb := mj_mem 1030 (by decide +kernel) (by decide +kernel)
theorem se_Mo_further : Cond.selects (y_Mo_further).cls y_Mo_further y_Mo_further ∈ mj_tb := mj_mem 57 (by decide +kernel) (by decide +kernel)
theorem lk_Mo_210 : Cond.methodLink "IsomerListModel" 210 y_Mo_further ∈ mj_tb ∧ Cond.instanceMethod y_Mo_further ∈ mj_tb ∧ Cond.selects (y_Mo_further).cls y_Mo_further y_Mo_further ∈ mj_tb := ⟨mj_mem 1028 (by decide +kernel) (by decide +kernel), im_Mo_further, se_Mo_further⟩
theorem im_Ln_init : Cond.instanceMethod y_Ln_init ∈ mj_tb := mj_mem 87 (by decide +kernel) (by decide +kernel)
theorem lk_IL_9 : Cond.methodLinkNest "IsomerList" 9 y_Ln_init "IsomerList" ∈ lw_tbl ∧ Cond.instanceMethod y_Ln_init ∈ mj_tb ∧ (y_Ln_init).name = "<init>" := ⟨List.mem_of_getElem? (i := 86) (by decide +kernel), im_Ln_init, rfl⟩
theorem im_Fr_init : Cond.instanceMethod y_Fr_init ∈ mj_tb := mj_mem 104 (by decide +kernel) (by decide +kernel)
theorem lk_IL_18 : Cond.methodLinkNest "IsomerList" 18 y_Fr_init "IsomerList" ∈ lw_tbl ∧ Cond.instanceMethod y_Fr_init ∈ mj_tb ∧ (y_Fr_init).name = "<init>" := ⟨List.mem_of_getElem? (i := 103) (by decide +kernel), im_Fr_init, rfl⟩
theorem im_Tr_init : Cond.instanceMethod y_Tr_init ∈ mj_tb := mj_mem 120 (by decide +kernel) (by decide +kernel)
theorem lk_IL_25 : Cond.methodLinkNest "IsomerList" 25 y_Tr_init "IsomerList" ∈ lw_tbl ∧ Cond.instanceMethod y_Tr_init ∈ mj_tb ∧ (y_Tr_init).name = "<init>" := ⟨List.mem_of_getElem? (i := 119) (by decide +kernel), im_Tr_init, rfl⟩
theorem im_Ml_init : Cond.instanceMethod y_Ml_init ∈ mj_tb := mj_mem 126 (by decide +kernel) (by decide +kernel)
theorem lk_Tr_11 : Cond.methodLinkNest "IsomerList$TextReader" 11 y_Ml_init "IsomerList" ∈ lw_tbl ∧ Cond.instanceMethod y_Ml_init ∈ mj_tb ∧ (y_Ml_init).name = "<init>" := ⟨List.mem_of_getElem? (i := 125) (by decide +kernel), im_Ml_init, rfl⟩
theorem im_Tw_init : Cond.instanceMethod y_Tw_init ∈ mj_tb := mj_mem 183 (by decide +kernel) (by decide +kernel)
theorem lk_IL_32 : Cond.methodLinkNest "IsomerList" 32 y_Tw_init "IsomerList" ∈ lw_tbl ∧ Cond.instanceMethod y_Tw_init ∈ mj_tb ∧ (y_Tw_init).name = "<init>" := ⟨List.mem_of_getElem? (i := 182) (by decide +kernel), im_Tw_init, rfl⟩
theorem im_Nu_init : Cond.instanceMethod y_Nu_init ∈ mj_tb := mj_mem 208 (by decide +kernel) (by decide +kernel)
theorem lk_IL_39 : Cond.methodLinkNest "IsomerList" 39 y_Nu_init "IsomerList" ∈ lw_tbl ∧ Cond.instanceMethod y_Nu_init ∈ mj_tb ∧ (y_Nu_init).name = "<init>" := ⟨List.mem_of_getElem? (i := 207) (by decide +kernel), im_Nu_init, rfl⟩
theorem lk_Ls_11 : Cond.methodLinkNest "IsomerList$Lister" 11 y_Ml_init "IsomerList" ∈ lw_tbl ∧ Cond.instanceMethod y_Ml_init ∈ mj_tb ∧ (y_Ml_init).name = "<init>" := ⟨List.mem_of_getElem? (i := 243) (by decide +kernel), im_Ml_init, rfl⟩
theorem lk_IL_55 : Cond.methodLinkNest "IsomerList" 55 y_Ml_init "IsomerList" ∈ lw_tbl ∧ Cond.instanceMethod y_Ml_init ∈ mj_tb ∧ (y_Ml_init).name = "<init>" := ⟨List.mem_of_getElem? (i := 261) (by decide +kernel), im_Ml_init, rfl⟩
theorem im_Ca_init : Cond.instanceMethod y_Ca_init ∈ mj_tb := mj_mem 265 (by decide +kernel) (by decide +kernel)
theorem lk_IL_62 : Cond.methodLinkNest "IsomerList" 62 y_Ca_init "IsomerList" ∈ lw_tbl ∧ Cond.instanceMethod y_Ca_init ∈ mj_tb ∧ (y_Ca_init).name = "<init>" := ⟨List.mem_of_getElem? (i := 264) (by decide +kernel), im_Ca_init, rfl⟩
theorem st_IL_signLength : Cond.static y_IL_signLength ∈ mj_tb := mj_mem 360 (by decide +kernel) (by decide +kernel)
theorem lk_Fr_42 : Cond.methodLinkNest "IsomerList$FormulaReader" 42 y_IL_signLength "IsomerList" ∈ lw_tbl ∧ Cond.static y_IL_signLength ∈ mj_tb := ⟨List.mem_of_getElem? (i := 359) (by decide +kernel), st_IL_signLength⟩
theorem st_IL_isDigit : Cond.static y_IL_isDigit ∈ mj_tb := mj_mem 369 (by decide +kernel) (by decide +kernel)
theorem lk_Fr_55 : Cond.methodLinkNest "IsomerList$FormulaReader" 55 y_IL_isDigit "IsomerList" ∈ lw_tbl ∧ Cond.static y_IL_isDigit ∈ mj_tb := ⟨List.mem_of_getElem? (i := 368) (by decide +kernel), st_IL_isDigit⟩
theorem st_IL_rowShift : Cond.static y_IL_rowShift ∈ mj_tb := mj_mem 443 (by decide +kernel) (by decide +kernel)
theorem lk_Nu_54 : Cond.methodLinkNest "IsomerList$Numbering" 54 y_IL_rowShift "IsomerList" ∈ lw_tbl ∧ Cond.static y_IL_rowShift ∈ mj_tb := ⟨List.mem_of_getElem? (i := 442) (by decide +kernel), st_IL_rowShift⟩
theorem lk_Ls_56 : Cond.methodLinkNest "IsomerList$Lister" 56 y_IL_rowShift "IsomerList" ∈ lw_tbl ∧ Cond.static y_IL_rowShift ∈ mj_tb := ⟨List.mem_of_getElem? (i := 461) (by decide +kernel), st_IL_rowShift⟩
theorem lk_Tr_108 : Cond.methodLinkNest "IsomerList$TextReader" 108 y_IL_signLength "IsomerList" ∈ lw_tbl ∧ Cond.static y_IL_signLength ∈ mj_tb := ⟨List.mem_of_getElem? (i := 495) (by decide +kernel), st_IL_signLength⟩
theorem lk_Tr_80 : Cond.methodLinkNest "IsomerList$TextReader" 80 y_IL_isDigit "IsomerList" ∈ lw_tbl ∧ Cond.static y_IL_isDigit ∈ mj_tb := ⟨List.mem_of_getElem? (i := 513) (by decide +kernel), st_IL_isDigit⟩
theorem st_IL_occurrences : Cond.static y_IL_occurrences ∈ mj_tb := mj_mem 540 (by decide +kernel) (by decide +kernel)
theorem lk_Ca_36 : Cond.methodLinkNest "IsomerList$Catalogue" 36 y_IL_occurrences "IsomerList" ∈ lw_tbl ∧ Cond.static y_IL_occurrences ∈ mj_tb := ⟨List.mem_of_getElem? (i := 539) (by decide +kernel), st_IL_occurrences⟩
theorem lk_Ml_52 : Cond.methodLinkNest "IsomerList$Molecule" 52 y_IL_rowShift "IsomerList" ∈ lw_tbl ∧ Cond.static y_IL_rowShift ∈ mj_tb := ⟨List.mem_of_getElem? (i := 688) (by decide +kernel), st_IL_rowShift⟩
end

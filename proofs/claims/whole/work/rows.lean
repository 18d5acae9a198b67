section
-- ===== PART A: goes FIRST, ahead of the names: the tables' words, and 'selects' of the private methods out of them =====
/-- a private method of a class that the tables say can be made, by its rows of tables_1 -/
def lw_okq (q : MethodName × Nat) : Prop := (q.1.cls ≠ "java/lang/invoke/MethodHandle" ∧ q.1.cls ≠ "java/lang/invoke/VarHandle") ∧ Cond.instantiable q.1.cls q.2 ∈ tables_1 ∧ Cond.privateMethod q.1 ∈ tables_1 ∧ Cond.instanceMethod q.1 ∈ tables_1
theorem lw_p0 : lw_okq (⟨"IsomerList$FormulaReader", "readElement", "(LIsomerList$Line;)I"⟩, 2) := ⟨⟨by decide +kernel, by decide +kernel⟩, List.mem_of_getElem? (i := 44) (by decide +kernel), List.mem_of_getElem? (i := 286) (by decide +kernel), List.mem_of_getElem? (i := 287) (by decide +kernel)⟩
theorem lw_p1 : lw_okq (⟨"IsomerList$FormulaReader", "digitsAhead", "(LIsomerList$Line;)I"⟩, 2) := ⟨⟨by decide +kernel, by decide +kernel⟩, List.mem_of_getElem? (i := 44) (by decide +kernel), List.mem_of_getElem? (i := 306) (by decide +kernel), List.mem_of_getElem? (i := 307) (by decide +kernel)⟩
theorem lw_p2 : lw_okq (⟨"IsomerList$FormulaReader", "numberAhead", "(LIsomerList$Line;I)I"⟩, 2) := ⟨⟨by decide +kernel, by decide +kernel⟩, List.mem_of_getElem? (i := 44) (by decide +kernel), List.mem_of_getElem? (i := 314) (by decide +kernel), List.mem_of_getElem? (i := 315) (by decide +kernel)⟩
theorem lw_p3 : lw_okq (⟨"IsomerList$FormulaReader", "heavyAtoms", "()I"⟩, 2) := ⟨⟨by decide +kernel, by decide +kernel⟩, List.mem_of_getElem? (i := 44) (by decide +kernel), List.mem_of_getElem? (i := 318) (by decide +kernel), List.mem_of_getElem? (i := 319) (by decide +kernel)⟩
theorem lw_p4 : lw_okq (⟨"IsomerList", "listSpare", "()I"⟩, 10) := ⟨⟨by decide +kernel, by decide +kernel⟩, List.mem_of_getElem? (i := 19) (by decide +kernel), List.mem_of_getElem? (i := 326) (by decide +kernel), List.mem_of_getElem? (i := 327) (by decide +kernel)⟩
theorem lw_p5 : lw_okq (⟨"IsomerList$Lister", "sumValences", "()V"⟩, 5) := ⟨⟨by decide +kernel, by decide +kernel⟩, List.mem_of_getElem? (i := 179) (by decide +kernel), List.mem_of_getElem? (i := 353) (by decide +kernel), List.mem_of_getElem? (i := 354) (by decide +kernel)⟩
theorem lw_p6 : lw_okq (⟨"IsomerList$Lister", "endRow", "(III)V"⟩, 5) := ⟨⟨by decide +kernel, by decide +kernel⟩, List.mem_of_getElem? (i := 179) (by decide +kernel), List.mem_of_getElem? (i := 357) (by decide +kernel), List.mem_of_getElem? (i := 358) (by decide +kernel)⟩
theorem lw_p7 : lw_okq (⟨"IsomerList$Lister", "canBeEnded", "(II)Z"⟩, 5) := ⟨⟨by decide +kernel, by decide +kernel⟩, List.mem_of_getElem? (i := 179) (by decide +kernel), List.mem_of_getElem? (i := 361) (by decide +kernel), List.mem_of_getElem? (i := 362) (by decide +kernel)⟩
theorem lw_p8 : lw_okq (⟨"IsomerList$Lister", "countGroups", "(I)I"⟩, 5) := ⟨⟨by decide +kernel, by decide +kernel⟩, List.mem_of_getElem? (i := 179) (by decide +kernel), List.mem_of_getElem? (i := 365) (by decide +kernel), List.mem_of_getElem? (i := 366) (by decide +kernel)⟩
theorem lw_p9 : lw_okq (⟨"IsomerList$Lister", "joinGroups", "(III)V"⟩, 5) := ⟨⟨by decide +kernel, by decide +kernel⟩, List.mem_of_getElem? (i := 179) (by decide +kernel), List.mem_of_getElem? (i := 373) (by decide +kernel), List.mem_of_getElem? (i := 374) (by decide +kernel)⟩
theorem lw_p10 : lw_okq (⟨"IsomerList$Numbering", "canBeBeaten", "(II)Z"⟩, 7) := ⟨⟨by decide +kernel, by decide +kernel⟩, List.mem_of_getElem? (i := 148) (by decide +kernel), List.mem_of_getElem? (i := 381) (by decide +kernel), List.mem_of_getElem? (i := 382) (by decide +kernel)⟩
theorem lw_p11 : lw_okq (⟨"IsomerList$Numbering", "row", "(II)I"⟩, 7) := ⟨⟨by decide +kernel, by decide +kernel⟩, List.mem_of_getElem? (i := 148) (by decide +kernel), List.mem_of_getElem? (i := 388) (by decide +kernel), List.mem_of_getElem? (i := 389) (by decide +kernel)⟩
theorem lw_p12 : lw_okq (⟨"IsomerList$Numbering", "canBeBeatenWith", "(III)Z"⟩, 7) := ⟨⟨by decide +kernel, by decide +kernel⟩, List.mem_of_getElem? (i := 148) (by decide +kernel), List.mem_of_getElem? (i := 392) (by decide +kernel), List.mem_of_getElem? (i := 393) (by decide +kernel)⟩
theorem lw_p13 : lw_okq (⟨"IsomerList$Lister", "bindOn", "(IIII)V"⟩, 5) := ⟨⟨by decide +kernel, by decide +kernel⟩, List.mem_of_getElem? (i := 179) (by decide +kernel), List.mem_of_getElem? (i := 400) (by decide +kernel), List.mem_of_getElem? (i := 401) (by decide +kernel)⟩
theorem lw_p14 : lw_okq (⟨"IsomerList$TextReader", "readAtom", "(LIsomerList$Line;I)I"⟩, 8) := ⟨⟨by decide +kernel, by decide +kernel⟩, List.mem_of_getElem? (i := 60) (by decide +kernel), List.mem_of_getElem? (i := 428) (by decide +kernel), List.mem_of_getElem? (i := 429) (by decide +kernel)⟩
theorem lw_p15 : lw_okq (⟨"IsomerList$TextReader", "readPart", "(LIsomerList$Line;)I"⟩, 8) := ⟨⟨by decide +kernel, by decide +kernel⟩, List.mem_of_getElem? (i := 60) (by decide +kernel), List.mem_of_getElem? (i := 439) (by decide +kernel), List.mem_of_getElem? (i := 440) (by decide +kernel)⟩
def lw_privs_1 : List (MethodName × Nat) := [(⟨"IsomerList$FormulaReader", "readElement", "(LIsomerList$Line;)I"⟩, 2), (⟨"IsomerList$FormulaReader", "digitsAhead", "(LIsomerList$Line;)I"⟩, 2), (⟨"IsomerList$FormulaReader", "numberAhead", "(LIsomerList$Line;I)I"⟩, 2), (⟨"IsomerList$FormulaReader", "heavyAtoms", "()I"⟩, 2), (⟨"IsomerList", "listSpare", "()I"⟩, 10), (⟨"IsomerList$Lister", "sumValences", "()V"⟩, 5), (⟨"IsomerList$Lister", "endRow", "(III)V"⟩, 5), (⟨"IsomerList$Lister", "canBeEnded", "(II)Z"⟩, 5), (⟨"IsomerList$Lister", "countGroups", "(I)I"⟩, 5), (⟨"IsomerList$Lister", "joinGroups", "(III)V"⟩, 5), (⟨"IsomerList$Numbering", "canBeBeaten", "(II)Z"⟩, 7), (⟨"IsomerList$Numbering", "row", "(II)I"⟩, 7), (⟨"IsomerList$Numbering", "canBeBeatenWith", "(III)Z"⟩, 7), (⟨"IsomerList$Lister", "bindOn", "(IIII)V"⟩, 5), (⟨"IsomerList$TextReader", "readAtom", "(LIsomerList$Line;I)I"⟩, 8), (⟨"IsomerList$TextReader", "readPart", "(LIsomerList$Line;)I"⟩, 8)]
theorem lw_r1 : ∀ q ∈ lw_privs_1, lw_okq q := List.forall_mem_cons.mpr ⟨lw_p0, List.forall_mem_cons.mpr ⟨lw_p1, List.forall_mem_cons.mpr ⟨lw_p2, List.forall_mem_cons.mpr ⟨lw_p3, List.forall_mem_cons.mpr ⟨lw_p4, List.forall_mem_cons.mpr ⟨lw_p5, List.forall_mem_cons.mpr ⟨lw_p6, List.forall_mem_cons.mpr ⟨lw_p7, List.forall_mem_cons.mpr ⟨lw_p8, List.forall_mem_cons.mpr ⟨lw_p9, List.forall_mem_cons.mpr ⟨lw_p10, List.forall_mem_cons.mpr ⟨lw_p11, List.forall_mem_cons.mpr ⟨lw_p12, List.forall_mem_cons.mpr ⟨lw_p13, List.forall_mem_cons.mpr ⟨lw_p14, List.forall_mem_cons.mpr ⟨lw_p15, fun _ h => absurd h List.not_mem_nil⟩⟩⟩⟩⟩⟩⟩⟩⟩⟩⟩⟩⟩⟩⟩⟩
theorem lw_p16 : lw_okq (⟨"IsomerList$TextReader", "closeBranch", "()I"⟩, 8) := ⟨⟨by decide +kernel, by decide +kernel⟩, List.mem_of_getElem? (i := 60) (by decide +kernel), List.mem_of_getElem? (i := 444) (by decide +kernel), List.mem_of_getElem? (i := 445) (by decide +kernel)⟩
theorem lw_p17 : lw_okq (⟨"IsomerList$TextReader", "openBranch", "(LIsomerList$Line;)I"⟩, 8) := ⟨⟨by decide +kernel, by decide +kernel⟩, List.mem_of_getElem? (i := 60) (by decide +kernel), List.mem_of_getElem? (i := 448) (by decide +kernel), List.mem_of_getElem? (i := 449) (by decide +kernel)⟩
theorem lw_p18 : lw_okq (⟨"IsomerList$TextReader", "readBond", "(LIsomerList$Line;)I"⟩, 8) := ⟨⟨by decide +kernel, by decide +kernel⟩, List.mem_of_getElem? (i := 60) (by decide +kernel), List.mem_of_getElem? (i := 452) (by decide +kernel), List.mem_of_getElem? (i := 453) (by decide +kernel)⟩
theorem lw_p19 : lw_okq (⟨"IsomerList$TextReader", "readRing", "(II)I"⟩, 8) := ⟨⟨by decide +kernel, by decide +kernel⟩, List.mem_of_getElem? (i := 60) (by decide +kernel), List.mem_of_getElem? (i := 457) (by decide +kernel), List.mem_of_getElem? (i := 458) (by decide +kernel)⟩
theorem lw_p20 : lw_okq (⟨"IsomerList$TextReader", "faultAtEnd", "()I"⟩, 8) := ⟨⟨by decide +kernel, by decide +kernel⟩, List.mem_of_getElem? (i := 60) (by decide +kernel), List.mem_of_getElem? (i := 462) (by decide +kernel), List.mem_of_getElem? (i := 463) (by decide +kernel)⟩
theorem lw_p21 : lw_okq (⟨"IsomerList", "findInList", "(LIsomerList$Molecule;)I"⟩, 10) := ⟨⟨by decide +kernel, by decide +kernel⟩, List.mem_of_getElem? (i := 19) (by decide +kernel), List.mem_of_getElem? (i := 470) (by decide +kernel), List.mem_of_getElem? (i := 471) (by decide +kernel)⟩
theorem lw_p22 : lw_okq (⟨"IsomerList$Numbering", "choose", "(II)V"⟩, 7) := ⟨⟨by decide +kernel, by decide +kernel⟩, List.mem_of_getElem? (i := 148) (by decide +kernel), List.mem_of_getElem? (i := 489) (by decide +kernel), List.mem_of_getElem? (i := 490) (by decide +kernel)⟩
theorem lw_p23 : lw_okq (⟨"IsomerList$Numbering", "noteCode", "(I)V"⟩, 7) := ⟨⟨by decide +kernel, by decide +kernel⟩, List.mem_of_getElem? (i := 148) (by decide +kernel), List.mem_of_getElem? (i := 493) (by decide +kernel), List.mem_of_getElem? (i := 494) (by decide +kernel)⟩
theorem lw_p24 : lw_okq (⟨"java/lang/Throwable", "fillInStackTrace", "(I)Ljava/lang/Throwable;"⟩, 6) := ⟨⟨by decide +kernel, by decide +kernel⟩, List.mem_of_getElem? (i := 559) (by decide +kernel), List.mem_of_getElem? (i := 557) (by decide +kernel), List.mem_of_getElem? (i := 558) (by decide +kernel)⟩
theorem lw_p25 : lw_okq (⟨"IsomerList", "checkAtom", "(I)V"⟩, 10) := ⟨⟨by decide +kernel, by decide +kernel⟩, List.mem_of_getElem? (i := 19) (by decide +kernel), List.mem_of_getElem? (i := 596) (by decide +kernel), List.mem_of_getElem? (i := 597) (by decide +kernel)⟩
theorem lw_p26 : lw_okq (⟨"IsomerList", "checkStructure", "(I)V"⟩, 10) := ⟨⟨by decide +kernel, by decide +kernel⟩, List.mem_of_getElem? (i := 19) (by decide +kernel), List.mem_of_getElem? (i := 622) (by decide +kernel), List.mem_of_getElem? (i := 623) (by decide +kernel)⟩
theorem lw_p27 : lw_okq (⟨"IsomerList$TextWriter", "goThrough", "(II)V"⟩, 6) := ⟨⟨by decide +kernel, by decide +kernel⟩, List.mem_of_getElem? (i := 123) (by decide +kernel), List.mem_of_getElem? (i := 660) (by decide +kernel), List.mem_of_getElem? (i := 661) (by decide +kernel)⟩
theorem lw_p28 : lw_okq (⟨"IsomerList$TextWriter", "meetRing", "(II)V"⟩, 6) := ⟨⟨by decide +kernel, by decide +kernel⟩, List.mem_of_getElem? (i := 123) (by decide +kernel), List.mem_of_getElem? (i := 665) (by decide +kernel), List.mem_of_getElem? (i := 666) (by decide +kernel)⟩
theorem lw_p29 : lw_okq (⟨"IsomerList$TextWriter", "putAtom", "(I)V"⟩, 6) := ⟨⟨by decide +kernel, by decide +kernel⟩, List.mem_of_getElem? (i := 123) (by decide +kernel), List.mem_of_getElem? (i := 670) (by decide +kernel), List.mem_of_getElem? (i := 671) (by decide +kernel)⟩
theorem lw_p30 : lw_okq (⟨"IsomerList$TextWriter", "putRings", "(I)V"⟩, 6) := ⟨⟨by decide +kernel, by decide +kernel⟩, List.mem_of_getElem? (i := 123) (by decide +kernel), List.mem_of_getElem? (i := 679) (by decide +kernel), List.mem_of_getElem? (i := 680) (by decide +kernel)⟩
theorem lw_p31 : lw_okq (⟨"IsomerList$TextWriter", "lastFurtherOn", "(I)I"⟩, 6) := ⟨⟨by decide +kernel, by decide +kernel⟩, List.mem_of_getElem? (i := 123) (by decide +kernel), List.mem_of_getElem? (i := 688) (by decide +kernel), List.mem_of_getElem? (i := 689) (by decide +kernel)⟩
def lw_privs_2 : List (MethodName × Nat) := [(⟨"IsomerList$TextReader", "closeBranch", "()I"⟩, 8), (⟨"IsomerList$TextReader", "openBranch", "(LIsomerList$Line;)I"⟩, 8), (⟨"IsomerList$TextReader", "readBond", "(LIsomerList$Line;)I"⟩, 8), (⟨"IsomerList$TextReader", "readRing", "(II)I"⟩, 8), (⟨"IsomerList$TextReader", "faultAtEnd", "()I"⟩, 8), (⟨"IsomerList", "findInList", "(LIsomerList$Molecule;)I"⟩, 10), (⟨"IsomerList$Numbering", "choose", "(II)V"⟩, 7), (⟨"IsomerList$Numbering", "noteCode", "(I)V"⟩, 7), (⟨"java/lang/Throwable", "fillInStackTrace", "(I)Ljava/lang/Throwable;"⟩, 6), (⟨"IsomerList", "checkAtom", "(I)V"⟩, 10), (⟨"IsomerList", "checkStructure", "(I)V"⟩, 10), (⟨"IsomerList$TextWriter", "goThrough", "(II)V"⟩, 6), (⟨"IsomerList$TextWriter", "meetRing", "(II)V"⟩, 6), (⟨"IsomerList$TextWriter", "putAtom", "(I)V"⟩, 6), (⟨"IsomerList$TextWriter", "putRings", "(I)V"⟩, 6), (⟨"IsomerList$TextWriter", "lastFurtherOn", "(I)I"⟩, 6)]
theorem lw_r2 : ∀ q ∈ lw_privs_2, lw_okq q := List.forall_mem_cons.mpr ⟨lw_p16, List.forall_mem_cons.mpr ⟨lw_p17, List.forall_mem_cons.mpr ⟨lw_p18, List.forall_mem_cons.mpr ⟨lw_p19, List.forall_mem_cons.mpr ⟨lw_p20, List.forall_mem_cons.mpr ⟨lw_p21, List.forall_mem_cons.mpr ⟨lw_p22, List.forall_mem_cons.mpr ⟨lw_p23, List.forall_mem_cons.mpr ⟨lw_p24, List.forall_mem_cons.mpr ⟨lw_p25, List.forall_mem_cons.mpr ⟨lw_p26, List.forall_mem_cons.mpr ⟨lw_p27, List.forall_mem_cons.mpr ⟨lw_p28, List.forall_mem_cons.mpr ⟨lw_p29, List.forall_mem_cons.mpr ⟨lw_p30, List.forall_mem_cons.mpr ⟨lw_p31, fun _ h => absurd h List.not_mem_nil⟩⟩⟩⟩⟩⟩⟩⟩⟩⟩⟩⟩⟩⟩⟩⟩
theorem lw_p32 : lw_okq (⟨"IsomerList$TextWriter", "putBound", "(II)V"⟩, 6) := ⟨⟨by decide +kernel, by decide +kernel⟩, List.mem_of_getElem? (i := 123) (by decide +kernel), List.mem_of_getElem? (i := 692) (by decide +kernel), List.mem_of_getElem? (i := 693) (by decide +kernel)⟩
theorem lw_p33 : lw_okq (⟨"IsomerListModel", "refused", "(I)Z"⟩, 33) := ⟨⟨by decide +kernel, by decide +kernel⟩, List.mem_of_getElem? (i := 696) (by decide +kernel), List.mem_of_getElem? (i := 810) (by decide +kernel), List.mem_of_getElem? (i := 811) (by decide +kernel)⟩
theorem lw_p34 : lw_okq (⟨"IsomerListModel", "elementAt", "(I)I"⟩, 33) := ⟨⟨by decide +kernel, by decide +kernel⟩, List.mem_of_getElem? (i := 696) (by decide +kernel), List.mem_of_getElem? (i := 826) (by decide +kernel), List.mem_of_getElem? (i := 827) (by decide +kernel)⟩
theorem lw_p35 : lw_okq (⟨"IsomerListModel", "at", "(I)C"⟩, 33) := ⟨⟨by decide +kernel, by decide +kernel⟩, List.mem_of_getElem? (i := 696) (by decide +kernel), List.mem_of_getElem? (i := 830) (by decide +kernel), List.mem_of_getElem? (i := 831) (by decide +kernel)⟩
theorem lw_p36 : lw_okq (⟨"IsomerListModel", "fault", "(II)I"⟩, 33) := ⟨⟨by decide +kernel, by decide +kernel⟩, List.mem_of_getElem? (i := 696) (by decide +kernel), List.mem_of_getElem? (i := 834) (by decide +kernel), List.mem_of_getElem? (i := 835) (by decide +kernel)⟩
theorem lw_p37 : lw_okq (⟨"IsomerListModel", "search", "()V"⟩, 33) := ⟨⟨by decide +kernel, by decide +kernel⟩, List.mem_of_getElem? (i := 696) (by decide +kernel), List.mem_of_getElem? (i := 847) (by decide +kernel), List.mem_of_getElem? (i := 848) (by decide +kernel)⟩
theorem lw_p38 : lw_okq (⟨"IsomerListModel", "keep", "(I)V"⟩, 33) := ⟨⟨by decide +kernel, by decide +kernel⟩, List.mem_of_getElem? (i := 696) (by decide +kernel), List.mem_of_getElem? (i := 851) (by decide +kernel), List.mem_of_getElem? (i := 852) (by decide +kernel)⟩
theorem lw_p39 : lw_okq (⟨"IsomerListModel", "isOne", "(I)Z"⟩, 33) := ⟨⟨by decide +kernel, by decide +kernel⟩, List.mem_of_getElem? (i := 696) (by decide +kernel), List.mem_of_getElem? (i := 855) (by decide +kernel), List.mem_of_getElem? (i := 856) (by decide +kernel)⟩
theorem lw_p40 : lw_okq (⟨"IsomerListModel", "change", "(II)V"⟩, 33) := ⟨⟨by decide +kernel, by decide +kernel⟩, List.mem_of_getElem? (i := 696) (by decide +kernel), List.mem_of_getElem? (i := 865) (by decide +kernel), List.mem_of_getElem? (i := 866) (by decide +kernel)⟩
theorem lw_p41 : lw_okq (⟨"IsomerListModel", "numberings", "(I)I"⟩, 33) := ⟨⟨by decide +kernel, by decide +kernel⟩, List.mem_of_getElem? (i := 696) (by decide +kernel), List.mem_of_getElem? (i := 872) (by decide +kernel), List.mem_of_getElem? (i := 873) (by decide +kernel)⟩
theorem lw_p42 : lw_okq (⟨"IsomerListModel", "row", "(I)I"⟩, 33) := ⟨⟨by decide +kernel, by decide +kernel⟩, List.mem_of_getElem? (i := 696) (by decide +kernel), List.mem_of_getElem? (i := 876) (by decide +kernel), List.mem_of_getElem? (i := 877) (by decide +kernel)⟩
theorem lw_p43 : lw_okq (⟨"IsomerListModel", "parse", "()I"⟩, 33) := ⟨⟨by decide +kernel, by decide +kernel⟩, List.mem_of_getElem? (i := 696) (by decide +kernel), List.mem_of_getElem? (i := 887) (by decide +kernel), List.mem_of_getElem? (i := 888) (by decide +kernel)⟩
theorem lw_p44 : lw_okq (⟨"IsomerListModel", "atEnd", "()I"⟩, 33) := ⟨⟨by decide +kernel, by decide +kernel⟩, List.mem_of_getElem? (i := 696) (by decide +kernel), List.mem_of_getElem? (i := 891) (by decide +kernel), List.mem_of_getElem? (i := 892) (by decide +kernel)⟩
theorem lw_p45 : lw_okq (⟨"IsomerListModel", "sumOf", "(I)I"⟩, 33) := ⟨⟨by decide +kernel, by decide +kernel⟩, List.mem_of_getElem? (i := 696) (by decide +kernel), List.mem_of_getElem? (i := 895) (by decide +kernel), List.mem_of_getElem? (i := 896) (by decide +kernel)⟩
theorem lw_p46 : lw_okq (⟨"IsomerListModel", "numberInList", "()I"⟩, 33) := ⟨⟨by decide +kernel, by decide +kernel⟩, List.mem_of_getElem? (i := 696) (by decide +kernel), List.mem_of_getElem? (i := 899) (by decide +kernel), List.mem_of_getElem? (i := 900) (by decide +kernel)⟩
theorem lw_p47 : lw_okq (⟨"IsomerListModel", "greatest", "()Z"⟩, 33) := ⟨⟨by decide +kernel, by decide +kernel⟩, List.mem_of_getElem? (i := 696) (by decide +kernel), List.mem_of_getElem? (i := 903) (by decide +kernel), List.mem_of_getElem? (i := 904) (by decide +kernel)⟩
def lw_privs_3 : List (MethodName × Nat) := [(⟨"IsomerList$TextWriter", "putBound", "(II)V"⟩, 6), (⟨"IsomerListModel", "refused", "(I)Z"⟩, 33), (⟨"IsomerListModel", "elementAt", "(I)I"⟩, 33), (⟨"IsomerListModel", "at", "(I)C"⟩, 33), (⟨"IsomerListModel", "fault", "(II)I"⟩, 33), (⟨"IsomerListModel", "search", "()V"⟩, 33), (⟨"IsomerListModel", "keep", "(I)V"⟩, 33), (⟨"IsomerListModel", "isOne", "(I)Z"⟩, 33), (⟨"IsomerListModel", "change", "(II)V"⟩, 33), (⟨"IsomerListModel", "numberings", "(I)I"⟩, 33), (⟨"IsomerListModel", "row", "(I)I"⟩, 33), (⟨"IsomerListModel", "parse", "()I"⟩, 33), (⟨"IsomerListModel", "atEnd", "()I"⟩, 33), (⟨"IsomerListModel", "sumOf", "(I)I"⟩, 33), (⟨"IsomerListModel", "numberInList", "()I"⟩, 33), (⟨"IsomerListModel", "greatest", "()Z"⟩, 33)]
theorem lw_r3 : ∀ q ∈ lw_privs_3, lw_okq q := List.forall_mem_cons.mpr ⟨lw_p32, List.forall_mem_cons.mpr ⟨lw_p33, List.forall_mem_cons.mpr ⟨lw_p34, List.forall_mem_cons.mpr ⟨lw_p35, List.forall_mem_cons.mpr ⟨lw_p36, List.forall_mem_cons.mpr ⟨lw_p37, List.forall_mem_cons.mpr ⟨lw_p38, List.forall_mem_cons.mpr ⟨lw_p39, List.forall_mem_cons.mpr ⟨lw_p40, List.forall_mem_cons.mpr ⟨lw_p41, List.forall_mem_cons.mpr ⟨lw_p42, List.forall_mem_cons.mpr ⟨lw_p43, List.forall_mem_cons.mpr ⟨lw_p44, List.forall_mem_cons.mpr ⟨lw_p45, List.forall_mem_cons.mpr ⟨lw_p46, List.forall_mem_cons.mpr ⟨lw_p47, fun _ h => absurd h List.not_mem_nil⟩⟩⟩⟩⟩⟩⟩⟩⟩⟩⟩⟩⟩⟩⟩⟩
theorem lw_p48 : lw_okq (⟨"IsomerListModel", "take", "()V"⟩, 33) := ⟨⟨by decide +kernel, by decide +kernel⟩, List.mem_of_getElem? (i := 696) (by decide +kernel), List.mem_of_getElem? (i := 907) (by decide +kernel), List.mem_of_getElem? (i := 908) (by decide +kernel)⟩
theorem lw_p49 : lw_okq (⟨"IsomerListModel", "isAtom", "(I)Z"⟩, 33) := ⟨⟨by decide +kernel, by decide +kernel⟩, List.mem_of_getElem? (i := 696) (by decide +kernel), List.mem_of_getElem? (i := 923) (by decide +kernel), List.mem_of_getElem? (i := 924) (by decide +kernel)⟩
theorem lw_p50 : lw_okq (⟨"IsomerListModel", "isStructure", "(I)Z"⟩, 33) := ⟨⟨by decide +kernel, by decide +kernel⟩, List.mem_of_getElem? (i := 696) (by decide +kernel), List.mem_of_getElem? (i := 931) (by decide +kernel), List.mem_of_getElem? (i := 932) (by decide +kernel)⟩
theorem lw_p51 : lw_okq (⟨"IsomerListModel", "bondOf", "(III)I"⟩, 33) := ⟨⟨by decide +kernel, by decide +kernel⟩, List.mem_of_getElem? (i := 696) (by decide +kernel), List.mem_of_getElem? (i := 935) (by decide +kernel), List.mem_of_getElem? (i := 936) (by decide +kernel)⟩
theorem lw_p52 : lw_okq (⟨"IsomerListModel", "go", "(I)V"⟩, 33) := ⟨⟨by decide +kernel, by decide +kernel⟩, List.mem_of_getElem? (i := 696) (by decide +kernel), List.mem_of_getElem? (i := 951) (by decide +kernel), List.mem_of_getElem? (i := 952) (by decide +kernel)⟩
theorem lw_p53 : lw_okq (⟨"IsomerListModel", "putAtom", "(II)V"⟩, 33) := ⟨⟨by decide +kernel, by decide +kernel⟩, List.mem_of_getElem? (i := 696) (by decide +kernel), List.mem_of_getElem? (i := 955) (by decide +kernel), List.mem_of_getElem? (i := 956) (by decide +kernel)⟩
theorem lw_p54 : lw_okq (⟨"IsomerListModel", "putSign", "(I)V"⟩, 33) := ⟨⟨by decide +kernel, by decide +kernel⟩, List.mem_of_getElem? (i := 696) (by decide +kernel), List.mem_of_getElem? (i := 959) (by decide +kernel), List.mem_of_getElem? (i := 960) (by decide +kernel)⟩
theorem lw_p55 : lw_okq (⟨"IsomerListModel", "put", "(C)V"⟩, 33) := ⟨⟨by decide +kernel, by decide +kernel⟩, List.mem_of_getElem? (i := 696) (by decide +kernel), List.mem_of_getElem? (i := 963) (by decide +kernel), List.mem_of_getElem? (i := 964) (by decide +kernel)⟩
theorem lw_p56 : lw_okq (⟨"IsomerListModel", "putBond", "(I)V"⟩, 33) := ⟨⟨by decide +kernel, by decide +kernel⟩, List.mem_of_getElem? (i := 696) (by decide +kernel), List.mem_of_getElem? (i := 967) (by decide +kernel), List.mem_of_getElem? (i := 968) (by decide +kernel)⟩
theorem lw_p57 : lw_okq (⟨"IsomerListModel", "further", "(II)I"⟩, 33) := ⟨⟨by decide +kernel, by decide +kernel⟩, List.mem_of_getElem? (i := 696) (by decide +kernel), List.mem_of_getElem? (i := 971) (by decide +kernel), List.mem_of_getElem? (i := 972) (by decide +kernel)⟩
def lw_privs_4 : List (MethodName × Nat) := [(⟨"IsomerListModel", "take", "()V"⟩, 33), (⟨"IsomerListModel", "isAtom", "(I)Z"⟩, 33), (⟨"IsomerListModel", "isStructure", "(I)Z"⟩, 33), (⟨"IsomerListModel", "bondOf", "(III)I"⟩, 33), (⟨"IsomerListModel", "go", "(I)V"⟩, 33), (⟨"IsomerListModel", "putAtom", "(II)V"⟩, 33), (⟨"IsomerListModel", "putSign", "(I)V"⟩, 33), (⟨"IsomerListModel", "put", "(C)V"⟩, 33), (⟨"IsomerListModel", "putBond", "(I)V"⟩, 33), (⟨"IsomerListModel", "further", "(II)I"⟩, 33)]
theorem lw_r4 : ∀ q ∈ lw_privs_4, lw_okq q := List.forall_mem_cons.mpr ⟨lw_p48, List.forall_mem_cons.mpr ⟨lw_p49, List.forall_mem_cons.mpr ⟨lw_p50, List.forall_mem_cons.mpr ⟨lw_p51, List.forall_mem_cons.mpr ⟨lw_p52, List.forall_mem_cons.mpr ⟨lw_p53, List.forall_mem_cons.mpr ⟨lw_p54, List.forall_mem_cons.mpr ⟨lw_p55, List.forall_mem_cons.mpr ⟨lw_p56, List.forall_mem_cons.mpr ⟨lw_p57, fun _ h => absurd h List.not_mem_nil⟩⟩⟩⟩⟩⟩⟩⟩⟩⟩
def lw_privs : List (MethodName × Nat) := lw_privs_1 ++ (lw_privs_2 ++ (lw_privs_3 ++ (lw_privs_4)))
def lw_tbl : List Cond := k2_sels lw_privs ++ tables_1
theorem lw_privs_ok : ∀ q ∈ lw_privs, lw_okq q := by
  show ∀ q ∈ lw_privs_1 ++ (lw_privs_2 ++ (lw_privs_3 ++ (lw_privs_4))), lw_okq q
  exact List.forall_mem_append.mpr ⟨lw_r1, List.forall_mem_append.mpr ⟨lw_r2, List.forall_mem_append.mpr ⟨lw_r3, lw_r4⟩⟩⟩
-- ===== end of PART A; then your names; then what follows =====
end
section
/-! mj: A THIN LOGIC OVER THE KIT'S W: abstract states (ids for addresses), one row an instruction. Part 02: the classes' tables. -/
def mj_tb : List Cond := lw_tbl.filter goodWord
theorem mj_tb_good {w : Cond} (h : w ∈ mj_tb) : w ∈ lw_tbl ∧ goodWord w = true := List.mem_filter.mp h
def mj_R0 : String := "IsomerList"
def mj_T0 : u_T := fun k => match k with
  | 0 => ("IsomerList", "line", "LIsomerList$Line;", true)
  | 1 => ("IsomerList", "formulaReader", "LIsomerList$FormulaReader;", true)
  | 2 => ("IsomerList", "textReader", "LIsomerList$TextReader;", true)
  | 3 => ("IsomerList", "textWriter", "LIsomerList$TextWriter;", true)
  | 4 => ("IsomerList", "numbering", "LIsomerList$Numbering;", true)
  | 5 => ("IsomerList", "lister", "LIsomerList$Lister;", true)
  | 6 => ("IsomerList", "shown", "LIsomerList$Molecule;", true)
  | 7 => ("IsomerList", "current", "LIsomerList$Catalogue;", false)
  | 8 => ("IsomerList", "spare", "LIsomerList$Catalogue;", false)
  | _ => ("IsomerList", "faultPlace", "I", false)
def mj_t0 : Nat → FieldType := fun k => match k with
  | 0 => .object "IsomerList$Line"
  | 1 => .object "IsomerList$FormulaReader"
  | 2 => .object "IsomerList$TextReader"
  | 3 => .object "IsomerList$TextWriter"
  | 4 => .object "IsomerList$Numbering"
  | 5 => .object "IsomerList$Lister"
  | 6 => .object "IsomerList$Molecule"
  | 7 => .object "IsomerList$Catalogue"
  | 8 => .object "IsomerList$Catalogue"
  | _ => .int
theorem mj_in0 : ∀ w ∈ u_ws mj_R0 mj_T0 10, w ∈ mj_tb := by decide +kernel
theorem mj_nm0 : ∀ a, a < 10 → ∀ b, b < 10 → a ≠ b → (mj_T0 a).2.1 ≠ (mj_T0 b).2.1 := by decide +kernel
theorem mj_ty0 : ∀ k, k < 10 → parseFieldDescriptor (mj_T0 k).2.2.1 = some (mj_t0 k) := by decide +kernel
def mj_R1 : String := "IsomerList$Line"
def mj_T1 : u_T := fun k => match k with
  | 0 => ("IsomerList$Line", "characters", "[C", true)
  | _ => ("IsomerList$Line", "length", "I", false)
def mj_t1 : Nat → FieldType := fun k => match k with
  | 0 => .array .char
  | _ => .int
theorem mj_in1 : ∀ w ∈ u_ws mj_R1 mj_T1 2, w ∈ mj_tb := by decide +kernel
theorem mj_nm1 : ∀ a, a < 2 → ∀ b, b < 2 → a ≠ b → (mj_T1 a).2.1 ≠ (mj_T1 b).2.1 := by decide +kernel
theorem mj_ty1 : ∀ k, k < 2 → parseFieldDescriptor (mj_T1 k).2.2.1 = some (mj_t1 k) := by decide +kernel
def mj_R2 : String := "IsomerList$FormulaReader"
def mj_T2 : u_T := fun k => match k with
  | 0 => ("IsomerList$FormulaReader", "counts", "[I", true)
  | _ => ("IsomerList$FormulaReader", "at", "I", false)
def mj_t2 : Nat → FieldType := fun k => match k with
  | 0 => .array .int
  | _ => .int
theorem mj_in2 : ∀ w ∈ u_ws mj_R2 mj_T2 2, w ∈ mj_tb := by decide +kernel
theorem mj_nm2 : ∀ a, a < 2 → ∀ b, b < 2 → a ≠ b → (mj_T2 a).2.1 ≠ (mj_T2 b).2.1 := by decide +kernel
theorem mj_ty2 : ∀ k, k < 2 → parseFieldDescriptor (mj_T2 k).2.2.1 = some (mj_t2 k) := by decide +kernel
def mj_R3 : String := "IsomerList$TextReader"
def mj_T3 : u_T := fun k => match k with
  | 0 => ("IsomerList$TextReader", "molecule", "LIsomerList$Molecule;", true)
  | 1 => ("IsomerList$TextReader", "ringAtoms", "[I", true)
  | 2 => ("IsomerList$TextReader", "ringBonds", "[I", true)
  | 3 => ("IsomerList$TextReader", "branchAtoms", "[I", true)
  | 4 => ("IsomerList$TextReader", "branches", "I", false)
  | 5 => ("IsomerList$TextReader", "last", "I", false)
  | 6 => ("IsomerList$TextReader", "ringsMayFollow", "Z", false)
  | _ => ("IsomerList$TextReader", "at", "I", false)
def mj_t3 : Nat → FieldType := fun k => match k with
  | 0 => .object "IsomerList$Molecule"
  | 1 => .array .int
  | 2 => .array .int
  | 3 => .array .int
  | 4 => .int
  | 5 => .int
  | 6 => .boolean
  | _ => .int
theorem mj_in3 : ∀ w ∈ u_ws mj_R3 mj_T3 8, w ∈ mj_tb := by decide +kernel
theorem mj_nm3 : ∀ a, a < 8 → ∀ b, b < 8 → a ≠ b → (mj_T3 a).2.1 ≠ (mj_T3 b).2.1 := by decide +kernel
theorem mj_ty3 : ∀ k, k < 8 → parseFieldDescriptor (mj_T3 k).2.2.1 = some (mj_t3 k) := by decide +kernel
def mj_R4 : String := "IsomerList$Molecule"
def mj_T4 : u_T := fun k => match k with
  | 0 => ("IsomerList$Molecule", "kinds", "[I", true)
  | 1 => ("IsomerList$Molecule", "free", "[I", true)
  | 2 => ("IsomerList$Molecule", "bonds", "[I", true)
  | _ => ("IsomerList$Molecule", "atoms", "I", false)
def mj_t4 : Nat → FieldType := fun k => match k with
  | 0 => .array .int
  | 1 => .array .int
  | 2 => .array .int
  | _ => .int
theorem mj_in4 : ∀ w ∈ u_ws mj_R4 mj_T4 4, w ∈ mj_tb := by decide +kernel
theorem mj_nm4 : ∀ a, a < 4 → ∀ b, b < 4 → a ≠ b → (mj_T4 a).2.1 ≠ (mj_T4 b).2.1 := by decide +kernel
theorem mj_ty4 : ∀ k, k < 4 → parseFieldDescriptor (mj_T4 k).2.2.1 = some (mj_t4 k) := by decide +kernel
def mj_R5 : String := "IsomerList$TextWriter"
def mj_T5 : u_T := fun k => match k with
  | 0 => ("IsomerList$TextWriter", "cameFrom", "[I", true)
  | 1 => ("IsomerList$TextWriter", "ringStarts", "[I", true)
  | 2 => ("IsomerList$TextWriter", "ringEnds", "[I", true)
  | 3 => ("IsomerList$TextWriter", "rings", "I", false)
  | 4 => ("IsomerList$TextWriter", "molecule", "LIsomerList$Molecule;", false)
  | _ => ("IsomerList$TextWriter", "line", "LIsomerList$Line;", false)
def mj_t5 : Nat → FieldType := fun k => match k with
  | 0 => .array .int
  | 1 => .array .int
  | 2 => .array .int
  | 3 => .int
  | 4 => .object "IsomerList$Molecule"
  | _ => .object "IsomerList$Line"
theorem mj_in5 : ∀ w ∈ u_ws mj_R5 mj_T5 6, w ∈ mj_tb := by decide +kernel
theorem mj_nm5 : ∀ a, a < 6 → ∀ b, b < 6 → a ≠ b → (mj_T5 a).2.1 ≠ (mj_T5 b).2.1 := by decide +kernel
theorem mj_ty5 : ∀ k, k < 6 → parseFieldDescriptor (mj_T5 k).2.2.1 = some (mj_t5 k) := by decide +kernel
def mj_R6 : String := "IsomerList$Numbering"
def mj_T6 : u_T := fun k => match k with
  | 0 => ("IsomerList$Numbering", "chosen", "[I", true)
  | 1 => ("IsomerList$Numbering", "taken", "[Z", true)
  | 2 => ("IsomerList$Numbering", "molecule", "LIsomerList$Molecule;", false)
  | 3 => ("IsomerList$Numbering", "wanted", "[I", false)
  | 4 => ("IsomerList$Numbering", "atoms", "I", false)
  | 5 => ("IsomerList$Numbering", "greatest", "I", false)
  | _ => ("IsomerList$Numbering", "sharers", "I", false)
def mj_t6 : Nat → FieldType := fun k => match k with
  | 0 => .array .int
  | 1 => .array .boolean
  | 2 => .object "IsomerList$Molecule"
  | 3 => .array .int
  | 4 => .int
  | 5 => .int
  | _ => .int
theorem mj_in6 : ∀ w ∈ u_ws mj_R6 mj_T6 7, w ∈ mj_tb := by decide +kernel
theorem mj_nm6 : ∀ a, a < 7 → ∀ b, b < 7 → a ≠ b → (mj_T6 a).2.1 ≠ (mj_T6 b).2.1 := by decide +kernel
theorem mj_ty6 : ∀ k, k < 7 → parseFieldDescriptor (mj_T6 k).2.2.1 = some (mj_t6 k) := by decide +kernel
def mj_R7 : String := "IsomerList$Lister"
def mj_T7 : u_T := fun k => match k with
  | 0 => ("IsomerList$Lister", "numbering", "LIsomerList$Numbering;", true)
  | 1 => ("IsomerList$Lister", "molecule", "LIsomerList$Molecule;", true)
  | 2 => ("IsomerList$Lister", "valencesFrom", "[I", true)
  | 3 => ("IsomerList$Lister", "groups", "[I", true)
  | _ => ("IsomerList$Lister", "catalogue", "LIsomerList$Catalogue;", false)
def mj_t7 : Nat → FieldType := fun k => match k with
  | 0 => .object "IsomerList$Numbering"
  | 1 => .object "IsomerList$Molecule"
  | 2 => .array .int
  | 3 => .array .int
  | _ => .object "IsomerList$Catalogue"
theorem mj_in7 : ∀ w ∈ u_ws mj_R7 mj_T7 5, w ∈ mj_tb := by decide +kernel
theorem mj_nm7 : ∀ a, a < 5 → ∀ b, b < 5 → a ≠ b → (mj_T7 a).2.1 ≠ (mj_T7 b).2.1 := by decide +kernel
theorem mj_ty7 : ∀ k, k < 5 → parseFieldDescriptor (mj_T7 k).2.2.1 = some (mj_t7 k) := by decide +kernel
def mj_R8 : String := "IsomerList$Catalogue"
def mj_T8 : u_T := fun k => match k with
  | 0 => ("IsomerList$Catalogue", "kinds", "[I", true)
  | 1 => ("IsomerList$Catalogue", "codes", "[I", true)
  | 2 => ("IsomerList$Catalogue", "atoms", "I", false)
  | 3 => ("IsomerList$Catalogue", "hydrogenSum", "I", false)
  | _ => ("IsomerList$Catalogue", "size", "I", false)
def mj_t8 : Nat → FieldType := fun k => match k with
  | 0 => .array .int
  | 1 => .array .int
  | 2 => .int
  | 3 => .int
  | _ => .int
theorem mj_in8 : ∀ w ∈ u_ws mj_R8 mj_T8 5, w ∈ mj_tb := by decide +kernel
theorem mj_nm8 : ∀ a, a < 5 → ∀ b, b < 5 → a ≠ b → (mj_T8 a).2.1 ≠ (mj_T8 b).2.1 := by decide +kernel
theorem mj_ty8 : ∀ k, k < 5 → parseFieldDescriptor (mj_T8 k).2.2.1 = some (mj_t8 k) := by decide +kernel
def mj_R9 : String := "IsomerListModel"
def mj_T9 : u_T := fun k => match k with
  | 0 => ("IsomerListModel", "refusal", "I", false)
  | 1 => ("IsomerListModel", "size", "I", false)
  | 2 => ("IsomerListModel", "line", "[C", true)
  | 3 => ("IsomerListModel", "wrong", "I", false)
  | 4 => ("IsomerListModel", "atoms", "I", false)
  | 5 => ("IsomerListModel", "hydrogenSum", "I", false)
  | 6 => ("IsomerListModel", "elements", "[I", true)
  | 7 => ("IsomerListModel", "structures", "I", false)
  | 8 => ("IsomerListModel", "list", "[I", true)
  | 9 => ("IsomerListModel", "tried", "I", false)
  | 10 => ("IsomerListModel", "kind", "[I", true)
  | 11 => ("IsomerListModel", "code", "[I", true)
  | 12 => ("IsomerListModel", "free", "[I", true)
  | 13 => ("IsomerListModel", "rest", "I", false)
  | 14 => ("IsomerListModel", "next", "[I", true)
  | 15 => ("IsomerListModel", "found", "I", false)
  | 16 => ("IsomerListModel", "fresh", "[I", true)
  | 17 => ("IsomerListModel", "numbered", "[I", true)
  | 18 => ("IsomerListModel", "isTaken", "[Z", true)
  | 19 => ("IsomerListModel", "signs", "I", false)
  | 20 => ("IsomerListModel", "signOf", "[I", true)
  | 21 => ("IsomerListModel", "bonds", "[I", true)
  | 22 => ("IsomerListModel", "best", "[I", true)
  | 23 => ("IsomerListModel", "many", "[I", true)
  | 24 => ("IsomerListModel", "pile", "[I", true)
  | 25 => ("IsomerListModel", "ringAtom", "[I", true)
  | 26 => ("IsomerListModel", "ringBond", "[I", true)
  | 27 => ("IsomerListModel", "before", "[I", true)
  | 28 => ("IsomerListModel", "rings", "[I", true)
  | 29 => ("IsomerListModel", "done", "[I", true)
  | 30 => ("IsomerListModel", "isOpen", "[Z", true)
  | 31 => ("IsomerListModel", "isReached", "[Z", true)
  | _ => ("IsomerListModel", "last", "[I", true)
def mj_t9 : Nat → FieldType := fun k => match k with
  | 0 => .int
  | 1 => .int
  | 2 => .array .char
  | 3 => .int
  | 4 => .int
  | 5 => .int
  | 6 => .array .int
  | 7 => .int
  | 8 => .array .int
  | 9 => .int
  | 10 => .array .int
  | 11 => .array .int
  | 12 => .array .int
  | 13 => .int
  | 14 => .array .int
  | 15 => .int
  | 16 => .array .int
  | 17 => .array .int
  | 18 => .array .boolean
  | 19 => .int
  | 20 => .array .int
  | 21 => .array .int
  | 22 => .array .int
  | 23 => .array .int
  | 24 => .array .int
  | 25 => .array .int
  | 26 => .array .int
  | 27 => .array .int
  | 28 => .array .int
  | 29 => .array .int
  | 30 => .array .boolean
  | 31 => .array .boolean
  | _ => .array .int
theorem mj_in9 : ∀ w ∈ u_ws mj_R9 mj_T9 33, w ∈ mj_tb := by decide +kernel
theorem mj_nm9 : ∀ a, a < 33 → ∀ b, b < 33 → a ≠ b → (mj_T9 a).2.1 ≠ (mj_T9 b).2.1 := by decide +kernel
theorem mj_ty9 : ∀ k, k < 33 → parseFieldDescriptor (mj_T9 k).2.2.1 = some (mj_t9 k) := by decide +kernel
abbrev mj_cl : List vw_C := [(mj_R0, mj_T0, 10), (mj_R1, mj_T1, 2), (mj_R2, mj_T2, 2), (mj_R3, mj_T3, 8), (mj_R4, mj_T4, 4), (mj_R5, mj_T5, 6), (mj_R6, mj_T6, 7), (mj_R7, mj_T7, 5), (mj_R8, mj_T8, 5), (mj_R9, mj_T9, 33)]
def mj_t : Nat → Nat → FieldType := fun c => match c with
  | 0 => mj_t0
  | 1 => mj_t1
  | 2 => mj_t2
  | 3 => mj_t3
  | 4 => mj_t4
  | 5 => mj_t5
  | 6 => mj_t6
  | 7 => mj_t7
  | 8 => mj_t8
  | _ => mj_t9
theorem mj_in : ∀ (ci : Nat) (q : vw_C), mj_cl[ci]? = some q → ∀ w ∈ u_ws q.1 q.2.1 q.2.2, w ∈ mj_tb := by
  intro ci q h
  match ci, h with
  | 0, h => cases h; exact mj_in0
  | 1, h => cases h; exact mj_in1
  | 2, h => cases h; exact mj_in2
  | 3, h => cases h; exact mj_in3
  | 4, h => cases h; exact mj_in4
  | 5, h => cases h; exact mj_in5
  | 6, h => cases h; exact mj_in6
  | 7, h => cases h; exact mj_in7
  | 8, h => cases h; exact mj_in8
  | 9, h => cases h; exact mj_in9
  | k + 10, h => simp [mj_cl] at h
theorem mj_nm : ∀ (ci : Nat) (q : vw_C), mj_cl[ci]? = some q → ∀ a, a < q.2.2 → ∀ b, b < q.2.2 → a ≠ b → (q.2.1 a).2.1 ≠ (q.2.1 b).2.1 := by
  intro ci q h
  match ci, h with
  | 0, h => cases h; exact mj_nm0
  | 1, h => cases h; exact mj_nm1
  | 2, h => cases h; exact mj_nm2
  | 3, h => cases h; exact mj_nm3
  | 4, h => cases h; exact mj_nm4
  | 5, h => cases h; exact mj_nm5
  | 6, h => cases h; exact mj_nm6
  | 7, h => cases h; exact mj_nm7
  | 8, h => cases h; exact mj_nm8
  | 9, h => cases h; exact mj_nm9
  | k + 10, h => simp [mj_cl] at h
theorem mj_ty : ∀ (ci : Nat) (q : vw_C), mj_cl[ci]? = some q → ∀ k, k < q.2.2 → parseFieldDescriptor (q.2.1 k).2.2.1 = some (mj_t ci k) := by
  intro ci q h
  match ci, h with
  | 0, h => cases h; exact mj_ty0
  | 1, h => cases h; exact mj_ty1
  | 2, h => cases h; exact mj_ty2
  | 3, h => cases h; exact mj_ty3
  | 4, h => cases h; exact mj_ty4
  | 5, h => cases h; exact mj_ty5
  | 6, h => cases h; exact mj_ty6
  | 7, h => cases h; exact mj_ty7
  | 8, h => cases h; exact mj_ty8
  | 9, h => cases h; exact mj_ty9
  | k + 10, h => simp [mj_cl] at h
end
section
/-! mj, part 03: abstract states, and what the machine's states have to do with them. An abstract reference is a number: below mj_st a cell made since the law's start (its place behind the start's last cell), from mj_st on one of four arrays that nobody writes (three static tables, the script). -/
abbrev mj_E : Type := (Nat × vp_A) ⊕ (Nat × List Value)
/-- cells by their ids; how many are known; how many there are -/
abbrev mj_S : Type := (Nat → mj_E) × Nat × Nat
abbrev mj_G : Type := Launch × State × va_G × (Nat → ClassId) × (Nat → Nat) × (Nat → vp_A)
abbrev mj_G.l (Γ : mj_G) : Launch := Γ.1
abbrev mj_G.s (Γ : mj_G) : State := Γ.2.1
abbrev mj_G.D (Γ : mj_G) : va_G := Γ.2.2.1
abbrev mj_G.cA (Γ : mj_G) : Nat → ClassId := Γ.2.2.2.1
abbrev mj_G.ra (Γ : mj_G) : Nat → Nat := Γ.2.2.2.2.1
abbrev mj_G.ro (Γ : mj_G) : Nat → vp_A := Γ.2.2.2.2.2
/-- code, own class, locals, what it returns, its name -/
abbrev mj_M : Type := ByteArray × String × Nat × Option FieldType × String
abbrev mj_M.cc (M : mj_M) : ByteArray := M.1
abbrev mj_M.own (M : mj_M) : String := M.2.1
abbrev mj_M.nL (M : mj_M) : Nat := M.2.2.1
abbrev mj_M.ret (M : mj_M) : Option FieldType := M.2.2.2.1
abbrev mj_M.name (M : mj_M) : String := M.2.2.2.2
/-- how a method ends: it returns, or throws an exception of the class with that number -/
abbrev mj_O : Type := Option Value ⊕ Nat
def mj_st : Nat := 1000000
def mj_ad (Γ : mj_G) (k : Nat) : Nat := if k < mj_st then Γ.s.heap.size + k else Γ.ra (k - mj_st)
def mj_v (Γ : mj_G) : Value → Value := fun v => match v with
  | .ref k => .ref (mj_ad Γ k)
  | v => v
def mj_e (Γ : mj_G) : mj_E → va_E := fun e => match e with
  | .inl a => .inl (Γ.cA a.1, a.2)
  | .inr o => .inr (o.1, o.2.map (mj_v Γ))
def mj_ws (Γ : mj_G) (S : mj_S) : va_W := (List.range S.2.1).map fun k => (mj_ad Γ k, mj_e Γ (S.1 k))
def mj_A (Γ : mj_G) : Nat → Prop := fun q => Γ.s.heap.size ≤ q
def mj_at : Nat → FieldType := fun t => match t with
  | 0 => .int
  | 1 => .char
  | 2 => .boolean
  | _ => .long
def mj_rt : Nat → Nat := fun k => match k with
  | 0 => 0
  | 1 => 1
  | 2 => 1
  | _ => 0
def mj_rn : Nat → String × String := fun k => match k with
  | 0 => ("VALENCES", "[I")
  | 1 => ("FIRST_LETTERS", "[C")
  | _ => ("SECOND_LETTERS", "[C")
def mj_xn : Nat → String := fun k => match k with
  | 0 => "java/lang/IllegalStateException"
  | _ => "java/lang/IndexOutOfBoundsException"
abbrev mj_tys (Γ : mj_G) : List (ClassId × FieldType) := [(Γ.cA 0, .int), (Γ.cA 1, .char), (Γ.cA 2, .boolean), (Γ.cA 3, .long)]
/-- what an int array holds -/
def mj_ai (x : vp_A) : Nat → Int32 := match x.2 with
  | .inl f => f
  | _ => fun _ => 0
/-- what the law's start gives -/
def mj_F (Γ : mj_G) : Prop :=
  (∃ a0 : Array Value, ∀ w ∈ lw_tbl, w.before a0 Γ.s = true) ∧ va_K Γ.D mj_cl (mj_tys Γ) Γ.s ∧
  (∀ k, k < 3 → va_Z "IsomerList" (mj_rn k).1 (mj_rn k).2 (.ref (Γ.ra k)) (mj_A Γ) Γ.s Γ.s.heap) ∧
  (∀ k, k < 4 → va_T (mj_at (mj_rt k)) (Γ.ra k) (Γ.ro k).1 (fun j => .int (mj_ai (Γ.ro k) j)) (mj_A Γ) Γ.s Γ.s.heap)
/-- a state of the law's run: the tables as at the start or warmer, the start's cells as they were -/
def mj_C (Γ : mj_G) (U : State) : Prop :=
  mj_F Γ ∧ Γ.s.WarmedH U.vm ∧ Γ.s.heap.size ≤ U.heap.size ∧ ∀ q : Nat, q < Γ.s.heap.size → U.heap[q]? = Γ.s.heap[q]?
def mj_W (Γ : mj_G) (S : mj_S) (H : Heap) : Prop :=
  H.size = Γ.s.heap.size + S.2.2 ∧ S.2.1 ≤ S.2.2 ∧ S.2.1 ≤ mj_st ∧ va_P Γ.D mj_cl (mj_ws Γ S) H ∧
  ∀ k, k < 4 → S.1 (mj_st + k) = .inl (mj_rt k, Γ.ro k)
def mj_jk : Value → Bool := fun v => match v with
  | .retAddr _ => true
  | _ => false
def mj_L (Γ : mj_G) (ls : Array Slot) (lv : List Value) : Prop :=
  ls.size = lv.length ∧ lv_wf ls ∧ ∀ (i : Nat) (v : Value), lv[i]? = some v → mj_jk v = false → ls[i]? = some (.val (mj_v Γ v))
def mj_o (Γ : mj_G) (out : mj_O) (o : Outcome) (t : State) : Prop := match out with
  | .inl v => o = .returned (v.map (mj_v Γ))
  | .inr x => ∃ (a : Addr) (cell : Cell), o = .threw a ∧ t.heap[a]? = some cell ∧ (∀ k, cell.vm ≠ .statics k) ∧ t.vm.findClass (mj_xn x) = some cell.cls
/-- the end of a method that began in s -/
def mj_R (Γ : mj_G) (s : State) (mc ms : Nat) (P : mj_O → mj_S → Prop) (o : Outcome) (t : State) : Prop :=
  (∃ (out : mj_O) (S' : mj_S), mj_o Γ out o t ∧ P out S' ∧ mj_W Γ S' t.heap) ∧ va_F (mj_A Γ) s t ∧ s.WarmedH t.vm ∧ ∃ L, s.sameButNew ({ t with vm := s.vm } : State) L mc ms ∧ ∀ q ∈ L, mj_A Γ q.base
def mj_Q (Γ : mj_G) (below : List Frame) (s : State) (mc ms : Nat) (P : mj_O → mj_S → Prop) : State → Prop := fun t =>
  ∃ o : Outcome, t.status = .running ∧ Ended t below o ∧ mj_R Γ s mc ms P o t
def mj_X (Γ : mj_G) (d : Nat) (M : mj_M) (k n : Nat) (p : Program) (R : Room) (s : State) (m : MethodId) (meth : Method) (c : Code) (cells slots : Nat) : Prop :=
  p.tables.exec = Jvm.exec ∧ c.code = M.cc ∧ meth.sig.returnType = M.ret ∧ meth.locks = false ∧ c.maxLocals = M.nL ∧ s.vm.findClass M.own = some m.cls ∧ mj_C Γ s ∧
  d ≤ R.frames ∧ 40 * d ≤ R.locals ∧ cells + k ≤ R.cells ∧ slots + n ≤ R.slots ∧ meth.name = M.name ∧ c.exceptionTable.isEmpty = true
/-- FROM THIS ABSTRACT STATE THE METHOD M ENDS WITH P, making at most k more cells of n slots, nesting at most d frames -/
def mj_Ok (Γ : mj_G) (d : Nat) (M : mj_M) (k n pc : Nat) (lv st : List Value) (S : mj_S) (P : mj_O → mj_S → Prop) : Prop :=
  ∀ (p : Program) (e : Env) (R : Room) (s : State) (m : MethodId) (args : Array Value) (below : List Frame) (meth : Method) (c : Code) (H : Heap) (locs : List Loc) (cells slots : Nat) (ls : Array Slot),
    mj_X Γ d M k n p R s m meth c cells slots → va_S (mj_A Γ) s.heap H locs → mj_W Γ S H → mj_L Γ ls lv → lv.length = M.nL →
    W p Γ.l e R s m args below meth c H locs cells slots (mj_Q Γ below s (cells + k) (slots + n) P) (F0 m pc ls (st.map (mj_v Γ)))
/-- a method's contract, from one abstract state -/
def mj_Met (Γ : mj_G) (d : Nat) (y : MethodName) (M : mj_M) (av : List Value) (S : mj_S) (mc ms : Nat) (P : mj_O → mj_S → Prop) : Prop :=
  MetFree Γ.l y (headSpec [Cond.code y M.cc M.nL M.ret] { frames := d, cells := mc, slots := ms, locals := 40 * d })
    (fun v U => v = (av.map (mj_v Γ)).toArray ∧ mj_C Γ U ∧ mj_W Γ S U.heap) (fun _ _ _ _ _ => True) (fun _ st o t => mj_R Γ st mc ms P o t)
/-! small facts -/
theorem mj_ad_lt {Γ : mj_G} {k : Nat} (h : k < mj_st) : mj_ad Γ k = Γ.s.heap.size + k := if_pos h
theorem mj_ad_ro {Γ : mj_G} (k : Nat) : mj_ad Γ (mj_st + k) = Γ.ra k := by
  unfold mj_ad
  rw [if_neg (by omega), Nat.add_sub_cancel_left]
theorem mj_ws_at {Γ : mj_G} {S : mj_S} {k : Nat} (h : k < S.2.1) : (mj_ws Γ S)[k]? = some (mj_ad Γ k, mj_e Γ (S.1 k)) := by
  simp [mj_ws, h]
theorem mj_ws_inv {Γ : mj_G} {S : mj_S} {k : Nat} {q : Nat × va_E} (h : (mj_ws Γ S)[k]? = some q) : k < S.2.1 ∧ q = (mj_ad Γ k, mj_e Γ (S.1 k)) := by
  have h1 : k < (mj_ws Γ S).length := (List.getElem?_eq_some_iff.mp h).1
  have h2 : k < S.2.1 := by simpa [mj_ws] using h1
  exact ⟨h2, Option.some.inj (h.symm.trans (mj_ws_at h2))⟩
theorem mj_W.D {Γ : mj_G} {S : mj_S} {H : Heap} (h : mj_W Γ S H) : va_D (mj_A Γ) (mj_ws Γ S) := by
  have hs := h.2.2.1
  refine ⟨fun i j p q hi hj e => ?_, fun k q hk => ?_⟩
  · obtain ⟨h1, rfl⟩ := mj_ws_inv hi
    obtain ⟨h2, rfl⟩ := mj_ws_inv hj
    have e : mj_ad Γ i = mj_ad Γ j := e
    rw [mj_ad_lt (by omega), mj_ad_lt (by omega)] at e
    omega
  · obtain ⟨h1, rfl⟩ := mj_ws_inv hk
    show Γ.s.heap.size ≤ mj_ad Γ k
    rw [mj_ad_lt (by omega)]
    omega
theorem mj_C.K {Γ : mj_G} {U : State} (h : mj_C Γ U) : va_K Γ.D mj_cl (mj_tys Γ) U := va_K.moved h.2.1.alike h.1.2.1
theorem mj_C.w {Γ : mj_G} {U : State} (h : mj_C Γ U) (a : Array Value) : ∀ w ∈ mj_tb, w.before a U = true := by
  intro w hw
  obtain ⟨h1, h2⟩ := mj_tb_good hw
  obtain ⟨a0, h0⟩ := h.1.1
  exact word_at h.2.1 (good_of_word h2) (h0 w h1)
theorem mj_C.nF {Γ : mj_G} {U : State} (h : mj_C Γ U) {a : String} {i : Nat} {b n d ho : String} (hw : Cond.fieldLinkNest a i b n d ho ∈ lw_tbl) (x : Array Value) : (Cond.fieldLinkNest a i b n d ho).before x U = true := by
  obtain ⟨a0, h0⟩ := h.1.1
  exact va_Nw.use rfl (va_Nw.warmF h.2.1 (va_Nw.of rfl (h0 _ hw)))
theorem mj_C.nM {Γ : mj_G} {U : State} (h : mj_C Γ U) {a : String} {i : Nat} {y : MethodName} {ho : String} (hw : Cond.methodLinkNest a i y ho ∈ lw_tbl) : va_Nw (.methodLinkNest a i y ho) U := by
  obtain ⟨a0, h0⟩ := h.1.1
  exact va_Nw.warmM h.2.1 (va_Nw.of rfl (h0 _ hw))
theorem mj_C.kept {Γ : mj_G} {U : State} (h : mj_C Γ U) : ∀ a : Nat, a < Γ.s.heap.size → ¬ mj_A Γ a → U.heap[a]? = Γ.s.heap[a]? := fun a h1 _ => h.2.2.2 a h1
theorem mj_C.Z {Γ : mj_G} {U : State} (h : mj_C Γ U) {k : Nat} (hk : k < 3) : va_Z "IsomerList" (mj_rn k).1 (mj_rn k).2 (.ref (Γ.ra k)) (mj_A Γ) U U.heap := ((h.1.2.2.1 k hk).moved h.2.1.alike).kept h.kept
theorem mj_C.T {Γ : mj_G} {U : State} (h : mj_C Γ U) {k : Nat} (hk : k < 4) : va_T (mj_at (mj_rt k)) (Γ.ra k) (Γ.ro k).1 (fun j => .int (mj_ai (Γ.ro k) j)) (mj_A Γ) U U.heap := ((h.1.2.2.2 k hk).moved h.2.1.alike).kept h.kept
theorem mj_C.step {Γ : mj_G} {s t : State} (h : mj_C Γ s) (hw : s.WarmedH t.vm) (hf : va_F (mj_A Γ) s t) : mj_C Γ t := by
  obtain ⟨h1, h2, h3, h4⟩ := h
  exact ⟨h1, State.WarmedH.trans h2 hw, Nat.le_trans h3 hf.1, fun q hq => (hf.2 q (Nat.lt_of_lt_of_le hq h3) (Nat.not_le.mpr hq)).trans (h4 q hq)⟩
theorem mj_map_cons {Γ : mj_G} (v : Value) (l : List Value) : (v :: l).map (mj_v Γ) = mj_v Γ v :: l.map (mj_v Γ) := rfl
theorem mj_v_cat {Γ : mj_G} (v : Value) : (mj_v Γ v).category = v.category := by cases v <;> rfl
theorem mj_L.at {Γ : mj_G} {ls : Array Slot} {lv : List Value} (h : mj_L Γ ls lv) {i : Nat} {v : Value} (hi : lv[i]? = some v) (hj : mj_jk v = false) : ls[i]? = some (.val (mj_v Γ v)) := h.2.2 i v hi hj
/-- a store into a local, by the kit's row -/
def mj_al (Γ : mj_G) (lv : List Value) : List (Nat × Value) := (List.range lv.length).filterMap fun i => match lv[i]? with
  | some v => if mj_jk v = false then some (i, mj_v Γ v) else none
  | none => none
theorem mj_L.has {Γ : mj_G} {ls : Array Slot} {lv : List Value} (h : mj_L Γ ls lv) : lv_has ls lv.length (mj_al Γ lv) := by
  refine ⟨h.1, h.2.1, fun q hq => ?_⟩
  obtain ⟨i, -, hi⟩ := List.mem_filterMap.mp hq
  cases hv : lv[i]? with
  | none => rw [hv] at hi; simp at hi
  | some v =>
    rw [hv] at hi
    by_cases hj : mj_jk v = false
    · simp [hj] at hi
      rw [← hi]
      exact h.2.2 i v hv hj
    · simp [hj] at hi
theorem mj_al_mem {Γ : mj_G} {lv : List Value} {i : Nat} {v : Value} (hi : lv[i]? = some v) (hj : mj_jk v = false) : (i, mj_v Γ v) ∈ mj_al Γ lv := by
  refine List.mem_filterMap.mpr ⟨i, List.mem_range.mpr (List.getElem?_eq_some_iff.mp hi).1, ?_⟩
  simp [hi, hj]
/-- no local holds a long or a double -/
def mj_c1 (lv : List Value) : Bool := lv.all fun v => v.category == 1
theorem mj_L.store {Γ : mj_G} {ls' : Array Slot} {lv : List Value} {i : Nat} {v : Value} (hc : mj_c1 lv = true)
    (h : lv_has ls' lv.length ((i, mj_v Γ v) :: (mj_al Γ lv).filter (fun q => !(q.1 == i) && !(q.1 + 1 == i && q.2.category == 2)))) : mj_L Γ ls' (lv.set i v) := by
  refine ⟨by rw [h.1, List.length_set], h.2.1, fun j w hj hw => ?_⟩
  by_cases e : i = j
  · subst e
    have hl : i < lv.length := by
      have := (List.getElem?_eq_some_iff.mp hj).1
      rwa [List.length_set] at this
    rw [List.getElem?_set_self hl] at hj
    cases hj
    exact h.2.2 _ List.mem_cons_self
  · rw [List.getElem?_set_ne e] at hj
    refine h.2.2 (j, mj_v Γ w) (List.mem_cons_of_mem _ (List.mem_filter.mpr ⟨mj_al_mem hj hw, ?_⟩))
    have h1 : w.category = 1 := by
      have := List.all_eq_true.mp hc w (List.mem_of_getElem? hj)
      simpa using this
    have e' : ¬ j = i := fun q => e q.symm
    simp [e', mj_v_cat, h1]
end
section
/-! mj, part 04: one row an instruction: stack, locals, branches. -/
section MJ4
variable {Γ : mj_G} {d : Nat} {M : mj_M} {k n pc : Nat} {lv st : List Value} {S : mj_S} {P : mj_O → mj_S → Prop}
theorem mj_iadd {x y : Int32} (hd : decode M.cc pc = .ok (.iadd, 1))  (h : mj_Ok Γ d M k n (pc + 1) lv (.int (x + y) :: st) S P) : mj_Ok Γ d M k n pc lv (.int y :: .int x :: st) S P := by
  intro p e R s m args below meth c H locs cells slots ls hX hS hW hL hN
  exact lv_iadd hX.1 hX.2.1 hd  (h p e R s m args below meth c H locs cells slots ls hX hS hW hL hN)
theorem mj_isub {x y : Int32} (hd : decode M.cc pc = .ok (.isub, 1))  (h : mj_Ok Γ d M k n (pc + 1) lv (.int (x - y) :: st) S P) : mj_Ok Γ d M k n pc lv (.int y :: .int x :: st) S P := by
  intro p e R s m args below meth c H locs cells slots ls hX hS hW hL hN
  exact lv_isub hX.1 hX.2.1 hd  (h p e R s m args below meth c H locs cells slots ls hX hS hW hL hN)
theorem mj_imul {x y : Int32} (hd : decode M.cc pc = .ok (.imul, 1))  (h : mj_Ok Γ d M k n (pc + 1) lv (.int (x * y) :: st) S P) : mj_Ok Γ d M k n pc lv (.int y :: .int x :: st) S P := by
  intro p e R s m args below meth c H locs cells slots ls hX hS hW hL hN
  exact lv_imul hX.1 hX.2.1 hd  (h p e R s m args below meth c H locs cells slots ls hX hS hW hL hN)
theorem mj_iand {x y : Int32} (hd : decode M.cc pc = .ok (.iand, 1))  (h : mj_Ok Γ d M k n (pc + 1) lv (.int (x &&& y) :: st) S P) : mj_Ok Γ d M k n pc lv (.int y :: .int x :: st) S P := by
  intro p e R s m args below meth c H locs cells slots ls hX hS hW hL hN
  exact lv_iand hX.1 hX.2.1 hd  (h p e R s m args below meth c H locs cells slots ls hX hS hW hL hN)
theorem mj_ior {x y : Int32} (hd : decode M.cc pc = .ok (.ior, 1))  (h : mj_Ok Γ d M k n (pc + 1) lv (.int (x ||| y) :: st) S P) : mj_Ok Γ d M k n pc lv (.int y :: .int x :: st) S P := by
  intro p e R s m args below meth c H locs cells slots ls hX hS hW hL hN
  exact lv_ior hX.1 hX.2.1 hd  (h p e R s m args below meth c H locs cells slots ls hX hS hW hL hN)
theorem mj_ishl {x y : Int32} (hd : decode M.cc pc = .ok (.ishl, 1))  (h : mj_Ok Γ d M k n (pc + 1) lv (.int (x <<< (y &&& 31)) :: st) S P) : mj_Ok Γ d M k n pc lv (.int y :: .int x :: st) S P := by
  intro p e R s m args below meth c H locs cells slots ls hX hS hW hL hN
  exact lv_ishl hX.1 hX.2.1 hd  (h p e R s m args below meth c H locs cells slots ls hX hS hW hL hN)
theorem mj_ishr {x y : Int32} (hd : decode M.cc pc = .ok (.ishr, 1))  (h : mj_Ok Γ d M k n (pc + 1) lv (.int (x >>> (y &&& 31)) :: st) S P) : mj_Ok Γ d M k n pc lv (.int y :: .int x :: st) S P := by
  intro p e R s m args below meth c H locs cells slots ls hX hS hW hL hN
  exact lv_ishr hX.1 hX.2.1 hd  (h p e R s m args below meth c H locs cells slots ls hX hS hW hL hN)
theorem mj_idiv {x y : Int32} (hd : decode M.cc pc = .ok (.idiv, 1)) (hne : ¬ y = 0) (h : mj_Ok Γ d M k n (pc + 1) lv (.int (x / y) :: st) S P) : mj_Ok Γ d M k n pc lv (.int y :: .int x :: st) S P := by
  intro p e R s m args below meth c H locs cells slots ls hX hS hW hL hN
  exact lv_idiv hX.1 hX.2.1 hd hne (h p e R s m args below meth c H locs cells slots ls hX hS hW hL hN)
theorem mj_irem {x y : Int32} (hd : decode M.cc pc = .ok (.irem, 1)) (hne : ¬ y = 0) (h : mj_Ok Γ d M k n (pc + 1) lv (.int (x - x / y * y) :: st) S P) : mj_Ok Γ d M k n pc lv (.int y :: .int x :: st) S P := by
  intro p e R s m args below meth c H locs cells slots ls hX hS hW hL hN
  exact lv_irem hX.1 hX.2.1 hd hne (h p e R s m args below meth c H locs cells slots ls hX hS hW hL hN)
theorem mj_ineg {x : Int32} (hd : decode M.cc pc = .ok (.ineg, 1))  (h : mj_Ok Γ d M k n (pc + 1) lv (.int (-x) :: st) S P) : mj_Ok Γ d M k n pc lv (.int x :: st) S P := by
  intro p e R s m args below meth c H locs cells slots ls hX hS hW hL hN
  exact lv_ineg hX.1 hX.2.1 hd  (h p e R s m args below meth c H locs cells slots ls hX hS hW hL hN)
theorem mj_iconst {i : Int} {v : Int32} (hd : decode M.cc pc = .ok (.iconst i, 1)) (hv : Int32.ofInt i = v) (h : mj_Ok Γ d M k n (pc + 1) lv (.int v :: st) S P) : mj_Ok Γ d M k n pc lv (st) S P := by
  intro p e R s m args below meth c H locs cells slots ls hX hS hW hL hN
  exact lv_iconst hX.1 hX.2.1 hd hv (h p e R s m args below meth c H locs cells slots ls hX hS hW hL hN)
theorem mj_bipush {i : Int} {v : Int32} (hd : decode M.cc pc = .ok (.bipush i, 2)) (hv : (Int8.ofInt i).toInt32 = v) (h : mj_Ok Γ d M k n (pc + 2) lv (.int v :: st) S P) : mj_Ok Γ d M k n pc lv (st) S P := by
  intro p e R s m args below meth c H locs cells slots ls hX hS hW hL hN
  exact lv_bipush hX.1 hX.2.1 hd hv (h p e R s m args below meth c H locs cells slots ls hX hS hW hL hN)
theorem mj_sipush {i : Int} {v : Int32} (hd : decode M.cc pc = .ok (.sipush i, 3)) (hv : (Int16.ofInt i).toInt32 = v) (h : mj_Ok Γ d M k n (pc + 3) lv (.int v :: st) S P) : mj_Ok Γ d M k n pc lv (st) S P := by
  intro p e R s m args below meth c H locs cells slots ls hX hS hW hL hN
  exact lv_sipush hX.1 hX.2.1 hd hv (h p e R s m args below meth c H locs cells slots ls hX hS hW hL hN)
theorem mj_i2l {x : Int32} (hd : decode M.cc pc = .ok (.i2l, 1))  (h : mj_Ok Γ d M k n (pc + 1) lv (.long x.toInt64 :: st) S P) : mj_Ok Γ d M k n pc lv (.int x :: st) S P := by
  intro p e R s m args below meth c H locs cells slots ls hX hS hW hL hN
  exact lv_i2l hX.1 hX.2.1 hd rfl (h p e R s m args below meth c H locs cells slots ls hX hS hW hL hN)
theorem mj_i2c {x : Int32} (hd : decode M.cc pc = .ok (.i2c, 1))  (h : mj_Ok Γ d M k n (pc + 1) lv (.int (x.toUInt32 % 65536).toInt32 :: st) S P) : mj_Ok Γ d M k n pc lv (.int x :: st) S P := by
  intro p e R s m args below meth c H locs cells slots ls hX hS hW hL hN
  exact lv_i2c hX.1 hX.2.1 hd rfl (h p e R s m args below meth c H locs cells slots ls hX hS hW hL hN)
theorem mj_lcmp {x y : Int64} (hd : decode M.cc pc = .ok (.lcmp, 1))  (h : mj_Ok Γ d M k n (pc + 1) lv (.int (lg_cmp x y) :: st) S P) : mj_Ok Γ d M k n pc lv (.long y :: .long x :: st) S P := by
  intro p e R s m args below meth c H locs cells slots ls hX hS hW hL hN
  exact W.lcmp hX.1 hX.2.1 hd  (h p e R s m args below meth c H locs cells slots ls hX hS hW hL hN)
theorem mj_iload {i : Nat} {x : Int32} (hd : decode M.cc pc = .ok (.iload i, 2)) (hi : lv[i]? = some (.int x)) (h : mj_Ok Γ d M k n (pc + 2) lv (.int x :: st) S P) : mj_Ok Γ d M k n pc lv (st) S P := by
  intro p e R s m args below meth c H locs cells slots ls hX hS hW hL hN
  exact lv_iload hX.1 hX.2.1 hd (hL.at hi rfl) (h p e R s m args below meth c H locs cells slots ls hX hS hW hL hN)
theorem mj_aload {i : Nat} {x : Nat} (hd : decode M.cc pc = .ok (.aload i, 2)) (hi : lv[i]? = some (.ref x)) (h : mj_Ok Γ d M k n (pc + 2) lv (.ref x :: st) S P) : mj_Ok Γ d M k n pc lv (st) S P := by
  intro p e R s m args below meth c H locs cells slots ls hX hS hW hL hN
  exact lv_aload hX.1 hX.2.1 hd (hL.at hi rfl) (h p e R s m args below meth c H locs cells slots ls hX hS hW hL hN)
theorem mj_iload_n {i : Fin 4} {x : Int32} (hd : decode M.cc pc = .ok (.iload_n i, 1)) (hi : lv[(i : Nat)]? = some (.int x)) (h : mj_Ok Γ d M k n (pc + 1) lv (.int x :: st) S P) : mj_Ok Γ d M k n pc lv (st) S P := by
  intro p e R s m args below meth c H locs cells slots ls hX hS hW hL hN
  exact lv_iload_n hX.1 hX.2.1 hd rfl (hL.at hi rfl) (h p e R s m args below meth c H locs cells slots ls hX hS hW hL hN)
theorem mj_aload_n {i : Fin 4} {x : Nat} (hd : decode M.cc pc = .ok (.aload_n i, 1)) (hi : lv[(i : Nat)]? = some (.ref x)) (h : mj_Ok Γ d M k n (pc + 1) lv (.ref x :: st) S P) : mj_Ok Γ d M k n pc lv (st) S P := by
  intro p e R s m args below meth c H locs cells slots ls hX hS hW hL hN
  exact lv_aload_n hX.1 hX.2.1 hd rfl (hL.at hi rfl) (h p e R s m args below meth c H locs cells slots ls hX hS hW hL hN)
theorem mj_dup {v : Value} (hd : decode M.cc pc = .ok (.dup, 1)) (hv : v.category = 1) (h : mj_Ok Γ d M k n (pc + 1) lv (v :: v :: st) S P) : mj_Ok Γ d M k n pc lv (v :: st) S P := by
  intro p e R s m args below meth c H locs cells slots ls hX hS hW hL hN
  exact lv_dup hX.1 hX.2.1 hd ((mj_v_cat v).trans hv) (h p e R s m args below meth c H locs cells slots ls hX hS hW hL hN)
theorem mj_dup2 {v w : Value} (hd : decode M.cc pc = .ok (.dup2, 1)) (hv : v.category = 1) (hw : w.category = 1) (h : mj_Ok Γ d M k n (pc + 1) lv (v :: w :: v :: w :: st) S P) : mj_Ok Γ d M k n pc lv (v :: w :: st) S P := by
  intro p e R s m args below meth c H locs cells slots ls hX hS hW hL hN
  exact lv_dup2_11 hX.1 hX.2.1 hd ((mj_v_cat v).trans hv) ((mj_v_cat w).trans hw) (h p e R s m args below meth c H locs cells slots ls hX hS hW hL hN)
theorem mj_pop {v : Value} (hd : decode M.cc pc = .ok (.pop, 1)) (hv : v.category = 1) (h : mj_Ok Γ d M k n (pc + 1) lv (st) S P) : mj_Ok Γ d M k n pc lv (v :: st) S P := by
  intro p e R s m args below meth c H locs cells slots ls hX hS hW hL hN
  exact lv_pop hX.1 hX.2.1 hd ((mj_v_cat v).trans hv) (h p e R s m args below meth c H locs cells slots ls hX hS hW hL hN)
theorem mj_null  (hd : decode M.cc pc = .ok (.aconst_null, 1))  (h : mj_Ok Γ d M k n (pc + 1) lv (.null :: st) S P) : mj_Ok Γ d M k n pc lv (st) S P := by
  intro p e R s m args below meth c H locs cells slots ls hX hS hW hL hN
  exact lv_null hX.1 hX.2.1 hd  (h p e R s m args below meth c H locs cells slots ls hX hS hW hL hN)
theorem mj_istore {i : Nat} {x : Int32} {lv' : List Value} (hd : decode M.cc pc = .ok (.istore i, 2)) (hc : mj_c1 lv = true) (hi : Nat.blt i lv.length = true) (hl : lv.set i (.int x) = lv') (h : mj_Ok Γ d M k n (pc + 2) lv' st S P) : mj_Ok Γ d M k n pc lv (.int x :: st) S P := by
  intro p e R s m args below meth c H locs cells slots ls hX hS hW hL hN
  subst hl
  exact lv_istore hX.1 hX.2.1 hd hL.has (Nat.le_of_ble_eq_true hi) rfl (fun ls' hl' => h p e R s m args below meth c H locs cells slots ls' hX hS hW (mj_L.store (v := .int x) hc hl') (by rw [List.length_set]; exact hN))
theorem mj_astore {i : Nat} {x : Nat} {lv' : List Value} (hd : decode M.cc pc = .ok (.astore i, 2)) (hc : mj_c1 lv = true) (hi : Nat.blt i lv.length = true) (hl : lv.set i (.ref x) = lv') (h : mj_Ok Γ d M k n (pc + 2) lv' st S P) : mj_Ok Γ d M k n pc lv (.ref x :: st) S P := by
  intro p e R s m args below meth c H locs cells slots ls hX hS hW hL hN
  subst hl
  exact lv_astore hX.1 hX.2.1 hd hL.has (Nat.le_of_ble_eq_true hi) rfl (fun ls' hl' => h p e R s m args below meth c H locs cells slots ls' hX hS hW (mj_L.store (v := .ref x) hc hl') (by rw [List.length_set]; exact hN))
theorem mj_istore_n {i : Fin 4} {x : Int32} {lv' : List Value} (hd : decode M.cc pc = .ok (.istore_n i, 1)) (hc : mj_c1 lv = true) (hi : Nat.blt (i : Nat) lv.length = true) (hl : lv.set (i : Nat) (.int x) = lv') (h : mj_Ok Γ d M k n (pc + 1) lv' st S P) : mj_Ok Γ d M k n pc lv (.int x :: st) S P := by
  intro p e R s m args below meth c H locs cells slots ls hX hS hW hL hN
  subst hl
  exact lv_istore_n hX.1 hX.2.1 hd rfl hL.has (Nat.le_of_ble_eq_true hi) rfl (fun ls' hl' => h p e R s m args below meth c H locs cells slots ls' hX hS hW (mj_L.store (v := .int x) hc hl') (by rw [List.length_set]; exact hN))
theorem mj_astore_n {i : Fin 4} {x : Nat} {lv' : List Value} (hd : decode M.cc pc = .ok (.astore_n i, 1)) (hc : mj_c1 lv = true) (hi : Nat.blt (i : Nat) lv.length = true) (hl : lv.set (i : Nat) (.ref x) = lv') (h : mj_Ok Γ d M k n (pc + 1) lv' st S P) : mj_Ok Γ d M k n pc lv (.ref x :: st) S P := by
  intro p e R s m args below meth c H locs cells slots ls hX hS hW hL hN
  subst hl
  exact lv_astore_n hX.1 hX.2.1 hd rfl hL.has (Nat.le_of_ble_eq_true hi) rfl (fun ls' hl' => h p e R s m args below meth c H locs cells slots ls' hX hS hW (mj_L.store (v := .ref x) hc hl') (by rw [List.length_set]; exact hN))
theorem mj_iinc {i : Nat} {z : Int} {x v : Int32} {lv' : List Value} (hd : decode M.cc pc = .ok (.iinc i z, 3)) (hc : mj_c1 lv = true) (hx : lv[i]? = some (.int x)) (hv : x + Int32.ofInt z = v) (hl : lv.set i (.int v) = lv') (h : mj_Ok Γ d M k n (pc + 3) lv' st S P) : mj_Ok Γ d M k n pc lv st S P := by
  intro p e R s m args below meth c H locs cells slots ls hX hS hW hL hN
  subst hl
  obtain ⟨q, hq⟩ := List.getElem?_of_mem (mj_al_mem (Γ := Γ) hx rfl)
  exact lv_iinc hX.1 hX.2.1 hd hL.has (k := q) hq hv (List.getElem?_eq_some_iff.mp hx).1 rfl (fun ls' hl' => h p e R s m args below meth c H locs cells slots ls' hX hS hW (mj_L.store (v := .int v) hc hl') (by rw [List.length_set]; exact hN))
theorem mj_goto {off : Int} (tgt : Nat) (hd : decode M.cc pc = .ok (.goto off, 3)) (ht : (pc : Int) + off = (tgt : Int)) (h : mj_Ok Γ d M k n tgt lv st S P) : mj_Ok Γ d M k n pc lv st S P := by
  intro p e R s m args below meth c H locs cells slots ls hX hS hW hL hN
  exact lv_goto hX.1 hX.2.1 hd ht (h p e R s m args below meth c H locs cells slots ls hX hS hW hL hN)
theorem mj_if_eq {x : Int32} {off : Int} (tgt : Nat) (hd : decode M.cc pc = .ok (.ifCond .eq off, 3)) (ht : (pc : Int) + off = (tgt : Int)) (ht1 : x = 0 → mj_Ok Γ d M k n tgt lv st S P) (hf1 : ¬ (x = 0) → mj_Ok Γ d M k n (pc + 3) lv st S P) : mj_Ok Γ d M k n pc lv (.int x :: st) S P := by
  intro p e R s m args below meth c H locs cells slots ls hX hS hW hL hN
  exact lv_if_eq hX.1 hX.2.1 hd ht (fun q => ht1 q p e R s m args below meth c H locs cells slots ls hX hS hW hL hN) (fun q => hf1 q p e R s m args below meth c H locs cells slots ls hX hS hW hL hN)
theorem mj_icmp_eq {x y : Int32} {off : Int} (tgt : Nat) (hd : decode M.cc pc = .ok (.if_icmp .eq off, 3)) (ht : (pc : Int) + off = (tgt : Int)) (ht1 : x = y → mj_Ok Γ d M k n tgt lv st S P) (hf1 : ¬ (x = y) → mj_Ok Γ d M k n (pc + 3) lv st S P) : mj_Ok Γ d M k n pc lv (.int y :: .int x :: st) S P := by
  intro p e R s m args below meth c H locs cells slots ls hX hS hW hL hN
  exact lv_icmp_eq hX.1 hX.2.1 hd ht (fun q => ht1 q p e R s m args below meth c H locs cells slots ls hX hS hW hL hN) (fun q => hf1 q p e R s m args below meth c H locs cells slots ls hX hS hW hL hN)
theorem mj_if_ne {x : Int32} {off : Int} (tgt : Nat) (hd : decode M.cc pc = .ok (.ifCond .ne off, 3)) (ht : (pc : Int) + off = (tgt : Int)) (ht1 : ¬ x = 0 → mj_Ok Γ d M k n tgt lv st S P) (hf1 : x = 0 → mj_Ok Γ d M k n (pc + 3) lv st S P) : mj_Ok Γ d M k n pc lv (.int x :: st) S P := by
  intro p e R s m args below meth c H locs cells slots ls hX hS hW hL hN
  exact lv_if_ne hX.1 hX.2.1 hd ht (fun q => ht1 q p e R s m args below meth c H locs cells slots ls hX hS hW hL hN) (fun q => hf1 q p e R s m args below meth c H locs cells slots ls hX hS hW hL hN)
theorem mj_icmp_ne {x y : Int32} {off : Int} (tgt : Nat) (hd : decode M.cc pc = .ok (.if_icmp .ne off, 3)) (ht : (pc : Int) + off = (tgt : Int)) (ht1 : ¬ x = y → mj_Ok Γ d M k n tgt lv st S P) (hf1 : x = y → mj_Ok Γ d M k n (pc + 3) lv st S P) : mj_Ok Γ d M k n pc lv (.int y :: .int x :: st) S P := by
  intro p e R s m args below meth c H locs cells slots ls hX hS hW hL hN
  exact lv_icmp_ne hX.1 hX.2.1 hd ht (fun q => ht1 q p e R s m args below meth c H locs cells slots ls hX hS hW hL hN) (fun q => hf1 q p e R s m args below meth c H locs cells slots ls hX hS hW hL hN)
theorem mj_if_lt {x : Int32} {off : Int} (tgt : Nat) (hd : decode M.cc pc = .ok (.ifCond .lt off, 3)) (ht : (pc : Int) + off = (tgt : Int)) (ht1 : x < 0 → mj_Ok Γ d M k n tgt lv st S P) (hf1 : ¬ (x < 0) → mj_Ok Γ d M k n (pc + 3) lv st S P) : mj_Ok Γ d M k n pc lv (.int x :: st) S P := by
  intro p e R s m args below meth c H locs cells slots ls hX hS hW hL hN
  exact lv_if_lt hX.1 hX.2.1 hd ht (fun q => ht1 q p e R s m args below meth c H locs cells slots ls hX hS hW hL hN) (fun q => hf1 q p e R s m args below meth c H locs cells slots ls hX hS hW hL hN)
theorem mj_icmp_lt {x y : Int32} {off : Int} (tgt : Nat) (hd : decode M.cc pc = .ok (.if_icmp .lt off, 3)) (ht : (pc : Int) + off = (tgt : Int)) (ht1 : x < y → mj_Ok Γ d M k n tgt lv st S P) (hf1 : ¬ (x < y) → mj_Ok Γ d M k n (pc + 3) lv st S P) : mj_Ok Γ d M k n pc lv (.int y :: .int x :: st) S P := by
  intro p e R s m args below meth c H locs cells slots ls hX hS hW hL hN
  exact lv_icmp_lt hX.1 hX.2.1 hd ht (fun q => ht1 q p e R s m args below meth c H locs cells slots ls hX hS hW hL hN) (fun q => hf1 q p e R s m args below meth c H locs cells slots ls hX hS hW hL hN)
theorem mj_if_ge {x : Int32} {off : Int} (tgt : Nat) (hd : decode M.cc pc = .ok (.ifCond .ge off, 3)) (ht : (pc : Int) + off = (tgt : Int)) (ht1 : 0 ≤ x → mj_Ok Γ d M k n tgt lv st S P) (hf1 : ¬ (0 ≤ x) → mj_Ok Γ d M k n (pc + 3) lv st S P) : mj_Ok Γ d M k n pc lv (.int x :: st) S P := by
  intro p e R s m args below meth c H locs cells slots ls hX hS hW hL hN
  exact lv_if_ge hX.1 hX.2.1 hd ht (fun q => ht1 q p e R s m args below meth c H locs cells slots ls hX hS hW hL hN) (fun q => hf1 q p e R s m args below meth c H locs cells slots ls hX hS hW hL hN)
theorem mj_icmp_ge {x y : Int32} {off : Int} (tgt : Nat) (hd : decode M.cc pc = .ok (.if_icmp .ge off, 3)) (ht : (pc : Int) + off = (tgt : Int)) (ht1 : y ≤ x → mj_Ok Γ d M k n tgt lv st S P) (hf1 : ¬ (y ≤ x) → mj_Ok Γ d M k n (pc + 3) lv st S P) : mj_Ok Γ d M k n pc lv (.int y :: .int x :: st) S P := by
  intro p e R s m args below meth c H locs cells slots ls hX hS hW hL hN
  exact lv_icmp_ge hX.1 hX.2.1 hd ht (fun q => ht1 q p e R s m args below meth c H locs cells slots ls hX hS hW hL hN) (fun q => hf1 q p e R s m args below meth c H locs cells slots ls hX hS hW hL hN)
theorem mj_if_gt {x : Int32} {off : Int} (tgt : Nat) (hd : decode M.cc pc = .ok (.ifCond .gt off, 3)) (ht : (pc : Int) + off = (tgt : Int)) (ht1 : 0 < x → mj_Ok Γ d M k n tgt lv st S P) (hf1 : ¬ (0 < x) → mj_Ok Γ d M k n (pc + 3) lv st S P) : mj_Ok Γ d M k n pc lv (.int x :: st) S P := by
  intro p e R s m args below meth c H locs cells slots ls hX hS hW hL hN
  exact lv_if_gt hX.1 hX.2.1 hd ht (fun q => ht1 q p e R s m args below meth c H locs cells slots ls hX hS hW hL hN) (fun q => hf1 q p e R s m args below meth c H locs cells slots ls hX hS hW hL hN)
theorem mj_icmp_gt {x y : Int32} {off : Int} (tgt : Nat) (hd : decode M.cc pc = .ok (.if_icmp .gt off, 3)) (ht : (pc : Int) + off = (tgt : Int)) (ht1 : y < x → mj_Ok Γ d M k n tgt lv st S P) (hf1 : ¬ (y < x) → mj_Ok Γ d M k n (pc + 3) lv st S P) : mj_Ok Γ d M k n pc lv (.int y :: .int x :: st) S P := by
  intro p e R s m args below meth c H locs cells slots ls hX hS hW hL hN
  exact lv_icmp_gt hX.1 hX.2.1 hd ht (fun q => ht1 q p e R s m args below meth c H locs cells slots ls hX hS hW hL hN) (fun q => hf1 q p e R s m args below meth c H locs cells slots ls hX hS hW hL hN)
theorem mj_if_le {x : Int32} {off : Int} (tgt : Nat) (hd : decode M.cc pc = .ok (.ifCond .le off, 3)) (ht : (pc : Int) + off = (tgt : Int)) (ht1 : x ≤ 0 → mj_Ok Γ d M k n tgt lv st S P) (hf1 : ¬ (x ≤ 0) → mj_Ok Γ d M k n (pc + 3) lv st S P) : mj_Ok Γ d M k n pc lv (.int x :: st) S P := by
  intro p e R s m args below meth c H locs cells slots ls hX hS hW hL hN
  exact lv_if_le hX.1 hX.2.1 hd ht (fun q => ht1 q p e R s m args below meth c H locs cells slots ls hX hS hW hL hN) (fun q => hf1 q p e R s m args below meth c H locs cells slots ls hX hS hW hL hN)
theorem mj_icmp_le {x y : Int32} {off : Int} (tgt : Nat) (hd : decode M.cc pc = .ok (.if_icmp .le off, 3)) (ht : (pc : Int) + off = (tgt : Int)) (ht1 : x ≤ y → mj_Ok Γ d M k n tgt lv st S P) (hf1 : ¬ (x ≤ y) → mj_Ok Γ d M k n (pc + 3) lv st S P) : mj_Ok Γ d M k n pc lv (.int y :: .int x :: st) S P := by
  intro p e R s m args below meth c H locs cells slots ls hX hS hW hL hN
  exact lv_icmp_le hX.1 hX.2.1 hd ht (fun q => ht1 q p e R s m args below meth c H locs cells slots ls hX hS hW hL hN) (fun q => hf1 q p e R s m args below meth c H locs cells slots ls hX hS hW hL hN)
theorem mj_tabIn {x : Int32} {dflt lo hi off : Int} {offs : Array Int} {len : Nat} (tgt : Nat) (hd : decode M.cc pc = .ok (.tableswitch dflt lo hi offs, len)) (h1 : ¬ x.toInt < lo) (h2 : ¬ hi < x.toInt) (ho : offs[(x.toInt - lo).toNat]? = some off) (ht : (pc : Int) + off = (tgt : Int)) (h : mj_Ok Γ d M k n tgt lv st S P) : mj_Ok Γ d M k n pc lv (.int x :: st) S P := by
  intro p e R s m args below meth c H locs cells slots ls hX hS hW hL hN
  exact lv_tableIn hX.1 hX.2.1 hd h1 h2 ho ht (h p e R s m args below meth c H locs cells slots ls hX hS hW hL hN)
theorem mj_tabOut {x : Int32} {dflt lo hi : Int} {offs : Array Int} {len : Nat} (tgt : Nat) (hd : decode M.cc pc = .ok (.tableswitch dflt lo hi offs, len)) (h1 : x.toInt < lo ∨ hi < x.toInt) (ht : (pc : Int) + dflt = (tgt : Int)) (h : mj_Ok Γ d M k n tgt lv st S P) : mj_Ok Γ d M k n pc lv (.int x :: st) S P := by
  intro p e R s m args below meth c H locs cells slots ls hX hS hW hL hN
  exact lv_tableOut hX.1 hX.2.1 hd h1 ht (h p e R s m args below meth c H locs cells slots ls hX hS hW hL hN)
/-- fewer rooms asked -/
theorem mj_Ok.more {d' k' n' : Nat} (hd : d ≤ d') (hk : k ≤ k') (hn : n ≤ n') (h : mj_Ok Γ d M k n pc lv st S P) : mj_Ok Γ d' M k' n' pc lv st S P := by
  intro p e R s m args below meth c H locs cells slots ls hX hS hW hL hN
  obtain ⟨x1, x2, x3, x4, x5, x6, x7, x8, x9, x10, x11, x12⟩ := hX
  have w := h p e R s m args below meth c H locs (cells + (k' - k)) (slots + (n' - n)) ls ⟨x1, x2, x3, x4, x5, x6, x7, by omega, by omega, by omega, by omega, x12⟩ hS hW hL hN
  have e1 : cells + (k' - k) + k = cells + k' := by omega
  have e2 : slots + (n' - n) + n = slots + n' := by omega
  rw [e1, e2] at w
  exact W.widen (Nat.le_add_right _ _) (Nat.le_add_right _ _) w
theorem mj_Ok.post {P' : mj_O → mj_S → Prop} (hp : ∀ o S', P o S' → P' o S') (h : mj_Ok Γ d M k n pc lv st S P) : mj_Ok Γ d M k n pc lv st S P' := by
  intro p e R s m args below meth c H locs cells slots ls hX hS hW hL hN
  intro T hT X
  obtain ⟨t, a1, o, b1, b2, ⟨out, S', c1, c2, c3⟩, b4⟩ := h p e R s m args below meth c H locs cells slots ls hX hS hW hL hN T hT X
  exact ⟨t, a1, o, b1, b2, ⟨out, S', c1, hp _ _ c2, c3⟩, b4⟩
/-! returns -/
theorem mj_ret_aux {p : Program} {e : Env} {R : Room} {s : State} {m : MethodId} {args : Array Value} {below : List Frame} {meth : Method} {c : Code} {H : Heap} {locs : List Loc} {cells slots : Nat} {g : JFrame} {v : Option Value}
    (hS : va_S (mj_A Γ) s.heap H locs) (hW : mj_W Γ S H) (hP : P (.inl v) S)
    (h : W p Γ.l e R s m args below meth c H locs (cells + k) (slots + n) (MQ below (fun _ _ o t => o = .returned (v.map (mj_v Γ)) ∧ t.heap = H) args s (cells + k) (slots + n) (mj_A Γ)) g) :
    W p Γ.l e R s m args below meth c H locs cells slots (mj_Q Γ below s (cells + k) (slots + n) P) g := by
  refine W.widen (Nat.le_add_right cells k) (Nat.le_add_right slots n) ?_
  intro T hT X
  obtain ⟨t, a1, o, b1, b2, ⟨b3, b5⟩, L, ⟨f1, f2, f3⟩, f4⟩ := h T hT X
  exact ⟨t, a1, o, b1, b2, ⟨.inl v, S, b3, hP, by rw [b5]; exact hW⟩, hS.F b5, f2, L, f3, f4⟩
theorem mj_iret {x : Int32} {ty : FieldType} (hd : decode M.cc pc = .ok (.ireturn, 1)) (hr : M.ret = some ty) (hn : narrow ty (.int x) = .int x) (hP : P (.inl (some (.int x))) S) : mj_Ok Γ d M k n pc lv [.int x] S P := by
  intro p e R s m args below meth c H locs cells slots ls hX hS hW hL hN
  have hlocks : meth.locks = false := hX.2.2.2.1
  exact mj_ret_aux hS hW hP (W.zret hX.1 hX.2.1 (hX.2.2.1.trans hr) hn (fun t ht _ => ⟨rfl, ht⟩) hS.2.2 hd)
theorem mj_vret (hd : decode M.cc pc = .ok (.return_, 1)) (hr : M.ret = none) (hP : P (.inl none) S) : mj_Ok Γ d M k n pc lv [] S P := by
  intro p e R s m args below meth c H locs cells slots ls hX hS hW hL hN
  have hlocks : meth.locks = false := hX.2.2.2.1
  exact mj_ret_aux hS hW hP (W.vret hX.1 hX.2.1 (hX.2.2.1.trans hr) (fun t ht _ => ⟨rfl, ht⟩) hS.2.2 hd)
end MJ4
end
section
/-! mj, part 05: one row an instruction that touches cells. -/
def mj_up (S : mj_S) (a : Nat) (e : mj_E) : mj_S := (va_up S.1 a e, S.2)
theorem mj_up_self (S : mj_S) (a : Nat) (e : mj_E) : (mj_up S a e).1 a = e := va_up_self _ _ _
theorem mj_up_ne (S : mj_S) {a b : Nat} (e : mj_E) (h : b ≠ a) : (mj_up S a e).1 b = S.1 b := va_up_ne _ _ h
theorem mj_up_2 (S : mj_S) (a : Nat) (e : mj_E) : (mj_up S a e).2 = S.2 := rfl
theorem mj_W.get {Γ : mj_G} {S : mj_S} {H : Heap} (h : mj_W Γ S H) {a : Nat} (ha : a < S.2.1) {e : mj_E} (he : S.1 a = e) : va_at Γ.D mj_cl (mj_ad Γ a, mj_e Γ e) H := by
  subst he
  exact h.2.2.2.1 a _ (mj_ws_at ha)
theorem mj_W.put {Γ : mj_G} {S : mj_S} {H H1 : Heap} (h : mj_W Γ S H) {a : Nat} (ha : a < S.2.1) {e : mj_E} (he : va_at Γ.D mj_cl (mj_ad Γ a, mj_e Γ e) H1) (hz : H1.size = H.size) (hq : ∀ q : Nat, q ≠ mj_ad Γ a → H1[q]? = H[q]?) : mj_W Γ (mj_up S a e) H1 := by
  have hD := h.D
  obtain ⟨h1, h2, h3, h4, h5⟩ := h
  refine ⟨hz.trans h1, h2, h3, fun k q hk => ?_, fun k hk => ?_⟩
  · obtain ⟨hk1, rfl⟩ := mj_ws_inv hk
    by_cases e1 : k = a
    · subst e1
      rw [mj_up_self]
      exact he
    · rw [mj_up_ne _ _ e1]
      have hk2 : k < S.2.1 := hk1
      refine (h4 k _ (mj_ws_at hk2)).kept (hq _ fun q => e1 ?_)
      exact hD.1 k a _ _ (mj_ws_at hk2) (mj_ws_at ha) q
  · rw [mj_up_ne _ _ (by omega)]
    exact h5 k hk
theorem mj_S_put {Γ : mj_G} {H0 H H1 : Heap} {locs : List Loc} {a k : Nat} (hS : va_S (mj_A Γ) H0 H locs) (ha : a < mj_st) (hz : H1.size = H.size) (hq : ∀ q : Nat, q ≠ mj_ad Γ a → H1[q]? = H[q]?) : va_S (mj_A Γ) H0 H1 (locs ++ [⟨mj_ad Γ a, k⟩]) :=
  hS.put hz hq (by rw [mj_ad_lt ha]; exact Nat.le_add_right _ _)
section MJ5
variable {Γ : mj_G} {d : Nat} {M : mj_M} {k n pc : Nat} {lv st : List Value} {S : mj_S} {P : mj_O → mj_S → Prop}
/-- the word of a field's entry: its own class's, or a nest mate's -/
def mj_fw (own : String) (idx : Nat) (C nm ds : String) : Prop := Cond.fieldLink own idx C nm ds ∈ mj_tb ∨ Cond.fieldLinkNest own idx C nm ds "IsomerList" ∈ lw_tbl
theorem mj_fw_or {own : String} {idx : Nat} {C nm ds : String} (h : mj_fw own idx C nm ds) : Cond.fieldLink own idx C nm ds ∈ mj_tb ∨ Cond.fieldLinkNest own idx C nm ds "IsomerList" ∈ lw_tbl := h
theorem mj_mem {w : Cond} (i : Nat) (h : lw_tbl[i]? = some w) (g : goodWord w = true) : w ∈ mj_tb := List.mem_filter.mpr ⟨List.mem_of_getElem? h, g⟩
theorem mj_get {idx ci j a : Nat} {q : vw_C} {fs : List Value} {v : Value} (hd : decode M.cc pc = .ok (.getfield idx, 3)) (hq : mj_cl[ci]? = some q) (hw : mj_fw M.own idx (q.2.1 j).1 (q.2.1 j).2.1 (q.2.1 j).2.2.1) (hj : j < q.2.2) (ha : a < S.2.1) (he : S.1 a = .inr (ci, fs)) (hv : fs[j]? = some v)
    (h : mj_Ok Γ d M k n (pc + 3) lv (v :: st) S P) : mj_Ok Γ d M k n pc lv (.ref a :: st) S P := by
  intro p e R s m args below meth c H locs cells slots ls hX hS hW hL hN
  have hv' : (fs.map (mj_v Γ))[j]? = some (mj_v Γ v) := by rw [List.getElem?_map, hv]; rfl
  have he' : (mj_ws Γ S)[a]? = some (mj_ad Γ a, .inr (ci, fs.map (mj_v Γ))) := by rw [mj_ws_at ha, he]; rfl
  have hC := hX.2.2.2.2.2.2.1
  have kk := h p e R s m args below meth c H locs cells slots ls hX hS hW hL hN
  rcases mj_fw_or hw with hw | hw
  · exact va_get hX.1 hX.2.1 (hC.w args) (mj_in ci q hq) hX.2.2.2.2.2.1 hC.K hW.2.2.2.1 a he' hq j hj (hC.w args _ hw) (fun _ h9 => h9) hv' hd kk
  · exact va_getN hX.1 hX.2.1 (hC.w args) (mj_in ci q hq) hX.2.2.2.2.2.1 hC.K hW.2.2.2.1 a he' hq j hj (hC.nF hw args) (fun _ h9 => h9) hv' hd kk
/-- what may be stored into a field of that type -/
def mj_fit (ty : FieldType) (v : Value) : Prop := narrow ty v = v ∧ fits ty v = true
theorem mj_fit_int (x : Int32) : mj_fit .int (.int x) := ⟨rfl, rfl⟩
theorem mj_fit_conc {Γ : mj_G} {ty : FieldType} {v : Value} (h : mj_fit ty v) : mj_fit ty (mj_v Γ v) := by
  cases v with
  | ref a =>
    obtain ⟨h1, h2⟩ := h
    refine ⟨?_, ?_⟩
    · cases ty <;> first | rfl | exact absurd h1 (by simp [narrow])
    · cases ty <;> first | rfl | exact absurd h2 (by simp [fits])
  | _ => exact h
theorem mj_put {idx ci j a : Nat} {q : vw_C} {fs fs' : List Value} {v : Value} (hd : decode M.cc pc = .ok (.putfield idx, 3)) (hq : mj_cl[ci]? = some q) (hw : mj_fw M.own idx (q.2.1 j).1 (q.2.1 j).2.1 (q.2.1 j).2.2.1) (hj : j < q.2.2)
    (hfin : (q.2.1 j).2.2.2 = false ∨ (M.name = "<init>" ∧ (q.2.1 j).1 = M.own ∧ (Cond.fieldLink M.own idx (q.2.1 j).1 (q.2.1 j).2.1 (q.2.1 j).2.2.1) ∈ mj_tb)) (ha : a < S.2.1) (he : S.1 a = .inr (ci, fs)) (hl : j < fs.length) (hfit : mj_fit (mj_t ci j) v) (hs : fs.set j v = fs')
    (h : mj_Ok Γ d M k n (pc + 3) lv st (mj_up S a (.inr (ci, fs'))) P) : mj_Ok Γ d M k n pc lv (v :: .ref a :: st) S P := by
  subst hs
  intro p e R s m args below meth c H locs cells slots ls hX hS hW hL hN
  have hC := hX.2.2.2.2.2.2.1
  have hown := hX.2.2.2.2.2.1
  have hP := hW.2.2.2.1
  have hts := hC.w args
  have hin := mj_in ci q hq
  have has : a < mj_st := Nat.lt_of_lt_of_le ha hW.2.2.1
  obtain ⟨C, T, N⟩ := q
  have hap := va_apart (own := M.own) hts hin (mj_t ci) (mj_ty ci _ hq) (mj_nm ci _ hq) hC.K hq
  have hat := hW.get ha he
  obtain ⟨r, h1, cell, q1, q2, q3, q4⟩ := hat
  have hr : r = (C, T, N) := Option.some.inj (h1.symm.trans hq)
  subst hr
  obtain ⟨hS9, hfc, kC, hkC, hkind⟩ := hC.K.1 ci _ hq
  obtain ⟨cf, kf, fi, f, hi, hsl⟩ := hS9 j hj
  have hst := (u_facts hfc hkC (u_lays hts hin hj) hi).1
  have hfit' := mj_fit_conc (Γ := Γ) hfit
  have hty : parseFieldDescriptor (T j).2.2.1 = some (mj_t ci j) := mj_ty ci _ hq j hj
  have hlen : j < (fs.map (mj_v Γ)).length := by rw [List.length_map]; exact hl
  have fin : ∀ H' : Heap, H'[mj_ad Γ a]? = some (cell.setSlot f.slot (mj_v Γ v)) → H'.size = H.size → (∀ q, q ≠ mj_ad Γ a → H'[q]? = H[q]?) →
      W p Γ.l e R s m args below meth c H' (locs ++ [⟨mj_ad Γ a, f.slot⟩]) cells slots (mj_Q Γ below s (cells + k) (slots + n) P) (F0 m (pc + 3) ls (st.map (mj_v Γ))) := by
    intro H' e1 e2 e3
    rw [hsl] at e1 ⊢
    refine h p e R s m args below meth c H' _ cells slots ls hX (mj_S_put hS has e2 e3) (hW.put ha ?_ e2 e3) hL hN
    refine ⟨_, hq, t_OB.to (V := updV (vp_V (fs.map (mj_v Γ))) j (mj_v Γ v)) ⟨_, e1, q2, q3, t_set q4 hap hj (mj_v Γ v)⟩ (fun i _ => ?_)⟩
    rw [vp_updV_set hlen, List.map_set]
  have hlay0 := hts _ (hin _ (u_in_lay hj))
  rcases hfin with hf | ⟨hf1, hf2, hf3⟩
  · have hlay := hlay0
    unfold u_lay at hlay
    rw [if_neg (by rw [hf]; decide)] at hlay
    have h6 := u_store hfc hkC hkind hlay hi hty hfit'.1 hfit'.2
    rcases mj_fw_or hw with hw | hw
    · exact W.putK hX.1 hX.2.1 (f := f) ⟨hown, hts _ hw, ⟨_, _, _, hi⟩, hst⟩ (by rw [q2]; exact h6) q1 q3 (by rw [hsl]; exact k2_hasslot (q4 j hj)) rfl rfl hd fin
    · exact va_WputK hX.1 hX.2.1 hown (hC.nF hw args) hi hst (by rw [q2]; exact h6) q1 q3 (by rw [hsl]; exact k2_hasslot (q4 j hj)) rfl rfl hd fin
  · cases hfb : (T j).2.2.2 with
    | false =>
      have hlay := hlay0
      unfold u_lay at hlay
      rw [if_neg (by rw [hfb]; decide)] at hlay
      have h6 := u_store hfc hkC hkind hlay hi hty hfit'.1 hfit'.2
      rcases mj_fw_or hw with hw | hw
      · exact W.putK hX.1 hX.2.1 (f := f) ⟨hown, hts _ hw, ⟨_, _, _, hi⟩, hst⟩ (by rw [q2]; exact h6) q1 q3 (by rw [hsl]; exact k2_hasslot (q4 j hj)) rfl rfl hd fin
      · exact va_WputK hX.1 hX.2.1 hown (hC.nF hw args) hi hst (by rw [q2]; exact h6) q1 q3 (by rw [hsl]; exact k2_hasslot (q4 j hj)) rfl rfl hd fin
    | true =>
      have hlay := hlay0
      unfold u_lay at hlay
      rw [if_pos hfb] at hlay
      have hcf : m.cls = cf := by
        obtain ⟨_, _, c', _, _, _, -, -, hf', -, -, -, hown2, -⟩ := Cond.laysFinal_spec hlay
        have e1 : c' = cf := by have := hi.symm.trans hf'; simp at this; exact this.1.symm
        have hf2' : (T j).1 = M.own := hf2
        rw [hf2'] at hown2
        rw [← e1]; exact Option.some.inj (hown.symm.trans hown2)
      have h6 := u_fits hfc hkC hkind (Or.inr hlay) hi hty hfit'.1 hfit'.2
      have hin2 : meth.name = "<init>" := hX.2.2.2.2.2.2.2.2.2.2.2.1.trans hf1
      exact W.putFinK hX.1 hX.2.1 hown (hts _ hf3) hi hst hcf hin2 (by rw [q2]; exact h6) q1 q3 (by rw [hsl]; exact k2_hasslot (q4 j hj)) rfl rfl hd fin
end MJ5
end
section
/-! mj, part 06: arrays, static tables, what is made. -/
section MJ6
variable {Γ : mj_G} {d : Nat} {M : mj_M} {k n pc : Nat} {lv st : List Value} {S : mj_S} {P : mj_O → mj_S → Prop}
theorem mj_wsA {a t : Nat} {x : vp_A} (ha : a < S.2.1) (he : S.1 a = .inl (t, x)) : (mj_ws Γ S)[a]? = some (mj_ad Γ a, .inl (Γ.cA t, x)) := by rw [mj_ws_at ha, he]; rfl
theorem mj_iald {a N j : Nat} {i : Int32} {f : Nat → Int32} (hd : decode M.cc pc = .ok (.iaload, 1)) (ha : a < S.2.1) (he : S.1 a = .inl (0, N, .inl f)) (hi : i = nI j) (hj : j < N) (h : mj_Ok Γ d M k n (pc + 1) lv (.int (f j) :: st) S P) (hN : N < 2147483648 := by decide) : mj_Ok Γ d M k n pc lv (.int i :: .ref a :: st) S P := by
  subst hi
  intro p e R s m args below meth c H locs cells slots ls hX hS hW hL hN9
  have kk := h p e R s m args below meth c H locs cells slots ls hX hS hW hL hN9
  rw [← nI_clamp (n := j) (by omega)] at kk
  exact va_iald hX.1 hX.2.1 hX.2.2.2.2.2.2.1.K hW.2.2.2.1 a 0 (mj_wsA ha he) rfl (vp_in_nI hj hN) hd kk
theorem mj_cald {a N j : Nat} {i : Int32} {f : Nat → Int32} (hd : decode M.cc pc = .ok (.caload, 1)) (ha : a < S.2.1) (he : S.1 a = .inl (1, N, .inl f)) (hi : i = nI j) (hj : j < N) (h : mj_Ok Γ d M k n (pc + 1) lv (.int (f j) :: st) S P) (hN : N < 2147483648 := by decide) : mj_Ok Γ d M k n pc lv (.int i :: .ref a :: st) S P := by
  subst hi
  intro p e R s m args below meth c H locs cells slots ls hX hS hW hL hN9
  have kk := h p e R s m args below meth c H locs cells slots ls hX hS hW hL hN9
  rw [← nI_clamp (n := j) (by omega)] at kk
  exact va_cald hX.1 hX.2.1 hX.2.2.2.2.2.2.1.K hW.2.2.2.1 a 1 (mj_wsA ha he) rfl (vp_in_nI hj hN) hd kk
theorem mj_zald {a N j : Nat} {i : Int32} {f : Nat → Int32} (hd : decode M.cc pc = .ok (.baload, 1)) (ha : a < S.2.1) (he : S.1 a = .inl (2, N, .inl f)) (hi : i = nI j) (hj : j < N) (h : mj_Ok Γ d M k n (pc + 1) lv (.int (f j) :: st) S P) (hN : N < 2147483648 := by decide) : mj_Ok Γ d M k n pc lv (.int i :: .ref a :: st) S P := by
  subst hi
  intro p e R s m args below meth c H locs cells slots ls hX hS hW hL hN9
  have kk := h p e R s m args below meth c H locs cells slots ls hX hS hW hL hN9
  rw [← nI_clamp (n := j) (by omega)] at kk
  exact va_zald hX.1 hX.2.1 hX.2.2.2.2.2.2.1.K hW.2.2.2.1 a 2 (mj_wsA ha he) rfl (vp_in_nI hj hN) hd kk
theorem mj_lald {a N j : Nat} {i : Int32} {f : Nat → Int64} (hd : decode M.cc pc = .ok (.laload, 1)) (ha : a < S.2.1) (he : S.1 a = .inl (3, N, .inr (.inl f))) (hi : i = nI j) (hj : j < N) (h : mj_Ok Γ d M k n (pc + 1) lv (.long (f j) :: st) S P) (hN : N < 2147483648 := by decide) : mj_Ok Γ d M k n pc lv (.int i :: .ref a :: st) S P := by
  subst hi
  intro p e R s m args below meth c H locs cells slots ls hX hS hW hL hN9
  have kk := h p e R s m args below meth c H locs cells slots ls hX hS hW hL hN9
  rw [← nI_clamp (n := j) (by omega)] at kk
  exact va_lald hX.1 hX.2.1 hX.2.2.2.2.2.2.1.K hW.2.2.2.1 a 3 (mj_wsA ha he) rfl (vp_in_nI hj hN) hd kk
/-- the length of a known array -/
theorem mj_alen {a t : Nat} {x : vp_A} {ty : FieldType} (hd : decode M.cc pc = .ok (.arraylength, 1)) (ha : a < S.2.1) (he : S.1 a = .inl (t, x)) (ht : (mj_tys Γ)[t]? = some (Γ.cA t, ty)) (h : mj_Ok Γ d M k n (pc + 1) lv (.int (nI x.1) :: st) S P) : mj_Ok Γ d M k n pc lv (.ref a :: st) S P := by
  intro p e R s m args below meth c H locs cells slots ls hX hS hW hL hN9
  exact va_alen hX.1 hX.2.1 hX.2.2.2.2.2.2.1.K hW.2.2.2.1 a t (mj_wsA ha he) ht rfl hd (h p e R s m args below meth c H locs cells slots ls hX hS hW hL hN9)
theorem mj_at_arr {a t : Nat} {x : vp_A} {H : Heap} (hW : mj_W Γ S H) (ha : a < S.2.1) (he : S.1 a = .inl (t, x)) : H[mj_ad Γ a]? = some (vp_cell (Γ.cA t) x) := hW.get ha he
theorem mj_iast {a N j : Nat} {i x : Int32} {f : Nat → Int32} (hd : decode M.cc pc = .ok (.iastore, 1)) (ha : a < S.2.1) (he : S.1 a = .inl (0, N, .inl f)) (hi : i = nI j) (hj : j < N) (h : mj_Ok Γ d M k n (pc + 1) lv st (mj_up S a (.inl (0, N, .inl (upd f j x)))) P) (hN : N < 2147483648 := by decide) : mj_Ok Γ d M k n pc lv (.int x :: .int i :: .ref a :: st) S P := by
  subst hi
  intro p e R s m args below meth c H locs cells slots ls hX hS hW hL hN9
  have hv : vp_in (nI j) N := vp_in_nI hj hN
  have has : a < mj_st := Nat.lt_of_lt_of_le ha hW.2.2.1
  have hcl := nI_clamp (n := j) (by omega)
  refine W.iast hX.1 hX.2.1 (mj_at_arr hW ha he) ((hX.2.2.2.2.2.2.1.K.2 0 _ rfl).1 N (fun j => .int (f j))) (fun q => by cases q) (by show ¬ (nI j < 0 ∨ (arrV _ _ _).slots.size ≤ _); rw [arrV_size]; exact hv) rfl rfl hd fun H1 e1 z oq => ?_
  refine h p e R s m args below meth c H1 _ cells slots ls hX (mj_S_put hS has z oq) (hW.put ha ?_ z oq) hL hN9
  show H1[_]? = some (vp_cell _ _)
  rw [e1, vp_cell_i, vp_cell_i, arrV_store, hcl]
  congr 2
  funext q
  by_cases hq : q = j
  · subst hq
    simp [updV, upd]
  · simp [updV, upd, hq]
theorem mj_cast {a N j : Nat} {i x : Int32} {f : Nat → Int32} (hd : decode M.cc pc = .ok (.castore, 1)) (ha : a < S.2.1) (he : S.1 a = .inl (1, N, .inl f)) (hi : i = nI j) (hj : j < N) (hx : narrow .char (.int x) = .int x) (h : mj_Ok Γ d M k n (pc + 1) lv st (mj_up S a (.inl (1, N, .inl (upd f j x)))) P) (hN : N < 2147483648 := by decide) : mj_Ok Γ d M k n pc lv (.int x :: .int i :: .ref a :: st) S P := by
  subst hi
  intro p e R s m args below meth c H locs cells slots ls hX hS hW hL hN9
  have hv : vp_in (nI j) N := vp_in_nI hj hN
  have has : a < mj_st := Nat.lt_of_lt_of_le ha hW.2.2.1
  have hcl := nI_clamp (n := j) (by omega)
  refine W.cast hX.1 hX.2.1 (mj_at_arr hW ha he) ((hX.2.2.2.2.2.2.1.K.2 1 _ rfl).1 N (fun j => .int (f j))) (fun q => by cases q) (by show ¬ (nI j < 0 ∨ (arrV _ _ _).slots.size ≤ _); rw [arrV_size]; exact hv) rfl rfl hd fun H1 e1 z oq => ?_
  refine h p e R s m args below meth c H1 _ cells slots ls hX (mj_S_put hS has z oq) (hW.put ha ?_ z oq) hL hN9
  show H1[_]? = some (vp_cell _ _)
  rw [e1, hx, vp_cell_i, vp_cell_i, arrV_store, hcl]
  congr 2
  funext q
  by_cases hq : q = j
  · subst hq
    simp [updV, upd]
  · simp [updV, upd, hq]
theorem mj_zast {a N j : Nat} {i x : Int32} {f : Nat → Int32} (hd : decode M.cc pc = .ok (.bastore, 1)) (ha : a < S.2.1) (he : S.1 a = .inl (2, N, .inl f)) (hi : i = nI j) (hj : j < N) (hx : narrow .boolean (.int x) = .int x) (h : mj_Ok Γ d M k n (pc + 1) lv st (mj_up S a (.inl (2, N, .inl (upd f j x)))) P) (hN : N < 2147483648 := by decide) : mj_Ok Γ d M k n pc lv (.int x :: .int i :: .ref a :: st) S P := by
  subst hi
  intro p e R s m args below meth c H locs cells slots ls hX hS hW hL hN9
  have hv : vp_in (nI j) N := vp_in_nI hj hN
  have has : a < mj_st := Nat.lt_of_lt_of_le ha hW.2.2.1
  have hcl := nI_clamp (n := j) (by omega)
  refine W.zast hX.1 hX.2.1 (mj_at_arr hW ha he) ((hX.2.2.2.2.2.2.1.K.2 2 _ rfl).1 N (fun j => .int (f j))) (fun q => by cases q) (by show ¬ (nI j < 0 ∨ (arrV _ _ _).slots.size ≤ _); rw [arrV_size]; exact hv) rfl rfl hd fun H1 e1 z oq => ?_
  refine h p e R s m args below meth c H1 _ cells slots ls hX (mj_S_put hS has z oq) (hW.put ha ?_ z oq) hL hN9
  show H1[_]? = some (vp_cell _ _)
  rw [e1, hx, vp_cell_i, vp_cell_i, arrV_store, hcl]
  congr 2
  funext q
  by_cases hq : q = j
  · subst hq
    simp [updV, upd]
  · simp [updV, upd, hq]
theorem mj_last {a N j : Nat} {i : Int32} {x : Int64} {f : Nat → Int64} (hd : decode M.cc pc = .ok (.lastore, 1)) (ha : a < S.2.1) (he : S.1 a = .inl (3, N, .inr (.inl f))) (hi : i = nI j) (hj : j < N) (h : mj_Ok Γ d M k n (pc + 1) lv st (mj_up S a (.inl (3, N, .inr (.inl (vp_updL f j x))))) P) (hN : N < 2147483648 := by decide) : mj_Ok Γ d M k n pc lv (.long x :: .int i :: .ref a :: st) S P := by
  subst hi
  intro p e R s m args below meth c H locs cells slots ls hX hS hW hL hN9
  have hv : vp_in (nI j) N := vp_in_nI hj hN
  have has : a < mj_st := Nat.lt_of_lt_of_le ha hW.2.2.1
  have hcl := nI_clamp (n := j) (by omega)
  refine W.last hX.1 hX.2.1 (mj_at_arr hW ha he) ((hX.2.2.2.2.2.2.1.K.2 3 _ rfl).1 N (fun j => .long (f j))) (fun q => by cases q) (by show ¬ (nI j < 0 ∨ (arrV _ _ _).slots.size ≤ _); rw [arrV_size]; exact hv) rfl rfl hd fun H1 e1 z oq => ?_
  refine h p e R s m args below meth c H1 _ cells slots ls hX (mj_S_put hS has z oq) (hW.put ha ?_ z oq) hL hN9
  show H1[_]? = some (vp_cell _ _)
  rw [e1, vp_cell_l, vp_cell_l, arrV_store, hcl]
  congr 2
  funext q
  by_cases hq : q = j
  · subst hq
    simp [updV, vp_updL]
  · simp [updV, vp_updL, hq]
/-! the arrays that nobody writes -/
theorem mj_iro {r j : Nat} {i : Int32} (hd : decode M.cc pc = .ok (.iaload, 1)) (hr : r < 4) (ht : mj_rt r = 0) (hi : i = nI j) (hj : j < (Γ.ro r).1) (hN : (Γ.ro r).1 < 2147483648) (h : mj_Ok Γ d M k n (pc + 1) lv (.int (mj_ai (Γ.ro r) j) :: st) S P) : mj_Ok Γ d M k n pc lv (.int i :: .ref (mj_st + r) :: st) S P := by
  subst hi
  intro p e R s m args below meth c H locs cells slots ls hX hS hW hL hN9
  have kk := h p e R s m args below meth c H locs cells slots ls hX hS hW hL hN9
  have hT := hX.2.2.2.2.2.2.1.T hr
  rw [ht] at hT
  show W _ _ _ _ _ _ _ _ _ _ _ _ _ _ _ (F0 m pc ls (.int (nI j) :: .ref (mj_ad Γ (mj_st + r)) :: st.map (mj_v Γ)))
  rw [mj_ad_ro]
  exact va_ti hX.1 hX.2.1 hT hS (vp_in_nI hj hN) (by rw [nI_clamp (n := j) (by omega)]; rfl) hd kk
theorem mj_cro {r j : Nat} {i : Int32} (hd : decode M.cc pc = .ok (.caload, 1)) (hr : r < 4) (ht : mj_rt r = 1) (hi : i = nI j) (hj : j < (Γ.ro r).1) (hN : (Γ.ro r).1 < 2147483648) (h : mj_Ok Γ d M k n (pc + 1) lv (.int (mj_ai (Γ.ro r) j) :: st) S P) : mj_Ok Γ d M k n pc lv (.int i :: .ref (mj_st + r) :: st) S P := by
  subst hi
  intro p e R s m args below meth c H locs cells slots ls hX hS hW hL hN9
  have kk := h p e R s m args below meth c H locs cells slots ls hX hS hW hL hN9
  have hT := hX.2.2.2.2.2.2.1.T hr
  rw [ht] at hT
  show W _ _ _ _ _ _ _ _ _ _ _ _ _ _ _ (F0 m pc ls (.int (nI j) :: .ref (mj_ad Γ (mj_st + r)) :: st.map (mj_v Γ)))
  rw [mj_ad_ro]
  exact va_tc hX.1 hX.2.1 hT hS (vp_in_nI hj hN) (by rw [nI_clamp (n := j) (by omega)]; rfl) hd kk
theorem mj_lenro {r : Nat} (hd : decode M.cc pc = .ok (.arraylength, 1)) (hr : r < 4) (h : mj_Ok Γ d M k n (pc + 1) lv (.int (nI (Γ.ro r).1) :: st) S P) : mj_Ok Γ d M k n pc lv (.ref (mj_st + r) :: st) S P := by
  intro p e R s m args below meth c H locs cells slots ls hX hS hW hL hN9
  have kk := h p e R s m args below meth c H locs cells slots ls hX hS hW hL hN9
  have hT := hX.2.2.2.2.2.2.1.T hr
  show W _ _ _ _ _ _ _ _ _ _ _ _ _ _ _ (F0 m pc ls (.ref (mj_ad Γ (mj_st + r)) :: st.map (mj_v Γ)))
  rw [mj_ad_ro]
  exact va_tlen hX.1 hX.2.1 hT hS rfl hd kk
theorem mj_gets {idx r : Nat} (hd : decode M.cc pc = .ok (.getstatic idx, 3)) (hr : r < 3) (hw : mj_fw M.own idx "IsomerList" (mj_rn r).1 (mj_rn r).2) (h : mj_Ok Γ d M k n (pc + 3) lv (.ref (mj_st + r) :: st) S P) : mj_Ok Γ d M k n pc lv st S P := by
  intro p e R s m args below meth c H locs cells slots ls hX hS hW hL hN9
  have hC := hX.2.2.2.2.2.2.1
  have kk := h p e R s m args below meth c H locs cells slots ls hX hS hW hL hN9
  have e1 : mj_v Γ (.ref (mj_st + r)) = .ref (Γ.ra r) := congrArg Value.ref (mj_ad_ro r)
  rw [mj_map_cons, e1] at kk
  rcases mj_fw_or hw with hw | hw
  · exact va_gets hX.1 hX.2.1 (hC.Z hr) hS hX.2.2.2.2.2.1 (hC.w args _ hw) (fun _ h9 => h9) hd kk
  · exact va_getsN hX.1 hX.2.1 (hC.Z hr) hS hX.2.2.2.2.2.1 (hC.nF hw args) (fun _ h9 => h9) hd kk
/-! what is made -/
def mj_push (S : mj_S) (e : mj_E) : mj_S := (va_up S.1 S.2.1 e, S.2.1 + 1, S.2.2 + 1)
theorem mj_W.push {H H1 : Heap} {e : mj_E} (h : mj_W Γ S H) (hex : S.2.1 = S.2.2) (hst : S.2.1 < mj_st) (he : va_at Γ.D mj_cl (mj_ad Γ S.2.1, mj_e Γ e) H1) (hz : H1.size = H.size + 1) (hq : ∀ q : Nat, q < H.size → H1[q]? = H[q]?) : mj_W Γ (mj_push S e) H1 := by
  obtain ⟨h1, h2, h3, h4, h5⟩ := h
  refine ⟨by rw [hz, h1]; rfl, Nat.succ_le_succ h2, hst, fun i q hk => ?_, fun i hi => ?_⟩
  · obtain ⟨hk1, rfl⟩ := mj_ws_inv hk
    have hk1 : i < S.2.1 + 1 := hk1
    by_cases e1 : i = S.2.1
    · subst e1
      show va_at Γ.D mj_cl (_, mj_e Γ (va_up S.1 S.2.1 e S.2.1)) H1
      rw [va_up_self]
      exact he
    · show va_at Γ.D mj_cl (_, mj_e Γ (va_up S.1 S.2.1 e i)) H1
      rw [va_up_ne _ _ e1]
      have h6 := h4 i _ (mj_ws_at (by omega))
      exact h6.kept (hq _ h6.lt)
  · show va_up S.1 S.2.1 e (mj_st + i) = _
    rw [va_up_ne _ _ (by omega)]
    exact h5 i hi
theorem mj_S_push {H0 H H1 : Heap} {locs : List Loc} (hS : va_S (mj_A Γ) H0 H locs) (hz : H1.size = H.size + 1) (hq : ∀ q : Nat, q < H.size → H1[q]? = H[q]?) : va_S (mj_A Γ) H0 H1 locs :=
  ⟨Nat.le_trans hS.1 (by omega), fun x h1 h2 => (hq x (Nat.lt_of_lt_of_le h1 hS.1)).trans (hS.2.1 x h1 h2), hS.2.2⟩
theorem mj_new {idx ci : Nat} {q : vw_C} {fs : List Value} (hd : decode M.cc pc = .ok (.new idx, 3)) (hq : mj_cl[ci]? = some q) (hw1 : (Cond.classLink M.own idx q.1) ∈ mj_tb) (hw2 : (Cond.instantiable q.1 q.2.2) ∈ mj_tb) (hw3 : (Cond.initialized q.1) ∈ mj_tb)
    (hfs : ∀ j, j < q.2.2 → defaultValue (mj_t ci j) = vp_V fs j) (hnr : fs.all (fun v => match v with | .ref _ => false | _ => true) = true) (hex : S.2.1 = S.2.2) (hst : S.2.1 < mj_st)
    (h : mj_Ok Γ d M k n (pc + 3) lv (.ref S.2.1 :: st) (mj_push S (.inr (ci, fs))) P) : mj_Ok Γ d M (k + 1) (n + q.2.2) pc lv st S P := by
  intro p e R s m args below meth c H locs cells slots ls hX hS hW hL hN9
  have hC := hX.2.2.2.2.2.2.1
  have hts := hC.w args
  obtain ⟨x1, x2, x3, x4, x5, x6, x7, x8, x9, x10, x11, x12⟩ := hX
  obtain ⟨C, T, N⟩ := q
  have hKn := hC.K.1 ci _ hq
  have x11 : slots + (n + N) ≤ R.slots := x11
  have hmap : fs.map (mj_v Γ) = fs := by
    have : fs.map (mj_v Γ) = fs.map id := List.map_congr_left fun v hv => by
      have := List.all_eq_true.mp hnr v hv
      cases v <;> first | rfl | simp at this
    rw [this, List.map_id]
  refine W.newcK x1 x2 x6 (hts _ hw1) (hts _ hw2) (hts _ hw3) rfl hd (by omega) (by omega) hKn.2.1 rfl fun H1 kC hkC e1 z1 o1 => ?_
  have w := h p e R s m args below meth c H1 locs (cells + 1) (slots + N) ls ⟨x1, x2, x3, x4, x5, x6, x7, x8, x9, by omega, by omega, x12⟩ (mj_S_push hS z1 o1) (hW.push hex hst ?_ z1 o1) hL hN9
  · rw [show cells + 1 + k = cells + (k + 1) by omega, show slots + N + n = slots + (n + N) by omega] at w
    have e2 : mj_v Γ (.ref S.2.1) = .ref H.size := congrArg Value.ref (by rw [mj_ad_lt hst, hW.1, ← hex])
    rw [mj_map_cons, e2] at w
    exact w
  · have e3 : mj_ad Γ S.2.1 = H.size := by rw [mj_ad_lt hst, hW.1, ← hex]
    rw [e3]
    refine ⟨_, hq, ?_⟩
    show t_OB H.size _ N _ H1 (vp_V (fs.map (mj_v Γ)))
    rw [hmap]
    exact (u_born (mj_t ci) hts (mj_in ci _ hq) hKn hkC e1 (mj_ty ci _ hq)).to hfs
theorem mj_newa {atype : ArrayType} {t N : Nat} {i : Int32} {a0 : vp_A} (hd : decode M.cc pc = .ok (.newarray atype, 2)) (hty : newarray.typeOf atype = mj_at t) (ht : (mj_tys Γ)[t]? = some (Γ.cA t, mj_at t)) (hw : (Cond.arrayClass (mj_at t)) ∈ mj_tb) (hi : i = nI N) (hN : N < 100000) (hb : N * componentBytes (mj_at t) ≤ 536870912)
    (ha : ∀ cA : ClassId, vp_cell cA a0 = arrV cA N (fun _ => defaultValue (mj_at t))) (hex : S.2.1 = S.2.2) (hst : S.2.1 < mj_st)
    (h : mj_Ok Γ d M k n (pc + 2) lv (.ref S.2.1 :: st) (mj_push S (.inl (t, a0))) P) : mj_Ok Γ d M (k + 1) (n + N) pc lv (.int i :: st) S P := by
  subst hi
  intro p e R s m args below meth c H locs cells slots ls hX hS hW hL hN9
  have hC := hX.2.2.2.2.2.2.1
  have hts := hC.w args
  obtain ⟨x1, x2, x3, x4, x5, x6, x7, x8, x9, x10, x11, x12⟩ := hX
  refine va_newaK x1 x2 (by rw [hty]; exact hts _ hw) rfl hd rfl (nI_pos (by omega)) (nI_clamp (n := N) (by omega)) (by rw [hty]; exact hb) (by omega) (by omega) rfl fun H1 cA e1 z1 o1 hAr hNm => ?_
  rw [hty] at e1 hAr hNm
  have hcA : cA = Γ.cA t := by
    have h2 := (hC.K.2 t _ ht).2
    have h3 : s.vm.findClass ("[" ++ (mj_at t).toString) = some (Γ.cA t) := by
      unfold mj_at at h2 ⊢
      split at h2 <;> exact h2
    exact Option.some.inj (hNm.symm.trans h3)
  subst hcA
  have w := h p e R s m args below meth c H1 locs (cells + 1) (slots + N) ls ⟨x1, x2, x3, x4, x5, x6, x7, x8, x9, by omega, by omega, x12⟩ (mj_S_push hS z1 o1) (hW.push hex hst ?_ z1 o1) hL hN9
  · rw [show cells + 1 + k = cells + (k + 1) by omega, show slots + N + n = slots + (n + N) by omega] at w
    have e2 : mj_v Γ (.ref S.2.1) = .ref H.size := congrArg Value.ref (by rw [mj_ad_lt hst, hW.1, ← hex])
    rw [mj_map_cons, e2] at w
    exact w
  · have e3 : mj_ad Γ S.2.1 = H.size := by rw [mj_ad_lt hst, hW.1, ← hex]
    rw [e3]
    show H1[H.size]? = some (vp_cell _ _)
    rw [ha]
    exact e1
end MJ6
end
section
/-! mj, part 07: a method from its entry; calls. -/
def mj_ret (Q : Option Value → mj_S → Prop) : mj_O → mj_S → Prop := fun o S => match o with
  | .inl v => Q v S
  | .inr _ => False
theorem mj_args_mem : ∀ (vs : List Value) (i j : Nat) (v : Value), mj_c1 vs = true → vs[j]? = some v → (i + j, v) ∈ lv_args i vs := by
  intro vs
  induction vs with
  | nil => intro i j v _ h; simp at h
  | cons a r ih =>
    intro i j v hc h
    have hc' : a.category = 1 ∧ mj_c1 r = true := by simpa [mj_c1] using hc
    cases j with
    | zero =>
      simp at h
      subst h
      simp [lv_args]
    | succ j =>
      have h' : r[j]? = some v := by simpa using h
      have h2 := ih (i + 1) j v hc'.2 h'
      have e : i + (j + 1) = i + 1 + j := by omega
      rw [e]
      simp only [lv_args, hc'.1]
      exact List.mem_cons_of_mem _ h2
theorem mj_c1_map {Γ : mj_G} {vs : List Value} (h : mj_c1 vs = true) : mj_c1 (vs.map (mj_v Γ)) = true := by
  unfold mj_c1 at h ⊢
  rw [List.all_map]
  refine List.all_eq_true.mpr fun v hv => ?_
  have := List.all_eq_true.mp h v hv
  simpa [mj_v_cat] using this
theorem mj_sl_len : ∀ vs : List Value, mj_c1 vs = true → (lg_sl vs).length = vs.length := by
  intro vs
  induction vs with
  | nil => intro _; rfl
  | cons a r ih =>
    intro hc
    have hc' : a.category = 1 ∧ mj_c1 r = true := by simpa [mj_c1] using hc
    have h2 := ih hc'.2
    cases a <;> simp_all [lg_sl, Value.category]
/-- A METHOD FROM ITS ENTRY -/
theorem mj_Met.of {Γ : mj_G} {d : Nat} {y : MethodName} {M : mj_M} {av lv : List Value} {S : mj_S} {mc ms : Nat} {P : mj_O → mj_S → Prop} (hy : plainName y.cls = true) (hM : y.cls = M.own ∧ y.name = M.name) (hc : mj_c1 av = true) (hlv : lv = av ++ List.replicate (M.nL - av.length) (.retAddr 0)) (hle : Nat.ble av.length M.nL = true)
    (h : mj_Ok Γ d M mc ms 0 lv [] S P) : mj_Met Γ d y M av S mc ms P := by
  refine MetFree.of_bodyS (code := M.cc) (maxLocals := M.nL) (ret := M.ret) hy ?_ ?_
  · intro args s m h hn
    obtain ⟨meth, c, h1, h2, h3, h4, h5, h6, -, -⟩ := Cond.code_spec hn (atoms_spec (ws := [Cond.code y M.cc M.nL M.ret]) h _ List.mem_cons_self)
    exact ⟨meth, c, h1, h2, h3, h4, h5, h6⟩
  · intro p e s m args below meth c s₁ B hml hP _
    obtain ⟨rfl, hC, hW⟩ := hP
    have hh0 : s₁.heap = s.heap := by rw [B.state]; rfl
    have hcode : (Cond.code y M.cc M.nL M.ret).before (av.map (mj_v Γ)).toArray s = true := atoms_spec (ws := [Cond.code y M.cc M.nL M.ret]) B.pre _ List.mem_cons_self
    have hown : s.vm.findClass M.own = some m.cls := by rw [← hM.1]; exact findClass_of_methodNamed B.named
    have hnm : meth.name = M.name := ((name_of_methodNamed B.named B.method).1).trans hM.2
    have hle' : av.length ≤ M.nL := Nat.le_of_ble_eq_true hle
    have hc1 := mj_c1_map (Γ := Γ) hc
    have hsl : (lg_sl (av.map (mj_v Γ))).length = av.length := by rw [mj_sl_len _ hc1, List.length_map]
    have hl := lv_entry (av.map (mj_v Γ)) (n := M.nL) (by rw [hsl]; exact hle')
    have hlen : lv.length = M.nL := by rw [hlv, List.length_append, List.length_replicate]; omega
    have hL : mj_L Γ ((lg_sl (av.map (mj_v Γ)) ++ List.replicate (M.nL - (lg_sl (av.map (mj_v Γ))).length) Slot.unset).toArray) lv := by
      refine ⟨hl.1.trans hlen.symm, hl.2.1, fun i v hi hj => ?_⟩
      rw [hlv] at hi
      by_cases hlt : i < av.length
      · rw [List.getElem?_append_left hlt] at hi
        have h3 : (av.map (mj_v Γ))[i]? = some (mj_v Γ v) := by rw [List.getElem?_map, hi]; rfl
        have h4 := mj_args_mem _ 0 i _ hc1 h3
        rw [Nat.zero_add] at h4
        exact hl.2.2 _ h4
      · rw [List.getElem?_append_right (by omega)] at hi
        have h5 := List.mem_of_getElem? hi
        rw [(List.mem_replicate.mp h5).2] at hj
        exact absurd hj (by decide)
    have w := h p e (headSpec [Cond.code y M.cc M.nL M.ret] { frames := d, cells := mc, slots := ms, locals := 40 * d }).room s m (av.map (mj_v Γ)).toArray below meth c s.heap [] 0 0 _
      ⟨B.exec, B.bytes, B.returns, B.notSynchronized, hml, hown, hC, Nat.le_refl _, Nat.le_refl _, by simp [headSpec], by simp [headSpec], hnm, BodyLoose.noHandlers B hcode⟩ va_S.rf hW hL hlen
    rw [Nat.zero_add, Nat.zero_add] at w
    have w2 : W p Γ.l e (headSpec [Cond.code y M.cc M.nL M.ret] { frames := d, cells := mc, slots := ms, locals := 40 * d }).room s m (av.map (mj_v Γ)).toArray below meth c s.heap [] 0 0 (mj_Q Γ below s mc ms P) (entryFrame m (av.map (mj_v Γ)).toArray M.nL) := by
      rw [lg_entry_eq]
      exact w
    obtain ⟨t, a1, o, b1, b2, b3⟩ := w2 s₁ hh0 (Stand.of_body B)
    exact ⟨t, o, a1, b1, b2, b3⟩
theorem mj_Met.more {Γ : mj_G} {d : Nat} {y : MethodName} {M : mj_M} {av : List Value} {S : mj_S} {mc ms : Nat} {P P' : mj_O → mj_S → Prop} (hp : ∀ o S', P o S' → P' o S') (h : mj_Met Γ d y M av S mc ms P) : mj_Met Γ d y M av S mc ms P' := by
  intro p e h1 h2 h3 s m args below h4 h5 h6 h7
  obtain ⟨n, o, a1, a2, a3, ⟨out, S', c1, c2, c3⟩, c4⟩ := h p e h1 h2 h3 s m args below h4 h5 h6 h7
  exact ⟨n, o, a1, a2, a3, ⟨out, S', c1, hp _ _ c2, c3⟩, c4⟩
/-- a method that returns, as the kit's contract -/
theorem mj_Met.met {Γ : mj_G} {d : Nat} {y : MethodName} {M : mj_M} {av : List Value} {S : mj_S} {mc ms : Nat} {Q : Option Value → mj_S → Prop} (h : mj_Met Γ d y M av S mc ms (mj_ret Q)) :
    Met Γ.l y [Cond.code y M.cc M.nL M.ret] { frames := d, cells := mc, slots := ms, locals := 40 * d } (fun v U => v = (av.map (mj_v Γ)).toArray ∧ mj_C Γ U ∧ mj_W Γ S U.heap) (fun _ st o t => mj_R Γ st mc ms (mj_ret Q) o t) mc ms (mj_A Γ) := by
  intro p e h1 h2 h3 s m args below h4 h5 h6 h7
  obtain ⟨n, o, a1, a2, a3, b⟩ := h p e h1 h2 h3 s m args below h4 h5 h6 h7
  refine ⟨n, o, a1, a2, a3, b, ?_⟩
  obtain ⟨⟨out, S', c1, c2, c3⟩, c4, c5, L, c6, c7⟩ := b
  refine ⟨L, ⟨?_, c5, c6⟩, c7⟩
  cases out with
  | inl v => exact ⟨_, c1⟩
  | inr x => exact c2.elim
theorem mj_C.here {Γ : mj_G} {s U : State} {H : Heap} {locs : List Loc} (h : mj_C Γ s) (hS : va_S (mj_A Γ) s.heap H locs) (hU : U.heap = H) (hw : s.WarmedH U.vm) : mj_C Γ U := by
  obtain ⟨h1, h2, h3, h4⟩ := h
  exact ⟨h1, State.WarmedH.trans h2 hw, by rw [hU]; exact Nat.le_trans h3 hS.1, fun q hq => by rw [hU]; exact (hS.2.1 q (Nat.lt_of_lt_of_le hq h3) (Nat.not_le.mpr hq)).trans (h4 q hq)⟩
section MJ7
variable {Γ : mj_G} {d d1 : Nat} {M M1 : mj_M} {k n pc mc ms : Nat} {lv st : List Value} {S : mj_S} {P : mj_O → mj_S → Prop} {Q : Option Value → mj_S → Prop} {y : MethodName}
theorem mj_go {p : Program} {e : Env} {R : Room} {s : State} {m : MethodId} {args : Array Value} {below : List Frame} {meth : Method} {c : Code} {H : Heap} {locs : List Loc} {cells slots : Nat} {ls : Array Slot} {st0 : List Value}
    (hX : mj_X Γ d M (k + mc) (n + ms) p R s m meth c cells slots) (hS : va_S (mj_A Γ) s.heap H locs) (hL : mj_L Γ ls lv) (hN : lv.length = M.nL)
    (hr : va_Run p Γ.l e R s m args below meth c H locs cells slots mc ms (F0 m pc ls st0) (st.map (mj_v Γ)) (fun st o t => mj_R Γ st mc ms (mj_ret Q) o t) (mj_A Γ))
    (hk : ∀ (v : Option Value) (S' : mj_S), Q v S' → mj_Ok Γ d M k n (pc + 3) lv (v.toList ++ st) S' P) :
    W p Γ.l e R s m args below meth c H locs cells slots (mj_Q Γ below s (cells + (k + mc)) (slots + (n + ms)) P) (F0 m pc ls st0) := by
  intro T hT X
  obtain ⟨v, st₀, t, T', L, h0, X', hL', e1, e2, ⟨⟨out, S', c1, c2, c3⟩, ⟨f1, f2⟩, c5⟩, hgo⟩ := hr T hT X
  cases out with
  | inr x => exact c2.elim
  | inl v0 =>
    have hv : v = v0.map (mj_v Γ) := Outcome.returned.inj c1
    subst hv
    obtain ⟨x1, x2, x3, x4, x5, x6, x7, x8, x9, x10, x11, x12⟩ := hX
    rw [h0] at f1 f2
    have hS' : va_S (mj_A Γ) s.heap T'.heap (locs ++ L) := by
      refine ⟨Nat.le_trans hS.1 (by rw [e1]; exact f1), fun q h1 h2 => ?_, fun q hq => ?_⟩
      · rw [e1, f2 q (Nat.lt_of_lt_of_le h1 hS.1) h2]
        exact hS.2.1 q h1 h2
      · rcases List.mem_append.mp hq with h | h
        · exact hS.2.2 q h
        · exact hL' q h
    have w := hk v0 S' c2 p e R s m args below meth c T'.heap (locs ++ L) (cells + mc) (slots + ms) ls ⟨x1, x2, x3, x4, x5, x6, x7, x8, x9, by omega, by omega, x12⟩ hS' (by rw [e1]; exact c3) hL hN
    rw [show cells + mc + k = cells + (k + mc) by omega, show slots + ms + n = slots + (n + ms) by omega] at w
    have e3 : (v0.toList ++ st).map (mj_v Γ) = (v0.map (mj_v Γ)).toList ++ st.map (mj_v Γ) := by
      cases v0 <;> simp
    rw [e3] at w
    obtain ⟨t2, a1, b1⟩ := w T' rfl X'
    exact ⟨t2, hgo t2 a1, b1⟩
/-- what a call asks of the tables, besides the link -/
def mj_cw (y : MethodName) (M : mj_M) (n : Nat) : Prop :=
  Cond.code y M.cc M.nL M.ret ∈ mj_tb ∧ Cond.initialized y.cls ∈ mj_tb ∧ (y.cls ≠ "java/lang/invoke/MethodHandle" ∧ y.cls ≠ "java/lang/invoke/VarHandle" ∧ (parseMethodDescriptor y.desc).map (fun d => d.parameters.length) = some n) ∧ M.nL ≤ 21
theorem mj_cw_spec {y : MethodName} {M : mj_M} {n : Nat} (h : mj_cw y M n) : Cond.code y M.cc M.nL M.ret ∈ mj_tb ∧ Cond.initialized y.cls ∈ mj_tb ∧ (y.cls ≠ "java/lang/invoke/MethodHandle" ∧ y.cls ≠ "java/lang/invoke/VarHandle" ∧ (parseMethodDescriptor y.desc).map (fun d => d.parameters.length) = some n) ∧ M.nL ≤ 21 := h
theorem mj_goodIn {ws : List Cond} (h : ∀ w ∈ ws, w ∈ mj_tb) : GoodIn mj_tb ws := fun w hw => ⟨h w hw, good_of_word (mj_tb_good (h w hw)).2⟩
theorem mj_pre {s : State} {H : Heap} {locs : List Loc} {av : List Value} (hC : mj_C Γ s) (hS : va_S (mj_A Γ) s.heap H locs) (hW : mj_W Γ S H) : PreS s H (fun v U => v = (av.map (mj_v Γ)).toArray ∧ mj_C Γ U ∧ mj_W Γ S U.heap) (av.map (mj_v Γ)) :=
  ⟨fun _ _ _ _ h => h, fun U hU hw => ⟨rfl, hC.here hS hU hw, by rw [hU]; exact hW⟩⟩
theorem mj_callV {idx a ci : Nat} {q : vw_C} {fs As : List Value} (hd : decode M.cc pc = .ok (.invokevirtual idx, 3)) (hM : mj_Met Γ d1 y M1 (.ref a :: As) S mc ms (mj_ret Q)) (hcw : mj_cw y M1 As.length) (hw : Cond.methodLink M.own idx y ∈ mj_tb ∧ Cond.instanceMethod y ∈ mj_tb ∧ Cond.selects y.cls y y ∈ mj_tb)
    (hq : mj_cl[ci]? = some q) (hqc : q.1 = y.cls) (ha : a < S.2.1) (he : S.1 a = .inr (ci, fs)) (hd1 : d1 < d) (hst : Nat.ble (st.map fun v => v.category).sum 8 = true)
    (hk : ∀ (v : Option Value) (S' : mj_S), Q v S' → mj_Ok Γ d M k n (pc + 3) lv (v.toList ++ st) S' P) : mj_Ok Γ d M (k + mc) (n + ms) pc lv (As.reverse ++ .ref a :: st) S P := by
  intro p e R s m args below meth c H locs cells slots ls hX hS hW hL hN
  have hX0 := hX
  obtain ⟨x1, x2, x3, x4, x5, x6, x7, x8, x9, x10, x11, x12⟩ := hX
  obtain ⟨g1, g2, g3, g4⟩ := mj_cw_spec hcw
  obtain ⟨w1, w2, w3⟩ := hw
  have hts := x7.w args
  have hB : CallB R s args M.own idx y M1.cc M1.nL M1.ret [Cond.code y M1.cc M1.nL M1.ret] { frames := d1, cells := mc, slots := ms, locals := 40 * d1 } mc ms As.length :=
    callB_of As.length hts (mj_goodIn (by simpa using g1)) rfl rfl rfl (hts _ g2) (hts _ w1) g3 ⟨by show d1 + 1 ≤ _; omega, by show 8 + (M1.nL + 11) + 40 * d1 ≤ _; omega⟩
  have hp := mj_pre (av := .ref a :: As) x7 hS hW
  have he' : (mj_ws Γ S)[a]? = some (mj_ad Γ a, .inr (ci, fs.map (mj_v Γ))) := by rw [mj_ws_at ha, he]; rfl
  have hrec := va_recv x7.K hW.2.2.2.1 hq he'
  rw [hqc] at hrec
  have hroom : 2 * (F0 m pc ls ((As.reverse ++ .ref a :: st).map (mj_v Γ))).monitorRoom + ((st.map (mj_v Γ)).map fun v => v.category).sum ≤ 8 := by
    have : (st.map (mj_v Γ)).map (fun v => v.category) = st.map (fun v => v.category) := by simp [mj_v_cat]
    rw [this]
    exact lv_room (rest := (As.reverse ++ .ref a :: st).map (mj_v Γ)) (Nat.le_of_ble_eq_true hst)
  refine mj_go hX0 hS hL hN (va_runV (As := As.map (mj_v Γ)) (rest := st.map (mj_v Γ)) (nL := M.nL) ⟨x1, x2, x5, x6, hts⟩ hM.met ⟨hB, hts _ w2, hts _ w3⟩ ⟨hp.1, hrec, hp.2⟩ rfl (List.length_map _) (hL.1.trans hN) ?_ hroom hd ⟨by omega, by omega⟩) hk
  simp [mj_v]
theorem mj_stat_pre {As : List Value} : ((As.reverse ++ st).map (mj_v Γ)) = (As.map (mj_v Γ)).reverse ++ st.map (mj_v Γ) := by simp
theorem mj_callS {idx : Nat} {As : List Value} (hd : decode M.cc pc = .ok (.invokestatic idx, 3)) (hM : mj_Met Γ d1 y M1 As S mc ms (mj_ret Q)) (hcw : mj_cw y M1 As.length) (hw : Cond.methodLink M.own idx y ∈ mj_tb ∧ Cond.static y ∈ mj_tb)
    (hd1 : d1 < d) (hst : Nat.ble (st.map fun v => v.category).sum 8 = true)
    (hk : ∀ (v : Option Value) (S' : mj_S), Q v S' → mj_Ok Γ d M k n (pc + 3) lv (v.toList ++ st) S' P) : mj_Ok Γ d M (k + mc) (n + ms) pc lv (As.reverse ++ st) S P := by
  intro p e R s m args below meth c H locs cells slots ls hX hS hW hL hN
  have hX0 := hX
  obtain ⟨x1, x2, x3, x4, x5, x6, x7, x8, x9, x10, x11, x12⟩ := hX
  obtain ⟨g1, g2, g3, g4⟩ := mj_cw_spec hcw
  obtain ⟨w1, w2⟩ := hw
  have hts := x7.w args
  have hB : CallB R s args M.own idx y M1.cc M1.nL M1.ret [Cond.code y M1.cc M1.nL M1.ret] { frames := d1, cells := mc, slots := ms, locals := 40 * d1 } mc ms As.length :=
    callB_of As.length hts (mj_goodIn (by simpa using g1)) rfl rfl rfl (hts _ g2) (hts _ w1) g3 ⟨by show d1 + 1 ≤ _; omega, by show 8 + (M1.nL + 11) + 40 * d1 ≤ _; omega⟩
  have hroom : 2 * (F0 m pc ls ((As.reverse ++ st).map (mj_v Γ))).monitorRoom + ((st.map (mj_v Γ)).map fun v => v.category).sum ≤ 8 := by
    have : (st.map (mj_v Γ)).map (fun v => v.category) = st.map (fun v => v.category) := by simp [mj_v_cat]
    rw [this]
    exact lv_room (rest := (As.reverse ++ st).map (mj_v Γ)) (Nat.le_of_ble_eq_true hst)
  exact mj_go hX0 hS hL hN (va_runS (As := As.map (mj_v Γ)) (rest := st.map (mj_v Γ)) (nL := M.nL) ⟨x1, x2, x5, x6, hts⟩ hM.met ⟨hB, hts _ w2⟩ (mj_pre (av := As) x7 hS hW) rfl (List.length_map _) (hL.1.trans hN) mj_stat_pre hroom hd ⟨by omega, by omega⟩) hk
theorem mj_callSN {idx : Nat} {As : List Value} (hd : decode M.cc pc = .ok (.invokestatic idx, 3)) (hM : mj_Met Γ d1 y M1 As S mc ms (mj_ret Q)) (hcw : mj_cw y M1 As.length) (hw : Cond.methodLinkNest M.own idx y "IsomerList" ∈ lw_tbl ∧ Cond.static y ∈ mj_tb)
    (hd1 : d1 < d) (hst : Nat.ble (st.map fun v => v.category).sum 8 = true)
    (hk : ∀ (v : Option Value) (S' : mj_S), Q v S' → mj_Ok Γ d M k n (pc + 3) lv (v.toList ++ st) S' P) : mj_Ok Γ d M (k + mc) (n + ms) pc lv (As.reverse ++ st) S P := by
  intro p e R s m args below meth c H locs cells slots ls hX hS hW hL hN
  have hX0 := hX
  obtain ⟨x1, x2, x3, x4, x5, x6, x7, x8, x9, x10, x11, x12⟩ := hX
  obtain ⟨g1, g2, g3, g4⟩ := mj_cw_spec hcw
  obtain ⟨w1, w2⟩ := hw
  have hts := x7.w args
  have hB : va_CN R s args M.own idx y "IsomerList" M1.cc M1.nL M1.ret [Cond.code y M1.cc M1.nL M1.ret] { frames := d1, cells := mc, slots := ms, locals := 40 * d1 } mc ms As.length :=
    va_cnB As.length hts (mj_goodIn (by simpa using g1)) rfl rfl rfl (x7.nM w1) (hts _ g2) g3 ⟨by show d1 + 1 ≤ _; omega, by show 8 + (M1.nL + 11) + 40 * d1 ≤ _; omega⟩
  have hroom : 2 * (F0 m pc ls ((As.reverse ++ st).map (mj_v Γ))).monitorRoom + ((st.map (mj_v Γ)).map fun v => v.category).sum ≤ 8 := by
    have : (st.map (mj_v Γ)).map (fun v => v.category) = st.map (fun v => v.category) := by simp [mj_v_cat]
    rw [this]
    exact lv_room (rest := (As.reverse ++ st).map (mj_v Γ)) (Nat.le_of_ble_eq_true hst)
  exact mj_go hX0 hS hL hN (va_runSN (As := As.map (mj_v Γ)) (rest := st.map (mj_v Γ)) (nL := M.nL) ⟨x1, x2, x5, x6, hts⟩ hM.met ⟨hB, hts _ w2, trivial⟩ (mj_pre (av := As) x7 hS hW) rfl (List.length_map _) (hL.1.trans hN) mj_stat_pre hroom hd ⟨by omega, by omega⟩) hk
theorem mj_callI {idx a : Nat} {As : List Value} (hd : decode M.cc pc = .ok (.invokespecial idx, 3)) (hM : mj_Met Γ d1 y M1 (.ref a :: As) S mc ms (mj_ret Q)) (hcw : mj_cw y M1 As.length) (hw : Cond.methodLink M.own idx y ∈ mj_tb ∧ Cond.instanceMethod y ∈ mj_tb ∧ y.name = "<init>") (hrn : M1.ret = none)
    (hd1 : d1 < d) (hst : Nat.ble (st.map fun v => v.category).sum 8 = true)
    (hk : ∀ (v : Option Value) (S' : mj_S), Q v S' → mj_Ok Γ d M k n (pc + 3) lv (v.toList ++ st) S' P) : mj_Ok Γ d M (k + mc) (n + ms) pc lv (As.reverse ++ .ref a :: st) S P := by
  intro p e R s m args below meth c H locs cells slots ls hX hS hW hL hN
  have hX0 := hX
  obtain ⟨x1, x2, x3, x4, x5, x6, x7, x8, x9, x10, x11, x12⟩ := hX
  obtain ⟨g1, g2, g3, g4⟩ := mj_cw_spec hcw
  obtain ⟨w1, w2, w3⟩ := hw
  have hts := x7.w args
  have hM' := hM.met
  rw [hrn] at hM' g1
  have hB : CallB R s args M.own idx y M1.cc M1.nL none [Cond.code y M1.cc M1.nL none] { frames := d1, cells := mc, slots := ms, locals := 40 * d1 } mc ms As.length :=
    callB_of As.length hts (mj_goodIn (by simpa using g1)) rfl rfl rfl (hts _ g2) (hts _ w1) g3 ⟨by show d1 + 1 ≤ _; omega, by show 8 + (M1.nL + 11) + 40 * d1 ≤ _; omega⟩
  have hroom : 2 * (F0 m pc ls ((As.reverse ++ .ref a :: st).map (mj_v Γ))).monitorRoom + ((st.map (mj_v Γ)).map fun v => v.category).sum ≤ 8 := by
    have : (st.map (mj_v Γ)).map (fun v => v.category) = st.map (fun v => v.category) := by simp [mj_v_cat]
    rw [this]
    exact lv_room (rest := (As.reverse ++ .ref a :: st).map (mj_v Γ)) (Nat.le_of_ble_eq_true hst)
  refine mj_go hX0 hS hL hN (va_runI (b := mj_ad Γ a) (As := As.map (mj_v Γ)) (rest := st.map (mj_v Γ)) (nL := M.nL) ⟨x1, x2, x5, x6, hts⟩ hM' ⟨hB, w3, hts _ w2⟩ (mj_pre (av := .ref a :: As) x7 hS hW) rfl (List.length_map _) (hL.1.trans hN) ?_ hroom hd ⟨by omega, by omega⟩) hk
  simp [mj_v]
theorem mj_callIN {idx a : Nat} {As : List Value} (hd : decode M.cc pc = .ok (.invokespecial idx, 3)) (hM : mj_Met Γ d1 y M1 (.ref a :: As) S mc ms (mj_ret Q)) (hcw : mj_cw y M1 As.length) (hw : Cond.methodLinkNest M.own idx y "IsomerList" ∈ lw_tbl ∧ Cond.instanceMethod y ∈ mj_tb ∧ y.name = "<init>") (hrn : M1.ret = none)
    (hd1 : d1 < d) (hst : Nat.ble (st.map fun v => v.category).sum 8 = true)
    (hk : ∀ (v : Option Value) (S' : mj_S), Q v S' → mj_Ok Γ d M k n (pc + 3) lv (v.toList ++ st) S' P) : mj_Ok Γ d M (k + mc) (n + ms) pc lv (As.reverse ++ .ref a :: st) S P := by
  intro p e R s m args below meth c H locs cells slots ls hX hS hW hL hN
  have hX0 := hX
  obtain ⟨x1, x2, x3, x4, x5, x6, x7, x8, x9, x10, x11, x12⟩ := hX
  obtain ⟨g1, g2, g3, g4⟩ := mj_cw_spec hcw
  obtain ⟨w1, w2, w3⟩ := hw
  have hts := x7.w args
  have hM' := hM.met
  rw [hrn] at hM' g1
  have hB : va_CN R s args M.own idx y "IsomerList" M1.cc M1.nL none [Cond.code y M1.cc M1.nL none] { frames := d1, cells := mc, slots := ms, locals := 40 * d1 } mc ms As.length :=
    va_cnB As.length hts (mj_goodIn (by simpa using g1)) rfl rfl rfl (x7.nM w1) (hts _ g2) g3 ⟨by show d1 + 1 ≤ _; omega, by show 8 + (M1.nL + 11) + 40 * d1 ≤ _; omega⟩
  have hroom : 2 * (F0 m pc ls ((As.reverse ++ .ref a :: st).map (mj_v Γ))).monitorRoom + ((st.map (mj_v Γ)).map fun v => v.category).sum ≤ 8 := by
    have : (st.map (mj_v Γ)).map (fun v => v.category) = st.map (fun v => v.category) := by simp [mj_v_cat]
    rw [this]
    exact lv_room (rest := (As.reverse ++ .ref a :: st).map (mj_v Γ)) (Nat.le_of_ble_eq_true hst)
  refine mj_go hX0 hS hL hN (va_runIN (b := mj_ad Γ a) (As := As.map (mj_v Γ)) (rest := st.map (mj_v Γ)) (nL := M.nL) ⟨x1, x2, x5, x6, hts⟩ hM' ⟨hB, w3, hts _ w2⟩ (mj_pre (av := .ref a :: As) x7 hS hW) rfl (List.length_map _) (hL.1.trans hN) ?_ hroom hd ⟨by omega, by omega⟩) hk
  simp [mj_v]
theorem mj_objInit {idx a : Nat} (hd : decode M.cc pc = .ok (.invokespecial idx, 3)) (hw : Cond.methodLink M.own idx objectInit ∈ mj_tb ∧ Cond.instanceMethod objectInit ∈ mj_tb ∧ Cond.code objectInit ⟨#[0xb1]⟩ 1 none ∈ mj_tb) (hd0 : 0 < d) (hst : Nat.ble (st.map fun v => v.category).sum 8 = true)
    (h : mj_Ok Γ d M k n (pc + 3) lv st S P) : mj_Ok Γ d M k n pc lv (.ref a :: st) S P := by
  intro p e R s m args below meth c H locs cells slots ls hX hS hW hL hN
  have hX0 := hX
  obtain ⟨x1, x2, x3, x4, x5, x6, x7, x8, x9, x10, x11, x12⟩ := hX
  obtain ⟨w1, w2, w3⟩ := hw
  have hts := x7.w args
  have h8 : ((st.map (mj_v Γ)).map fun v => v.category).sum ≤ 8 := by
    have : (st.map (mj_v Γ)).map (fun v => v.category) = st.map (fun v => v.category) := by simp [mj_v_cat]
    rw [this]
    exact Nat.le_of_ble_eq_true hst
  refine W.objInit x1 x2 x6 (hts _ w1) (hts _ w2) (hts _ w3) rfl (by rw [x5]; exact hL.1.trans hN) rfl hd (by omega) (by show 2 * 0 + _ + 12 ≤ _; omega) ?_
  exact h p e R s m args below meth c H locs cells slots ls hX0 hS hW hL hN
end MJ7
end
section
/-! mj, part 08: an int as an integer: iZ z; the rows again, over such numbers. -/
def iZ (z : Int) : Int32 := Int32.ofInt z
/-- z is an int -/
abbrev iR (z : Int) : Prop := -2147483648 ≤ z ∧ z ≤ 2147483647
theorem iZ_toInt {z : Int} (h : iR z) : (iZ z).toInt = z := Int32.toInt_ofInt_of_le h.1 (by have := h.2; omega)
theorem iZ_add (x y : Int) : iZ x + iZ y = iZ (x + y) := (Int32.ofInt_add x y).symm
theorem iZ_sub (x y : Int) : iZ x - iZ y = iZ (x - y) := (Int32.ofInt_sub x y).symm
theorem iZ_mul (x y : Int) : iZ x * iZ y = iZ (x * y) := (Int32.ofInt_mul x y).symm
theorem iZ_neg (x : Int) : -iZ x = iZ (-x) := (Int32.ofInt_neg x).symm
theorem iZ_nat (n : Nat) : iZ (n : Int) = nI n := rfl
theorem iZ_lt {x y : Int} (hx : iR x) (hy : iR y) : iZ x < iZ y ↔ x < y := by
  rw [Int32.lt_iff_toInt_lt, iZ_toInt hx, iZ_toInt hy]
theorem iZ_le {x y : Int} (hx : iR x) (hy : iR y) : iZ x ≤ iZ y ↔ x ≤ y := by
  rw [Int32.le_iff_toInt_le, iZ_toInt hx, iZ_toInt hy]
theorem iZ_eq {x y : Int} (hx : iR x) (hy : iR y) : iZ x = iZ y ↔ x = y := by
  rw [← Int32.toInt_inj, iZ_toInt hx, iZ_toInt hy]
theorem iZ_0 : iZ 0 = 0 := rfl
theorem iZ_div {a b : Int} (ha : 0 ≤ a) (ha2 : a ≤ 2147483647) (hb : 0 < b) (hb2 : b ≤ 2147483647) : iZ a / iZ b = iZ (a / b) := by
  obtain ⟨m, rfl⟩ := Int.eq_ofNat_of_zero_le ha
  obtain ⟨n, rfl⟩ := Int.eq_ofNat_of_zero_le (Int.le_of_lt hb)
  rw [iZ_nat, iZ_nat, pk_div (by omega) (by omega) (by omega), ← iZ_nat, Int.natCast_ediv]
theorem iZ_rem {a b : Int} (ha : 0 ≤ a) (ha2 : a ≤ 2147483647) (hb : 0 < b) (hb2 : b ≤ 2147483647) : iZ a - iZ a / iZ b * iZ b = iZ (a % b) := by
  rw [iZ_div ha ha2 hb hb2, iZ_mul, iZ_sub]
  congr 1
  rw [Int.emod_def, Int.mul_comm]
/-- an array's contents -/
def mj_z (A : Nat → Int) : Nat → Int32 := fun j => iZ (A j)
theorem mj_z_up (A : Nat → Int) (j : Nat) (v : Int) : upd (mj_z A) j (iZ v) = mj_z (va_up A j v) := by
  funext i
  by_cases h : i = j
  · subst h; simp [upd, mj_z, va_up]
  · simp [upd, mj_z, va_up, h]
/-- what lies outside l is as it was -/
def mj_fr (S S' : mj_S) (l : List Nat) : Prop := S'.2 = S.2 ∧ ∀ j, j ∉ l → S'.1 j = S.1 j
theorem mj_fr.rf (S : mj_S) (l : List Nat) : mj_fr S S l := ⟨rfl, fun _ _ => rfl⟩
theorem mj_fr.tr {S S1 S2 : mj_S} {l1 l2 l : List Nat} (h1 : mj_fr S S1 l1) (h2 : mj_fr S1 S2 l2) (hl1 : ∀ j ∈ l1, j ∈ l) (hl2 : ∀ j ∈ l2, j ∈ l) : mj_fr S S2 l :=
  ⟨h2.1.trans h1.1, fun j hj => (h2.2 j fun q => hj (hl2 j q)).trans (h1.2 j fun q => hj (hl1 j q))⟩
theorem mj_fr.w {S S' : mj_S} {l : List Nat} (h : mj_fr S S' l) : S'.2.1 = S.2.1 := by rw [h.1]
theorem mj_fr.up (S : mj_S) (a : Nat) (e : mj_E) : mj_fr S (mj_up S a e) [a] := ⟨rfl, fun j hj => mj_up_ne S e (by simpa using hj)⟩
theorem mj_fr.at {S S' : mj_S} {l : List Nat} (h : mj_fr S S' l) {a : Nat} {e : mj_E} (he : S.1 a = e) (ha : a ∉ l) : S'.1 a = e := (h.2 a ha).trans he
section MJ8
variable {Γ : mj_G} {d : Nat} {M : mj_M} {k n pc : Nat} {lv st : List Value} {S : mj_S} {P : mj_O → mj_S → Prop}
theorem mz_iadd {x y : Int} (hd : decode M.cc pc = .ok (.iadd, 1)) (h : mj_Ok Γ d M k n (pc + 1) lv (.int (iZ (x + y)) :: st) S P) : mj_Ok Γ d M k n pc lv (.int (iZ y) :: .int (iZ x) :: st) S P := mj_iadd hd (by rw [iZ_add]; exact h)
theorem mz_isub {x y : Int} (hd : decode M.cc pc = .ok (.isub, 1)) (h : mj_Ok Γ d M k n (pc + 1) lv (.int (iZ (x - y)) :: st) S P) : mj_Ok Γ d M k n pc lv (.int (iZ y) :: .int (iZ x) :: st) S P := mj_isub hd (by rw [iZ_sub]; exact h)
theorem mz_imul {x y : Int} (hd : decode M.cc pc = .ok (.imul, 1)) (h : mj_Ok Γ d M k n (pc + 1) lv (.int (iZ (x * y)) :: st) S P) : mj_Ok Γ d M k n pc lv (.int (iZ y) :: .int (iZ x) :: st) S P := mj_imul hd (by rw [iZ_mul]; exact h)
theorem mz_idiv {x y : Int} (hd : decode M.cc pc = .ok (.idiv, 1)) (hx : 0 ≤ x) (hx2 : x ≤ 2147483647) (hy : 0 < y) (hy2 : y ≤ 2147483647) (h : mj_Ok Γ d M k n (pc + 1) lv (.int (iZ (x / y)) :: st) S P) : mj_Ok Γ d M k n pc lv (.int (iZ y) :: .int (iZ x) :: st) S P :=
  mj_idiv hd (fun e => by have := (iZ_eq (x := y) (y := 0) (by omega) (by omega)).mp e; omega) (by rw [iZ_div hx hx2 hy hy2]; exact h)
theorem mz_irem {x y : Int} (hd : decode M.cc pc = .ok (.irem, 1)) (hx : 0 ≤ x) (hx2 : x ≤ 2147483647) (hy : 0 < y) (hy2 : y ≤ 2147483647) (h : mj_Ok Γ d M k n (pc + 1) lv (.int (iZ (x % y)) :: st) S P) : mj_Ok Γ d M k n pc lv (.int (iZ y) :: .int (iZ x) :: st) S P :=
  mj_irem hd (fun e => by have := (iZ_eq (x := y) (y := 0) (by omega) (by omega)).mp e; omega) (by rw [iZ_rem hx hx2 hy hy2]; exact h)
theorem mz_ineg {x : Int} (hd : decode M.cc pc = .ok (.ineg, 1)) (h : mj_Ok Γ d M k n (pc + 1) lv (.int (iZ (-x)) :: st) S P) : mj_Ok Γ d M k n pc lv (.int (iZ x) :: st) S P := mj_ineg hd (by rw [iZ_neg]; exact h)
theorem mz_iconst {i : Int} (hd : decode M.cc pc = .ok (.iconst i, 1)) (h : mj_Ok Γ d M k n (pc + 1) lv (.int (iZ i) :: st) S P) : mj_Ok Γ d M k n pc lv st S P := mj_iconst hd rfl h
theorem mz_bipush {i : Int} (hd : decode M.cc pc = .ok (.bipush i, 2)) (hv : (Int8.ofInt i).toInt32 = iZ i) (h : mj_Ok Γ d M k n (pc + 2) lv (.int (iZ i) :: st) S P) : mj_Ok Γ d M k n pc lv st S P := mj_bipush hd hv h
theorem mz_sipush {i : Int} (hd : decode M.cc pc = .ok (.sipush i, 3)) (hv : (Int16.ofInt i).toInt32 = iZ i) (h : mj_Ok Γ d M k n (pc + 3) lv (.int (iZ i) :: st) S P) : mj_Ok Γ d M k n pc lv st S P := mj_sipush hd hv h
theorem mz_iinc {i : Nat} {x z : Int} {lv' : List Value} (hd : decode M.cc pc = .ok (.iinc i z, 3)) (hc : mj_c1 lv = true) (hx : lv[i]? = some (.int (iZ x))) (hl : lv.set i (.int (iZ (x + z))) = lv') (h : mj_Ok Γ d M k n (pc + 3) lv' st S P) : mj_Ok Γ d M k n pc lv st S P := mj_iinc hd hc hx (iZ_add x z) hl h
theorem mz_if_eq {x : Int} {off : Int} (tgt : Nat) (hd : decode M.cc pc = .ok (.ifCond .eq off, 3)) (ht : (pc : Int) + off = (tgt : Int)) (hx : iR x) (ht1 : x = 0 → mj_Ok Γ d M k n tgt lv st S P) (hf1 : x ≠ 0 → mj_Ok Γ d M k n (pc + 3) lv st S P) : mj_Ok Γ d M k n pc lv (.int (iZ x) :: st) S P := mj_if_eq tgt hd ht (fun q => ht1 ((iZ_eq (x := x) (y := 0) hx (by omega)).mp q)) (fun q => hf1 fun e => q ((iZ_eq (x := x) (y := 0) hx (by omega)).mpr e))
theorem mz_icmp_eq {x y : Int} {off : Int} (tgt : Nat) (hd : decode M.cc pc = .ok (.if_icmp .eq off, 3)) (ht : (pc : Int) + off = (tgt : Int)) (hx : iR x) (hy : iR y) (ht1 : x = y → mj_Ok Γ d M k n tgt lv st S P) (hf1 : x ≠ y → mj_Ok Γ d M k n (pc + 3) lv st S P) : mj_Ok Γ d M k n pc lv (.int (iZ y) :: .int (iZ x) :: st) S P := mj_icmp_eq tgt hd ht (fun q => ht1 ((iZ_eq (x := x) (y := y) hx hy).mp q)) (fun q => hf1 fun e => q ((iZ_eq (x := x) (y := y) hx hy).mpr e))
theorem mz_if_ne {x : Int} {off : Int} (tgt : Nat) (hd : decode M.cc pc = .ok (.ifCond .ne off, 3)) (ht : (pc : Int) + off = (tgt : Int)) (hx : iR x) (ht1 : x ≠ 0 → mj_Ok Γ d M k n tgt lv st S P) (hf1 : x = 0 → mj_Ok Γ d M k n (pc + 3) lv st S P) : mj_Ok Γ d M k n pc lv (.int (iZ x) :: st) S P := mj_if_ne tgt hd ht (fun q => ht1 fun e => q ((iZ_eq (x := x) (y := 0) hx (by omega)).mpr e)) (fun q => hf1 ((iZ_eq (x := x) (y := 0) hx (by omega)).mp q))
theorem mz_icmp_ne {x y : Int} {off : Int} (tgt : Nat) (hd : decode M.cc pc = .ok (.if_icmp .ne off, 3)) (ht : (pc : Int) + off = (tgt : Int)) (hx : iR x) (hy : iR y) (ht1 : x ≠ y → mj_Ok Γ d M k n tgt lv st S P) (hf1 : x = y → mj_Ok Γ d M k n (pc + 3) lv st S P) : mj_Ok Γ d M k n pc lv (.int (iZ y) :: .int (iZ x) :: st) S P := mj_icmp_ne tgt hd ht (fun q => ht1 fun e => q ((iZ_eq (x := x) (y := y) hx hy).mpr e)) (fun q => hf1 ((iZ_eq (x := x) (y := y) hx hy).mp q))
theorem mz_if_lt {x : Int} {off : Int} (tgt : Nat) (hd : decode M.cc pc = .ok (.ifCond .lt off, 3)) (ht : (pc : Int) + off = (tgt : Int)) (hx : iR x) (ht1 : x < 0 → mj_Ok Γ d M k n tgt lv st S P) (hf1 : 0 ≤ x → mj_Ok Γ d M k n (pc + 3) lv st S P) : mj_Ok Γ d M k n pc lv (.int (iZ x) :: st) S P := mj_if_lt tgt hd ht (fun q => ht1 ((iZ_lt (x := x) (y := 0) hx (by omega)).mp q)) (fun q => hf1 (by have w9 : ¬ (x < 0) := fun e => q ((iZ_lt (x := x) (y := 0) hx (by omega)).mpr e); omega))
theorem mz_icmp_lt {x y : Int} {off : Int} (tgt : Nat) (hd : decode M.cc pc = .ok (.if_icmp .lt off, 3)) (ht : (pc : Int) + off = (tgt : Int)) (hx : iR x) (hy : iR y) (ht1 : x < y → mj_Ok Γ d M k n tgt lv st S P) (hf1 : y ≤ x → mj_Ok Γ d M k n (pc + 3) lv st S P) : mj_Ok Γ d M k n pc lv (.int (iZ y) :: .int (iZ x) :: st) S P := mj_icmp_lt tgt hd ht (fun q => ht1 ((iZ_lt (x := x) (y := y) hx hy).mp q)) (fun q => hf1 (by have w9 : ¬ (x < y) := fun e => q ((iZ_lt (x := x) (y := y) hx hy).mpr e); omega))
theorem mz_if_ge {x : Int} {off : Int} (tgt : Nat) (hd : decode M.cc pc = .ok (.ifCond .ge off, 3)) (ht : (pc : Int) + off = (tgt : Int)) (hx : iR x) (ht1 : 0 ≤ x → mj_Ok Γ d M k n tgt lv st S P) (hf1 : x < 0 → mj_Ok Γ d M k n (pc + 3) lv st S P) : mj_Ok Γ d M k n pc lv (.int (iZ x) :: st) S P := mj_if_ge tgt hd ht (fun q => ht1 ((iZ_le (x := 0) (y := x) (by omega) hx).mp q)) (fun q => hf1 (by have w9 : ¬ (0 ≤ x) := fun e => q ((iZ_le (x := 0) (y := x) (by omega) hx).mpr e); omega))
theorem mz_icmp_ge {x y : Int} {off : Int} (tgt : Nat) (hd : decode M.cc pc = .ok (.if_icmp .ge off, 3)) (ht : (pc : Int) + off = (tgt : Int)) (hx : iR x) (hy : iR y) (ht1 : y ≤ x → mj_Ok Γ d M k n tgt lv st S P) (hf1 : x < y → mj_Ok Γ d M k n (pc + 3) lv st S P) : mj_Ok Γ d M k n pc lv (.int (iZ y) :: .int (iZ x) :: st) S P := mj_icmp_ge tgt hd ht (fun q => ht1 ((iZ_le (x := y) (y := x) hy hx).mp q)) (fun q => hf1 (by have w9 : ¬ (y ≤ x) := fun e => q ((iZ_le (x := y) (y := x) hy hx).mpr e); omega))
theorem mz_if_gt {x : Int} {off : Int} (tgt : Nat) (hd : decode M.cc pc = .ok (.ifCond .gt off, 3)) (ht : (pc : Int) + off = (tgt : Int)) (hx : iR x) (ht1 : 0 < x → mj_Ok Γ d M k n tgt lv st S P) (hf1 : x ≤ 0 → mj_Ok Γ d M k n (pc + 3) lv st S P) : mj_Ok Γ d M k n pc lv (.int (iZ x) :: st) S P := mj_if_gt tgt hd ht (fun q => ht1 ((iZ_lt (x := 0) (y := x) (by omega) hx).mp q)) (fun q => hf1 (by have w9 : ¬ (0 < x) := fun e => q ((iZ_lt (x := 0) (y := x) (by omega) hx).mpr e); omega))
theorem mz_icmp_gt {x y : Int} {off : Int} (tgt : Nat) (hd : decode M.cc pc = .ok (.if_icmp .gt off, 3)) (ht : (pc : Int) + off = (tgt : Int)) (hx : iR x) (hy : iR y) (ht1 : y < x → mj_Ok Γ d M k n tgt lv st S P) (hf1 : x ≤ y → mj_Ok Γ d M k n (pc + 3) lv st S P) : mj_Ok Γ d M k n pc lv (.int (iZ y) :: .int (iZ x) :: st) S P := mj_icmp_gt tgt hd ht (fun q => ht1 ((iZ_lt (x := y) (y := x) hy hx).mp q)) (fun q => hf1 (by have w9 : ¬ (y < x) := fun e => q ((iZ_lt (x := y) (y := x) hy hx).mpr e); omega))
theorem mz_if_le {x : Int} {off : Int} (tgt : Nat) (hd : decode M.cc pc = .ok (.ifCond .le off, 3)) (ht : (pc : Int) + off = (tgt : Int)) (hx : iR x) (ht1 : x ≤ 0 → mj_Ok Γ d M k n tgt lv st S P) (hf1 : 0 < x → mj_Ok Γ d M k n (pc + 3) lv st S P) : mj_Ok Γ d M k n pc lv (.int (iZ x) :: st) S P := mj_if_le tgt hd ht (fun q => ht1 ((iZ_le (x := x) (y := 0) hx (by omega)).mp q)) (fun q => hf1 (by have w9 : ¬ (x ≤ 0) := fun e => q ((iZ_le (x := x) (y := 0) hx (by omega)).mpr e); omega))
theorem mz_icmp_le {x y : Int} {off : Int} (tgt : Nat) (hd : decode M.cc pc = .ok (.if_icmp .le off, 3)) (ht : (pc : Int) + off = (tgt : Int)) (hx : iR x) (hy : iR y) (ht1 : x ≤ y → mj_Ok Γ d M k n tgt lv st S P) (hf1 : y < x → mj_Ok Γ d M k n (pc + 3) lv st S P) : mj_Ok Γ d M k n pc lv (.int (iZ y) :: .int (iZ x) :: st) S P := mj_icmp_le tgt hd ht (fun q => ht1 ((iZ_le (x := x) (y := y) hx hy).mp q)) (fun q => hf1 (by have w9 : ¬ (x ≤ y) := fun e => q ((iZ_le (x := x) (y := y) hx hy).mpr e); omega))
theorem mz_iald {a N j : Nat} {z : Int} {A : Nat → Int} (hd : decode M.cc pc = .ok (.iaload, 1)) (ha : a < S.2.1) (he : S.1 a = .inl (0, N, .inl (mj_z A))) (hz : z = (j : Int)) (hj : j < N) (h : mj_Ok Γ d M k n (pc + 1) lv (.int (iZ (A j)) :: st) S P) (hN : N < 2147483648 := by decide) : mj_Ok Γ d M k n pc lv (.int (iZ z) :: .ref a :: st) S P := mj_iald hd ha he (by rw [hz]; rfl) hj h hN
theorem mz_cald {a N j : Nat} {z : Int} {A : Nat → Int} (hd : decode M.cc pc = .ok (.caload, 1)) (ha : a < S.2.1) (he : S.1 a = .inl (1, N, .inl (mj_z A))) (hz : z = (j : Int)) (hj : j < N) (h : mj_Ok Γ d M k n (pc + 1) lv (.int (iZ (A j)) :: st) S P) (hN : N < 2147483648 := by decide) : mj_Ok Γ d M k n pc lv (.int (iZ z) :: .ref a :: st) S P := mj_cald hd ha he (by rw [hz]; rfl) hj h hN
theorem mz_zald {a N j : Nat} {z : Int} {A : Nat → Int} (hd : decode M.cc pc = .ok (.baload, 1)) (ha : a < S.2.1) (he : S.1 a = .inl (2, N, .inl (mj_z A))) (hz : z = (j : Int)) (hj : j < N) (h : mj_Ok Γ d M k n (pc + 1) lv (.int (iZ (A j)) :: st) S P) (hN : N < 2147483648 := by decide) : mj_Ok Γ d M k n pc lv (.int (iZ z) :: .ref a :: st) S P := mj_zald hd ha he (by rw [hz]; rfl) hj h hN
theorem mz_iast {a N j : Nat} {z v : Int} {A : Nat → Int} (hd : decode M.cc pc = .ok (.iastore, 1)) (ha : a < S.2.1) (he : S.1 a = .inl (0, N, .inl (mj_z A))) (hz : z = (j : Int)) (hj : j < N)  (h : ∀ S1 : mj_S, S1.2.1 = S.2.1 → S1.1 a = .inl (0, N, .inl (mj_z (va_up A j v))) → mj_fr S S1 [a] → mj_Ok Γ d M k n (pc + 1) lv st S1 P) (hN : N < 2147483648 := by decide) : mj_Ok Γ d M k n pc lv (.int (iZ v) :: .int (iZ z) :: .ref a :: st) S P :=
  mj_iast hd ha he (by rw [hz]; rfl) hj (h _ rfl (by rw [mj_up_self, mj_z_up]) (mj_fr.up _ _ _)) hN
theorem mz_cast {a N j : Nat} {z v : Int} {A : Nat → Int} (hd : decode M.cc pc = .ok (.castore, 1)) (ha : a < S.2.1) (he : S.1 a = .inl (1, N, .inl (mj_z A))) (hz : z = (j : Int)) (hj : j < N) (hx : narrow .char (.int (iZ v)) = .int (iZ v)) (h : ∀ S1 : mj_S, S1.2.1 = S.2.1 → S1.1 a = .inl (1, N, .inl (mj_z (va_up A j v))) → mj_fr S S1 [a] → mj_Ok Γ d M k n (pc + 1) lv st S1 P) (hN : N < 2147483648 := by decide) : mj_Ok Γ d M k n pc lv (.int (iZ v) :: .int (iZ z) :: .ref a :: st) S P :=
  mj_cast hd ha he (by rw [hz]; rfl) hj hx (h _ rfl (by rw [mj_up_self, mj_z_up]) (mj_fr.up _ _ _)) hN
theorem mz_zast {a N j : Nat} {z v : Int} {A : Nat → Int} (hd : decode M.cc pc = .ok (.bastore, 1)) (ha : a < S.2.1) (he : S.1 a = .inl (2, N, .inl (mj_z A))) (hz : z = (j : Int)) (hj : j < N) (hx : narrow .boolean (.int (iZ v)) = .int (iZ v)) (h : ∀ S1 : mj_S, S1.2.1 = S.2.1 → S1.1 a = .inl (2, N, .inl (mj_z (va_up A j v))) → mj_fr S S1 [a] → mj_Ok Γ d M k n (pc + 1) lv st S1 P) (hN : N < 2147483648 := by decide) : mj_Ok Γ d M k n pc lv (.int (iZ v) :: .int (iZ z) :: .ref a :: st) S P :=
  mj_zast hd ha he (by rw [hz]; rfl) hj hx (h _ rfl (by rw [mj_up_self, mj_z_up]) (mj_fr.up _ _ _)) hN
theorem mz_iro {r j : Nat} {z : Int} (hd : decode M.cc pc = .ok (.iaload, 1)) (hr : r < 4) (ht : mj_rt r = 0) (hz : z = (j : Int)) (hj : j < (Γ.ro r).1) (hN : (Γ.ro r).1 < 2147483648) {v : Int} (hv : mj_ai (Γ.ro r) j = iZ v) (h : mj_Ok Γ d M k n (pc + 1) lv (.int (iZ v) :: st) S P) : mj_Ok Γ d M k n pc lv (.int (iZ z) :: .ref (mj_st + r) :: st) S P := mj_iro hd hr ht (by rw [hz]; rfl) hj hN (by rw [hv]; exact h)
theorem mz_cro {r j : Nat} {z : Int} (hd : decode M.cc pc = .ok (.caload, 1)) (hr : r < 4) (ht : mj_rt r = 1) (hz : z = (j : Int)) (hj : j < (Γ.ro r).1) (hN : (Γ.ro r).1 < 2147483648) {v : Int} (hv : mj_ai (Γ.ro r) j = iZ v) (h : mj_Ok Γ d M k n (pc + 1) lv (.int (iZ v) :: st) S P) : mj_Ok Γ d M k n pc lv (.int (iZ z) :: .ref (mj_st + r) :: st) S P := mj_cro hd hr ht (by rw [hz]; rfl) hj hN (by rw [hv]; exact h)
theorem mz_put {idx ci j a : Nat} {q : vw_C} {fs fs' : List Value} {v : Value} (hd : decode M.cc pc = .ok (.putfield idx, 3)) (hq : mj_cl[ci]? = some q) (hw : mj_fw M.own idx (q.2.1 j).1 (q.2.1 j).2.1 (q.2.1 j).2.2.1) (hj : j < q.2.2)
    (hfin : (q.2.1 j).2.2.2 = false) (ha : a < S.2.1) (he : S.1 a = .inr (ci, fs)) (hl : j < fs.length) (hfit : mj_fit (mj_t ci j) v) (hs : fs.set j v = fs')
    (h : ∀ S1 : mj_S, S1.2.1 = S.2.1 → S1.1 a = .inr (ci, fs') → mj_fr S S1 [a] → mj_Ok Γ d M k n (pc + 3) lv st S1 P) : mj_Ok Γ d M k n pc lv (v :: .ref a :: st) S P :=
  mj_put hd hq hw hj (Or.inl hfin) ha he hl hfit hs (h _ rfl (mj_up_self _ _ _) (mj_fr.up _ _ _))
theorem mz_putF {idx ci j a : Nat} {q : vw_C} {fs fs' : List Value} {v : Value} (hd : decode M.cc pc = .ok (.putfield idx, 3)) (hq : mj_cl[ci]? = some q) (hw : mj_fw M.own idx (q.2.1 j).1 (q.2.1 j).2.1 (q.2.1 j).2.2.1) (hj : j < q.2.2)
    (hfin : M.name = "<init>" ∧ (q.2.1 j).1 = M.own ∧ Cond.fieldLink M.own idx (q.2.1 j).1 (q.2.1 j).2.1 (q.2.1 j).2.2.1 ∈ mj_tb) (ha : a < S.2.1) (he : S.1 a = .inr (ci, fs)) (hl : j < fs.length) (hfit : mj_fit (mj_t ci j) v) (hs : fs.set j v = fs')
    (h : ∀ S1 : mj_S, S1.2.1 = S.2.1 → S1.1 a = .inr (ci, fs') → mj_fr S S1 [a] → mj_Ok Γ d M k n (pc + 3) lv st S1 P) : mj_Ok Γ d M k n pc lv (v :: .ref a :: st) S P :=
  mj_put hd hq hw hj (Or.inr hfin) ha he hl hfit hs (h _ rfl (mj_up_self _ _ _) (mj_fr.up _ _ _))
variable {d1 mc ms : Nat} {M1 : mj_M} {Q : Option Value → mj_S → Prop} {y : MethodName}
theorem mz_callV0 {idx a ci : Nat} {q : vw_C} {fs : List Value} (hd : decode M.cc pc = .ok (.invokevirtual idx, 3)) (hM : mj_Met Γ d1 y M1 (.ref a :: []) S mc ms (mj_ret Q)) (hcw : mj_cw y M1 0) (hw : Cond.methodLink M.own idx y ∈ mj_tb ∧ Cond.instanceMethod y ∈ mj_tb ∧ Cond.selects y.cls y y ∈ mj_tb)
    (hq : mj_cl[ci]? = some q) (hqc : q.1 = y.cls) (ha : a < S.2.1) (he : S.1 a = .inr (ci, fs)) (hd1 : d1 < d) (hst : Nat.ble (st.map fun v => v.category).sum 8 = true)
    (hk : ∀ (v : Option Value) (S' : mj_S), Q v S' → mj_Ok Γ d M k n (pc + 3) lv (v.toList ++ st) S' P) : mj_Ok Γ d M (k + mc) (n + ms) pc lv (.ref a :: st) S P := mj_callV (As := []) hd hM hcw hw hq hqc ha he hd1 hst hk
theorem mz_callS0 {idx : Nat} (hd : decode M.cc pc = .ok (.invokestatic idx, 3)) (hM : mj_Met Γ d1 y M1 [] S mc ms (mj_ret Q)) (hcw : mj_cw y M1 0) (hw : Cond.methodLink M.own idx y ∈ mj_tb ∧ Cond.static y ∈ mj_tb)
    (hd1 : d1 < d) (hst : Nat.ble (st.map fun v => v.category).sum 8 = true)
    (hk : ∀ (v : Option Value) (S' : mj_S), Q v S' → mj_Ok Γ d M k n (pc + 3) lv (v.toList ++ st) S' P) : mj_Ok Γ d M (k + mc) (n + ms) pc lv (st) S P := mj_callS (As := []) hd hM hcw hw hd1 hst hk
theorem mz_callSN0 {idx : Nat} (hd : decode M.cc pc = .ok (.invokestatic idx, 3)) (hM : mj_Met Γ d1 y M1 [] S mc ms (mj_ret Q)) (hcw : mj_cw y M1 0) (hw : Cond.methodLinkNest M.own idx y "IsomerList" ∈ lw_tbl ∧ Cond.static y ∈ mj_tb)
    (hd1 : d1 < d) (hst : Nat.ble (st.map fun v => v.category).sum 8 = true)
    (hk : ∀ (v : Option Value) (S' : mj_S), Q v S' → mj_Ok Γ d M k n (pc + 3) lv (v.toList ++ st) S' P) : mj_Ok Γ d M (k + mc) (n + ms) pc lv (st) S P := mj_callSN (As := []) hd hM hcw hw hd1 hst hk
theorem mz_callV1 {idx a ci : Nat} {q : vw_C} {fs : List Value} {v1 : Value} (hd : decode M.cc pc = .ok (.invokevirtual idx, 3)) (hM : mj_Met Γ d1 y M1 (.ref a :: [v1]) S mc ms (mj_ret Q)) (hcw : mj_cw y M1 1) (hw : Cond.methodLink M.own idx y ∈ mj_tb ∧ Cond.instanceMethod y ∈ mj_tb ∧ Cond.selects y.cls y y ∈ mj_tb)
    (hq : mj_cl[ci]? = some q) (hqc : q.1 = y.cls) (ha : a < S.2.1) (he : S.1 a = .inr (ci, fs)) (hd1 : d1 < d) (hst : Nat.ble (st.map fun v => v.category).sum 8 = true)
    (hk : ∀ (v : Option Value) (S' : mj_S), Q v S' → mj_Ok Γ d M k n (pc + 3) lv (v.toList ++ st) S' P) : mj_Ok Γ d M (k + mc) (n + ms) pc lv (v1 :: .ref a :: st) S P := mj_callV (As := [v1]) hd hM hcw hw hq hqc ha he hd1 hst hk
theorem mz_callS1 {idx : Nat} {v1 : Value} (hd : decode M.cc pc = .ok (.invokestatic idx, 3)) (hM : mj_Met Γ d1 y M1 [v1] S mc ms (mj_ret Q)) (hcw : mj_cw y M1 1) (hw : Cond.methodLink M.own idx y ∈ mj_tb ∧ Cond.static y ∈ mj_tb)
    (hd1 : d1 < d) (hst : Nat.ble (st.map fun v => v.category).sum 8 = true)
    (hk : ∀ (v : Option Value) (S' : mj_S), Q v S' → mj_Ok Γ d M k n (pc + 3) lv (v.toList ++ st) S' P) : mj_Ok Γ d M (k + mc) (n + ms) pc lv (v1 :: st) S P := mj_callS (As := [v1]) hd hM hcw hw hd1 hst hk
theorem mz_callSN1 {idx : Nat} {v1 : Value} (hd : decode M.cc pc = .ok (.invokestatic idx, 3)) (hM : mj_Met Γ d1 y M1 [v1] S mc ms (mj_ret Q)) (hcw : mj_cw y M1 1) (hw : Cond.methodLinkNest M.own idx y "IsomerList" ∈ lw_tbl ∧ Cond.static y ∈ mj_tb)
    (hd1 : d1 < d) (hst : Nat.ble (st.map fun v => v.category).sum 8 = true)
    (hk : ∀ (v : Option Value) (S' : mj_S), Q v S' → mj_Ok Γ d M k n (pc + 3) lv (v.toList ++ st) S' P) : mj_Ok Γ d M (k + mc) (n + ms) pc lv (v1 :: st) S P := mj_callSN (As := [v1]) hd hM hcw hw hd1 hst hk
theorem mz_callV2 {idx a ci : Nat} {q : vw_C} {fs : List Value} {v1 v2 : Value} (hd : decode M.cc pc = .ok (.invokevirtual idx, 3)) (hM : mj_Met Γ d1 y M1 (.ref a :: [v1, v2]) S mc ms (mj_ret Q)) (hcw : mj_cw y M1 2) (hw : Cond.methodLink M.own idx y ∈ mj_tb ∧ Cond.instanceMethod y ∈ mj_tb ∧ Cond.selects y.cls y y ∈ mj_tb)
    (hq : mj_cl[ci]? = some q) (hqc : q.1 = y.cls) (ha : a < S.2.1) (he : S.1 a = .inr (ci, fs)) (hd1 : d1 < d) (hst : Nat.ble (st.map fun v => v.category).sum 8 = true)
    (hk : ∀ (v : Option Value) (S' : mj_S), Q v S' → mj_Ok Γ d M k n (pc + 3) lv (v.toList ++ st) S' P) : mj_Ok Γ d M (k + mc) (n + ms) pc lv (v2 :: v1 :: .ref a :: st) S P := mj_callV (As := [v1, v2]) hd hM hcw hw hq hqc ha he hd1 hst hk
theorem mz_callS2 {idx : Nat} {v1 v2 : Value} (hd : decode M.cc pc = .ok (.invokestatic idx, 3)) (hM : mj_Met Γ d1 y M1 [v1, v2] S mc ms (mj_ret Q)) (hcw : mj_cw y M1 2) (hw : Cond.methodLink M.own idx y ∈ mj_tb ∧ Cond.static y ∈ mj_tb)
    (hd1 : d1 < d) (hst : Nat.ble (st.map fun v => v.category).sum 8 = true)
    (hk : ∀ (v : Option Value) (S' : mj_S), Q v S' → mj_Ok Γ d M k n (pc + 3) lv (v.toList ++ st) S' P) : mj_Ok Γ d M (k + mc) (n + ms) pc lv (v2 :: v1 :: st) S P := mj_callS (As := [v1, v2]) hd hM hcw hw hd1 hst hk
theorem mz_callSN2 {idx : Nat} {v1 v2 : Value} (hd : decode M.cc pc = .ok (.invokestatic idx, 3)) (hM : mj_Met Γ d1 y M1 [v1, v2] S mc ms (mj_ret Q)) (hcw : mj_cw y M1 2) (hw : Cond.methodLinkNest M.own idx y "IsomerList" ∈ lw_tbl ∧ Cond.static y ∈ mj_tb)
    (hd1 : d1 < d) (hst : Nat.ble (st.map fun v => v.category).sum 8 = true)
    (hk : ∀ (v : Option Value) (S' : mj_S), Q v S' → mj_Ok Γ d M k n (pc + 3) lv (v.toList ++ st) S' P) : mj_Ok Γ d M (k + mc) (n + ms) pc lv (v2 :: v1 :: st) S P := mj_callSN (As := [v1, v2]) hd hM hcw hw hd1 hst hk
theorem mz_callV3 {idx a ci : Nat} {q : vw_C} {fs : List Value} {v1 v2 v3 : Value} (hd : decode M.cc pc = .ok (.invokevirtual idx, 3)) (hM : mj_Met Γ d1 y M1 (.ref a :: [v1, v2, v3]) S mc ms (mj_ret Q)) (hcw : mj_cw y M1 3) (hw : Cond.methodLink M.own idx y ∈ mj_tb ∧ Cond.instanceMethod y ∈ mj_tb ∧ Cond.selects y.cls y y ∈ mj_tb)
    (hq : mj_cl[ci]? = some q) (hqc : q.1 = y.cls) (ha : a < S.2.1) (he : S.1 a = .inr (ci, fs)) (hd1 : d1 < d) (hst : Nat.ble (st.map fun v => v.category).sum 8 = true)
    (hk : ∀ (v : Option Value) (S' : mj_S), Q v S' → mj_Ok Γ d M k n (pc + 3) lv (v.toList ++ st) S' P) : mj_Ok Γ d M (k + mc) (n + ms) pc lv (v3 :: v2 :: v1 :: .ref a :: st) S P := mj_callV (As := [v1, v2, v3]) hd hM hcw hw hq hqc ha he hd1 hst hk
theorem mz_callS3 {idx : Nat} {v1 v2 v3 : Value} (hd : decode M.cc pc = .ok (.invokestatic idx, 3)) (hM : mj_Met Γ d1 y M1 [v1, v2, v3] S mc ms (mj_ret Q)) (hcw : mj_cw y M1 3) (hw : Cond.methodLink M.own idx y ∈ mj_tb ∧ Cond.static y ∈ mj_tb)
    (hd1 : d1 < d) (hst : Nat.ble (st.map fun v => v.category).sum 8 = true)
    (hk : ∀ (v : Option Value) (S' : mj_S), Q v S' → mj_Ok Γ d M k n (pc + 3) lv (v.toList ++ st) S' P) : mj_Ok Γ d M (k + mc) (n + ms) pc lv (v3 :: v2 :: v1 :: st) S P := mj_callS (As := [v1, v2, v3]) hd hM hcw hw hd1 hst hk
theorem mz_callSN3 {idx : Nat} {v1 v2 v3 : Value} (hd : decode M.cc pc = .ok (.invokestatic idx, 3)) (hM : mj_Met Γ d1 y M1 [v1, v2, v3] S mc ms (mj_ret Q)) (hcw : mj_cw y M1 3) (hw : Cond.methodLinkNest M.own idx y "IsomerList" ∈ lw_tbl ∧ Cond.static y ∈ mj_tb)
    (hd1 : d1 < d) (hst : Nat.ble (st.map fun v => v.category).sum 8 = true)
    (hk : ∀ (v : Option Value) (S' : mj_S), Q v S' → mj_Ok Γ d M k n (pc + 3) lv (v.toList ++ st) S' P) : mj_Ok Γ d M (k + mc) (n + ms) pc lv (v3 :: v2 :: v1 :: st) S P := mj_callSN (As := [v1, v2, v3]) hd hM hcw hw hd1 hst hk
theorem mz_callV4 {idx a ci : Nat} {q : vw_C} {fs : List Value} {v1 v2 v3 v4 : Value} (hd : decode M.cc pc = .ok (.invokevirtual idx, 3)) (hM : mj_Met Γ d1 y M1 (.ref a :: [v1, v2, v3, v4]) S mc ms (mj_ret Q)) (hcw : mj_cw y M1 4) (hw : Cond.methodLink M.own idx y ∈ mj_tb ∧ Cond.instanceMethod y ∈ mj_tb ∧ Cond.selects y.cls y y ∈ mj_tb)
    (hq : mj_cl[ci]? = some q) (hqc : q.1 = y.cls) (ha : a < S.2.1) (he : S.1 a = .inr (ci, fs)) (hd1 : d1 < d) (hst : Nat.ble (st.map fun v => v.category).sum 8 = true)
    (hk : ∀ (v : Option Value) (S' : mj_S), Q v S' → mj_Ok Γ d M k n (pc + 3) lv (v.toList ++ st) S' P) : mj_Ok Γ d M (k + mc) (n + ms) pc lv (v4 :: v3 :: v2 :: v1 :: .ref a :: st) S P := mj_callV (As := [v1, v2, v3, v4]) hd hM hcw hw hq hqc ha he hd1 hst hk
theorem mz_callS4 {idx : Nat} {v1 v2 v3 v4 : Value} (hd : decode M.cc pc = .ok (.invokestatic idx, 3)) (hM : mj_Met Γ d1 y M1 [v1, v2, v3, v4] S mc ms (mj_ret Q)) (hcw : mj_cw y M1 4) (hw : Cond.methodLink M.own idx y ∈ mj_tb ∧ Cond.static y ∈ mj_tb)
    (hd1 : d1 < d) (hst : Nat.ble (st.map fun v => v.category).sum 8 = true)
    (hk : ∀ (v : Option Value) (S' : mj_S), Q v S' → mj_Ok Γ d M k n (pc + 3) lv (v.toList ++ st) S' P) : mj_Ok Γ d M (k + mc) (n + ms) pc lv (v4 :: v3 :: v2 :: v1 :: st) S P := mj_callS (As := [v1, v2, v3, v4]) hd hM hcw hw hd1 hst hk
theorem mz_callSN4 {idx : Nat} {v1 v2 v3 v4 : Value} (hd : decode M.cc pc = .ok (.invokestatic idx, 3)) (hM : mj_Met Γ d1 y M1 [v1, v2, v3, v4] S mc ms (mj_ret Q)) (hcw : mj_cw y M1 4) (hw : Cond.methodLinkNest M.own idx y "IsomerList" ∈ lw_tbl ∧ Cond.static y ∈ mj_tb)
    (hd1 : d1 < d) (hst : Nat.ble (st.map fun v => v.category).sum 8 = true)
    (hk : ∀ (v : Option Value) (S' : mj_S), Q v S' → mj_Ok Γ d M k n (pc + 3) lv (v.toList ++ st) S' P) : mj_Ok Γ d M (k + mc) (n + ms) pc lv (v4 :: v3 :: v2 :: v1 :: st) S P := mj_callSN (As := [v1, v2, v3, v4]) hd hM hcw hw hd1 hst hk
theorem mz_callI0 {idx a : Nat} (hd : decode M.cc pc = .ok (.invokespecial idx, 3)) (hM : mj_Met Γ d1 y M1 (.ref a :: []) S mc ms (mj_ret Q)) (hcw : mj_cw y M1 0) (hw : Cond.methodLink M.own idx y ∈ mj_tb ∧ Cond.instanceMethod y ∈ mj_tb ∧ y.name = "<init>") (hrn : M1.ret = none)
    (hd1 : d1 < d) (hst : Nat.ble (st.map fun v => v.category).sum 8 = true)
    (hk : ∀ (v : Option Value) (S' : mj_S), Q v S' → mj_Ok Γ d M k n (pc + 3) lv (v.toList ++ st) S' P) : mj_Ok Γ d M (k + mc) (n + ms) pc lv (.ref a :: st) S P := mj_callI (As := []) hd hM hcw hw hrn hd1 hst hk
theorem mz_callIN0 {idx a : Nat} (hd : decode M.cc pc = .ok (.invokespecial idx, 3)) (hM : mj_Met Γ d1 y M1 (.ref a :: []) S mc ms (mj_ret Q)) (hcw : mj_cw y M1 0) (hw : Cond.methodLinkNest M.own idx y "IsomerList" ∈ lw_tbl ∧ Cond.instanceMethod y ∈ mj_tb ∧ y.name = "<init>") (hrn : M1.ret = none)
    (hd1 : d1 < d) (hst : Nat.ble (st.map fun v => v.category).sum 8 = true)
    (hk : ∀ (v : Option Value) (S' : mj_S), Q v S' → mj_Ok Γ d M k n (pc + 3) lv (v.toList ++ st) S' P) : mj_Ok Γ d M (k + mc) (n + ms) pc lv (.ref a :: st) S P := mj_callIN (As := []) hd hM hcw hw hrn hd1 hst hk
theorem mz_callI1 {idx a : Nat} {v1 : Value} (hd : decode M.cc pc = .ok (.invokespecial idx, 3)) (hM : mj_Met Γ d1 y M1 (.ref a :: [v1]) S mc ms (mj_ret Q)) (hcw : mj_cw y M1 1) (hw : Cond.methodLink M.own idx y ∈ mj_tb ∧ Cond.instanceMethod y ∈ mj_tb ∧ y.name = "<init>") (hrn : M1.ret = none)
    (hd1 : d1 < d) (hst : Nat.ble (st.map fun v => v.category).sum 8 = true)
    (hk : ∀ (v : Option Value) (S' : mj_S), Q v S' → mj_Ok Γ d M k n (pc + 3) lv (v.toList ++ st) S' P) : mj_Ok Γ d M (k + mc) (n + ms) pc lv (v1 :: .ref a :: st) S P := mj_callI (As := [v1]) hd hM hcw hw hrn hd1 hst hk
theorem mz_callIN1 {idx a : Nat} {v1 : Value} (hd : decode M.cc pc = .ok (.invokespecial idx, 3)) (hM : mj_Met Γ d1 y M1 (.ref a :: [v1]) S mc ms (mj_ret Q)) (hcw : mj_cw y M1 1) (hw : Cond.methodLinkNest M.own idx y "IsomerList" ∈ lw_tbl ∧ Cond.instanceMethod y ∈ mj_tb ∧ y.name = "<init>") (hrn : M1.ret = none)
    (hd1 : d1 < d) (hst : Nat.ble (st.map fun v => v.category).sum 8 = true)
    (hk : ∀ (v : Option Value) (S' : mj_S), Q v S' → mj_Ok Γ d M k n (pc + 3) lv (v.toList ++ st) S' P) : mj_Ok Γ d M (k + mc) (n + ms) pc lv (v1 :: .ref a :: st) S P := mj_callIN (As := [v1]) hd hM hcw hw hrn hd1 hst hk
end MJ8
end
section
/-! names of the methods: code, own class, locals, what it returns, name (by names.py) -/
abbrev M_IL_init : mj_M := (prog_1_method_1_code, "IsomerList", 1, none, "<init>")
abbrev y_IL_init : MethodName := ⟨"IsomerList", "<init>", "()V"⟩
abbrev M_Ln_init : mj_M := (prog_4_method_1_code, "IsomerList$Line", 1, none, "<init>")
abbrev y_Ln_init : MethodName := ⟨"IsomerList$Line", "<init>", "()V"⟩
abbrev M_Fr_init : mj_M := (prog_3_method_1_code, "IsomerList$FormulaReader", 1, none, "<init>")
abbrev y_Fr_init : MethodName := ⟨"IsomerList$FormulaReader", "<init>", "()V"⟩
abbrev M_Tr_init : mj_M := (prog_8_method_1_code, "IsomerList$TextReader", 1, none, "<init>")
abbrev y_Tr_init : MethodName := ⟨"IsomerList$TextReader", "<init>", "()V"⟩
abbrev M_Ml_init : mj_M := (prog_6_method_1_code, "IsomerList$Molecule", 1, none, "<init>")
abbrev y_Ml_init : MethodName := ⟨"IsomerList$Molecule", "<init>", "()V"⟩
abbrev M_Tw_init : mj_M := (prog_9_method_1_code, "IsomerList$TextWriter", 1, none, "<init>")
abbrev y_Tw_init : MethodName := ⟨"IsomerList$TextWriter", "<init>", "()V"⟩
abbrev M_Nu_init : mj_M := (prog_7_method_1_code, "IsomerList$Numbering", 1, none, "<init>")
abbrev y_Nu_init : MethodName := ⟨"IsomerList$Numbering", "<init>", "()V"⟩
abbrev M_Ls_init : mj_M := (prog_5_method_1_code, "IsomerList$Lister", 2, none, "<init>")
abbrev y_Ls_init : MethodName := ⟨"IsomerList$Lister", "<init>", "(LIsomerList$Numbering;)V"⟩
abbrev M_Ca_init : mj_M := (prog_2_method_1_code, "IsomerList$Catalogue", 1, none, "<init>")
abbrev y_Ca_init : MethodName := ⟨"IsomerList$Catalogue", "<init>", "()V"⟩
abbrev M_IL_erase : mj_M := (prog_1_method_3_code, "IsomerList", 2, (some .int), "erase")
abbrev y_IL_erase : MethodName := ⟨"IsomerList", "erase", "()I"⟩
abbrev M_Ln_clear : mj_M := (prog_4_method_2_code, "IsomerList$Line", 1, none, "clear")
abbrev y_Ln_clear : MethodName := ⟨"IsomerList$Line", "clear", "()V"⟩
abbrev M_IL_formula : mj_M := (prog_1_method_4_code, "IsomerList", 2, (some .int), "formula")
abbrev y_IL_formula : MethodName := ⟨"IsomerList", "formula", "()I"⟩
abbrev M_Fr_readFrom : mj_M := (prog_3_method_2_code, "IsomerList$FormulaReader", 4, (some .int), "readFrom")
abbrev y_Fr_readFrom : MethodName := ⟨"IsomerList$FormulaReader", "readFrom", "(LIsomerList$Line;)I"⟩
abbrev M_Ar_fill : mj_M := (prog_18_method_103_code, "java/util/Arrays", 4, none, "fill")
abbrev y_Ar_fill : MethodName := ⟨"java/util/Arrays", "fill", "([II)V"⟩
abbrev M_Fr_readElement : mj_M := (prog_3_method_3_code, "IsomerList$FormulaReader", 5, (some .int), "readElement")
abbrev y_Fr_readElement : MethodName := ⟨"IsomerList$FormulaReader", "readElement", "(LIsomerList$Line;)I"⟩
abbrev M_Ln_elementAt : mj_M := (prog_4_method_5_code, "IsomerList$Line", 4, (some .int), "elementAt")
abbrev y_Ln_elementAt : MethodName := ⟨"IsomerList$Line", "elementAt", "(I)I"⟩
abbrev M_Ln_at : mj_M := (prog_4_method_4_code, "IsomerList$Line", 2, (some .char), "at")
abbrev y_Ln_at : MethodName := ⟨"IsomerList$Line", "at", "(I)C"⟩
abbrev M_IL_signLength : mj_M := (prog_1_method_19_code, "IsomerList", 1, (some .int), "signLength")
abbrev y_IL_signLength : MethodName := ⟨"IsomerList", "signLength", "(I)I"⟩
abbrev M_Fr_digitsAhead : mj_M := (prog_3_method_4_code, "IsomerList$FormulaReader", 3, (some .int), "digitsAhead")
abbrev y_Fr_digitsAhead : MethodName := ⟨"IsomerList$FormulaReader", "digitsAhead", "(LIsomerList$Line;)I"⟩
abbrev M_IL_isDigit : mj_M := (prog_1_method_18_code, "IsomerList", 1, (some .boolean), "isDigit")
abbrev y_IL_isDigit : MethodName := ⟨"IsomerList", "isDigit", "(C)Z"⟩
abbrev M_Fr_numberAhead : mj_M := (prog_3_method_5_code, "IsomerList$FormulaReader", 4, (some .int), "numberAhead")
abbrev y_Fr_numberAhead : MethodName := ⟨"IsomerList$FormulaReader", "numberAhead", "(LIsomerList$Line;I)I"⟩
abbrev M_Fr_heavyAtoms : mj_M := (prog_3_method_6_code, "IsomerList$FormulaReader", 3, (some .int), "heavyAtoms")
abbrev y_Fr_heavyAtoms : MethodName := ⟨"IsomerList$FormulaReader", "heavyAtoms", "()I"⟩
abbrev M_Ca_take : mj_M := (prog_2_method_2_code, "IsomerList$Catalogue", 4, none, "take")
abbrev y_Ca_take : MethodName := ⟨"IsomerList$Catalogue", "take", "([I)V"⟩
abbrev M_IL_listSpare : mj_M := (prog_1_method_16_code, "IsomerList", 2, (some .int), "listSpare")
abbrev y_IL_listSpare : MethodName := ⟨"IsomerList", "listSpare", "()I"⟩
abbrev M_Ca_hasSameFormula : mj_M := (prog_2_method_5_code, "IsomerList$Catalogue", 3, (some .boolean), "hasSameFormula")
abbrev y_Ca_hasSameFormula : MethodName := ⟨"IsomerList$Catalogue", "hasSameFormula", "(LIsomerList$Catalogue;)Z"⟩
abbrev M_Ls_fill : mj_M := (prog_5_method_2_code, "IsomerList$Lister", 3, none, "fill")
abbrev y_Ls_fill : MethodName := ⟨"IsomerList$Lister", "fill", "(LIsomerList$Catalogue;)V"⟩
abbrev M_Ml_addAtomsOf : mj_M := (prog_6_method_4_code, "IsomerList$Molecule", 3, none, "addAtomsOf")
abbrev y_Ml_addAtomsOf : MethodName := ⟨"IsomerList$Molecule", "addAtomsOf", "(LIsomerList$Catalogue;)V"⟩
abbrev M_Ml_clear : mj_M := (prog_6_method_2_code, "IsomerList$Molecule", 1, none, "clear")
abbrev y_Ml_clear : MethodName := ⟨"IsomerList$Molecule", "clear", "()V"⟩
abbrev M_Ml_addAtom : mj_M := (prog_6_method_3_code, "IsomerList$Molecule", 2, none, "addAtom")
abbrev y_Ml_addAtom : MethodName := ⟨"IsomerList$Molecule", "addAtom", "(I)V"⟩
abbrev M_Ls_sumValences : mj_M := (prog_5_method_3_code, "IsomerList$Lister", 2, none, "sumValences")
abbrev y_Ls_sumValences : MethodName := ⟨"IsomerList$Lister", "sumValences", "()V"⟩
abbrev M_Ls_endRow : mj_M := (prog_5_method_5_code, "IsomerList$Lister", 5, none, "endRow")
abbrev y_Ls_endRow : MethodName := ⟨"IsomerList$Lister", "endRow", "(III)V"⟩
abbrev M_Ls_canBeEnded : mj_M := (prog_5_method_6_code, "IsomerList$Lister", 4, (some .boolean), "canBeEnded")
abbrev y_Ls_canBeEnded : MethodName := ⟨"IsomerList$Lister", "canBeEnded", "(II)Z"⟩
abbrev M_Ls_countGroups : mj_M := (prog_5_method_7_code, "IsomerList$Lister", 5, (some .int), "countGroups")
abbrev y_Ls_countGroups : MethodName := ⟨"IsomerList$Lister", "countGroups", "(I)I"⟩
abbrev M_Ml_between : mj_M := (prog_6_method_6_code, "IsomerList$Molecule", 3, (some .int), "between")
abbrev y_Ml_between : MethodName := ⟨"IsomerList$Molecule", "between", "(II)I"⟩
abbrev M_Ls_joinGroups : mj_M := (prog_5_method_8_code, "IsomerList$Lister", 5, none, "joinGroups")
abbrev y_Ls_joinGroups : MethodName := ⟨"IsomerList$Lister", "joinGroups", "(III)V"⟩
abbrev M_Nu_isGreatest : mj_M := (prog_7_method_3_code, "IsomerList$Numbering", 4, (some .boolean), "isGreatest")
abbrev y_Nu_isGreatest : MethodName := ⟨"IsomerList$Numbering", "isGreatest", "(LIsomerList$Molecule;II)Z"⟩
abbrev M_Nu_canBeBeaten : mj_M := (prog_7_method_6_code, "IsomerList$Numbering", 6, (some .boolean), "canBeBeaten")
abbrev y_Nu_canBeBeaten : MethodName := ⟨"IsomerList$Numbering", "canBeBeaten", "(II)Z"⟩
abbrev M_IL_rowShift : mj_M := (prog_1_method_21_code, "IsomerList", 1, (some .int), "rowShift")
abbrev y_IL_rowShift : MethodName := ⟨"IsomerList", "rowShift", "(I)I"⟩
abbrev M_Nu_row : mj_M := (prog_7_method_8_code, "IsomerList$Numbering", 5, (some .int), "row")
abbrev y_Nu_row : MethodName := ⟨"IsomerList$Numbering", "row", "(II)I"⟩
abbrev M_Nu_canBeBeatenWith : mj_M := (prog_7_method_7_code, "IsomerList$Numbering", 5, (some .boolean), "canBeBeatenWith")
abbrev y_Nu_canBeBeatenWith : MethodName := ⟨"IsomerList$Numbering", "canBeBeatenWith", "(III)Z"⟩
abbrev M_Ca_add : mj_M := (prog_2_method_3_code, "IsomerList$Catalogue", 2, none, "add")
abbrev y_Ca_add : MethodName := ⟨"IsomerList$Catalogue", "add", "(I)V"⟩
abbrev M_Ls_bindOn : mj_M := (prog_5_method_4_code, "IsomerList$Lister", 8, none, "bindOn")
abbrev y_Ls_bindOn : MethodName := ⟨"IsomerList$Lister", "bindOn", "(IIII)V"⟩
abbrev M_Ma_min : mj_M := (prog_15_method_69_code, "java/lang/Math", 2, (some .int), "min")
abbrev y_Ma_min : MethodName := ⟨"java/lang/Math", "min", "(II)I"⟩
abbrev M_Ca_isOverfull : mj_M := (prog_2_method_4_code, "IsomerList$Catalogue", 1, (some .boolean), "isOverfull")
abbrev y_Ca_isOverfull : MethodName := ⟨"IsomerList$Catalogue", "isOverfull", "()Z"⟩
abbrev M_Ml_bind : mj_M := (prog_6_method_7_code, "IsomerList$Molecule", 5, none, "bind")
abbrev y_Ml_bind : MethodName := ⟨"IsomerList$Molecule", "bind", "(III)V"⟩
abbrev M_IL_read : mj_M := (prog_1_method_5_code, "IsomerList", 2, (some .int), "read")
abbrev y_IL_read : MethodName := ⟨"IsomerList", "read", "()I"⟩
abbrev M_Tr_readFrom : mj_M := (prog_8_method_2_code, "IsomerList$TextReader", 4, (some .int), "readFrom")
abbrev y_Tr_readFrom : MethodName := ⟨"IsomerList$TextReader", "readFrom", "(LIsomerList$Line;)I"⟩
abbrev M_Tr_readAtom : mj_M := (prog_8_method_7_code, "IsomerList$TextReader", 5, (some .int), "readAtom")
abbrev y_Tr_readAtom : MethodName := ⟨"IsomerList$TextReader", "readAtom", "(LIsomerList$Line;I)I"⟩
abbrev M_Ma_max : mj_M := (prog_15_method_65_code, "java/lang/Math", 2, (some .int), "max")
abbrev y_Ma_max : MethodName := ⟨"java/lang/Math", "max", "(II)I"⟩
abbrev M_Tr_readPart : mj_M := (prog_8_method_3_code, "IsomerList$TextReader", 5, (some .int), "readPart")
abbrev y_Tr_readPart : MethodName := ⟨"IsomerList$TextReader", "readPart", "(LIsomerList$Line;)I"⟩
abbrev M_Tr_closeBranch : mj_M := (prog_8_method_5_code, "IsomerList$TextReader", 1, (some .int), "closeBranch")
abbrev y_Tr_closeBranch : MethodName := ⟨"IsomerList$TextReader", "closeBranch", "()I"⟩
abbrev M_Tr_openBranch : mj_M := (prog_8_method_4_code, "IsomerList$TextReader", 3, (some .int), "openBranch")
abbrev y_Tr_openBranch : MethodName := ⟨"IsomerList$TextReader", "openBranch", "(LIsomerList$Line;)I"⟩
abbrev M_Tr_readBond : mj_M := (prog_8_method_6_code, "IsomerList$TextReader", 4, (some .int), "readBond")
abbrev y_Tr_readBond : MethodName := ⟨"IsomerList$TextReader", "readBond", "(LIsomerList$Line;)I"⟩
abbrev M_Tr_readRing : mj_M := (prog_8_method_8_code, "IsomerList$TextReader", 6, (some .int), "readRing")
abbrev y_Tr_readRing : MethodName := ⟨"IsomerList$TextReader", "readRing", "(II)I"⟩
abbrev M_Tr_faultAtEnd : mj_M := (prog_8_method_9_code, "IsomerList$TextReader", 2, (some .int), "faultAtEnd")
abbrev y_Tr_faultAtEnd : MethodName := ⟨"IsomerList$TextReader", "faultAtEnd", "()I"⟩
abbrev M_Ml_isOverbound : mj_M := (prog_6_method_9_code, "IsomerList$Molecule", 2, (some .boolean), "isOverbound")
abbrev y_Ml_isOverbound : MethodName := ⟨"IsomerList$Molecule", "isOverbound", "()Z"⟩
abbrev M_IL_findInList : mj_M := (prog_1_method_17_code, "IsomerList", 2, (some .int), "findInList")
abbrev y_IL_findInList : MethodName := ⟨"IsomerList", "findInList", "(LIsomerList$Molecule;)I"⟩
abbrev M_Ca_hasFormulaOf : mj_M := (prog_2_method_6_code, "IsomerList$Catalogue", 4, (some .boolean), "hasFormulaOf")
abbrev y_Ca_hasFormulaOf : MethodName := ⟨"IsomerList$Catalogue", "hasFormulaOf", "(LIsomerList$Molecule;)Z"⟩
abbrev M_Ml_freeSum : mj_M := (prog_6_method_8_code, "IsomerList$Molecule", 3, (some .int), "freeSum")
abbrev y_Ml_freeSum : MethodName := ⟨"IsomerList$Molecule", "freeSum", "()I"⟩
abbrev M_IL_occurrences : mj_M := (prog_1_method_20_code, "IsomerList", 5, (some .int), "occurrences")
abbrev y_IL_occurrences : MethodName := ⟨"IsomerList", "occurrences", "(I[II)I"⟩
abbrev M_Nu_search : mj_M := (prog_7_method_2_code, "IsomerList$Numbering", 4, none, "search")
abbrev y_Nu_search : MethodName := ⟨"IsomerList$Numbering", "search", "(LIsomerList$Molecule;[II)V"⟩
abbrev M_Nu_choose : mj_M := (prog_7_method_4_code, "IsomerList$Numbering", 6, none, "choose")
abbrev y_Nu_choose : MethodName := ⟨"IsomerList$Numbering", "choose", "(II)V"⟩
abbrev M_Nu_noteCode : mj_M := (prog_7_method_5_code, "IsomerList$Numbering", 2, none, "noteCode")
abbrev y_Nu_noteCode : MethodName := ⟨"IsomerList$Numbering", "noteCode", "(I)V"⟩
abbrev M_Ca_find : mj_M := (prog_2_method_7_code, "IsomerList$Catalogue", 3, (some .int), "find")
abbrev y_Ca_find : MethodName := ⟨"IsomerList$Catalogue", "find", "(I)I"⟩
abbrev M_IL_place : mj_M := (prog_1_method_6_code, "IsomerList", 1, (some .int), "place")
abbrev y_IL_place : MethodName := ⟨"IsomerList", "place", "()I"⟩
abbrev M_IL_count : mj_M := (prog_1_method_7_code, "IsomerList", 2, (some .int), "count")
abbrev y_IL_count : MethodName := ⟨"IsomerList", "count", "(I)I"⟩
abbrev M_IL_character : mj_M := (prog_1_method_13_code, "IsomerList", 2, (some .char), "character")
abbrev y_IL_character : MethodName := ⟨"IsomerList", "character", "(I)C"⟩
abbrev M_Lw_type : mj_M := (method_3_code, "IsomerListLaw", 4, (some .int), "type")
abbrev y_Lw_type : MethodName := ⟨"IsomerListLaw", "type", "(LIsomerList;C[J)I"⟩
abbrev M_IL_type : mj_M := (prog_1_method_2_code, "IsomerList", 2, (some .int), "type")
abbrev y_IL_type : MethodName := ⟨"IsomerList", "type", "(C)I"⟩
abbrev M_Ln_add : mj_M := (prog_4_method_3_code, "IsomerList$Line", 2, none, "add")
abbrev y_Ln_add : MethodName := ⟨"IsomerList$Line", "add", "(C)V"⟩
abbrev M_Lw_element : mj_M := (method_4_code, "IsomerListLaw", 4, (some .int), "element")
abbrev y_Lw_element : MethodName := ⟨"IsomerListLaw", "element", "(LIsomerList;I[J)I"⟩
abbrev M_IL_element : mj_M := (prog_1_method_8_code, "IsomerList", 2, (some .int), "element")
abbrev y_IL_element : MethodName := ⟨"IsomerList", "element", "(I)I"⟩
abbrev M_IL_checkAtom : mj_M := (prog_1_method_15_code, "IsomerList", 2, none, "checkAtom")
abbrev y_IL_checkAtom : MethodName := ⟨"IsomerList", "checkAtom", "(I)V"⟩
abbrev M_Lw_bond : mj_M := (method_5_code, "IsomerListLaw", 6, (some .int), "bond")
abbrev y_Lw_bond : MethodName := ⟨"IsomerListLaw", "bond", "(LIsomerList;III[J)I"⟩
abbrev M_IL_bond : mj_M := (prog_1_method_9_code, "IsomerList", 4, (some .int), "bond")
abbrev y_IL_bond : MethodName := ⟨"IsomerList", "bond", "(III)I"⟩
abbrev M_IL_checkStructure : mj_M := (prog_1_method_14_code, "IsomerList", 2, none, "checkStructure")
abbrev y_IL_checkStructure : MethodName := ⟨"IsomerList", "checkStructure", "(I)V"⟩
abbrev M_Ml_build : mj_M := (prog_6_method_5_code, "IsomerList$Molecule", 7, none, "build")
abbrev y_Ml_build : MethodName := ⟨"IsomerList$Molecule", "build", "(LIsomerList$Catalogue;I)V"⟩
abbrev M_Lw_hydrogens : mj_M := (method_6_code, "IsomerListLaw", 5, (some .int), "hydrogens")
abbrev y_Lw_hydrogens : MethodName := ⟨"IsomerListLaw", "hydrogens", "(LIsomerList;II[J)I"⟩
abbrev M_IL_hydrogens : mj_M := (prog_1_method_10_code, "IsomerList", 3, (some .int), "hydrogens")
abbrev y_IL_hydrogens : MethodName := ⟨"IsomerList", "hydrogens", "(II)I"⟩
abbrev M_Lw_ways : mj_M := (method_7_code, "IsomerListLaw", 4, (some .int), "ways")
abbrev y_Lw_ways : MethodName := ⟨"IsomerListLaw", "ways", "(LIsomerList;I[J)I"⟩
abbrev M_IL_ways : mj_M := (prog_1_method_11_code, "IsomerList", 2, (some .int), "ways")
abbrev y_IL_ways : MethodName := ⟨"IsomerList", "ways", "(I)I"⟩
abbrev M_Lw_write : mj_M := (method_8_code, "IsomerListLaw", 4, (some .int), "write")
abbrev y_Lw_write : MethodName := ⟨"IsomerListLaw", "write", "(LIsomerList;I[J)I"⟩
abbrev M_IL_write : mj_M := (prog_1_method_12_code, "IsomerList", 2, (some .int), "write")
abbrev y_IL_write : MethodName := ⟨"IsomerList", "write", "(I)I"⟩
abbrev M_Tw_writeTo : mj_M := (prog_9_method_2_code, "IsomerList$TextWriter", 3, none, "writeTo")
abbrev y_Tw_writeTo : MethodName := ⟨"IsomerList$TextWriter", "writeTo", "(LIsomerList$Line;LIsomerList$Molecule;)V"⟩
abbrev M_Tw_goThrough : mj_M := (prog_9_method_3_code, "IsomerList$TextWriter", 4, none, "goThrough")
abbrev y_Tw_goThrough : MethodName := ⟨"IsomerList$TextWriter", "goThrough", "(II)V"⟩
abbrev M_Tw_meetRing : mj_M := (prog_9_method_4_code, "IsomerList$TextWriter", 4, none, "meetRing")
abbrev y_Tw_meetRing : MethodName := ⟨"IsomerList$TextWriter", "meetRing", "(II)V"⟩
abbrev M_Tw_putAtom : mj_M := (prog_9_method_5_code, "IsomerList$TextWriter", 4, none, "putAtom")
abbrev y_Tw_putAtom : MethodName := ⟨"IsomerList$TextWriter", "putAtom", "(I)V"⟩
abbrev M_Ln_addElement : mj_M := (prog_4_method_6_code, "IsomerList$Line", 2, none, "addElement")
abbrev y_Ln_addElement : MethodName := ⟨"IsomerList$Line", "addElement", "(I)V"⟩
abbrev M_Tw_putRings : mj_M := (prog_9_method_7_code, "IsomerList$TextWriter", 3, none, "putRings")
abbrev y_Tw_putRings : MethodName := ⟨"IsomerList$TextWriter", "putRings", "(I)V"⟩
abbrev M_Ln_addBond : mj_M := (prog_4_method_7_code, "IsomerList$Line", 2, none, "addBond")
abbrev y_Ln_addBond : MethodName := ⟨"IsomerList$Line", "addBond", "(I)V"⟩
abbrev M_Tw_lastFurtherOn : mj_M := (prog_9_method_8_code, "IsomerList$TextWriter", 3, (some .int), "lastFurtherOn")
abbrev y_Tw_lastFurtherOn : MethodName := ⟨"IsomerList$TextWriter", "lastFurtherOn", "(I)I"⟩
abbrev M_Tw_putBound : mj_M := (prog_9_method_6_code, "IsomerList$TextWriter", 3, none, "putBound")
abbrev y_Tw_putBound : MethodName := ⟨"IsomerList$TextWriter", "putBound", "(II)V"⟩
abbrev M_Mo_init : mj_M := (prog_11_method_1_code, "IsomerListModel", 1, none, "<init>")
abbrev y_Mo_init : MethodName := ⟨"IsomerListModel", "<init>", "()V"⟩
abbrev M_Mo_thrown : mj_M := (prog_11_method_2_code, "IsomerListModel", 1, (some .int), "thrown")
abbrev y_Mo_thrown : MethodName := ⟨"IsomerListModel", "thrown", "()I"⟩
abbrev M_Mo_type : mj_M := (prog_11_method_6_code, "IsomerListModel", 2, (some .int), "type")
abbrev y_Mo_type : MethodName := ⟨"IsomerListModel", "type", "(C)I"⟩
abbrev M_Mo_refused : mj_M := (prog_11_method_3_code, "IsomerListModel", 2, (some .boolean), "refused")
abbrev y_Mo_refused : MethodName := ⟨"IsomerListModel", "refused", "(I)Z"⟩
abbrev M_Mo_erase : mj_M := (prog_11_method_7_code, "IsomerListModel", 2, (some .int), "erase")
abbrev y_Mo_erase : MethodName := ⟨"IsomerListModel", "erase", "()I"⟩
abbrev M_Mo_character : mj_M := (prog_11_method_9_code, "IsomerListModel", 2, (some .char), "character")
abbrev y_Mo_character : MethodName := ⟨"IsomerListModel", "character", "(I)C"⟩
abbrev M_Mo_formula : mj_M := (prog_11_method_14_code, "IsomerListModel", 6, (some .int), "formula")
abbrev y_Mo_formula : MethodName := ⟨"IsomerListModel", "formula", "()I"⟩
abbrev M_Mo_elementAt : mj_M := (prog_11_method_10_code, "IsomerListModel", 4, (some .int), "elementAt")
abbrev y_Mo_elementAt : MethodName := ⟨"IsomerListModel", "elementAt", "(I)I"⟩
abbrev M_Mo_at : mj_M := (prog_11_method_8_code, "IsomerListModel", 2, (some .char), "at")
abbrev y_Mo_at : MethodName := ⟨"IsomerListModel", "at", "(I)C"⟩
abbrev M_Mo_fault : mj_M := (prog_11_method_13_code, "IsomerListModel", 3, (some .int), "fault")
abbrev y_Mo_fault : MethodName := ⟨"IsomerListModel", "fault", "(II)I"⟩
abbrev M_Mo_signSize : mj_M := (prog_11_method_11_code, "IsomerListModel", 1, (some .int), "signSize")
abbrev y_Mo_signSize : MethodName := ⟨"IsomerListModel", "signSize", "(I)I"⟩
abbrev M_Mo_isDigit : mj_M := (prog_11_method_12_code, "IsomerListModel", 1, (some .boolean), "isDigit")
abbrev y_Mo_isDigit : MethodName := ⟨"IsomerListModel", "isDigit", "(C)Z"⟩
abbrev M_Mo_valence : mj_M := (prog_11_method_5_code, "IsomerListModel", 1, (some .int), "valence")
abbrev y_Mo_valence : MethodName := ⟨"IsomerListModel", "valence", "(I)I"⟩
abbrev M_Mo_search : mj_M := (prog_11_method_19_code, "IsomerListModel", 4, none, "search")
abbrev y_Mo_search : MethodName := ⟨"IsomerListModel", "search", "()V"⟩
abbrev M_Mo_keep : mj_M := (prog_11_method_20_code, "IsomerListModel", 3, none, "keep")
abbrev y_Mo_keep : MethodName := ⟨"IsomerListModel", "keep", "(I)V"⟩
abbrev M_Mo_isOne : mj_M := (prog_11_method_21_code, "IsomerListModel", 6, (some .boolean), "isOne")
abbrev y_Mo_isOne : MethodName := ⟨"IsomerListModel", "isOne", "(I)Z"⟩
abbrev M_Mo_upper : mj_M := (prog_11_method_15_code, "IsomerListModel", 2, (some .int), "upper")
abbrev y_Mo_upper : MethodName := ⟨"IsomerListModel", "upper", "(I)I"⟩
abbrev M_Mo_lower : mj_M := (prog_11_method_16_code, "IsomerListModel", 1, (some .int), "lower")
abbrev y_Mo_lower : MethodName := ⟨"IsomerListModel", "lower", "(I)I"⟩
abbrev M_Mo_change : mj_M := (prog_11_method_17_code, "IsomerListModel", 3, none, "change")
abbrev y_Mo_change : MethodName := ⟨"IsomerListModel", "change", "(II)V"⟩
abbrev M_Mo_least : mj_M := (prog_11_method_18_code, "IsomerListModel", 2, (some .int), "least")
abbrev y_Mo_least : MethodName := ⟨"IsomerListModel", "least", "(II)I"⟩
abbrev M_Mo_numberings : mj_M := (prog_11_method_22_code, "IsomerListModel", 6, (some .int), "numberings")
abbrev y_Mo_numberings : MethodName := ⟨"IsomerListModel", "numberings", "(I)I"⟩
abbrev M_Mo_row : mj_M := (prog_11_method_23_code, "IsomerListModel", 5, (some .int), "row")
abbrev y_Mo_row : MethodName := ⟨"IsomerListModel", "row", "(I)I"⟩
abbrev M_Mo_pair : mj_M := (prog_11_method_4_code, "IsomerListModel", 2, (some .int), "pair")
abbrev y_Mo_pair : MethodName := ⟨"IsomerListModel", "pair", "(II)I"⟩
abbrev M_Mo_read : mj_M := (prog_11_method_24_code, "IsomerListModel", 2, (some .int), "read")
abbrev y_Mo_read : MethodName := ⟨"IsomerListModel", "read", "()I"⟩
abbrev M_Mo_parse : mj_M := (prog_11_method_25_code, "IsomerListModel", 13, (some .int), "parse")
abbrev y_Mo_parse : MethodName := ⟨"IsomerListModel", "parse", "()I"⟩
abbrev M_Mo_atEnd : mj_M := (prog_11_method_26_code, "IsomerListModel", 2, (some .int), "atEnd")
abbrev y_Mo_atEnd : MethodName := ⟨"IsomerListModel", "atEnd", "()I"⟩
abbrev M_Mo_sumOf : mj_M := (prog_11_method_27_code, "IsomerListModel", 4, (some .int), "sumOf")
abbrev y_Mo_sumOf : MethodName := ⟨"IsomerListModel", "sumOf", "(I)I"⟩
abbrev M_Mo_numberInList : mj_M := (prog_11_method_28_code, "IsomerListModel", 6, (some .int), "numberInList")
abbrev y_Mo_numberInList : MethodName := ⟨"IsomerListModel", "numberInList", "()I"⟩
abbrev M_Mo_greatest : mj_M := (prog_11_method_29_code, "IsomerListModel", 4, (some .boolean), "greatest")
abbrev y_Mo_greatest : MethodName := ⟨"IsomerListModel", "greatest", "()Z"⟩
abbrev M_Mo_take : mj_M := (prog_11_method_30_code, "IsomerListModel", 6, none, "take")
abbrev y_Mo_take : MethodName := ⟨"IsomerListModel", "take", "()V"⟩
abbrev M_Mo_place : mj_M := (prog_11_method_31_code, "IsomerListModel", 1, (some .int), "place")
abbrev y_Mo_place : MethodName := ⟨"IsomerListModel", "place", "()I"⟩
abbrev M_Mo_count : mj_M := (prog_11_method_32_code, "IsomerListModel", 2, (some .int), "count")
abbrev y_Mo_count : MethodName := ⟨"IsomerListModel", "count", "(I)I"⟩
abbrev M_Mo_element : mj_M := (prog_11_method_35_code, "IsomerListModel", 2, (some .int), "element")
abbrev y_Mo_element : MethodName := ⟨"IsomerListModel", "element", "(I)I"⟩
abbrev M_Mo_isAtom : mj_M := (prog_11_method_33_code, "IsomerListModel", 2, (some .boolean), "isAtom")
abbrev y_Mo_isAtom : MethodName := ⟨"IsomerListModel", "isAtom", "(I)Z"⟩
abbrev M_Mo_bond : mj_M := (prog_11_method_37_code, "IsomerListModel", 4, (some .int), "bond")
abbrev y_Mo_bond : MethodName := ⟨"IsomerListModel", "bond", "(III)I"⟩
abbrev M_Mo_isStructure : mj_M := (prog_11_method_34_code, "IsomerListModel", 2, (some .boolean), "isStructure")
abbrev y_Mo_isStructure : MethodName := ⟨"IsomerListModel", "isStructure", "(I)Z"⟩
abbrev M_Mo_bondOf : mj_M := (prog_11_method_36_code, "IsomerListModel", 4, (some .int), "bondOf")
abbrev y_Mo_bondOf : MethodName := ⟨"IsomerListModel", "bondOf", "(III)I"⟩
abbrev M_Mo_hydrogens : mj_M := (prog_11_method_38_code, "IsomerListModel", 5, (some .int), "hydrogens")
abbrev y_Mo_hydrogens : MethodName := ⟨"IsomerListModel", "hydrogens", "(II)I"⟩
abbrev M_Mo_ways : mj_M := (prog_11_method_39_code, "IsomerListModel", 3, (some .int), "ways")
abbrev y_Mo_ways : MethodName := ⟨"IsomerListModel", "ways", "(I)I"⟩
abbrev M_Mo_write : mj_M := (prog_11_method_43_code, "IsomerListModel", 5, (some .int), "write")
abbrev y_Mo_write : MethodName := ⟨"IsomerListModel", "write", "(I)I"⟩
abbrev M_Mo_go : mj_M := (prog_11_method_46_code, "IsomerListModel", 5, none, "go")
abbrev y_Mo_go : MethodName := ⟨"IsomerListModel", "go", "(I)V"⟩
abbrev M_Mo_putAtom : mj_M := (prog_11_method_44_code, "IsomerListModel", 5, none, "putAtom")
abbrev y_Mo_putAtom : MethodName := ⟨"IsomerListModel", "putAtom", "(II)V"⟩
abbrev M_Mo_putSign : mj_M := (prog_11_method_42_code, "IsomerListModel", 2, none, "putSign")
abbrev y_Mo_putSign : MethodName := ⟨"IsomerListModel", "putSign", "(I)V"⟩
abbrev M_Mo_put : mj_M := (prog_11_method_40_code, "IsomerListModel", 2, none, "put")
abbrev y_Mo_put : MethodName := ⟨"IsomerListModel", "put", "(C)V"⟩
abbrev M_Mo_putBond : mj_M := (prog_11_method_41_code, "IsomerListModel", 2, none, "putBond")
abbrev y_Mo_putBond : MethodName := ⟨"IsomerListModel", "putBond", "(I)V"⟩
abbrev M_Mo_further : mj_M := (prog_11_method_45_code, "IsomerListModel", 4, (some .int), "further")
abbrev y_Mo_further : MethodName := ⟨"IsomerListModel", "further", "(II)I"⟩
abbrev M_Lw_law : mj_M := (code, "IsomerListLaw", 7, (some .boolean), "law")
abbrev y_Lw_law : MethodName := ⟨"IsomerListLaw", "law", "([I)Z"⟩
theorem ini_IL : Cond.initialized "IsomerList" ∈ mj_tb := mj_mem 59 (by decide +kernel) (by decide +kernel)
theorem ini_Ln : Cond.initialized "IsomerList$Line" ∈ mj_tb := mj_mem 60 (by decide +kernel) (by decide +kernel)
theorem ini_Fr : Cond.initialized "IsomerList$FormulaReader" ∈ mj_tb := mj_mem 61 (by decide +kernel) (by decide +kernel)
theorem ini_Tr : Cond.initialized "IsomerList$TextReader" ∈ mj_tb := mj_mem 62 (by decide +kernel) (by decide +kernel)
theorem ini_Ml : Cond.initialized "IsomerList$Molecule" ∈ mj_tb := mj_mem 63 (by decide +kernel) (by decide +kernel)
theorem ini_Tw : Cond.initialized "IsomerList$TextWriter" ∈ mj_tb := mj_mem 64 (by decide +kernel) (by decide +kernel)
theorem ini_Nu : Cond.initialized "IsomerList$Numbering" ∈ mj_tb := mj_mem 65 (by decide +kernel) (by decide +kernel)
theorem ini_Ls : Cond.initialized "IsomerList$Lister" ∈ mj_tb := mj_mem 66 (by decide +kernel) (by decide +kernel)
theorem ini_Ca : Cond.initialized "IsomerList$Catalogue" ∈ mj_tb := mj_mem 67 (by decide +kernel) (by decide +kernel)
theorem ini_Ar : Cond.initialized "java/util/Arrays" ∈ mj_tb := mj_mem 73 (by decide +kernel) (by decide +kernel)
theorem ini_Ma : Cond.initialized "java/lang/Math" ∈ mj_tb := mj_mem 74 (by decide +kernel) (by decide +kernel)
theorem ini_Mo : Cond.initialized "IsomerListModel" ∈ mj_tb := mj_mem 68 (by decide +kernel) (by decide +kernel)
theorem cw_IL_init : mj_cw y_IL_init M_IL_init 0 := ⟨mj_mem 80 (by decide +kernel) (by decide +kernel), ini_IL, by decide +kernel, by decide +kernel⟩
theorem cw_Ln_init : mj_cw y_Ln_init M_Ln_init 0 := ⟨mj_mem 88 (by decide +kernel) (by decide +kernel), ini_Ln, by decide +kernel, by decide +kernel⟩
theorem cw_Fr_init : mj_cw y_Fr_init M_Fr_init 0 := ⟨mj_mem 105 (by decide +kernel) (by decide +kernel), ini_Fr, by decide +kernel, by decide +kernel⟩
theorem cw_Tr_init : mj_cw y_Tr_init M_Tr_init 0 := ⟨mj_mem 121 (by decide +kernel) (by decide +kernel), ini_Tr, by decide +kernel, by decide +kernel⟩
theorem cw_Ml_init : mj_cw y_Ml_init M_Ml_init 0 := ⟨mj_mem 127 (by decide +kernel) (by decide +kernel), ini_Ml, by decide +kernel, by decide +kernel⟩
theorem cw_Tw_init : mj_cw y_Tw_init M_Tw_init 0 := ⟨mj_mem 184 (by decide +kernel) (by decide +kernel), ini_Tw, by decide +kernel, by decide +kernel⟩
theorem cw_Nu_init : mj_cw y_Nu_init M_Nu_init 0 := ⟨mj_mem 209 (by decide +kernel) (by decide +kernel), ini_Nu, by decide +kernel, by decide +kernel⟩
theorem cw_Ls_init : mj_cw y_Ls_init M_Ls_init 1 := ⟨mj_mem 240 (by decide +kernel) (by decide +kernel), ini_Ls, by decide +kernel, by decide +kernel⟩
theorem cw_Ca_init : mj_cw y_Ca_init M_Ca_init 0 := ⟨mj_mem 266 (by decide +kernel) (by decide +kernel), ini_Ca, by decide +kernel, by decide +kernel⟩
theorem cw_IL_erase : mj_cw y_IL_erase M_IL_erase 0 := ⟨mj_mem 327 (by decide +kernel) (by decide +kernel), ini_IL, by decide +kernel, by decide +kernel⟩
theorem cw_Ln_clear : mj_cw y_Ln_clear M_Ln_clear 0 := ⟨mj_mem 331 (by decide +kernel) (by decide +kernel), ini_Ln, by decide +kernel, by decide +kernel⟩
theorem cw_IL_formula : mj_cw y_IL_formula M_IL_formula 0 := ⟨mj_mem 335 (by decide +kernel) (by decide +kernel), ini_IL, by decide +kernel, by decide +kernel⟩
theorem cw_Fr_readFrom : mj_cw y_Fr_readFrom M_Fr_readFrom 1 := ⟨mj_mem 339 (by decide +kernel) (by decide +kernel), ini_Fr, by decide +kernel, by decide +kernel⟩
theorem cw_Ar_fill : mj_cw y_Ar_fill M_Ar_fill 2 := ⟨mj_mem 342 (by decide +kernel) (by decide +kernel), ini_Ar, by decide +kernel, by decide +kernel⟩
theorem cw_Fr_readElement : mj_cw y_Fr_readElement M_Fr_readElement 1 := ⟨mj_mem 346 (by decide +kernel) (by decide +kernel), ini_Fr, by decide +kernel, by decide +kernel⟩
theorem cw_Ln_elementAt : mj_cw y_Ln_elementAt M_Ln_elementAt 1 := ⟨mj_mem 350 (by decide +kernel) (by decide +kernel), ini_Ln, by decide +kernel, by decide +kernel⟩
theorem cw_Ln_at : mj_cw y_Ln_at M_Ln_at 1 := ⟨mj_mem 356 (by decide +kernel) (by decide +kernel), ini_Ln, by decide +kernel, by decide +kernel⟩
theorem cw_IL_signLength : mj_cw y_IL_signLength M_IL_signLength 1 := ⟨mj_mem 361 (by decide +kernel) (by decide +kernel), ini_IL, by decide +kernel, by decide +kernel⟩
theorem cw_Fr_digitsAhead : mj_cw y_Fr_digitsAhead M_Fr_digitsAhead 1 := ⟨mj_mem 366 (by decide +kernel) (by decide +kernel), ini_Fr, by decide +kernel, by decide +kernel⟩
theorem cw_IL_isDigit : mj_cw y_IL_isDigit M_IL_isDigit 1 := ⟨mj_mem 370 (by decide +kernel) (by decide +kernel), ini_IL, by decide +kernel, by decide +kernel⟩
theorem cw_Fr_numberAhead : mj_cw y_Fr_numberAhead M_Fr_numberAhead 2 := ⟨mj_mem 374 (by decide +kernel) (by decide +kernel), ini_Fr, by decide +kernel, by decide +kernel⟩
theorem cw_Fr_heavyAtoms : mj_cw y_Fr_heavyAtoms M_Fr_heavyAtoms 0 := ⟨mj_mem 378 (by decide +kernel) (by decide +kernel), ini_Fr, by decide +kernel, by decide +kernel⟩
theorem cw_Ca_take : mj_cw y_Ca_take M_Ca_take 1 := ⟨mj_mem 382 (by decide +kernel) (by decide +kernel), ini_Ca, by decide +kernel, by decide +kernel⟩
theorem cw_IL_listSpare : mj_cw y_IL_listSpare M_IL_listSpare 0 := ⟨mj_mem 386 (by decide +kernel) (by decide +kernel), ini_IL, by decide +kernel, by decide +kernel⟩
theorem cw_Ca_hasSameFormula : mj_cw y_Ca_hasSameFormula M_Ca_hasSameFormula 1 := ⟨mj_mem 390 (by decide +kernel) (by decide +kernel), ini_Ca, by decide +kernel, by decide +kernel⟩
theorem cw_Ls_fill : mj_cw y_Ls_fill M_Ls_fill 1 := ⟨mj_mem 394 (by decide +kernel) (by decide +kernel), ini_Ls, by decide +kernel, by decide +kernel⟩
theorem cw_Ml_addAtomsOf : mj_cw y_Ml_addAtomsOf M_Ml_addAtomsOf 1 := ⟨mj_mem 398 (by decide +kernel) (by decide +kernel), ini_Ml, by decide +kernel, by decide +kernel⟩
theorem cw_Ml_clear : mj_cw y_Ml_clear M_Ml_clear 0 := ⟨mj_mem 402 (by decide +kernel) (by decide +kernel), ini_Ml, by decide +kernel, by decide +kernel⟩
theorem cw_Ml_addAtom : mj_cw y_Ml_addAtom M_Ml_addAtom 1 := ⟨mj_mem 407 (by decide +kernel) (by decide +kernel), ini_Ml, by decide +kernel, by decide +kernel⟩
theorem cw_Ls_sumValences : mj_cw y_Ls_sumValences M_Ls_sumValences 0 := ⟨mj_mem 413 (by decide +kernel) (by decide +kernel), ini_Ls, by decide +kernel, by decide +kernel⟩
theorem cw_Ls_endRow : mj_cw y_Ls_endRow M_Ls_endRow 3 := ⟨mj_mem 417 (by decide +kernel) (by decide +kernel), ini_Ls, by decide +kernel, by decide +kernel⟩
theorem cw_Ls_canBeEnded : mj_cw y_Ls_canBeEnded M_Ls_canBeEnded 2 := ⟨mj_mem 421 (by decide +kernel) (by decide +kernel), ini_Ls, by decide +kernel, by decide +kernel⟩
theorem cw_Ls_countGroups : mj_cw y_Ls_countGroups M_Ls_countGroups 1 := ⟨mj_mem 425 (by decide +kernel) (by decide +kernel), ini_Ls, by decide +kernel, by decide +kernel⟩
theorem cw_Ml_between : mj_cw y_Ml_between M_Ml_between 2 := ⟨mj_mem 429 (by decide +kernel) (by decide +kernel), ini_Ml, by decide +kernel, by decide +kernel⟩
theorem cw_Ls_joinGroups : mj_cw y_Ls_joinGroups M_Ls_joinGroups 3 := ⟨mj_mem 433 (by decide +kernel) (by decide +kernel), ini_Ls, by decide +kernel, by decide +kernel⟩
theorem cw_Nu_isGreatest : mj_cw y_Nu_isGreatest M_Nu_isGreatest 3 := ⟨mj_mem 437 (by decide +kernel) (by decide +kernel), ini_Nu, by decide +kernel, by decide +kernel⟩
theorem cw_Nu_canBeBeaten : mj_cw y_Nu_canBeBeaten M_Nu_canBeBeaten 2 := ⟨mj_mem 441 (by decide +kernel) (by decide +kernel), ini_Nu, by decide +kernel, by decide +kernel⟩
theorem cw_IL_rowShift : mj_cw y_IL_rowShift M_IL_rowShift 1 := ⟨mj_mem 444 (by decide +kernel) (by decide +kernel), ini_IL, by decide +kernel, by decide +kernel⟩
theorem cw_Nu_row : mj_cw y_Nu_row M_Nu_row 2 := ⟨mj_mem 448 (by decide +kernel) (by decide +kernel), ini_Nu, by decide +kernel, by decide +kernel⟩
theorem cw_Nu_canBeBeatenWith : mj_cw y_Nu_canBeBeatenWith M_Nu_canBeBeatenWith 3 := ⟨mj_mem 452 (by decide +kernel) (by decide +kernel), ini_Nu, by decide +kernel, by decide +kernel⟩
theorem cw_Ca_add : mj_cw y_Ca_add M_Ca_add 1 := ⟨mj_mem 456 (by decide +kernel) (by decide +kernel), ini_Ca, by decide +kernel, by decide +kernel⟩
theorem cw_Ls_bindOn : mj_cw y_Ls_bindOn M_Ls_bindOn 4 := ⟨mj_mem 460 (by decide +kernel) (by decide +kernel), ini_Ls, by decide +kernel, by decide +kernel⟩
theorem cw_Ma_min : mj_cw y_Ma_min M_Ma_min 2 := ⟨mj_mem 464 (by decide +kernel) (by decide +kernel), ini_Ma, by decide +kernel, by decide +kernel⟩
theorem cw_Ca_isOverfull : mj_cw y_Ca_isOverfull M_Ca_isOverfull 0 := ⟨mj_mem 468 (by decide +kernel) (by decide +kernel), ini_Ca, by decide +kernel, by decide +kernel⟩
theorem cw_Ml_bind : mj_cw y_Ml_bind M_Ml_bind 3 := ⟨mj_mem 472 (by decide +kernel) (by decide +kernel), ini_Ml, by decide +kernel, by decide +kernel⟩
theorem cw_IL_read : mj_cw y_IL_read M_IL_read 0 := ⟨mj_mem 478 (by decide +kernel) (by decide +kernel), ini_IL, by decide +kernel, by decide +kernel⟩
theorem cw_Tr_readFrom : mj_cw y_Tr_readFrom M_Tr_readFrom 1 := ⟨mj_mem 482 (by decide +kernel) (by decide +kernel), ini_Tr, by decide +kernel, by decide +kernel⟩
theorem cw_Tr_readAtom : mj_cw y_Tr_readAtom M_Tr_readAtom 2 := ⟨mj_mem 488 (by decide +kernel) (by decide +kernel), ini_Tr, by decide +kernel, by decide +kernel⟩
theorem cw_Ma_max : mj_cw y_Ma_max M_Ma_max 2 := ⟨mj_mem 493 (by decide +kernel) (by decide +kernel), ini_Ma, by decide +kernel, by decide +kernel⟩
theorem cw_Tr_readPart : mj_cw y_Tr_readPart M_Tr_readPart 1 := ⟨mj_mem 499 (by decide +kernel) (by decide +kernel), ini_Tr, by decide +kernel, by decide +kernel⟩
theorem cw_Tr_closeBranch : mj_cw y_Tr_closeBranch M_Tr_closeBranch 0 := ⟨mj_mem 504 (by decide +kernel) (by decide +kernel), ini_Tr, by decide +kernel, by decide +kernel⟩
theorem cw_Tr_openBranch : mj_cw y_Tr_openBranch M_Tr_openBranch 1 := ⟨mj_mem 508 (by decide +kernel) (by decide +kernel), ini_Tr, by decide +kernel, by decide +kernel⟩
theorem cw_Tr_readBond : mj_cw y_Tr_readBond M_Tr_readBond 1 := ⟨mj_mem 512 (by decide +kernel) (by decide +kernel), ini_Tr, by decide +kernel, by decide +kernel⟩
theorem cw_Tr_readRing : mj_cw y_Tr_readRing M_Tr_readRing 2 := ⟨mj_mem 517 (by decide +kernel) (by decide +kernel), ini_Tr, by decide +kernel, by decide +kernel⟩
theorem cw_Tr_faultAtEnd : mj_cw y_Tr_faultAtEnd M_Tr_faultAtEnd 0 := ⟨mj_mem 522 (by decide +kernel) (by decide +kernel), ini_Tr, by decide +kernel, by decide +kernel⟩
theorem cw_Ml_isOverbound : mj_cw y_Ml_isOverbound M_Ml_isOverbound 0 := ⟨mj_mem 526 (by decide +kernel) (by decide +kernel), ini_Ml, by decide +kernel, by decide +kernel⟩
theorem cw_IL_findInList : mj_cw y_IL_findInList M_IL_findInList 1 := ⟨mj_mem 530 (by decide +kernel) (by decide +kernel), ini_IL, by decide +kernel, by decide +kernel⟩
theorem cw_Ca_hasFormulaOf : mj_cw y_Ca_hasFormulaOf M_Ca_hasFormulaOf 1 := ⟨mj_mem 534 (by decide +kernel) (by decide +kernel), ini_Ca, by decide +kernel, by decide +kernel⟩
theorem cw_Ml_freeSum : mj_cw y_Ml_freeSum M_Ml_freeSum 0 := ⟨mj_mem 538 (by decide +kernel) (by decide +kernel), ini_Ml, by decide +kernel, by decide +kernel⟩
theorem cw_IL_occurrences : mj_cw y_IL_occurrences M_IL_occurrences 3 := ⟨mj_mem 541 (by decide +kernel) (by decide +kernel), ini_IL, by decide +kernel, by decide +kernel⟩
theorem cw_Nu_search : mj_cw y_Nu_search M_Nu_search 3 := ⟨mj_mem 545 (by decide +kernel) (by decide +kernel), ini_Nu, by decide +kernel, by decide +kernel⟩
theorem cw_Nu_choose : mj_cw y_Nu_choose M_Nu_choose 2 := ⟨mj_mem 549 (by decide +kernel) (by decide +kernel), ini_Nu, by decide +kernel, by decide +kernel⟩
theorem cw_Nu_noteCode : mj_cw y_Nu_noteCode M_Nu_noteCode 1 := ⟨mj_mem 553 (by decide +kernel) (by decide +kernel), ini_Nu, by decide +kernel, by decide +kernel⟩
theorem cw_Ca_find : mj_cw y_Ca_find M_Ca_find 1 := ⟨mj_mem 557 (by decide +kernel) (by decide +kernel), ini_Ca, by decide +kernel, by decide +kernel⟩
theorem cw_IL_place : mj_cw y_IL_place M_IL_place 0 := ⟨mj_mem 561 (by decide +kernel) (by decide +kernel), ini_IL, by decide +kernel, by decide +kernel⟩
theorem cw_IL_count : mj_cw y_IL_count M_IL_count 1 := ⟨mj_mem 565 (by decide +kernel) (by decide +kernel), ini_IL, by decide +kernel, by decide +kernel⟩
theorem cw_IL_character : mj_cw y_IL_character M_IL_character 1 := ⟨mj_mem 569 (by decide +kernel) (by decide +kernel), ini_IL, by decide +kernel, by decide +kernel⟩
theorem cw_IL_type : mj_cw y_IL_type M_IL_type 1 := ⟨mj_mem 578 (by decide +kernel) (by decide +kernel), ini_IL, by decide +kernel, by decide +kernel⟩
theorem cw_Ln_add : mj_cw y_Ln_add M_Ln_add 1 := ⟨mj_mem 644 (by decide +kernel) (by decide +kernel), ini_Ln, by decide +kernel, by decide +kernel⟩
theorem cw_IL_element : mj_cw y_IL_element M_IL_element 1 := ⟨mj_mem 652 (by decide +kernel) (by decide +kernel), ini_IL, by decide +kernel, by decide +kernel⟩
theorem cw_IL_checkAtom : mj_cw y_IL_checkAtom M_IL_checkAtom 1 := ⟨mj_mem 656 (by decide +kernel) (by decide +kernel), ini_IL, by decide +kernel, by decide +kernel⟩
theorem cw_IL_bond : mj_cw y_IL_bond M_IL_bond 3 := ⟨mj_mem 678 (by decide +kernel) (by decide +kernel), ini_IL, by decide +kernel, by decide +kernel⟩
theorem cw_IL_checkStructure : mj_cw y_IL_checkStructure M_IL_checkStructure 1 := ⟨mj_mem 682 (by decide +kernel) (by decide +kernel), ini_IL, by decide +kernel, by decide +kernel⟩
theorem cw_Ml_build : mj_cw y_Ml_build M_Ml_build 2 := ⟨mj_mem 686 (by decide +kernel) (by decide +kernel), ini_Ml, by decide +kernel, by decide +kernel⟩
theorem cw_IL_hydrogens : mj_cw y_IL_hydrogens M_IL_hydrogens 2 := ⟨mj_mem 697 (by decide +kernel) (by decide +kernel), ini_IL, by decide +kernel, by decide +kernel⟩
theorem cw_IL_ways : mj_cw y_IL_ways M_IL_ways 1 := ⟨mj_mem 704 (by decide +kernel) (by decide +kernel), ini_IL, by decide +kernel, by decide +kernel⟩
theorem cw_IL_write : mj_cw y_IL_write M_IL_write 1 := ⟨mj_mem 711 (by decide +kernel) (by decide +kernel), ini_IL, by decide +kernel, by decide +kernel⟩
theorem cw_Tw_writeTo : mj_cw y_Tw_writeTo M_Tw_writeTo 2 := ⟨mj_mem 715 (by decide +kernel) (by decide +kernel), ini_Tw, by decide +kernel, by decide +kernel⟩
theorem cw_Tw_goThrough : mj_cw y_Tw_goThrough M_Tw_goThrough 2 := ⟨mj_mem 720 (by decide +kernel) (by decide +kernel), ini_Tw, by decide +kernel, by decide +kernel⟩
theorem cw_Tw_meetRing : mj_cw y_Tw_meetRing M_Tw_meetRing 2 := ⟨mj_mem 725 (by decide +kernel) (by decide +kernel), ini_Tw, by decide +kernel, by decide +kernel⟩
theorem cw_Tw_putAtom : mj_cw y_Tw_putAtom M_Tw_putAtom 1 := ⟨mj_mem 730 (by decide +kernel) (by decide +kernel), ini_Tw, by decide +kernel, by decide +kernel⟩
theorem cw_Ln_addElement : mj_cw y_Ln_addElement M_Ln_addElement 1 := ⟨mj_mem 734 (by decide +kernel) (by decide +kernel), ini_Ln, by decide +kernel, by decide +kernel⟩
theorem cw_Tw_putRings : mj_cw y_Tw_putRings M_Tw_putRings 1 := ⟨mj_mem 739 (by decide +kernel) (by decide +kernel), ini_Tw, by decide +kernel, by decide +kernel⟩
theorem cw_Ln_addBond : mj_cw y_Ln_addBond M_Ln_addBond 1 := ⟨mj_mem 743 (by decide +kernel) (by decide +kernel), ini_Ln, by decide +kernel, by decide +kernel⟩
theorem cw_Tw_lastFurtherOn : mj_cw y_Tw_lastFurtherOn M_Tw_lastFurtherOn 1 := ⟨mj_mem 748 (by decide +kernel) (by decide +kernel), ini_Tw, by decide +kernel, by decide +kernel⟩
theorem cw_Tw_putBound : mj_cw y_Tw_putBound M_Tw_putBound 2 := ⟨mj_mem 752 (by decide +kernel) (by decide +kernel), ini_Tw, by decide +kernel, by decide +kernel⟩
theorem cw_Mo_init : mj_cw y_Mo_init M_Mo_init 0 := ⟨mj_mem 757 (by decide +kernel) (by decide +kernel), ini_Mo, by decide +kernel, by decide +kernel⟩
theorem cw_Mo_thrown : mj_cw y_Mo_thrown M_Mo_thrown 0 := ⟨mj_mem 862 (by decide +kernel) (by decide +kernel), ini_Mo, by decide +kernel, by decide +kernel⟩
theorem cw_Mo_type : mj_cw y_Mo_type M_Mo_type 1 := ⟨mj_mem 866 (by decide +kernel) (by decide +kernel), ini_Mo, by decide +kernel, by decide +kernel⟩
theorem cw_Mo_refused : mj_cw y_Mo_refused M_Mo_refused 1 := ⟨mj_mem 870 (by decide +kernel) (by decide +kernel), ini_Mo, by decide +kernel, by decide +kernel⟩
theorem cw_Mo_erase : mj_cw y_Mo_erase M_Mo_erase 0 := ⟨mj_mem 874 (by decide +kernel) (by decide +kernel), ini_Mo, by decide +kernel, by decide +kernel⟩
theorem cw_Mo_character : mj_cw y_Mo_character M_Mo_character 1 := ⟨mj_mem 878 (by decide +kernel) (by decide +kernel), ini_Mo, by decide +kernel, by decide +kernel⟩
theorem cw_Mo_formula : mj_cw y_Mo_formula M_Mo_formula 0 := ⟨mj_mem 882 (by decide +kernel) (by decide +kernel), ini_Mo, by decide +kernel, by decide +kernel⟩
theorem cw_Mo_elementAt : mj_cw y_Mo_elementAt M_Mo_elementAt 1 := ⟨mj_mem 886 (by decide +kernel) (by decide +kernel), ini_Mo, by decide +kernel, by decide +kernel⟩
theorem cw_Mo_at : mj_cw y_Mo_at M_Mo_at 1 := ⟨mj_mem 890 (by decide +kernel) (by decide +kernel), ini_Mo, by decide +kernel, by decide +kernel⟩
theorem cw_Mo_fault : mj_cw y_Mo_fault M_Mo_fault 2 := ⟨mj_mem 894 (by decide +kernel) (by decide +kernel), ini_Mo, by decide +kernel, by decide +kernel⟩
theorem cw_Mo_signSize : mj_cw y_Mo_signSize M_Mo_signSize 1 := ⟨mj_mem 897 (by decide +kernel) (by decide +kernel), ini_Mo, by decide +kernel, by decide +kernel⟩
theorem cw_Mo_isDigit : mj_cw y_Mo_isDigit M_Mo_isDigit 1 := ⟨mj_mem 900 (by decide +kernel) (by decide +kernel), ini_Mo, by decide +kernel, by decide +kernel⟩
theorem cw_Mo_valence : mj_cw y_Mo_valence M_Mo_valence 1 := ⟨mj_mem 903 (by decide +kernel) (by decide +kernel), ini_Mo, by decide +kernel, by decide +kernel⟩
theorem cw_Mo_search : mj_cw y_Mo_search M_Mo_search 0 := ⟨mj_mem 907 (by decide +kernel) (by decide +kernel), ini_Mo, by decide +kernel, by decide +kernel⟩
theorem cw_Mo_keep : mj_cw y_Mo_keep M_Mo_keep 1 := ⟨mj_mem 911 (by decide +kernel) (by decide +kernel), ini_Mo, by decide +kernel, by decide +kernel⟩
theorem cw_Mo_isOne : mj_cw y_Mo_isOne M_Mo_isOne 1 := ⟨mj_mem 915 (by decide +kernel) (by decide +kernel), ini_Mo, by decide +kernel, by decide +kernel⟩
theorem cw_Mo_upper : mj_cw y_Mo_upper M_Mo_upper 1 := ⟨mj_mem 918 (by decide +kernel) (by decide +kernel), ini_Mo, by decide +kernel, by decide +kernel⟩
theorem cw_Mo_lower : mj_cw y_Mo_lower M_Mo_lower 1 := ⟨mj_mem 921 (by decide +kernel) (by decide +kernel), ini_Mo, by decide +kernel, by decide +kernel⟩
theorem cw_Mo_change : mj_cw y_Mo_change M_Mo_change 2 := ⟨mj_mem 925 (by decide +kernel) (by decide +kernel), ini_Mo, by decide +kernel, by decide +kernel⟩
theorem cw_Mo_least : mj_cw y_Mo_least M_Mo_least 2 := ⟨mj_mem 928 (by decide +kernel) (by decide +kernel), ini_Mo, by decide +kernel, by decide +kernel⟩
theorem cw_Mo_numberings : mj_cw y_Mo_numberings M_Mo_numberings 1 := ⟨mj_mem 932 (by decide +kernel) (by decide +kernel), ini_Mo, by decide +kernel, by decide +kernel⟩
theorem cw_Mo_row : mj_cw y_Mo_row M_Mo_row 1 := ⟨mj_mem 936 (by decide +kernel) (by decide +kernel), ini_Mo, by decide +kernel, by decide +kernel⟩
theorem cw_Mo_pair : mj_cw y_Mo_pair M_Mo_pair 2 := ⟨mj_mem 939 (by decide +kernel) (by decide +kernel), ini_Mo, by decide +kernel, by decide +kernel⟩
theorem cw_Mo_read : mj_cw y_Mo_read M_Mo_read 0 := ⟨mj_mem 943 (by decide +kernel) (by decide +kernel), ini_Mo, by decide +kernel, by decide +kernel⟩
theorem cw_Mo_parse : mj_cw y_Mo_parse M_Mo_parse 0 := ⟨mj_mem 947 (by decide +kernel) (by decide +kernel), ini_Mo, by decide +kernel, by decide +kernel⟩
theorem cw_Mo_atEnd : mj_cw y_Mo_atEnd M_Mo_atEnd 0 := ⟨mj_mem 951 (by decide +kernel) (by decide +kernel), ini_Mo, by decide +kernel, by decide +kernel⟩
theorem cw_Mo_sumOf : mj_cw y_Mo_sumOf M_Mo_sumOf 1 := ⟨mj_mem 955 (by decide +kernel) (by decide +kernel), ini_Mo, by decide +kernel, by decide +kernel⟩
theorem cw_Mo_numberInList : mj_cw y_Mo_numberInList M_Mo_numberInList 0 := ⟨mj_mem 959 (by decide +kernel) (by decide +kernel), ini_Mo, by decide +kernel, by decide +kernel⟩
theorem cw_Mo_greatest : mj_cw y_Mo_greatest M_Mo_greatest 0 := ⟨mj_mem 963 (by decide +kernel) (by decide +kernel), ini_Mo, by decide +kernel, by decide +kernel⟩
theorem cw_Mo_take : mj_cw y_Mo_take M_Mo_take 0 := ⟨mj_mem 967 (by decide +kernel) (by decide +kernel), ini_Mo, by decide +kernel, by decide +kernel⟩
theorem cw_Mo_place : mj_cw y_Mo_place M_Mo_place 0 := ⟨mj_mem 971 (by decide +kernel) (by decide +kernel), ini_Mo, by decide +kernel, by decide +kernel⟩
theorem cw_Mo_count : mj_cw y_Mo_count M_Mo_count 1 := ⟨mj_mem 975 (by decide +kernel) (by decide +kernel), ini_Mo, by decide +kernel, by decide +kernel⟩
theorem cw_Mo_element : mj_cw y_Mo_element M_Mo_element 1 := ⟨mj_mem 979 (by decide +kernel) (by decide +kernel), ini_Mo, by decide +kernel, by decide +kernel⟩
theorem cw_Mo_isAtom : mj_cw y_Mo_isAtom M_Mo_isAtom 1 := ⟨mj_mem 983 (by decide +kernel) (by decide +kernel), ini_Mo, by decide +kernel, by decide +kernel⟩
theorem cw_Mo_bond : mj_cw y_Mo_bond M_Mo_bond 3 := ⟨mj_mem 987 (by decide +kernel) (by decide +kernel), ini_Mo, by decide +kernel, by decide +kernel⟩
theorem cw_Mo_isStructure : mj_cw y_Mo_isStructure M_Mo_isStructure 1 := ⟨mj_mem 991 (by decide +kernel) (by decide +kernel), ini_Mo, by decide +kernel, by decide +kernel⟩
theorem cw_Mo_bondOf : mj_cw y_Mo_bondOf M_Mo_bondOf 3 := ⟨mj_mem 995 (by decide +kernel) (by decide +kernel), ini_Mo, by decide +kernel, by decide +kernel⟩
theorem cw_Mo_hydrogens : mj_cw y_Mo_hydrogens M_Mo_hydrogens 2 := ⟨mj_mem 999 (by decide +kernel) (by decide +kernel), ini_Mo, by decide +kernel, by decide +kernel⟩
theorem cw_Mo_ways : mj_cw y_Mo_ways M_Mo_ways 1 := ⟨mj_mem 1003 (by decide +kernel) (by decide +kernel), ini_Mo, by decide +kernel, by decide +kernel⟩
theorem cw_Mo_write : mj_cw y_Mo_write M_Mo_write 1 := ⟨mj_mem 1007 (by decide +kernel) (by decide +kernel), ini_Mo, by decide +kernel, by decide +kernel⟩
theorem cw_Mo_go : mj_cw y_Mo_go M_Mo_go 1 := ⟨mj_mem 1011 (by decide +kernel) (by decide +kernel), ini_Mo, by decide +kernel, by decide +kernel⟩
theorem cw_Mo_putAtom : mj_cw y_Mo_putAtom M_Mo_putAtom 2 := ⟨mj_mem 1015 (by decide +kernel) (by decide +kernel), ini_Mo, by decide +kernel, by decide +kernel⟩
theorem cw_Mo_putSign : mj_cw y_Mo_putSign M_Mo_putSign 1 := ⟨mj_mem 1019 (by decide +kernel) (by decide +kernel), ini_Mo, by decide +kernel, by decide +kernel⟩
theorem cw_Mo_put : mj_cw y_Mo_put M_Mo_put 1 := ⟨mj_mem 1023 (by decide +kernel) (by decide +kernel), ini_Mo, by decide +kernel, by decide +kernel⟩
theorem cw_Mo_putBond : mj_cw y_Mo_putBond M_Mo_putBond 1 := ⟨mj_mem 1027 (by decide +kernel) (by decide +kernel), ini_Mo, by decide +kernel, by decide +kernel⟩
theorem cw_Mo_further : mj_cw y_Mo_further M_Mo_further 2 := ⟨mj_mem 1031 (by decide +kernel) (by decide +kernel), ini_Mo, by decide +kernel, by decide +kernel⟩
theorem w_Ln_9 : mj_fw "IsomerList$Line" 9 "IsomerList$Line" "characters" "[C" := Or.inl (mj_mem 90 (by decide +kernel) (by decide +kernel))
theorem wl_Ln_9 : Cond.fieldLink "IsomerList$Line" 9 "IsomerList$Line" "characters" "[C" ∈ mj_tb := mj_mem 90 (by decide +kernel) (by decide +kernel)
theorem w_Ln_15 : mj_fw "IsomerList$Line" 15 "IsomerList$Line" "length" "I" := Or.inl (mj_mem 91 (by decide +kernel) (by decide +kernel))
theorem wl_Ln_15 : Cond.fieldLink "IsomerList$Line" 15 "IsomerList$Line" "length" "I" ∈ mj_tb := mj_mem 91 (by decide +kernel) (by decide +kernel)
theorem w_Fr_9 : mj_fw "IsomerList$FormulaReader" 9 "IsomerList$FormulaReader" "counts" "[I" := Or.inl (mj_mem 107 (by decide +kernel) (by decide +kernel))
theorem wl_Fr_9 : Cond.fieldLink "IsomerList$FormulaReader" 9 "IsomerList$FormulaReader" "counts" "[I" ∈ mj_tb := mj_mem 107 (by decide +kernel) (by decide +kernel)
theorem w_Fr_21 : mj_fw "IsomerList$FormulaReader" 21 "IsomerList$FormulaReader" "at" "I" := Or.inl (mj_mem 109 (by decide +kernel) (by decide +kernel))
theorem wl_Fr_21 : Cond.fieldLink "IsomerList$FormulaReader" 21 "IsomerList$FormulaReader" "at" "I" ∈ mj_tb := mj_mem 109 (by decide +kernel) (by decide +kernel)
theorem w_Ml_9 : mj_fw "IsomerList$Molecule" 9 "IsomerList$Molecule" "kinds" "[I" := Or.inl (mj_mem 129 (by decide +kernel) (by decide +kernel))
theorem wl_Ml_9 : Cond.fieldLink "IsomerList$Molecule" 9 "IsomerList$Molecule" "kinds" "[I" ∈ mj_tb := mj_mem 129 (by decide +kernel) (by decide +kernel)
theorem w_Ml_15 : mj_fw "IsomerList$Molecule" 15 "IsomerList$Molecule" "free" "[I" := Or.inl (mj_mem 133 (by decide +kernel) (by decide +kernel))
theorem wl_Ml_15 : Cond.fieldLink "IsomerList$Molecule" 15 "IsomerList$Molecule" "free" "[I" ∈ mj_tb := mj_mem 133 (by decide +kernel) (by decide +kernel)
theorem w_Ml_18 : mj_fw "IsomerList$Molecule" 18 "IsomerList$Molecule" "bonds" "[I" := Or.inl (mj_mem 136 (by decide +kernel) (by decide +kernel))
theorem wl_Ml_18 : Cond.fieldLink "IsomerList$Molecule" 18 "IsomerList$Molecule" "bonds" "[I" ∈ mj_tb := mj_mem 136 (by decide +kernel) (by decide +kernel)
theorem w_Ml_21 : mj_fw "IsomerList$Molecule" 21 "IsomerList$Molecule" "atoms" "I" := Or.inl (mj_mem 138 (by decide +kernel) (by decide +kernel))
theorem wl_Ml_21 : Cond.fieldLink "IsomerList$Molecule" 21 "IsomerList$Molecule" "atoms" "I" ∈ mj_tb := mj_mem 138 (by decide +kernel) (by decide +kernel)
theorem w_Tr_12 : mj_fw "IsomerList$TextReader" 12 "IsomerList$TextReader" "molecule" "LIsomerList$Molecule;" := Or.inl (mj_mem 153 (by decide +kernel) (by decide +kernel))
theorem wl_Tr_12 : Cond.fieldLink "IsomerList$TextReader" 12 "IsomerList$TextReader" "molecule" "LIsomerList$Molecule;" ∈ mj_tb := mj_mem 153 (by decide +kernel) (by decide +kernel)
theorem w_Tr_18 : mj_fw "IsomerList$TextReader" 18 "IsomerList$TextReader" "ringAtoms" "[I" := Or.inl (mj_mem 155 (by decide +kernel) (by decide +kernel))
theorem wl_Tr_18 : Cond.fieldLink "IsomerList$TextReader" 18 "IsomerList$TextReader" "ringAtoms" "[I" ∈ mj_tb := mj_mem 155 (by decide +kernel) (by decide +kernel)
theorem w_Tr_22 : mj_fw "IsomerList$TextReader" 22 "IsomerList$TextReader" "ringBonds" "[I" := Or.inl (mj_mem 156 (by decide +kernel) (by decide +kernel))
theorem wl_Tr_22 : Cond.fieldLink "IsomerList$TextReader" 22 "IsomerList$TextReader" "ringBonds" "[I" ∈ mj_tb := mj_mem 156 (by decide +kernel) (by decide +kernel)
theorem w_Tr_25 : mj_fw "IsomerList$TextReader" 25 "IsomerList$TextReader" "branchAtoms" "[I" := Or.inl (mj_mem 157 (by decide +kernel) (by decide +kernel))
theorem wl_Tr_25 : Cond.fieldLink "IsomerList$TextReader" 25 "IsomerList$TextReader" "branchAtoms" "[I" ∈ mj_tb := mj_mem 157 (by decide +kernel) (by decide +kernel)
theorem w_Tr_37 : mj_fw "IsomerList$TextReader" 37 "IsomerList$TextReader" "branches" "I" := Or.inl (mj_mem 158 (by decide +kernel) (by decide +kernel))
theorem wl_Tr_37 : Cond.fieldLink "IsomerList$TextReader" 37 "IsomerList$TextReader" "branches" "I" ∈ mj_tb := mj_mem 158 (by decide +kernel) (by decide +kernel)
theorem w_Tr_41 : mj_fw "IsomerList$TextReader" 41 "IsomerList$TextReader" "last" "I" := Or.inl (mj_mem 159 (by decide +kernel) (by decide +kernel))
theorem wl_Tr_41 : Cond.fieldLink "IsomerList$TextReader" 41 "IsomerList$TextReader" "last" "I" ∈ mj_tb := mj_mem 159 (by decide +kernel) (by decide +kernel)
theorem w_Tr_76 : mj_fw "IsomerList$TextReader" 76 "IsomerList$TextReader" "ringsMayFollow" "Z" := Or.inl (mj_mem 160 (by decide +kernel) (by decide +kernel))
theorem wl_Tr_76 : Cond.fieldLink "IsomerList$TextReader" 76 "IsomerList$TextReader" "ringsMayFollow" "Z" ∈ mj_tb := mj_mem 160 (by decide +kernel) (by decide +kernel)
theorem w_Tr_44 : mj_fw "IsomerList$TextReader" 44 "IsomerList$TextReader" "at" "I" := Or.inl (mj_mem 161 (by decide +kernel) (by decide +kernel))
theorem wl_Tr_44 : Cond.fieldLink "IsomerList$TextReader" 44 "IsomerList$TextReader" "at" "I" ∈ mj_tb := mj_mem 161 (by decide +kernel) (by decide +kernel)
theorem w_Tw_9 : mj_fw "IsomerList$TextWriter" 9 "IsomerList$TextWriter" "cameFrom" "[I" := Or.inl (mj_mem 186 (by decide +kernel) (by decide +kernel))
theorem wl_Tw_9 : Cond.fieldLink "IsomerList$TextWriter" 9 "IsomerList$TextWriter" "cameFrom" "[I" ∈ mj_tb := mj_mem 186 (by decide +kernel) (by decide +kernel)
theorem w_Tw_15 : mj_fw "IsomerList$TextWriter" 15 "IsomerList$TextWriter" "ringStarts" "[I" := Or.inl (mj_mem 187 (by decide +kernel) (by decide +kernel))
theorem wl_Tw_15 : Cond.fieldLink "IsomerList$TextWriter" 15 "IsomerList$TextWriter" "ringStarts" "[I" ∈ mj_tb := mj_mem 187 (by decide +kernel) (by decide +kernel)
theorem w_Tw_18 : mj_fw "IsomerList$TextWriter" 18 "IsomerList$TextWriter" "ringEnds" "[I" := Or.inl (mj_mem 188 (by decide +kernel) (by decide +kernel))
theorem wl_Tw_18 : Cond.fieldLink "IsomerList$TextWriter" 18 "IsomerList$TextWriter" "ringEnds" "[I" ∈ mj_tb := mj_mem 188 (by decide +kernel) (by decide +kernel)
theorem w_Tw_29 : mj_fw "IsomerList$TextWriter" 29 "IsomerList$TextWriter" "rings" "I" := Or.inl (mj_mem 189 (by decide +kernel) (by decide +kernel))
theorem wl_Tw_29 : Cond.fieldLink "IsomerList$TextWriter" 29 "IsomerList$TextWriter" "rings" "I" ∈ mj_tb := mj_mem 189 (by decide +kernel) (by decide +kernel)
theorem w_Tw_25 : mj_fw "IsomerList$TextWriter" 25 "IsomerList$TextWriter" "molecule" "LIsomerList$Molecule;" := Or.inl (mj_mem 190 (by decide +kernel) (by decide +kernel))
theorem wl_Tw_25 : Cond.fieldLink "IsomerList$TextWriter" 25 "IsomerList$TextWriter" "molecule" "LIsomerList$Molecule;" ∈ mj_tb := mj_mem 190 (by decide +kernel) (by decide +kernel)
theorem w_Tw_21 : mj_fw "IsomerList$TextWriter" 21 "IsomerList$TextWriter" "line" "LIsomerList$Line;" := Or.inl (mj_mem 191 (by decide +kernel) (by decide +kernel))
theorem wl_Tw_21 : Cond.fieldLink "IsomerList$TextWriter" 21 "IsomerList$TextWriter" "line" "LIsomerList$Line;" ∈ mj_tb := mj_mem 191 (by decide +kernel) (by decide +kernel)
theorem w_Nu_9 : mj_fw "IsomerList$Numbering" 9 "IsomerList$Numbering" "chosen" "[I" := Or.inl (mj_mem 211 (by decide +kernel) (by decide +kernel))
theorem wl_Nu_9 : Cond.fieldLink "IsomerList$Numbering" 9 "IsomerList$Numbering" "chosen" "[I" ∈ mj_tb := mj_mem 211 (by decide +kernel) (by decide +kernel)
theorem w_Nu_15 : mj_fw "IsomerList$Numbering" 15 "IsomerList$Numbering" "taken" "[Z" := Or.inl (mj_mem 212 (by decide +kernel) (by decide +kernel))
theorem wl_Nu_15 : Cond.fieldLink "IsomerList$Numbering" 15 "IsomerList$Numbering" "taken" "[Z" ∈ mj_tb := mj_mem 212 (by decide +kernel) (by decide +kernel)
theorem w_Nu_19 : mj_fw "IsomerList$Numbering" 19 "IsomerList$Numbering" "molecule" "LIsomerList$Molecule;" := Or.inl (mj_mem 213 (by decide +kernel) (by decide +kernel))
theorem wl_Nu_19 : Cond.fieldLink "IsomerList$Numbering" 19 "IsomerList$Numbering" "molecule" "LIsomerList$Molecule;" ∈ mj_tb := mj_mem 213 (by decide +kernel) (by decide +kernel)
theorem w_Nu_23 : mj_fw "IsomerList$Numbering" 23 "IsomerList$Numbering" "wanted" "[I" := Or.inl (mj_mem 214 (by decide +kernel) (by decide +kernel))
theorem wl_Nu_23 : Cond.fieldLink "IsomerList$Numbering" 23 "IsomerList$Numbering" "wanted" "[I" ∈ mj_tb := mj_mem 214 (by decide +kernel) (by decide +kernel)
theorem w_Nu_32 : mj_fw "IsomerList$Numbering" 32 "IsomerList$Numbering" "atoms" "I" := Or.inl (mj_mem 215 (by decide +kernel) (by decide +kernel))
theorem wl_Nu_32 : Cond.fieldLink "IsomerList$Numbering" 32 "IsomerList$Numbering" "atoms" "I" ∈ mj_tb := mj_mem 215 (by decide +kernel) (by decide +kernel)
theorem w_Nu_33 : mj_fw "IsomerList$Numbering" 33 "IsomerList$Numbering" "greatest" "I" := Or.inl (mj_mem 216 (by decide +kernel) (by decide +kernel))
theorem wl_Nu_33 : Cond.fieldLink "IsomerList$Numbering" 33 "IsomerList$Numbering" "greatest" "I" ∈ mj_tb := mj_mem 216 (by decide +kernel) (by decide +kernel)
theorem w_Nu_36 : mj_fw "IsomerList$Numbering" 36 "IsomerList$Numbering" "sharers" "I" := Or.inl (mj_mem 218 (by decide +kernel) (by decide +kernel))
theorem wl_Nu_36 : Cond.fieldLink "IsomerList$Numbering" 36 "IsomerList$Numbering" "sharers" "I" ∈ mj_tb := mj_mem 218 (by decide +kernel) (by decide +kernel)
theorem w_Ls_25 : mj_fw "IsomerList$Lister" 25 "IsomerList$Lister" "numbering" "LIsomerList$Numbering;" := Or.inl (mj_mem 244 (by decide +kernel) (by decide +kernel))
theorem wl_Ls_25 : Cond.fieldLink "IsomerList$Lister" 25 "IsomerList$Lister" "numbering" "LIsomerList$Numbering;" ∈ mj_tb := mj_mem 244 (by decide +kernel) (by decide +kernel)
theorem w_Ls_12 : mj_fw "IsomerList$Lister" 12 "IsomerList$Lister" "molecule" "LIsomerList$Molecule;" := Or.inl (mj_mem 245 (by decide +kernel) (by decide +kernel))
theorem wl_Ls_12 : Cond.fieldLink "IsomerList$Lister" 12 "IsomerList$Lister" "molecule" "LIsomerList$Molecule;" ∈ mj_tb := mj_mem 245 (by decide +kernel) (by decide +kernel)
theorem w_Ls_18 : mj_fw "IsomerList$Lister" 18 "IsomerList$Lister" "valencesFrom" "[I" := Or.inl (mj_mem 246 (by decide +kernel) (by decide +kernel))
theorem wl_Ls_18 : Cond.fieldLink "IsomerList$Lister" 18 "IsomerList$Lister" "valencesFrom" "[I" ∈ mj_tb := mj_mem 246 (by decide +kernel) (by decide +kernel)
theorem w_Ls_22 : mj_fw "IsomerList$Lister" 22 "IsomerList$Lister" "groups" "[I" := Or.inl (mj_mem 247 (by decide +kernel) (by decide +kernel))
theorem wl_Ls_22 : Cond.fieldLink "IsomerList$Lister" 22 "IsomerList$Lister" "groups" "[I" ∈ mj_tb := mj_mem 247 (by decide +kernel) (by decide +kernel)
theorem w_Ls_29 : mj_fw "IsomerList$Lister" 29 "IsomerList$Lister" "catalogue" "LIsomerList$Catalogue;" := Or.inl (mj_mem 248 (by decide +kernel) (by decide +kernel))
theorem wl_Ls_29 : Cond.fieldLink "IsomerList$Lister" 29 "IsomerList$Lister" "catalogue" "LIsomerList$Catalogue;" ∈ mj_tb := mj_mem 248 (by decide +kernel) (by decide +kernel)
theorem w_Ca_9 : mj_fw "IsomerList$Catalogue" 9 "IsomerList$Catalogue" "kinds" "[I" := Or.inl (mj_mem 268 (by decide +kernel) (by decide +kernel))
theorem wl_Ca_9 : Cond.fieldLink "IsomerList$Catalogue" 9 "IsomerList$Catalogue" "kinds" "[I" ∈ mj_tb := mj_mem 268 (by decide +kernel) (by decide +kernel)
theorem w_Ca_15 : mj_fw "IsomerList$Catalogue" 15 "IsomerList$Catalogue" "codes" "[I" := Or.inl (mj_mem 271 (by decide +kernel) (by decide +kernel))
theorem wl_Ca_15 : Cond.fieldLink "IsomerList$Catalogue" 15 "IsomerList$Catalogue" "codes" "[I" ∈ mj_tb := mj_mem 271 (by decide +kernel) (by decide +kernel)
theorem w_Ca_18 : mj_fw "IsomerList$Catalogue" 18 "IsomerList$Catalogue" "atoms" "I" := Or.inl (mj_mem 274 (by decide +kernel) (by decide +kernel))
theorem wl_Ca_18 : Cond.fieldLink "IsomerList$Catalogue" 18 "IsomerList$Catalogue" "atoms" "I" ∈ mj_tb := mj_mem 274 (by decide +kernel) (by decide +kernel)
theorem w_Ca_25 : mj_fw "IsomerList$Catalogue" 25 "IsomerList$Catalogue" "hydrogenSum" "I" := Or.inl (mj_mem 277 (by decide +kernel) (by decide +kernel))
theorem wl_Ca_25 : Cond.fieldLink "IsomerList$Catalogue" 25 "IsomerList$Catalogue" "hydrogenSum" "I" ∈ mj_tb := mj_mem 277 (by decide +kernel) (by decide +kernel)
theorem w_Ca_22 : mj_fw "IsomerList$Catalogue" 22 "IsomerList$Catalogue" "size" "I" := Or.inl (mj_mem 280 (by decide +kernel) (by decide +kernel))
theorem wl_Ca_22 : Cond.fieldLink "IsomerList$Catalogue" 22 "IsomerList$Catalogue" "size" "I" ∈ mj_tb := mj_mem 280 (by decide +kernel) (by decide +kernel)
theorem w_IL_10 : mj_fw "IsomerList" 10 "IsomerList" "line" "LIsomerList$Line;" := Or.inl (mj_mem 293 (by decide +kernel) (by decide +kernel))
theorem wl_IL_10 : Cond.fieldLink "IsomerList" 10 "IsomerList" "line" "LIsomerList$Line;" ∈ mj_tb := mj_mem 293 (by decide +kernel) (by decide +kernel)
theorem w_IL_19 : mj_fw "IsomerList" 19 "IsomerList" "formulaReader" "LIsomerList$FormulaReader;" := Or.inl (mj_mem 294 (by decide +kernel) (by decide +kernel))
theorem wl_IL_19 : Cond.fieldLink "IsomerList" 19 "IsomerList" "formulaReader" "LIsomerList$FormulaReader;" ∈ mj_tb := mj_mem 294 (by decide +kernel) (by decide +kernel)
theorem w_IL_26 : mj_fw "IsomerList" 26 "IsomerList" "textReader" "LIsomerList$TextReader;" := Or.inl (mj_mem 295 (by decide +kernel) (by decide +kernel))
theorem wl_IL_26 : Cond.fieldLink "IsomerList" 26 "IsomerList" "textReader" "LIsomerList$TextReader;" ∈ mj_tb := mj_mem 295 (by decide +kernel) (by decide +kernel)
theorem w_IL_33 : mj_fw "IsomerList" 33 "IsomerList" "textWriter" "LIsomerList$TextWriter;" := Or.inl (mj_mem 296 (by decide +kernel) (by decide +kernel))
theorem wl_IL_33 : Cond.fieldLink "IsomerList" 33 "IsomerList" "textWriter" "LIsomerList$TextWriter;" ∈ mj_tb := mj_mem 296 (by decide +kernel) (by decide +kernel)
theorem w_IL_40 : mj_fw "IsomerList" 40 "IsomerList" "numbering" "LIsomerList$Numbering;" := Or.inl (mj_mem 297 (by decide +kernel) (by decide +kernel))
theorem wl_IL_40 : Cond.fieldLink "IsomerList" 40 "IsomerList" "numbering" "LIsomerList$Numbering;" ∈ mj_tb := mj_mem 297 (by decide +kernel) (by decide +kernel)
theorem w_IL_49 : mj_fw "IsomerList" 49 "IsomerList" "lister" "LIsomerList$Lister;" := Or.inl (mj_mem 298 (by decide +kernel) (by decide +kernel))
theorem wl_IL_49 : Cond.fieldLink "IsomerList" 49 "IsomerList" "lister" "LIsomerList$Lister;" ∈ mj_tb := mj_mem 298 (by decide +kernel) (by decide +kernel)
theorem w_IL_56 : mj_fw "IsomerList" 56 "IsomerList" "shown" "LIsomerList$Molecule;" := Or.inl (mj_mem 299 (by decide +kernel) (by decide +kernel))
theorem wl_IL_56 : Cond.fieldLink "IsomerList" 56 "IsomerList" "shown" "LIsomerList$Molecule;" ∈ mj_tb := mj_mem 299 (by decide +kernel) (by decide +kernel)
theorem w_IL_63 : mj_fw "IsomerList" 63 "IsomerList" "current" "LIsomerList$Catalogue;" := Or.inl (mj_mem 300 (by decide +kernel) (by decide +kernel))
theorem wl_IL_63 : Cond.fieldLink "IsomerList" 63 "IsomerList" "current" "LIsomerList$Catalogue;" ∈ mj_tb := mj_mem 300 (by decide +kernel) (by decide +kernel)
theorem w_IL_67 : mj_fw "IsomerList" 67 "IsomerList" "spare" "LIsomerList$Catalogue;" := Or.inl (mj_mem 301 (by decide +kernel) (by decide +kernel))
theorem wl_IL_67 : Cond.fieldLink "IsomerList" 67 "IsomerList" "spare" "LIsomerList$Catalogue;" ∈ mj_tb := mj_mem 301 (by decide +kernel) (by decide +kernel)
theorem w_IL_70 : mj_fw "IsomerList" 70 "IsomerList" "faultPlace" "I" := Or.inl (mj_mem 302 (by decide +kernel) (by decide +kernel))
theorem wl_IL_70 : Cond.fieldLink "IsomerList" 70 "IsomerList" "faultPlace" "I" ∈ mj_tb := mj_mem 302 (by decide +kernel) (by decide +kernel)
theorem w_IL_188 : mj_fw "IsomerList" 188 "IsomerList" "SECOND_LETTERS" "[C" := Or.inl (mj_mem 362 (by decide +kernel) (by decide +kernel))
theorem wl_IL_188 : Cond.fieldLink "IsomerList" 188 "IsomerList" "SECOND_LETTERS" "[C" ∈ mj_tb := mj_mem 362 (by decide +kernel) (by decide +kernel)
theorem w_Mo_85 : mj_fw "IsomerListModel" 85 "IsomerListModel" "refusal" "I" := Or.inl (mj_mem 759 (by decide +kernel) (by decide +kernel))
theorem wl_Mo_85 : Cond.fieldLink "IsomerListModel" 85 "IsomerListModel" "refusal" "I" ∈ mj_tb := mj_mem 759 (by decide +kernel) (by decide +kernel)
theorem w_Mo_88 : mj_fw "IsomerListModel" 88 "IsomerListModel" "size" "I" := Or.inl (mj_mem 760 (by decide +kernel) (by decide +kernel))
theorem wl_Mo_88 : Cond.fieldLink "IsomerListModel" 88 "IsomerListModel" "size" "I" ∈ mj_tb := mj_mem 760 (by decide +kernel) (by decide +kernel)
theorem w_Mo_7 : mj_fw "IsomerListModel" 7 "IsomerListModel" "line" "[C" := Or.inl (mj_mem 761 (by decide +kernel) (by decide +kernel))
theorem wl_Mo_7 : Cond.fieldLink "IsomerListModel" 7 "IsomerListModel" "line" "[C" ∈ mj_tb := mj_mem 761 (by decide +kernel) (by decide +kernel)
theorem w_Mo_13 : mj_fw "IsomerListModel" 13 "IsomerListModel" "wrong" "I" := Or.inl (mj_mem 762 (by decide +kernel) (by decide +kernel))
theorem wl_Mo_13 : Cond.fieldLink "IsomerListModel" 13 "IsomerListModel" "wrong" "I" ∈ mj_tb := mj_mem 762 (by decide +kernel) (by decide +kernel)
theorem w_Mo_129 : mj_fw "IsomerListModel" 129 "IsomerListModel" "atoms" "I" := Or.inl (mj_mem 763 (by decide +kernel) (by decide +kernel))
theorem wl_Mo_129 : Cond.fieldLink "IsomerListModel" 129 "IsomerListModel" "atoms" "I" ∈ mj_tb := mj_mem 763 (by decide +kernel) (by decide +kernel)
theorem w_Mo_132 : mj_fw "IsomerListModel" 132 "IsomerListModel" "hydrogenSum" "I" := Or.inl (mj_mem 764 (by decide +kernel) (by decide +kernel))
theorem wl_Mo_132 : Cond.fieldLink "IsomerListModel" 132 "IsomerListModel" "hydrogenSum" "I" ∈ mj_tb := mj_mem 764 (by decide +kernel) (by decide +kernel)
theorem w_Mo_17 : mj_fw "IsomerListModel" 17 "IsomerListModel" "elements" "[I" := Or.inl (mj_mem 765 (by decide +kernel) (by decide +kernel))
theorem wl_Mo_17 : Cond.fieldLink "IsomerListModel" 17 "IsomerListModel" "elements" "[I" ∈ mj_tb := mj_mem 765 (by decide +kernel) (by decide +kernel)
theorem w_Mo_135 : mj_fw "IsomerListModel" 135 "IsomerListModel" "structures" "I" := Or.inl (mj_mem 766 (by decide +kernel) (by decide +kernel))
theorem wl_Mo_135 : Cond.fieldLink "IsomerListModel" 135 "IsomerListModel" "structures" "I" ∈ mj_tb := mj_mem 766 (by decide +kernel) (by decide +kernel)
theorem w_Mo_21 : mj_fw "IsomerListModel" 21 "IsomerListModel" "list" "[I" := Or.inl (mj_mem 767 (by decide +kernel) (by decide +kernel))
theorem wl_Mo_21 : Cond.fieldLink "IsomerListModel" 21 "IsomerListModel" "list" "[I" ∈ mj_tb := mj_mem 767 (by decide +kernel) (by decide +kernel)
theorem w_Mo_117 : mj_fw "IsomerListModel" 117 "IsomerListModel" "tried" "I" := Or.inl (mj_mem 768 (by decide +kernel) (by decide +kernel))
theorem wl_Mo_117 : Cond.fieldLink "IsomerListModel" 117 "IsomerListModel" "tried" "I" ∈ mj_tb := mj_mem 768 (by decide +kernel) (by decide +kernel)
theorem w_Mo_24 : mj_fw "IsomerListModel" 24 "IsomerListModel" "kind" "[I" := Or.inl (mj_mem 769 (by decide +kernel) (by decide +kernel))
theorem wl_Mo_24 : Cond.fieldLink "IsomerListModel" 24 "IsomerListModel" "kind" "[I" ∈ mj_tb := mj_mem 769 (by decide +kernel) (by decide +kernel)
theorem w_Mo_27 : mj_fw "IsomerListModel" 27 "IsomerListModel" "code" "[I" := Or.inl (mj_mem 770 (by decide +kernel) (by decide +kernel))
theorem wl_Mo_27 : Cond.fieldLink "IsomerListModel" 27 "IsomerListModel" "code" "[I" ∈ mj_tb := mj_mem 770 (by decide +kernel) (by decide +kernel)
theorem w_Mo_30 : mj_fw "IsomerListModel" 30 "IsomerListModel" "free" "[I" := Or.inl (mj_mem 771 (by decide +kernel) (by decide +kernel))
theorem wl_Mo_30 : Cond.fieldLink "IsomerListModel" 30 "IsomerListModel" "free" "[I" ∈ mj_tb := mj_mem 771 (by decide +kernel) (by decide +kernel)
theorem w_Mo_123 : mj_fw "IsomerListModel" 123 "IsomerListModel" "rest" "I" := Or.inl (mj_mem 772 (by decide +kernel) (by decide +kernel))
theorem wl_Mo_123 : Cond.fieldLink "IsomerListModel" 123 "IsomerListModel" "rest" "I" ∈ mj_tb := mj_mem 772 (by decide +kernel) (by decide +kernel)
theorem w_Mo_33 : mj_fw "IsomerListModel" 33 "IsomerListModel" "next" "[I" := Or.inl (mj_mem 773 (by decide +kernel) (by decide +kernel))
theorem wl_Mo_33 : Cond.fieldLink "IsomerListModel" 33 "IsomerListModel" "next" "[I" ∈ mj_tb := mj_mem 773 (by decide +kernel) (by decide +kernel)
theorem w_Mo_120 : mj_fw "IsomerListModel" 120 "IsomerListModel" "found" "I" := Or.inl (mj_mem 774 (by decide +kernel) (by decide +kernel))
theorem wl_Mo_120 : Cond.fieldLink "IsomerListModel" 120 "IsomerListModel" "found" "I" ∈ mj_tb := mj_mem 774 (by decide +kernel) (by decide +kernel)
theorem w_Mo_36 : mj_fw "IsomerListModel" 36 "IsomerListModel" "fresh" "[I" := Or.inl (mj_mem 775 (by decide +kernel) (by decide +kernel))
theorem wl_Mo_36 : Cond.fieldLink "IsomerListModel" 36 "IsomerListModel" "fresh" "[I" ∈ mj_tb := mj_mem 775 (by decide +kernel) (by decide +kernel)
theorem w_Mo_39 : mj_fw "IsomerListModel" 39 "IsomerListModel" "numbered" "[I" := Or.inl (mj_mem 776 (by decide +kernel) (by decide +kernel))
theorem wl_Mo_39 : Cond.fieldLink "IsomerListModel" 39 "IsomerListModel" "numbered" "[I" ∈ mj_tb := mj_mem 776 (by decide +kernel) (by decide +kernel)
theorem w_Mo_42 : mj_fw "IsomerListModel" 42 "IsomerListModel" "isTaken" "[Z" := Or.inl (mj_mem 777 (by decide +kernel) (by decide +kernel))
theorem wl_Mo_42 : Cond.fieldLink "IsomerListModel" 42 "IsomerListModel" "isTaken" "[Z" ∈ mj_tb := mj_mem 777 (by decide +kernel) (by decide +kernel)
theorem w_Mo_167 : mj_fw "IsomerListModel" 167 "IsomerListModel" "signs" "I" := Or.inl (mj_mem 778 (by decide +kernel) (by decide +kernel))
theorem wl_Mo_167 : Cond.fieldLink "IsomerListModel" 167 "IsomerListModel" "signs" "I" ∈ mj_tb := mj_mem 778 (by decide +kernel) (by decide +kernel)
theorem w_Mo_46 : mj_fw "IsomerListModel" 46 "IsomerListModel" "signOf" "[I" := Or.inl (mj_mem 779 (by decide +kernel) (by decide +kernel))
theorem wl_Mo_46 : Cond.fieldLink "IsomerListModel" 46 "IsomerListModel" "signOf" "[I" ∈ mj_tb := mj_mem 779 (by decide +kernel) (by decide +kernel)
theorem w_Mo_49 : mj_fw "IsomerListModel" 49 "IsomerListModel" "bonds" "[I" := Or.inl (mj_mem 780 (by decide +kernel) (by decide +kernel))
theorem wl_Mo_49 : Cond.fieldLink "IsomerListModel" 49 "IsomerListModel" "bonds" "[I" ∈ mj_tb := mj_mem 780 (by decide +kernel) (by decide +kernel)
theorem w_Mo_52 : mj_fw "IsomerListModel" 52 "IsomerListModel" "best" "[I" := Or.inl (mj_mem 781 (by decide +kernel) (by decide +kernel))
theorem wl_Mo_52 : Cond.fieldLink "IsomerListModel" 52 "IsomerListModel" "best" "[I" ∈ mj_tb := mj_mem 781 (by decide +kernel) (by decide +kernel)
theorem w_Mo_55 : mj_fw "IsomerListModel" 55 "IsomerListModel" "many" "[I" := Or.inl (mj_mem 782 (by decide +kernel) (by decide +kernel))
theorem wl_Mo_55 : Cond.fieldLink "IsomerListModel" 55 "IsomerListModel" "many" "[I" ∈ mj_tb := mj_mem 782 (by decide +kernel) (by decide +kernel)
theorem w_Mo_58 : mj_fw "IsomerListModel" 58 "IsomerListModel" "pile" "[I" := Or.inl (mj_mem 783 (by decide +kernel) (by decide +kernel))
theorem wl_Mo_58 : Cond.fieldLink "IsomerListModel" 58 "IsomerListModel" "pile" "[I" ∈ mj_tb := mj_mem 783 (by decide +kernel) (by decide +kernel)
theorem w_Mo_61 : mj_fw "IsomerListModel" 61 "IsomerListModel" "ringAtom" "[I" := Or.inl (mj_mem 784 (by decide +kernel) (by decide +kernel))
theorem wl_Mo_61 : Cond.fieldLink "IsomerListModel" 61 "IsomerListModel" "ringAtom" "[I" ∈ mj_tb := mj_mem 784 (by decide +kernel) (by decide +kernel)
theorem w_Mo_64 : mj_fw "IsomerListModel" 64 "IsomerListModel" "ringBond" "[I" := Or.inl (mj_mem 785 (by decide +kernel) (by decide +kernel))
theorem wl_Mo_64 : Cond.fieldLink "IsomerListModel" 64 "IsomerListModel" "ringBond" "[I" ∈ mj_tb := mj_mem 785 (by decide +kernel) (by decide +kernel)
theorem w_Mo_67 : mj_fw "IsomerListModel" 67 "IsomerListModel" "before" "[I" := Or.inl (mj_mem 786 (by decide +kernel) (by decide +kernel))
theorem wl_Mo_67 : Cond.fieldLink "IsomerListModel" 67 "IsomerListModel" "before" "[I" ∈ mj_tb := mj_mem 786 (by decide +kernel) (by decide +kernel)
theorem w_Mo_70 : mj_fw "IsomerListModel" 70 "IsomerListModel" "rings" "[I" := Or.inl (mj_mem 787 (by decide +kernel) (by decide +kernel))
theorem wl_Mo_70 : Cond.fieldLink "IsomerListModel" 70 "IsomerListModel" "rings" "[I" ∈ mj_tb := mj_mem 787 (by decide +kernel) (by decide +kernel)
theorem w_Mo_73 : mj_fw "IsomerListModel" 73 "IsomerListModel" "done" "[I" := Or.inl (mj_mem 788 (by decide +kernel) (by decide +kernel))
theorem wl_Mo_73 : Cond.fieldLink "IsomerListModel" 73 "IsomerListModel" "done" "[I" ∈ mj_tb := mj_mem 788 (by decide +kernel) (by decide +kernel)
theorem w_Mo_76 : mj_fw "IsomerListModel" 76 "IsomerListModel" "isOpen" "[Z" := Or.inl (mj_mem 789 (by decide +kernel) (by decide +kernel))
theorem wl_Mo_76 : Cond.fieldLink "IsomerListModel" 76 "IsomerListModel" "isOpen" "[Z" ∈ mj_tb := mj_mem 789 (by decide +kernel) (by decide +kernel)
theorem w_Mo_79 : mj_fw "IsomerListModel" 79 "IsomerListModel" "isReached" "[Z" := Or.inl (mj_mem 790 (by decide +kernel) (by decide +kernel))
theorem wl_Mo_79 : Cond.fieldLink "IsomerListModel" 79 "IsomerListModel" "isReached" "[Z" ∈ mj_tb := mj_mem 790 (by decide +kernel) (by decide +kernel)
theorem w_Mo_82 : mj_fw "IsomerListModel" 82 "IsomerListModel" "last" "[I" := Or.inl (mj_mem 791 (by decide +kernel) (by decide +kernel))
theorem wl_Mo_82 : Cond.fieldLink "IsomerListModel" 82 "IsomerListModel" "last" "[I" ∈ mj_tb := mj_mem 791 (by decide +kernel) (by decide +kernel)
theorem w_IL_74 : mj_fw "IsomerList" 74 "IsomerList$Line" "length" "I" := Or.inr (List.mem_of_getElem? (i := 92) (by decide +kernel))
theorem w_Fr_25 : mj_fw "IsomerList$FormulaReader" 25 "IsomerList$Line" "length" "I" := Or.inr (List.mem_of_getElem? (i := 93) (by decide +kernel))
theorem w_Tr_51 : mj_fw "IsomerList$TextReader" 51 "IsomerList$Line" "length" "I" := Or.inr (List.mem_of_getElem? (i := 94) (by decide +kernel))
theorem w_IL_91 : mj_fw "IsomerList" 91 "IsomerList$FormulaReader" "counts" "[I" := Or.inr (List.mem_of_getElem? (i := 108) (by decide +kernel))
theorem w_IL_103 : mj_fw "IsomerList" 103 "IsomerList$FormulaReader" "at" "I" := Or.inr (List.mem_of_getElem? (i := 110) (by decide +kernel))
theorem w_Nu_43 : mj_fw "IsomerList$Numbering" 43 "IsomerList$Molecule" "kinds" "[I" := Or.inr (List.mem_of_getElem? (i := 130) (by decide +kernel))
theorem w_Tw_64 : mj_fw "IsomerList$TextWriter" 64 "IsomerList$Molecule" "kinds" "[I" := Or.inr (List.mem_of_getElem? (i := 131) (by decide +kernel))
theorem w_Ca_35 : mj_fw "IsomerList$Catalogue" 35 "IsomerList$Molecule" "kinds" "[I" := Or.inr (List.mem_of_getElem? (i := 132) (by decide +kernel))
theorem w_Ls_53 : mj_fw "IsomerList$Lister" 53 "IsomerList$Molecule" "free" "[I" := Or.inr (List.mem_of_getElem? (i := 134) (by decide +kernel))
theorem w_IL_142 : mj_fw "IsomerList" 142 "IsomerList$Molecule" "free" "[I" := Or.inr (List.mem_of_getElem? (i := 135) (by decide +kernel))
theorem w_Nu_66 : mj_fw "IsomerList$Numbering" 66 "IsomerList$Molecule" "bonds" "[I" := Or.inr (List.mem_of_getElem? (i := 137) (by decide +kernel))
theorem w_Nu_26 : mj_fw "IsomerList$Numbering" 26 "IsomerList$Molecule" "atoms" "I" := Or.inr (List.mem_of_getElem? (i := 139) (by decide +kernel))
theorem w_Ls_50 : mj_fw "IsomerList$Lister" 50 "IsomerList$Molecule" "atoms" "I" := Or.inr (List.mem_of_getElem? (i := 140) (by decide +kernel))
theorem w_Tw_52 : mj_fw "IsomerList$TextWriter" 52 "IsomerList$Molecule" "atoms" "I" := Or.inr (List.mem_of_getElem? (i := 141) (by decide +kernel))
theorem w_Ca_28 : mj_fw "IsomerList$Catalogue" 28 "IsomerList$Molecule" "atoms" "I" := Or.inr (List.mem_of_getElem? (i := 142) (by decide +kernel))
theorem w_Tr_92 : mj_fw "IsomerList$TextReader" 92 "IsomerList$Molecule" "atoms" "I" := Or.inr (List.mem_of_getElem? (i := 143) (by decide +kernel))
theorem w_IL_111 : mj_fw "IsomerList" 111 "IsomerList$TextReader" "molecule" "LIsomerList$Molecule;" := Or.inr (List.mem_of_getElem? (i := 154) (by decide +kernel))
theorem w_IL_110 : mj_fw "IsomerList" 110 "IsomerList$TextReader" "at" "I" := Or.inr (List.mem_of_getElem? (i := 162) (by decide +kernel))
theorem w_IL_181 : mj_fw "IsomerList" 181 "IsomerList$Numbering" "greatest" "I" := Or.inr (List.mem_of_getElem? (i := 217) (by decide +kernel))
theorem w_IL_152 : mj_fw "IsomerList" 152 "IsomerList$Numbering" "sharers" "I" := Or.inr (List.mem_of_getElem? (i := 219) (by decide +kernel))
theorem w_Ml_40 : mj_fw "IsomerList$Molecule" 40 "IsomerList$Catalogue" "kinds" "[I" := Or.inr (List.mem_of_getElem? (i := 269) (by decide +kernel))
theorem w_IL_128 : mj_fw "IsomerList" 128 "IsomerList$Catalogue" "kinds" "[I" := Or.inr (List.mem_of_getElem? (i := 270) (by decide +kernel))
theorem w_Ml_49 : mj_fw "IsomerList$Molecule" 49 "IsomerList$Catalogue" "codes" "[I" := Or.inr (List.mem_of_getElem? (i := 272) (by decide +kernel))
theorem w_IL_145 : mj_fw "IsomerList" 145 "IsomerList$Catalogue" "codes" "[I" := Or.inr (List.mem_of_getElem? (i := 273) (by decide +kernel))
theorem w_Ml_37 : mj_fw "IsomerList$Molecule" 37 "IsomerList$Catalogue" "atoms" "I" := Or.inr (List.mem_of_getElem? (i := 275) (by decide +kernel))
theorem w_IL_118 : mj_fw "IsomerList" 118 "IsomerList$Catalogue" "atoms" "I" := Or.inr (List.mem_of_getElem? (i := 276) (by decide +kernel))
theorem w_Ls_40 : mj_fw "IsomerList$Lister" 40 "IsomerList$Catalogue" "hydrogenSum" "I" := Or.inr (List.mem_of_getElem? (i := 278) (by decide +kernel))
theorem w_IL_121 : mj_fw "IsomerList" 121 "IsomerList$Catalogue" "hydrogenSum" "I" := Or.inr (List.mem_of_getElem? (i := 279) (by decide +kernel))
theorem w_IL_106 : mj_fw "IsomerList" 106 "IsomerList$Catalogue" "size" "I" := Or.inr (List.mem_of_getElem? (i := 281) (by decide +kernel))
theorem w_Ln_19 : mj_fw "IsomerList$Line" 19 "IsomerList" "FIRST_LETTERS" "[C" := Or.inr (List.mem_of_getElem? (i := 351) (by decide +kernel))
theorem w_Ln_26 : mj_fw "IsomerList$Line" 26 "IsomerList" "SECOND_LETTERS" "[C" := Or.inr (List.mem_of_getElem? (i := 357) (by decide +kernel))
theorem w_Ml_31 : mj_fw "IsomerList$Molecule" 31 "IsomerList" "VALENCES" "[I" := Or.inr (List.mem_of_getElem? (i := 408) (by decide +kernel))
theorem im_IL_init : Cond.instanceMethod y_IL_init ∈ mj_tb := mj_mem 79 (by decide +kernel) (by decide +kernel)
theorem lk_Lw_35 : Cond.methodLink "IsomerListLaw" 35 y_IL_init ∈ mj_tb ∧ Cond.instanceMethod y_IL_init ∈ mj_tb ∧ (y_IL_init).name = "<init>" := ⟨mj_mem 78 (by decide +kernel) (by decide +kernel), im_IL_init, rfl⟩
theorem im_Ls_init : Cond.instanceMethod y_Ls_init ∈ mj_tb := mj_mem 239 (by decide +kernel) (by decide +kernel)
theorem lk_IL_46 : Cond.methodLink "IsomerList" 46 y_Ls_init ∈ mj_tb ∧ Cond.instanceMethod y_Ls_init ∈ mj_tb ∧ (y_Ls_init).name = "<init>" := ⟨mj_mem 238 (by decide +kernel) (by decide +kernel), im_Ls_init, rfl⟩
theorem im_IL_erase : Cond.instanceMethod y_IL_erase ∈ mj_tb := mj_mem 325 (by decide +kernel) (by decide +kernel)
theorem se_IL_erase : Cond.selects (y_IL_erase).cls y_IL_erase y_IL_erase ∈ mj_tb := mj_mem 326 (by decide +kernel) (by decide +kernel)
theorem lk_Lw_49 : Cond.methodLink "IsomerListLaw" 49 y_IL_erase ∈ mj_tb ∧ Cond.instanceMethod y_IL_erase ∈ mj_tb ∧ Cond.selects (y_IL_erase).cls y_IL_erase y_IL_erase ∈ mj_tb := ⟨mj_mem 324 (by decide +kernel) (by decide +kernel), im_IL_erase, se_IL_erase⟩
theorem im_Ln_clear : Cond.instanceMethod y_Ln_clear ∈ mj_tb := mj_mem 329 (by decide +kernel) (by decide +kernel)
theorem se_Ln_clear : Cond.selects (y_Ln_clear).cls y_Ln_clear y_Ln_clear ∈ mj_tb := mj_mem 330 (by decide +kernel) (by decide +kernel)
theorem lk_IL_84 : Cond.methodLink "IsomerList" 84 y_Ln_clear ∈ mj_tb ∧ Cond.instanceMethod y_Ln_clear ∈ mj_tb ∧ Cond.selects (y_Ln_clear).cls y_Ln_clear y_Ln_clear ∈ mj_tb := ⟨mj_mem 328 (by decide +kernel) (by decide +kernel), im_Ln_clear, se_Ln_clear⟩
theorem im_IL_formula : Cond.instanceMethod y_IL_formula ∈ mj_tb := mj_mem 333 (by decide +kernel) (by decide +kernel)
theorem se_IL_formula : Cond.selects (y_IL_formula).cls y_IL_formula y_IL_formula ∈ mj_tb := mj_mem 334 (by decide +kernel) (by decide +kernel)
theorem lk_Lw_53 : Cond.methodLink "IsomerListLaw" 53 y_IL_formula ∈ mj_tb ∧ Cond.instanceMethod y_IL_formula ∈ mj_tb ∧ Cond.selects (y_IL_formula).cls y_IL_formula y_IL_formula ∈ mj_tb := ⟨mj_mem 332 (by decide +kernel) (by decide +kernel), im_IL_formula, se_IL_formula⟩
theorem im_Fr_readFrom : Cond.instanceMethod y_Fr_readFrom ∈ mj_tb := mj_mem 337 (by decide +kernel) (by decide +kernel)
theorem se_Fr_readFrom : Cond.selects (y_Fr_readFrom).cls y_Fr_readFrom y_Fr_readFrom ∈ mj_tb := mj_mem 338 (by decide +kernel) (by decide +kernel)
theorem lk_IL_87 : Cond.methodLink "IsomerList" 87 y_Fr_readFrom ∈ mj_tb ∧ Cond.instanceMethod y_Fr_readFrom ∈ mj_tb ∧ Cond.selects (y_Fr_readFrom).cls y_Fr_readFrom y_Fr_readFrom ∈ mj_tb := ⟨mj_mem 336 (by decide +kernel) (by decide +kernel), im_Fr_readFrom, se_Fr_readFrom⟩
theorem st_Ar_fill : Cond.static y_Ar_fill ∈ mj_tb := mj_mem 341 (by decide +kernel) (by decide +kernel)
theorem lk_Fr_15 : Cond.methodLink "IsomerList$FormulaReader" 15 y_Ar_fill ∈ mj_tb ∧ Cond.static y_Ar_fill ∈ mj_tb := ⟨mj_mem 340 (by decide +kernel) (by decide +kernel), st_Ar_fill⟩
theorem im_Fr_readElement : Cond.instanceMethod y_Fr_readElement ∈ mj_tb := mj_mem 345 (by decide +kernel) (by decide +kernel)
theorem se_Fr_readElement : Cond.selects (y_Fr_readElement).cls y_Fr_readElement y_Fr_readElement ∈ mj_tb := mj_mem 0 (by decide +kernel) (by decide +kernel)
theorem lk_Fr_30 : Cond.methodLink "IsomerList$FormulaReader" 30 y_Fr_readElement ∈ mj_tb ∧ Cond.instanceMethod y_Fr_readElement ∈ mj_tb ∧ Cond.selects (y_Fr_readElement).cls y_Fr_readElement y_Fr_readElement ∈ mj_tb := ⟨mj_mem 343 (by decide +kernel) (by decide +kernel), im_Fr_readElement, se_Fr_readElement⟩
theorem im_Ln_elementAt : Cond.instanceMethod y_Ln_elementAt ∈ mj_tb := mj_mem 348 (by decide +kernel) (by decide +kernel)
theorem se_Ln_elementAt : Cond.selects (y_Ln_elementAt).cls y_Ln_elementAt y_Ln_elementAt ∈ mj_tb := mj_mem 349 (by decide +kernel) (by decide +kernel)
theorem lk_Fr_38 : Cond.methodLink "IsomerList$FormulaReader" 38 y_Ln_elementAt ∈ mj_tb ∧ Cond.instanceMethod y_Ln_elementAt ∈ mj_tb ∧ Cond.selects (y_Ln_elementAt).cls y_Ln_elementAt y_Ln_elementAt ∈ mj_tb := ⟨mj_mem 347 (by decide +kernel) (by decide +kernel), im_Ln_elementAt, se_Ln_elementAt⟩
theorem im_Ln_at : Cond.instanceMethod y_Ln_at ∈ mj_tb := mj_mem 354 (by decide +kernel) (by decide +kernel)
theorem se_Ln_at : Cond.selects (y_Ln_at).cls y_Ln_at y_Ln_at ∈ mj_tb := mj_mem 355 (by decide +kernel) (by decide +kernel)
theorem lk_Ln_22 : Cond.methodLink "IsomerList$Line" 22 y_Ln_at ∈ mj_tb ∧ Cond.instanceMethod y_Ln_at ∈ mj_tb ∧ Cond.selects (y_Ln_at).cls y_Ln_at y_Ln_at ∈ mj_tb := ⟨mj_mem 353 (by decide +kernel) (by decide +kernel), im_Ln_at, se_Ln_at⟩
theorem im_Fr_digitsAhead : Cond.instanceMethod y_Fr_digitsAhead ∈ mj_tb := mj_mem 365 (by decide +kernel) (by decide +kernel)
theorem se_Fr_digitsAhead : Cond.selects (y_Fr_digitsAhead).cls y_Fr_digitsAhead y_Fr_digitsAhead ∈ mj_tb := mj_mem 1 (by decide +kernel) (by decide +kernel)
theorem lk_Fr_45 : Cond.methodLink "IsomerList$FormulaReader" 45 y_Fr_digitsAhead ∈ mj_tb ∧ Cond.instanceMethod y_Fr_digitsAhead ∈ mj_tb ∧ Cond.selects (y_Fr_digitsAhead).cls y_Fr_digitsAhead y_Fr_digitsAhead ∈ mj_tb := ⟨mj_mem 363 (by decide +kernel) (by decide +kernel), im_Fr_digitsAhead, se_Fr_digitsAhead⟩
theorem lk_Fr_52 : Cond.methodLink "IsomerList$FormulaReader" 52 y_Ln_at ∈ mj_tb ∧ Cond.instanceMethod y_Ln_at ∈ mj_tb ∧ Cond.selects (y_Ln_at).cls y_Ln_at y_Ln_at ∈ mj_tb := ⟨mj_mem 367 (by decide +kernel) (by decide +kernel), im_Ln_at, se_Ln_at⟩
theorem im_Fr_numberAhead : Cond.instanceMethod y_Fr_numberAhead ∈ mj_tb := mj_mem 373 (by decide +kernel) (by decide +kernel)
theorem se_Fr_numberAhead : Cond.selects (y_Fr_numberAhead).cls y_Fr_numberAhead y_Fr_numberAhead ∈ mj_tb := mj_mem 2 (by decide +kernel) (by decide +kernel)
theorem lk_Fr_48 : Cond.methodLink "IsomerList$FormulaReader" 48 y_Fr_numberAhead ∈ mj_tb ∧ Cond.instanceMethod y_Fr_numberAhead ∈ mj_tb ∧ Cond.selects (y_Fr_numberAhead).cls y_Fr_numberAhead y_Fr_numberAhead ∈ mj_tb := ⟨mj_mem 371 (by decide +kernel) (by decide +kernel), im_Fr_numberAhead, se_Fr_numberAhead⟩
theorem im_Fr_heavyAtoms : Cond.instanceMethod y_Fr_heavyAtoms ∈ mj_tb := mj_mem 377 (by decide +kernel) (by decide +kernel)
theorem se_Fr_heavyAtoms : Cond.selects (y_Fr_heavyAtoms).cls y_Fr_heavyAtoms y_Fr_heavyAtoms ∈ mj_tb := mj_mem 3 (by decide +kernel) (by decide +kernel)
theorem lk_Fr_34 : Cond.methodLink "IsomerList$FormulaReader" 34 y_Fr_heavyAtoms ∈ mj_tb ∧ Cond.instanceMethod y_Fr_heavyAtoms ∈ mj_tb ∧ Cond.selects (y_Fr_heavyAtoms).cls y_Fr_heavyAtoms y_Fr_heavyAtoms ∈ mj_tb := ⟨mj_mem 375 (by decide +kernel) (by decide +kernel), im_Fr_heavyAtoms, se_Fr_heavyAtoms⟩
theorem im_Ca_take : Cond.instanceMethod y_Ca_take ∈ mj_tb := mj_mem 380 (by decide +kernel) (by decide +kernel)
theorem se_Ca_take : Cond.selects (y_Ca_take).cls y_Ca_take y_Ca_take ∈ mj_tb := mj_mem 381 (by decide +kernel) (by decide +kernel)
theorem lk_IL_95 : Cond.methodLink "IsomerList" 95 y_Ca_take ∈ mj_tb ∧ Cond.instanceMethod y_Ca_take ∈ mj_tb ∧ Cond.selects (y_Ca_take).cls y_Ca_take y_Ca_take ∈ mj_tb := ⟨mj_mem 379 (by decide +kernel) (by decide +kernel), im_Ca_take, se_Ca_take⟩
theorem im_IL_listSpare : Cond.instanceMethod y_IL_listSpare ∈ mj_tb := mj_mem 385 (by decide +kernel) (by decide +kernel)
theorem se_IL_listSpare : Cond.selects (y_IL_listSpare).cls y_IL_listSpare y_IL_listSpare ∈ mj_tb := mj_mem 4 (by decide +kernel) (by decide +kernel)
theorem lk_IL_99 : Cond.methodLink "IsomerList" 99 y_IL_listSpare ∈ mj_tb ∧ Cond.instanceMethod y_IL_listSpare ∈ mj_tb ∧ Cond.selects (y_IL_listSpare).cls y_IL_listSpare y_IL_listSpare ∈ mj_tb := ⟨mj_mem 383 (by decide +kernel) (by decide +kernel), im_IL_listSpare, se_IL_listSpare⟩
theorem im_Ca_hasSameFormula : Cond.instanceMethod y_Ca_hasSameFormula ∈ mj_tb := mj_mem 388 (by decide +kernel) (by decide +kernel)
theorem se_Ca_hasSameFormula : Cond.selects (y_Ca_hasSameFormula).cls y_Ca_hasSameFormula y_Ca_hasSameFormula ∈ mj_tb := mj_mem 389 (by decide +kernel) (by decide +kernel)
theorem lk_IL_165 : Cond.methodLink "IsomerList" 165 y_Ca_hasSameFormula ∈ mj_tb ∧ Cond.instanceMethod y_Ca_hasSameFormula ∈ mj_tb ∧ Cond.selects (y_Ca_hasSameFormula).cls y_Ca_hasSameFormula y_Ca_hasSameFormula ∈ mj_tb := ⟨mj_mem 387 (by decide +kernel) (by decide +kernel), im_Ca_hasSameFormula, se_Ca_hasSameFormula⟩
theorem im_Ls_fill : Cond.instanceMethod y_Ls_fill ∈ mj_tb := mj_mem 392 (by decide +kernel) (by decide +kernel)
theorem se_Ls_fill : Cond.selects (y_Ls_fill).cls y_Ls_fill y_Ls_fill ∈ mj_tb := mj_mem 393 (by decide +kernel) (by decide +kernel)
theorem lk_IL_169 : Cond.methodLink "IsomerList" 169 y_Ls_fill ∈ mj_tb ∧ Cond.instanceMethod y_Ls_fill ∈ mj_tb ∧ Cond.selects (y_Ls_fill).cls y_Ls_fill y_Ls_fill ∈ mj_tb := ⟨mj_mem 391 (by decide +kernel) (by decide +kernel), im_Ls_fill, se_Ls_fill⟩
theorem im_Ml_addAtomsOf : Cond.instanceMethod y_Ml_addAtomsOf ∈ mj_tb := mj_mem 396 (by decide +kernel) (by decide +kernel)
theorem se_Ml_addAtomsOf : Cond.selects (y_Ml_addAtomsOf).cls y_Ml_addAtomsOf y_Ml_addAtomsOf ∈ mj_tb := mj_mem 397 (by decide +kernel) (by decide +kernel)
theorem lk_Ls_33 : Cond.methodLink "IsomerList$Lister" 33 y_Ml_addAtomsOf ∈ mj_tb ∧ Cond.instanceMethod y_Ml_addAtomsOf ∈ mj_tb ∧ Cond.selects (y_Ml_addAtomsOf).cls y_Ml_addAtomsOf y_Ml_addAtomsOf ∈ mj_tb := ⟨mj_mem 395 (by decide +kernel) (by decide +kernel), im_Ml_addAtomsOf, se_Ml_addAtomsOf⟩
theorem im_Ml_clear : Cond.instanceMethod y_Ml_clear ∈ mj_tb := mj_mem 400 (by decide +kernel) (by decide +kernel)
theorem se_Ml_clear : Cond.selects (y_Ml_clear).cls y_Ml_clear y_Ml_clear ∈ mj_tb := mj_mem 401 (by decide +kernel) (by decide +kernel)
theorem lk_Ml_34 : Cond.methodLink "IsomerList$Molecule" 34 y_Ml_clear ∈ mj_tb ∧ Cond.instanceMethod y_Ml_clear ∈ mj_tb ∧ Cond.selects (y_Ml_clear).cls y_Ml_clear y_Ml_clear ∈ mj_tb := ⟨mj_mem 399 (by decide +kernel) (by decide +kernel), im_Ml_clear, se_Ml_clear⟩
theorem lk_Ml_25 : Cond.methodLink "IsomerList$Molecule" 25 y_Ar_fill ∈ mj_tb ∧ Cond.static y_Ar_fill ∈ mj_tb := ⟨mj_mem 403 (by decide +kernel) (by decide +kernel), st_Ar_fill⟩
theorem im_Ml_addAtom : Cond.instanceMethod y_Ml_addAtom ∈ mj_tb := mj_mem 405 (by decide +kernel) (by decide +kernel)
theorem se_Ml_addAtom : Cond.selects (y_Ml_addAtom).cls y_Ml_addAtom y_Ml_addAtom ∈ mj_tb := mj_mem 406 (by decide +kernel) (by decide +kernel)
theorem lk_Ml_41 : Cond.methodLink "IsomerList$Molecule" 41 y_Ml_addAtom ∈ mj_tb ∧ Cond.instanceMethod y_Ml_addAtom ∈ mj_tb ∧ Cond.selects (y_Ml_addAtom).cls y_Ml_addAtom y_Ml_addAtom ∈ mj_tb := ⟨mj_mem 404 (by decide +kernel) (by decide +kernel), im_Ml_addAtom, se_Ml_addAtom⟩
theorem im_Ls_sumValences : Cond.instanceMethod y_Ls_sumValences ∈ mj_tb := mj_mem 412 (by decide +kernel) (by decide +kernel)
theorem se_Ls_sumValences : Cond.selects (y_Ls_sumValences).cls y_Ls_sumValences y_Ls_sumValences ∈ mj_tb := mj_mem 5 (by decide +kernel) (by decide +kernel)
theorem lk_Ls_37 : Cond.methodLink "IsomerList$Lister" 37 y_Ls_sumValences ∈ mj_tb ∧ Cond.instanceMethod y_Ls_sumValences ∈ mj_tb ∧ Cond.selects (y_Ls_sumValences).cls y_Ls_sumValences y_Ls_sumValences ∈ mj_tb := ⟨mj_mem 410 (by decide +kernel) (by decide +kernel), im_Ls_sumValences, se_Ls_sumValences⟩
theorem im_Ls_endRow : Cond.instanceMethod y_Ls_endRow ∈ mj_tb := mj_mem 416 (by decide +kernel) (by decide +kernel)
theorem se_Ls_endRow : Cond.selects (y_Ls_endRow).cls y_Ls_endRow y_Ls_endRow ∈ mj_tb := mj_mem 6 (by decide +kernel) (by decide +kernel)
theorem lk_Ls_46 : Cond.methodLink "IsomerList$Lister" 46 y_Ls_endRow ∈ mj_tb ∧ Cond.instanceMethod y_Ls_endRow ∈ mj_tb ∧ Cond.selects (y_Ls_endRow).cls y_Ls_endRow y_Ls_endRow ∈ mj_tb := ⟨mj_mem 414 (by decide +kernel) (by decide +kernel), im_Ls_endRow, se_Ls_endRow⟩
theorem im_Ls_canBeEnded : Cond.instanceMethod y_Ls_canBeEnded ∈ mj_tb := mj_mem 420 (by decide +kernel) (by decide +kernel)
theorem se_Ls_canBeEnded : Cond.selects (y_Ls_canBeEnded).cls y_Ls_canBeEnded y_Ls_canBeEnded ∈ mj_tb := mj_mem 7 (by decide +kernel) (by decide +kernel)
theorem lk_Ls_77 : Cond.methodLink "IsomerList$Lister" 77 y_Ls_canBeEnded ∈ mj_tb ∧ Cond.instanceMethod y_Ls_canBeEnded ∈ mj_tb ∧ Cond.selects (y_Ls_canBeEnded).cls y_Ls_canBeEnded y_Ls_canBeEnded ∈ mj_tb := ⟨mj_mem 418 (by decide +kernel) (by decide +kernel), im_Ls_canBeEnded, se_Ls_canBeEnded⟩
theorem im_Ls_countGroups : Cond.instanceMethod y_Ls_countGroups ∈ mj_tb := mj_mem 424 (by decide +kernel) (by decide +kernel)
theorem se_Ls_countGroups : Cond.selects (y_Ls_countGroups).cls y_Ls_countGroups y_Ls_countGroups ∈ mj_tb := mj_mem 8 (by decide +kernel) (by decide +kernel)
theorem lk_Ls_91 : Cond.methodLink "IsomerList$Lister" 91 y_Ls_countGroups ∈ mj_tb ∧ Cond.instanceMethod y_Ls_countGroups ∈ mj_tb ∧ Cond.selects (y_Ls_countGroups).cls y_Ls_countGroups y_Ls_countGroups ∈ mj_tb := ⟨mj_mem 422 (by decide +kernel) (by decide +kernel), im_Ls_countGroups, se_Ls_countGroups⟩
theorem im_Ml_between : Cond.instanceMethod y_Ml_between ∈ mj_tb := mj_mem 427 (by decide +kernel) (by decide +kernel)
theorem se_Ml_between : Cond.selects (y_Ml_between).cls y_Ml_between y_Ml_between ∈ mj_tb := mj_mem 428 (by decide +kernel) (by decide +kernel)
theorem lk_Ls_94 : Cond.methodLink "IsomerList$Lister" 94 y_Ml_between ∈ mj_tb ∧ Cond.instanceMethod y_Ml_between ∈ mj_tb ∧ Cond.selects (y_Ml_between).cls y_Ml_between y_Ml_between ∈ mj_tb := ⟨mj_mem 426 (by decide +kernel) (by decide +kernel), im_Ml_between, se_Ml_between⟩
theorem im_Ls_joinGroups : Cond.instanceMethod y_Ls_joinGroups ∈ mj_tb := mj_mem 432 (by decide +kernel) (by decide +kernel)
theorem se_Ls_joinGroups : Cond.selects (y_Ls_joinGroups).cls y_Ls_joinGroups y_Ls_joinGroups ∈ mj_tb := mj_mem 9 (by decide +kernel) (by decide +kernel)
theorem lk_Ls_97 : Cond.methodLink "IsomerList$Lister" 97 y_Ls_joinGroups ∈ mj_tb ∧ Cond.instanceMethod y_Ls_joinGroups ∈ mj_tb ∧ Cond.selects (y_Ls_joinGroups).cls y_Ls_joinGroups y_Ls_joinGroups ∈ mj_tb := ⟨mj_mem 430 (by decide +kernel) (by decide +kernel), im_Ls_joinGroups, se_Ls_joinGroups⟩
theorem im_Nu_isGreatest : Cond.instanceMethod y_Nu_isGreatest ∈ mj_tb := mj_mem 435 (by decide +kernel) (by decide +kernel)
theorem se_Nu_isGreatest : Cond.selects (y_Nu_isGreatest).cls y_Nu_isGreatest y_Nu_isGreatest ∈ mj_tb := mj_mem 436 (by decide +kernel) (by decide +kernel)
theorem lk_Ls_81 : Cond.methodLink "IsomerList$Lister" 81 y_Nu_isGreatest ∈ mj_tb ∧ Cond.instanceMethod y_Nu_isGreatest ∈ mj_tb ∧ Cond.selects (y_Nu_isGreatest).cls y_Nu_isGreatest y_Nu_isGreatest ∈ mj_tb := ⟨mj_mem 434 (by decide +kernel) (by decide +kernel), im_Nu_isGreatest, se_Nu_isGreatest⟩
theorem im_Nu_canBeBeaten : Cond.instanceMethod y_Nu_canBeBeaten ∈ mj_tb := mj_mem 440 (by decide +kernel) (by decide +kernel)
theorem se_Nu_canBeBeaten : Cond.selects (y_Nu_canBeBeaten).cls y_Nu_canBeBeaten y_Nu_canBeBeaten ∈ mj_tb := mj_mem 10 (by decide +kernel) (by decide +kernel)
theorem lk_Nu_46 : Cond.methodLink "IsomerList$Numbering" 46 y_Nu_canBeBeaten ∈ mj_tb ∧ Cond.instanceMethod y_Nu_canBeBeaten ∈ mj_tb ∧ Cond.selects (y_Nu_canBeBeaten).cls y_Nu_canBeBeaten y_Nu_canBeBeaten ∈ mj_tb := ⟨mj_mem 438 (by decide +kernel) (by decide +kernel), im_Nu_canBeBeaten, se_Nu_canBeBeaten⟩
theorem im_Nu_row : Cond.instanceMethod y_Nu_row ∈ mj_tb := mj_mem 447 (by decide +kernel) (by decide +kernel)
theorem se_Nu_row : Cond.selects (y_Nu_row).cls y_Nu_row y_Nu_row ∈ mj_tb := mj_mem 11 (by decide +kernel) (by decide +kernel)
theorem lk_Nu_58 : Cond.methodLink "IsomerList$Numbering" 58 y_Nu_row ∈ mj_tb ∧ Cond.instanceMethod y_Nu_row ∈ mj_tb ∧ Cond.selects (y_Nu_row).cls y_Nu_row y_Nu_row ∈ mj_tb := ⟨mj_mem 445 (by decide +kernel) (by decide +kernel), im_Nu_row, se_Nu_row⟩
theorem im_Nu_canBeBeatenWith : Cond.instanceMethod y_Nu_canBeBeatenWith ∈ mj_tb := mj_mem 451 (by decide +kernel) (by decide +kernel)
theorem se_Nu_canBeBeatenWith : Cond.selects (y_Nu_canBeBeatenWith).cls y_Nu_canBeBeatenWith y_Nu_canBeBeatenWith ∈ mj_tb := mj_mem 12 (by decide +kernel) (by decide +kernel)
theorem lk_Nu_62 : Cond.methodLink "IsomerList$Numbering" 62 y_Nu_canBeBeatenWith ∈ mj_tb ∧ Cond.instanceMethod y_Nu_canBeBeatenWith ∈ mj_tb ∧ Cond.selects (y_Nu_canBeBeatenWith).cls y_Nu_canBeBeatenWith y_Nu_canBeBeatenWith ∈ mj_tb := ⟨mj_mem 449 (by decide +kernel) (by decide +kernel), im_Nu_canBeBeatenWith, se_Nu_canBeBeatenWith⟩
theorem im_Ca_add : Cond.instanceMethod y_Ca_add ∈ mj_tb := mj_mem 454 (by decide +kernel) (by decide +kernel)
theorem se_Ca_add : Cond.selects (y_Ca_add).cls y_Ca_add y_Ca_add ∈ mj_tb := mj_mem 455 (by decide +kernel) (by decide +kernel)
theorem lk_Ls_87 : Cond.methodLink "IsomerList$Lister" 87 y_Ca_add ∈ mj_tb ∧ Cond.instanceMethod y_Ca_add ∈ mj_tb ∧ Cond.selects (y_Ca_add).cls y_Ca_add y_Ca_add ∈ mj_tb := ⟨mj_mem 453 (by decide +kernel) (by decide +kernel), im_Ca_add, se_Ca_add⟩
theorem im_Ls_bindOn : Cond.instanceMethod y_Ls_bindOn ∈ mj_tb := mj_mem 459 (by decide +kernel) (by decide +kernel)
theorem se_Ls_bindOn : Cond.selects (y_Ls_bindOn).cls y_Ls_bindOn y_Ls_bindOn ∈ mj_tb := mj_mem 13 (by decide +kernel) (by decide +kernel)
theorem lk_Ls_73 : Cond.methodLink "IsomerList$Lister" 73 y_Ls_bindOn ∈ mj_tb ∧ Cond.instanceMethod y_Ls_bindOn ∈ mj_tb ∧ Cond.selects (y_Ls_bindOn).cls y_Ls_bindOn y_Ls_bindOn ∈ mj_tb := ⟨mj_mem 457 (by decide +kernel) (by decide +kernel), im_Ls_bindOn, se_Ls_bindOn⟩
theorem st_Ma_min : Cond.static y_Ma_min ∈ mj_tb := mj_mem 463 (by decide +kernel) (by decide +kernel)
theorem lk_Ls_60 : Cond.methodLink "IsomerList$Lister" 60 y_Ma_min ∈ mj_tb ∧ Cond.static y_Ma_min ∈ mj_tb := ⟨mj_mem 462 (by decide +kernel) (by decide +kernel), st_Ma_min⟩
theorem im_Ca_isOverfull : Cond.instanceMethod y_Ca_isOverfull ∈ mj_tb := mj_mem 466 (by decide +kernel) (by decide +kernel)
theorem se_Ca_isOverfull : Cond.selects (y_Ca_isOverfull).cls y_Ca_isOverfull y_Ca_isOverfull ∈ mj_tb := mj_mem 467 (by decide +kernel) (by decide +kernel)
theorem lk_Ls_66 : Cond.methodLink "IsomerList$Lister" 66 y_Ca_isOverfull ∈ mj_tb ∧ Cond.instanceMethod y_Ca_isOverfull ∈ mj_tb ∧ Cond.selects (y_Ca_isOverfull).cls y_Ca_isOverfull y_Ca_isOverfull ∈ mj_tb := ⟨mj_mem 465 (by decide +kernel) (by decide +kernel), im_Ca_isOverfull, se_Ca_isOverfull⟩
theorem im_Ml_bind : Cond.instanceMethod y_Ml_bind ∈ mj_tb := mj_mem 470 (by decide +kernel) (by decide +kernel)
theorem se_Ml_bind : Cond.selects (y_Ml_bind).cls y_Ml_bind y_Ml_bind ∈ mj_tb := mj_mem 471 (by decide +kernel) (by decide +kernel)
theorem lk_Ls_70 : Cond.methodLink "IsomerList$Lister" 70 y_Ml_bind ∈ mj_tb ∧ Cond.instanceMethod y_Ml_bind ∈ mj_tb ∧ Cond.selects (y_Ml_bind).cls y_Ml_bind y_Ml_bind ∈ mj_tb := ⟨mj_mem 469 (by decide +kernel) (by decide +kernel), im_Ml_bind, se_Ml_bind⟩
theorem lk_Ml_60 : Cond.methodLink "IsomerList$Molecule" 60 y_Ml_between ∈ mj_tb ∧ Cond.instanceMethod y_Ml_between ∈ mj_tb ∧ Cond.selects (y_Ml_between).cls y_Ml_between y_Ml_between ∈ mj_tb := ⟨mj_mem 473 (by decide +kernel) (by decide +kernel), im_Ml_between, se_Ml_between⟩
theorem lk_IL_173 : Cond.methodLink "IsomerList" 173 y_Ca_isOverfull ∈ mj_tb ∧ Cond.instanceMethod y_Ca_isOverfull ∈ mj_tb ∧ Cond.selects (y_Ca_isOverfull).cls y_Ca_isOverfull y_Ca_isOverfull ∈ mj_tb := ⟨mj_mem 474 (by decide +kernel) (by decide +kernel), im_Ca_isOverfull, se_Ca_isOverfull⟩
theorem im_IL_read : Cond.instanceMethod y_IL_read ∈ mj_tb := mj_mem 476 (by decide +kernel) (by decide +kernel)
theorem se_IL_read : Cond.selects (y_IL_read).cls y_IL_read y_IL_read ∈ mj_tb := mj_mem 477 (by decide +kernel) (by decide +kernel)
theorem lk_Lw_57 : Cond.methodLink "IsomerListLaw" 57 y_IL_read ∈ mj_tb ∧ Cond.instanceMethod y_IL_read ∈ mj_tb ∧ Cond.selects (y_IL_read).cls y_IL_read y_IL_read ∈ mj_tb := ⟨mj_mem 475 (by decide +kernel) (by decide +kernel), im_IL_read, se_IL_read⟩
theorem im_Tr_readFrom : Cond.instanceMethod y_Tr_readFrom ∈ mj_tb := mj_mem 480 (by decide +kernel) (by decide +kernel)
theorem se_Tr_readFrom : Cond.selects (y_Tr_readFrom).cls y_Tr_readFrom y_Tr_readFrom ∈ mj_tb := mj_mem 481 (by decide +kernel) (by decide +kernel)
theorem lk_IL_109 : Cond.methodLink "IsomerList" 109 y_Tr_readFrom ∈ mj_tb ∧ Cond.instanceMethod y_Tr_readFrom ∈ mj_tb ∧ Cond.selects (y_Tr_readFrom).cls y_Tr_readFrom y_Tr_readFrom ∈ mj_tb := ⟨mj_mem 479 (by decide +kernel) (by decide +kernel), im_Tr_readFrom, se_Tr_readFrom⟩
theorem lk_Tr_28 : Cond.methodLink "IsomerList$TextReader" 28 y_Ml_clear ∈ mj_tb ∧ Cond.instanceMethod y_Ml_clear ∈ mj_tb ∧ Cond.selects (y_Ml_clear).cls y_Ml_clear y_Ml_clear ∈ mj_tb := ⟨mj_mem 483 (by decide +kernel) (by decide +kernel), im_Ml_clear, se_Ml_clear⟩
theorem lk_Tr_31 : Cond.methodLink "IsomerList$TextReader" 31 y_Ar_fill ∈ mj_tb ∧ Cond.static y_Ar_fill ∈ mj_tb := ⟨mj_mem 484 (by decide +kernel) (by decide +kernel), st_Ar_fill⟩
theorem im_Tr_readAtom : Cond.instanceMethod y_Tr_readAtom ∈ mj_tb := mj_mem 487 (by decide +kernel) (by decide +kernel)
theorem se_Tr_readAtom : Cond.selects (y_Tr_readAtom).cls y_Tr_readAtom y_Tr_readAtom ∈ mj_tb := mj_mem 14 (by decide +kernel) (by decide +kernel)
theorem lk_Tr_47 : Cond.methodLink "IsomerList$TextReader" 47 y_Tr_readAtom ∈ mj_tb ∧ Cond.instanceMethod y_Tr_readAtom ∈ mj_tb ∧ Cond.selects (y_Tr_readAtom).cls y_Tr_readAtom y_Tr_readAtom ∈ mj_tb := ⟨mj_mem 485 (by decide +kernel) (by decide +kernel), im_Tr_readAtom, se_Tr_readAtom⟩
theorem lk_Tr_88 : Cond.methodLink "IsomerList$TextReader" 88 y_Ln_elementAt ∈ mj_tb ∧ Cond.instanceMethod y_Ln_elementAt ∈ mj_tb ∧ Cond.selects (y_Ln_elementAt).cls y_Ln_elementAt y_Ln_elementAt ∈ mj_tb := ⟨mj_mem 489 (by decide +kernel) (by decide +kernel), im_Ln_elementAt, se_Ln_elementAt⟩
theorem lk_Tr_95 : Cond.methodLink "IsomerList$TextReader" 95 y_Ml_addAtom ∈ mj_tb ∧ Cond.instanceMethod y_Ml_addAtom ∈ mj_tb ∧ Cond.selects (y_Ml_addAtom).cls y_Ml_addAtom y_Ml_addAtom ∈ mj_tb := ⟨mj_mem 490 (by decide +kernel) (by decide +kernel), im_Ml_addAtom, se_Ml_addAtom⟩
theorem st_Ma_max : Cond.static y_Ma_max ∈ mj_tb := mj_mem 492 (by decide +kernel) (by decide +kernel)
theorem lk_Tr_99 : Cond.methodLink "IsomerList$TextReader" 99 y_Ma_max ∈ mj_tb ∧ Cond.static y_Ma_max ∈ mj_tb := ⟨mj_mem 491 (by decide +kernel) (by decide +kernel), st_Ma_max⟩
theorem lk_Tr_104 : Cond.methodLink "IsomerList$TextReader" 104 y_Ml_bind ∈ mj_tb ∧ Cond.instanceMethod y_Ml_bind ∈ mj_tb ∧ Cond.selects (y_Ml_bind).cls y_Ml_bind y_Ml_bind ∈ mj_tb := ⟨mj_mem 494 (by decide +kernel) (by decide +kernel), im_Ml_bind, se_Ml_bind⟩
theorem im_Tr_readPart : Cond.instanceMethod y_Tr_readPart ∈ mj_tb := mj_mem 498 (by decide +kernel) (by decide +kernel)
theorem se_Tr_readPart : Cond.selects (y_Tr_readPart).cls y_Tr_readPart y_Tr_readPart ∈ mj_tb := mj_mem 15 (by decide +kernel) (by decide +kernel)
theorem lk_Tr_56 : Cond.methodLink "IsomerList$TextReader" 56 y_Tr_readPart ∈ mj_tb ∧ Cond.instanceMethod y_Tr_readPart ∈ mj_tb ∧ Cond.selects (y_Tr_readPart).cls y_Tr_readPart y_Tr_readPart ∈ mj_tb := ⟨mj_mem 496 (by decide +kernel) (by decide +kernel), im_Tr_readPart, se_Tr_readPart⟩
theorem lk_Tr_64 : Cond.methodLink "IsomerList$TextReader" 64 y_Ln_at ∈ mj_tb ∧ Cond.instanceMethod y_Ln_at ∈ mj_tb ∧ Cond.selects (y_Ln_at).cls y_Ln_at y_Ln_at ∈ mj_tb := ⟨mj_mem 500 (by decide +kernel) (by decide +kernel), im_Ln_at, se_Ln_at⟩
theorem im_Tr_closeBranch : Cond.instanceMethod y_Tr_closeBranch ∈ mj_tb := mj_mem 503 (by decide +kernel) (by decide +kernel)
theorem se_Tr_closeBranch : Cond.selects (y_Tr_closeBranch).cls y_Tr_closeBranch y_Tr_closeBranch ∈ mj_tb := mj_mem 16 (by decide +kernel) (by decide +kernel)
theorem lk_Tr_67 : Cond.methodLink "IsomerList$TextReader" 67 y_Tr_closeBranch ∈ mj_tb ∧ Cond.instanceMethod y_Tr_closeBranch ∈ mj_tb ∧ Cond.selects (y_Tr_closeBranch).cls y_Tr_closeBranch y_Tr_closeBranch ∈ mj_tb := ⟨mj_mem 501 (by decide +kernel) (by decide +kernel), im_Tr_closeBranch, se_Tr_closeBranch⟩
theorem im_Tr_openBranch : Cond.instanceMethod y_Tr_openBranch ∈ mj_tb := mj_mem 507 (by decide +kernel) (by decide +kernel)
theorem se_Tr_openBranch : Cond.selects (y_Tr_openBranch).cls y_Tr_openBranch y_Tr_openBranch ∈ mj_tb := mj_mem 17 (by decide +kernel) (by decide +kernel)
theorem lk_Tr_70 : Cond.methodLink "IsomerList$TextReader" 70 y_Tr_openBranch ∈ mj_tb ∧ Cond.instanceMethod y_Tr_openBranch ∈ mj_tb ∧ Cond.selects (y_Tr_openBranch).cls y_Tr_openBranch y_Tr_openBranch ∈ mj_tb := ⟨mj_mem 505 (by decide +kernel) (by decide +kernel), im_Tr_openBranch, se_Tr_openBranch⟩
theorem im_Tr_readBond : Cond.instanceMethod y_Tr_readBond ∈ mj_tb := mj_mem 511 (by decide +kernel) (by decide +kernel)
theorem se_Tr_readBond : Cond.selects (y_Tr_readBond).cls y_Tr_readBond y_Tr_readBond ∈ mj_tb := mj_mem 18 (by decide +kernel) (by decide +kernel)
theorem lk_Tr_73 : Cond.methodLink "IsomerList$TextReader" 73 y_Tr_readBond ∈ mj_tb ∧ Cond.instanceMethod y_Tr_readBond ∈ mj_tb ∧ Cond.selects (y_Tr_readBond).cls y_Tr_readBond y_Tr_readBond ∈ mj_tb := ⟨mj_mem 509 (by decide +kernel) (by decide +kernel), im_Tr_readBond, se_Tr_readBond⟩
theorem im_Tr_readRing : Cond.instanceMethod y_Tr_readRing ∈ mj_tb := mj_mem 516 (by decide +kernel) (by decide +kernel)
theorem se_Tr_readRing : Cond.selects (y_Tr_readRing).cls y_Tr_readRing y_Tr_readRing ∈ mj_tb := mj_mem 19 (by decide +kernel) (by decide +kernel)
theorem lk_Tr_84 : Cond.methodLink "IsomerList$TextReader" 84 y_Tr_readRing ∈ mj_tb ∧ Cond.instanceMethod y_Tr_readRing ∈ mj_tb ∧ Cond.selects (y_Tr_readRing).cls y_Tr_readRing y_Tr_readRing ∈ mj_tb := ⟨mj_mem 514 (by decide +kernel) (by decide +kernel), im_Tr_readRing, se_Tr_readRing⟩
theorem lk_Tr_111 : Cond.methodLink "IsomerList$TextReader" 111 y_Ml_between ∈ mj_tb ∧ Cond.instanceMethod y_Ml_between ∈ mj_tb ∧ Cond.selects (y_Ml_between).cls y_Ml_between y_Ml_between ∈ mj_tb := ⟨mj_mem 518 (by decide +kernel) (by decide +kernel), im_Ml_between, se_Ml_between⟩
theorem im_Tr_faultAtEnd : Cond.instanceMethod y_Tr_faultAtEnd ∈ mj_tb := mj_mem 521 (by decide +kernel) (by decide +kernel)
theorem se_Tr_faultAtEnd : Cond.selects (y_Tr_faultAtEnd).cls y_Tr_faultAtEnd y_Tr_faultAtEnd ∈ mj_tb := mj_mem 20 (by decide +kernel) (by decide +kernel)
theorem lk_Tr_60 : Cond.methodLink "IsomerList$TextReader" 60 y_Tr_faultAtEnd ∈ mj_tb ∧ Cond.instanceMethod y_Tr_faultAtEnd ∈ mj_tb ∧ Cond.selects (y_Tr_faultAtEnd).cls y_Tr_faultAtEnd y_Tr_faultAtEnd ∈ mj_tb := ⟨mj_mem 519 (by decide +kernel) (by decide +kernel), im_Tr_faultAtEnd, se_Tr_faultAtEnd⟩
theorem im_Ml_isOverbound : Cond.instanceMethod y_Ml_isOverbound ∈ mj_tb := mj_mem 524 (by decide +kernel) (by decide +kernel)
theorem se_Ml_isOverbound : Cond.selects (y_Ml_isOverbound).cls y_Ml_isOverbound y_Ml_isOverbound ∈ mj_tb := mj_mem 525 (by decide +kernel) (by decide +kernel)
theorem lk_Tr_114 : Cond.methodLink "IsomerList$TextReader" 114 y_Ml_isOverbound ∈ mj_tb ∧ Cond.instanceMethod y_Ml_isOverbound ∈ mj_tb ∧ Cond.selects (y_Ml_isOverbound).cls y_Ml_isOverbound y_Ml_isOverbound ∈ mj_tb := ⟨mj_mem 523 (by decide +kernel) (by decide +kernel), im_Ml_isOverbound, se_Ml_isOverbound⟩
theorem im_IL_findInList : Cond.instanceMethod y_IL_findInList ∈ mj_tb := mj_mem 529 (by decide +kernel) (by decide +kernel)
theorem se_IL_findInList : Cond.selects (y_IL_findInList).cls y_IL_findInList y_IL_findInList ∈ mj_tb := mj_mem 21 (by decide +kernel) (by decide +kernel)
theorem lk_IL_114 : Cond.methodLink "IsomerList" 114 y_IL_findInList ∈ mj_tb ∧ Cond.instanceMethod y_IL_findInList ∈ mj_tb ∧ Cond.selects (y_IL_findInList).cls y_IL_findInList y_IL_findInList ∈ mj_tb := ⟨mj_mem 527 (by decide +kernel) (by decide +kernel), im_IL_findInList, se_IL_findInList⟩
theorem im_Ca_hasFormulaOf : Cond.instanceMethod y_Ca_hasFormulaOf ∈ mj_tb := mj_mem 532 (by decide +kernel) (by decide +kernel)
theorem se_Ca_hasFormulaOf : Cond.selects (y_Ca_hasFormulaOf).cls y_Ca_hasFormulaOf y_Ca_hasFormulaOf ∈ mj_tb := mj_mem 533 (by decide +kernel) (by decide +kernel)
theorem lk_IL_177 : Cond.methodLink "IsomerList" 177 y_Ca_hasFormulaOf ∈ mj_tb ∧ Cond.instanceMethod y_Ca_hasFormulaOf ∈ mj_tb ∧ Cond.selects (y_Ca_hasFormulaOf).cls y_Ca_hasFormulaOf y_Ca_hasFormulaOf ∈ mj_tb := ⟨mj_mem 531 (by decide +kernel) (by decide +kernel), im_Ca_hasFormulaOf, se_Ca_hasFormulaOf⟩
theorem im_Ml_freeSum : Cond.instanceMethod y_Ml_freeSum ∈ mj_tb := mj_mem 536 (by decide +kernel) (by decide +kernel)
theorem se_Ml_freeSum : Cond.selects (y_Ml_freeSum).cls y_Ml_freeSum y_Ml_freeSum ∈ mj_tb := mj_mem 537 (by decide +kernel) (by decide +kernel)
theorem lk_Ca_31 : Cond.methodLink "IsomerList$Catalogue" 31 y_Ml_freeSum ∈ mj_tb ∧ Cond.instanceMethod y_Ml_freeSum ∈ mj_tb ∧ Cond.selects (y_Ml_freeSum).cls y_Ml_freeSum y_Ml_freeSum ∈ mj_tb := ⟨mj_mem 535 (by decide +kernel) (by decide +kernel), im_Ml_freeSum, se_Ml_freeSum⟩
theorem im_Nu_search : Cond.instanceMethod y_Nu_search ∈ mj_tb := mj_mem 543 (by decide +kernel) (by decide +kernel)
theorem se_Nu_search : Cond.selects (y_Nu_search).cls y_Nu_search y_Nu_search ∈ mj_tb := mj_mem 544 (by decide +kernel) (by decide +kernel)
theorem lk_IL_148 : Cond.methodLink "IsomerList" 148 y_Nu_search ∈ mj_tb ∧ Cond.instanceMethod y_Nu_search ∈ mj_tb ∧ Cond.selects (y_Nu_search).cls y_Nu_search y_Nu_search ∈ mj_tb := ⟨mj_mem 542 (by decide +kernel) (by decide +kernel), im_Nu_search, se_Nu_search⟩
theorem im_Nu_choose : Cond.instanceMethod y_Nu_choose ∈ mj_tb := mj_mem 548 (by decide +kernel) (by decide +kernel)
theorem se_Nu_choose : Cond.selects (y_Nu_choose).cls y_Nu_choose y_Nu_choose ∈ mj_tb := mj_mem 22 (by decide +kernel) (by decide +kernel)
theorem lk_Nu_39 : Cond.methodLink "IsomerList$Numbering" 39 y_Nu_choose ∈ mj_tb ∧ Cond.instanceMethod y_Nu_choose ∈ mj_tb ∧ Cond.selects (y_Nu_choose).cls y_Nu_choose y_Nu_choose ∈ mj_tb := ⟨mj_mem 546 (by decide +kernel) (by decide +kernel), im_Nu_choose, se_Nu_choose⟩
theorem im_Nu_noteCode : Cond.instanceMethod y_Nu_noteCode ∈ mj_tb := mj_mem 552 (by decide +kernel) (by decide +kernel)
theorem se_Nu_noteCode : Cond.selects (y_Nu_noteCode).cls y_Nu_noteCode y_Nu_noteCode ∈ mj_tb := mj_mem 23 (by decide +kernel) (by decide +kernel)
theorem lk_Nu_50 : Cond.methodLink "IsomerList$Numbering" 50 y_Nu_noteCode ∈ mj_tb ∧ Cond.instanceMethod y_Nu_noteCode ∈ mj_tb ∧ Cond.selects (y_Nu_noteCode).cls y_Nu_noteCode y_Nu_noteCode ∈ mj_tb := ⟨mj_mem 550 (by decide +kernel) (by decide +kernel), im_Nu_noteCode, se_Nu_noteCode⟩
theorem im_Ca_find : Cond.instanceMethod y_Ca_find ∈ mj_tb := mj_mem 555 (by decide +kernel) (by decide +kernel)
theorem se_Ca_find : Cond.selects (y_Ca_find).cls y_Ca_find y_Ca_find ∈ mj_tb := mj_mem 556 (by decide +kernel) (by decide +kernel)
theorem lk_IL_184 : Cond.methodLink "IsomerList" 184 y_Ca_find ∈ mj_tb ∧ Cond.instanceMethod y_Ca_find ∈ mj_tb ∧ Cond.selects (y_Ca_find).cls y_Ca_find y_Ca_find ∈ mj_tb := ⟨mj_mem 554 (by decide +kernel) (by decide +kernel), im_Ca_find, se_Ca_find⟩
theorem im_IL_place : Cond.instanceMethod y_IL_place ∈ mj_tb := mj_mem 559 (by decide +kernel) (by decide +kernel)
theorem se_IL_place : Cond.selects (y_IL_place).cls y_IL_place y_IL_place ∈ mj_tb := mj_mem 560 (by decide +kernel) (by decide +kernel)
theorem lk_Lw_61 : Cond.methodLink "IsomerListLaw" 61 y_IL_place ∈ mj_tb ∧ Cond.instanceMethod y_IL_place ∈ mj_tb ∧ Cond.selects (y_IL_place).cls y_IL_place y_IL_place ∈ mj_tb := ⟨mj_mem 558 (by decide +kernel) (by decide +kernel), im_IL_place, se_IL_place⟩
theorem im_IL_count : Cond.instanceMethod y_IL_count ∈ mj_tb := mj_mem 563 (by decide +kernel) (by decide +kernel)
theorem se_IL_count : Cond.selects (y_IL_count).cls y_IL_count y_IL_count ∈ mj_tb := mj_mem 564 (by decide +kernel) (by decide +kernel)
theorem lk_Lw_65 : Cond.methodLink "IsomerListLaw" 65 y_IL_count ∈ mj_tb ∧ Cond.instanceMethod y_IL_count ∈ mj_tb ∧ Cond.selects (y_IL_count).cls y_IL_count y_IL_count ∈ mj_tb := ⟨mj_mem 562 (by decide +kernel) (by decide +kernel), im_IL_count, se_IL_count⟩
theorem im_IL_character : Cond.instanceMethod y_IL_character ∈ mj_tb := mj_mem 567 (by decide +kernel) (by decide +kernel)
theorem se_IL_character : Cond.selects (y_IL_character).cls y_IL_character y_IL_character ∈ mj_tb := mj_mem 568 (by decide +kernel) (by decide +kernel)
theorem lk_Lw_87 : Cond.methodLink "IsomerListLaw" 87 y_IL_character ∈ mj_tb ∧ Cond.instanceMethod y_IL_character ∈ mj_tb ∧ Cond.selects (y_IL_character).cls y_IL_character y_IL_character ∈ mj_tb := ⟨mj_mem 566 (by decide +kernel) (by decide +kernel), im_IL_character, se_IL_character⟩
theorem lk_IL_159 : Cond.methodLink "IsomerList" 159 y_Ln_at ∈ mj_tb ∧ Cond.instanceMethod y_Ln_at ∈ mj_tb ∧ Cond.selects (y_Ln_at).cls y_Ln_at y_Ln_at ∈ mj_tb := ⟨mj_mem 570 (by decide +kernel) (by decide +kernel), im_Ln_at, se_Ln_at⟩
theorem im_IL_type : Cond.instanceMethod y_IL_type ∈ mj_tb := mj_mem 576 (by decide +kernel) (by decide +kernel)
theorem se_IL_type : Cond.selects (y_IL_type).cls y_IL_type y_IL_type ∈ mj_tb := mj_mem 577 (by decide +kernel) (by decide +kernel)
theorem lk_Lw_7 : Cond.methodLink "IsomerListLaw" 7 y_IL_type ∈ mj_tb ∧ Cond.instanceMethod y_IL_type ∈ mj_tb ∧ Cond.selects (y_IL_type).cls y_IL_type y_IL_type ∈ mj_tb := ⟨mj_mem 575 (by decide +kernel) (by decide +kernel), im_IL_type, se_IL_type⟩
theorem im_Ln_add : Cond.instanceMethod y_Ln_add ∈ mj_tb := mj_mem 642 (by decide +kernel) (by decide +kernel)
theorem se_Ln_add : Cond.selects (y_Ln_add).cls y_Ln_add y_Ln_add ∈ mj_tb := mj_mem 643 (by decide +kernel) (by decide +kernel)
theorem lk_IL_80 : Cond.methodLink "IsomerList" 80 y_Ln_add ∈ mj_tb ∧ Cond.instanceMethod y_Ln_add ∈ mj_tb ∧ Cond.selects (y_Ln_add).cls y_Ln_add y_Ln_add ∈ mj_tb := ⟨mj_mem 641 (by decide +kernel) (by decide +kernel), im_Ln_add, se_Ln_add⟩
theorem im_IL_element : Cond.instanceMethod y_IL_element ∈ mj_tb := mj_mem 650 (by decide +kernel) (by decide +kernel)
theorem se_IL_element : Cond.selects (y_IL_element).cls y_IL_element y_IL_element ∈ mj_tb := mj_mem 651 (by decide +kernel) (by decide +kernel)
theorem lk_Lw_15 : Cond.methodLink "IsomerListLaw" 15 y_IL_element ∈ mj_tb ∧ Cond.instanceMethod y_IL_element ∈ mj_tb ∧ Cond.selects (y_IL_element).cls y_IL_element y_IL_element ∈ mj_tb := ⟨mj_mem 649 (by decide +kernel) (by decide +kernel), im_IL_element, se_IL_element⟩
theorem im_IL_checkAtom : Cond.instanceMethod y_IL_checkAtom ∈ mj_tb := mj_mem 655 (by decide +kernel) (by decide +kernel)
theorem se_IL_checkAtom : Cond.selects (y_IL_checkAtom).cls y_IL_checkAtom y_IL_checkAtom ∈ mj_tb := mj_mem 25 (by decide +kernel) (by decide +kernel)
theorem lk_IL_124 : Cond.methodLink "IsomerList" 124 y_IL_checkAtom ∈ mj_tb ∧ Cond.instanceMethod y_IL_checkAtom ∈ mj_tb ∧ Cond.selects (y_IL_checkAtom).cls y_IL_checkAtom y_IL_checkAtom ∈ mj_tb := ⟨mj_mem 653 (by decide +kernel) (by decide +kernel), im_IL_checkAtom, se_IL_checkAtom⟩
theorem im_IL_bond : Cond.instanceMethod y_IL_bond ∈ mj_tb := mj_mem 676 (by decide +kernel) (by decide +kernel)
theorem se_IL_bond : Cond.selects (y_IL_bond).cls y_IL_bond y_IL_bond ∈ mj_tb := mj_mem 677 (by decide +kernel) (by decide +kernel)
theorem lk_Lw_21 : Cond.methodLink "IsomerListLaw" 21 y_IL_bond ∈ mj_tb ∧ Cond.instanceMethod y_IL_bond ∈ mj_tb ∧ Cond.selects (y_IL_bond).cls y_IL_bond y_IL_bond ∈ mj_tb := ⟨mj_mem 675 (by decide +kernel) (by decide +kernel), im_IL_bond, se_IL_bond⟩
theorem im_IL_checkStructure : Cond.instanceMethod y_IL_checkStructure ∈ mj_tb := mj_mem 681 (by decide +kernel) (by decide +kernel)
theorem se_IL_checkStructure : Cond.selects (y_IL_checkStructure).cls y_IL_checkStructure y_IL_checkStructure ∈ mj_tb := mj_mem 26 (by decide +kernel) (by decide +kernel)
theorem lk_IL_131 : Cond.methodLink "IsomerList" 131 y_IL_checkStructure ∈ mj_tb ∧ Cond.instanceMethod y_IL_checkStructure ∈ mj_tb ∧ Cond.selects (y_IL_checkStructure).cls y_IL_checkStructure y_IL_checkStructure ∈ mj_tb := ⟨mj_mem 679 (by decide +kernel) (by decide +kernel), im_IL_checkStructure, se_IL_checkStructure⟩
theorem im_Ml_build : Cond.instanceMethod y_Ml_build ∈ mj_tb := mj_mem 684 (by decide +kernel) (by decide +kernel)
theorem se_Ml_build : Cond.selects (y_Ml_build).cls y_Ml_build y_Ml_build ∈ mj_tb := mj_mem 685 (by decide +kernel) (by decide +kernel)
theorem lk_IL_134 : Cond.methodLink "IsomerList" 134 y_Ml_build ∈ mj_tb ∧ Cond.instanceMethod y_Ml_build ∈ mj_tb ∧ Cond.selects (y_Ml_build).cls y_Ml_build y_Ml_build ∈ mj_tb := ⟨mj_mem 683 (by decide +kernel) (by decide +kernel), im_Ml_build, se_Ml_build⟩
theorem lk_Ml_45 : Cond.methodLink "IsomerList$Molecule" 45 y_Ml_addAtomsOf ∈ mj_tb ∧ Cond.instanceMethod y_Ml_addAtomsOf ∈ mj_tb ∧ Cond.selects (y_Ml_addAtomsOf).cls y_Ml_addAtomsOf y_Ml_addAtomsOf ∈ mj_tb := ⟨mj_mem 687 (by decide +kernel) (by decide +kernel), im_Ml_addAtomsOf, se_Ml_addAtomsOf⟩
theorem lk_Ml_56 : Cond.methodLink "IsomerList$Molecule" 56 y_Ml_bind ∈ mj_tb ∧ Cond.instanceMethod y_Ml_bind ∈ mj_tb ∧ Cond.selects (y_Ml_bind).cls y_Ml_bind y_Ml_bind ∈ mj_tb := ⟨mj_mem 689 (by decide +kernel) (by decide +kernel), im_Ml_bind, se_Ml_bind⟩
theorem lk_IL_138 : Cond.methodLink "IsomerList" 138 y_Ml_between ∈ mj_tb ∧ Cond.instanceMethod y_Ml_between ∈ mj_tb ∧ Cond.selects (y_Ml_between).cls y_Ml_between y_Ml_between ∈ mj_tb := ⟨mj_mem 690 (by decide +kernel) (by decide +kernel), im_Ml_between, se_Ml_between⟩
theorem im_IL_hydrogens : Cond.instanceMethod y_IL_hydrogens ∈ mj_tb := mj_mem 695 (by decide +kernel) (by decide +kernel)
theorem se_IL_hydrogens : Cond.selects (y_IL_hydrogens).cls y_IL_hydrogens y_IL_hydrogens ∈ mj_tb := mj_mem 696 (by decide +kernel) (by decide +kernel)
theorem lk_Lw_25 : Cond.methodLink "IsomerListLaw" 25 y_IL_hydrogens ∈ mj_tb ∧ Cond.instanceMethod y_IL_hydrogens ∈ mj_tb ∧ Cond.selects (y_IL_hydrogens).cls y_IL_hydrogens y_IL_hydrogens ∈ mj_tb := ⟨mj_mem 694 (by decide +kernel) (by decide +kernel), im_IL_hydrogens, se_IL_hydrogens⟩
theorem im_IL_ways : Cond.instanceMethod y_IL_ways ∈ mj_tb := mj_mem 702 (by decide +kernel) (by decide +kernel)
theorem se_IL_ways : Cond.selects (y_IL_ways).cls y_IL_ways y_IL_ways ∈ mj_tb := mj_mem 703 (by decide +kernel) (by decide +kernel)
theorem lk_Lw_29 : Cond.methodLink "IsomerListLaw" 29 y_IL_ways ∈ mj_tb ∧ Cond.instanceMethod y_IL_ways ∈ mj_tb ∧ Cond.selects (y_IL_ways).cls y_IL_ways y_IL_ways ∈ mj_tb := ⟨mj_mem 701 (by decide +kernel) (by decide +kernel), im_IL_ways, se_IL_ways⟩
theorem im_IL_write : Cond.instanceMethod y_IL_write ∈ mj_tb := mj_mem 709 (by decide +kernel) (by decide +kernel)
theorem se_IL_write : Cond.selects (y_IL_write).cls y_IL_write y_IL_write ∈ mj_tb := mj_mem 710 (by decide +kernel) (by decide +kernel)
theorem lk_Lw_32 : Cond.methodLink "IsomerListLaw" 32 y_IL_write ∈ mj_tb ∧ Cond.instanceMethod y_IL_write ∈ mj_tb ∧ Cond.selects (y_IL_write).cls y_IL_write y_IL_write ∈ mj_tb := ⟨mj_mem 708 (by decide +kernel) (by decide +kernel), im_IL_write, se_IL_write⟩
theorem im_Tw_writeTo : Cond.instanceMethod y_Tw_writeTo ∈ mj_tb := mj_mem 713 (by decide +kernel) (by decide +kernel)
theorem se_Tw_writeTo : Cond.selects (y_Tw_writeTo).cls y_Tw_writeTo y_Tw_writeTo ∈ mj_tb := mj_mem 714 (by decide +kernel) (by decide +kernel)
theorem lk_IL_155 : Cond.methodLink "IsomerList" 155 y_Tw_writeTo ∈ mj_tb ∧ Cond.instanceMethod y_Tw_writeTo ∈ mj_tb ∧ Cond.selects (y_Tw_writeTo).cls y_Tw_writeTo y_Tw_writeTo ∈ mj_tb := ⟨mj_mem 712 (by decide +kernel) (by decide +kernel), im_Tw_writeTo, se_Tw_writeTo⟩
theorem lk_Tw_33 : Cond.methodLink "IsomerList$TextWriter" 33 y_Ar_fill ∈ mj_tb ∧ Cond.static y_Ar_fill ∈ mj_tb := ⟨mj_mem 716 (by decide +kernel) (by decide +kernel), st_Ar_fill⟩
theorem im_Tw_goThrough : Cond.instanceMethod y_Tw_goThrough ∈ mj_tb := mj_mem 719 (by decide +kernel) (by decide +kernel)
theorem se_Tw_goThrough : Cond.selects (y_Tw_goThrough).cls y_Tw_goThrough y_Tw_goThrough ∈ mj_tb := mj_mem 27 (by decide +kernel) (by decide +kernel)
theorem lk_Tw_39 : Cond.methodLink "IsomerList$TextWriter" 39 y_Tw_goThrough ∈ mj_tb ∧ Cond.instanceMethod y_Tw_goThrough ∈ mj_tb ∧ Cond.selects (y_Tw_goThrough).cls y_Tw_goThrough y_Tw_goThrough ∈ mj_tb := ⟨mj_mem 717 (by decide +kernel) (by decide +kernel), im_Tw_goThrough, se_Tw_goThrough⟩
theorem lk_Tw_57 : Cond.methodLink "IsomerList$TextWriter" 57 y_Ml_between ∈ mj_tb ∧ Cond.instanceMethod y_Ml_between ∈ mj_tb ∧ Cond.selects (y_Ml_between).cls y_Ml_between y_Ml_between ∈ mj_tb := ⟨mj_mem 721 (by decide +kernel) (by decide +kernel), im_Ml_between, se_Ml_between⟩
theorem im_Tw_meetRing : Cond.instanceMethod y_Tw_meetRing ∈ mj_tb := mj_mem 724 (by decide +kernel) (by decide +kernel)
theorem se_Tw_meetRing : Cond.selects (y_Tw_meetRing).cls y_Tw_meetRing y_Tw_meetRing ∈ mj_tb := mj_mem 28 (by decide +kernel) (by decide +kernel)
theorem lk_Tw_61 : Cond.methodLink "IsomerList$TextWriter" 61 y_Tw_meetRing ∈ mj_tb ∧ Cond.instanceMethod y_Tw_meetRing ∈ mj_tb ∧ Cond.selects (y_Tw_meetRing).cls y_Tw_meetRing y_Tw_meetRing ∈ mj_tb := ⟨mj_mem 722 (by decide +kernel) (by decide +kernel), im_Tw_meetRing, se_Tw_meetRing⟩
theorem lk_Tw_43 : Cond.methodLink "IsomerList$TextWriter" 43 y_Ln_clear ∈ mj_tb ∧ Cond.instanceMethod y_Ln_clear ∈ mj_tb ∧ Cond.selects (y_Ln_clear).cls y_Ln_clear y_Ln_clear ∈ mj_tb := ⟨mj_mem 726 (by decide +kernel) (by decide +kernel), im_Ln_clear, se_Ln_clear⟩
theorem im_Tw_putAtom : Cond.instanceMethod y_Tw_putAtom ∈ mj_tb := mj_mem 729 (by decide +kernel) (by decide +kernel)
theorem se_Tw_putAtom : Cond.selects (y_Tw_putAtom).cls y_Tw_putAtom y_Tw_putAtom ∈ mj_tb := mj_mem 29 (by decide +kernel) (by decide +kernel)
theorem lk_Tw_48 : Cond.methodLink "IsomerList$TextWriter" 48 y_Tw_putAtom ∈ mj_tb ∧ Cond.instanceMethod y_Tw_putAtom ∈ mj_tb ∧ Cond.selects (y_Tw_putAtom).cls y_Tw_putAtom y_Tw_putAtom ∈ mj_tb := ⟨mj_mem 727 (by decide +kernel) (by decide +kernel), im_Tw_putAtom, se_Tw_putAtom⟩
theorem im_Ln_addElement : Cond.instanceMethod y_Ln_addElement ∈ mj_tb := mj_mem 732 (by decide +kernel) (by decide +kernel)
theorem se_Ln_addElement : Cond.selects (y_Ln_addElement).cls y_Ln_addElement y_Ln_addElement ∈ mj_tb := mj_mem 733 (by decide +kernel) (by decide +kernel)
theorem lk_Tw_67 : Cond.methodLink "IsomerList$TextWriter" 67 y_Ln_addElement ∈ mj_tb ∧ Cond.instanceMethod y_Ln_addElement ∈ mj_tb ∧ Cond.selects (y_Ln_addElement).cls y_Ln_addElement y_Ln_addElement ∈ mj_tb := ⟨mj_mem 731 (by decide +kernel) (by decide +kernel), im_Ln_addElement, se_Ln_addElement⟩
theorem lk_Ln_29 : Cond.methodLink "IsomerList$Line" 29 y_Ln_add ∈ mj_tb ∧ Cond.instanceMethod y_Ln_add ∈ mj_tb ∧ Cond.selects (y_Ln_add).cls y_Ln_add y_Ln_add ∈ mj_tb := ⟨mj_mem 735 (by decide +kernel) (by decide +kernel), im_Ln_add, se_Ln_add⟩
theorem im_Tw_putRings : Cond.instanceMethod y_Tw_putRings ∈ mj_tb := mj_mem 738 (by decide +kernel) (by decide +kernel)
theorem se_Tw_putRings : Cond.selects (y_Tw_putRings).cls y_Tw_putRings y_Tw_putRings ∈ mj_tb := mj_mem 30 (by decide +kernel) (by decide +kernel)
theorem lk_Tw_70 : Cond.methodLink "IsomerList$TextWriter" 70 y_Tw_putRings ∈ mj_tb ∧ Cond.instanceMethod y_Tw_putRings ∈ mj_tb ∧ Cond.selects (y_Tw_putRings).cls y_Tw_putRings y_Tw_putRings ∈ mj_tb := ⟨mj_mem 736 (by decide +kernel) (by decide +kernel), im_Tw_putRings, se_Tw_putRings⟩
theorem im_Ln_addBond : Cond.instanceMethod y_Ln_addBond ∈ mj_tb := mj_mem 741 (by decide +kernel) (by decide +kernel)
theorem se_Ln_addBond : Cond.selects (y_Ln_addBond).cls y_Ln_addBond y_Ln_addBond ∈ mj_tb := mj_mem 742 (by decide +kernel) (by decide +kernel)
theorem lk_Tw_84 : Cond.methodLink "IsomerList$TextWriter" 84 y_Ln_addBond ∈ mj_tb ∧ Cond.instanceMethod y_Ln_addBond ∈ mj_tb ∧ Cond.selects (y_Ln_addBond).cls y_Ln_addBond y_Ln_addBond ∈ mj_tb := ⟨mj_mem 740 (by decide +kernel) (by decide +kernel), im_Ln_addBond, se_Ln_addBond⟩
theorem lk_Tw_77 : Cond.methodLink "IsomerList$TextWriter" 77 y_Ln_add ∈ mj_tb ∧ Cond.instanceMethod y_Ln_add ∈ mj_tb ∧ Cond.selects (y_Ln_add).cls y_Ln_add y_Ln_add ∈ mj_tb := ⟨mj_mem 744 (by decide +kernel) (by decide +kernel), im_Ln_add, se_Ln_add⟩
theorem im_Tw_lastFurtherOn : Cond.instanceMethod y_Tw_lastFurtherOn ∈ mj_tb := mj_mem 747 (by decide +kernel) (by decide +kernel)
theorem se_Tw_lastFurtherOn : Cond.selects (y_Tw_lastFurtherOn).cls y_Tw_lastFurtherOn y_Tw_lastFurtherOn ∈ mj_tb := mj_mem 31 (by decide +kernel) (by decide +kernel)
theorem lk_Tw_73 : Cond.methodLink "IsomerList$TextWriter" 73 y_Tw_lastFurtherOn ∈ mj_tb ∧ Cond.instanceMethod y_Tw_lastFurtherOn ∈ mj_tb ∧ Cond.selects (y_Tw_lastFurtherOn).cls y_Tw_lastFurtherOn y_Tw_lastFurtherOn ∈ mj_tb := ⟨mj_mem 745 (by decide +kernel) (by decide +kernel), im_Tw_lastFurtherOn, se_Tw_lastFurtherOn⟩
theorem im_Tw_putBound : Cond.instanceMethod y_Tw_putBound ∈ mj_tb := mj_mem 751 (by decide +kernel) (by decide +kernel)
theorem se_Tw_putBound : Cond.selects (y_Tw_putBound).cls y_Tw_putBound y_Tw_putBound ∈ mj_tb := mj_mem 32 (by decide +kernel) (by decide +kernel)
theorem lk_Tw_81 : Cond.methodLink "IsomerList$TextWriter" 81 y_Tw_putBound ∈ mj_tb ∧ Cond.instanceMethod y_Tw_putBound ∈ mj_tb ∧ Cond.selects (y_Tw_putBound).cls y_Tw_putBound y_Tw_putBound ∈ mj_tb := ⟨mj_mem 749 (by decide +kernel) (by decide +kernel), im_Tw_putBound, se_Tw_putBound⟩
theorem im_Mo_init : Cond.instanceMethod y_Mo_init ∈ mj_tb := mj_mem 756 (by decide +kernel) (by decide +kernel)
theorem lk_Lw_38 : Cond.methodLink "IsomerListLaw" 38 y_Mo_init ∈ mj_tb ∧ Cond.instanceMethod y_Mo_init ∈ mj_tb ∧ (y_Mo_init).name = "<init>" := ⟨mj_mem 755 (by decide +kernel) (by decide +kernel), im_Mo_init, rfl⟩
theorem im_Mo_thrown : Cond.instanceMethod y_Mo_thrown ∈ mj_tb := mj_mem 860 (by decide +kernel) (by decide +kernel)
theorem se_Mo_thrown : Cond.selects (y_Mo_thrown).cls y_Mo_thrown y_Mo_thrown ∈ mj_tb := mj_mem 861 (by decide +kernel) (by decide +kernel)
theorem lk_Lw_45 : Cond.methodLink "IsomerListLaw" 45 y_Mo_thrown ∈ mj_tb ∧ Cond.instanceMethod y_Mo_thrown ∈ mj_tb ∧ Cond.selects (y_Mo_thrown).cls y_Mo_thrown y_Mo_thrown ∈ mj_tb := ⟨mj_mem 859 (by decide +kernel) (by decide +kernel), im_Mo_thrown, se_Mo_thrown⟩
theorem im_Mo_type : Cond.instanceMethod y_Mo_type ∈ mj_tb := mj_mem 864 (by decide +kernel) (by decide +kernel)
theorem se_Mo_type : Cond.selects (y_Mo_type).cls y_Mo_type y_Mo_type ∈ mj_tb := mj_mem 865 (by decide +kernel) (by decide +kernel)
theorem lk_Lw_44 : Cond.methodLink "IsomerListLaw" 44 y_Mo_type ∈ mj_tb ∧ Cond.instanceMethod y_Mo_type ∈ mj_tb ∧ Cond.selects (y_Mo_type).cls y_Mo_type y_Mo_type ∈ mj_tb := ⟨mj_mem 863 (by decide +kernel) (by decide +kernel), im_Mo_type, se_Mo_type⟩
theorem im_Mo_refused : Cond.instanceMethod y_Mo_refused ∈ mj_tb := mj_mem 869 (by decide +kernel) (by decide +kernel)
theorem se_Mo_refused : Cond.selects (y_Mo_refused).cls y_Mo_refused y_Mo_refused ∈ mj_tb := mj_mem 33 (by decide +kernel) (by decide +kernel)
theorem lk_Mo_91 : Cond.methodLink "IsomerListModel" 91 y_Mo_refused ∈ mj_tb ∧ Cond.instanceMethod y_Mo_refused ∈ mj_tb ∧ Cond.selects (y_Mo_refused).cls y_Mo_refused y_Mo_refused ∈ mj_tb := ⟨mj_mem 867 (by decide +kernel) (by decide +kernel), im_Mo_refused, se_Mo_refused⟩
theorem im_Mo_erase : Cond.instanceMethod y_Mo_erase ∈ mj_tb := mj_mem 872 (by decide +kernel) (by decide +kernel)
theorem se_Mo_erase : Cond.selects (y_Mo_erase).cls y_Mo_erase y_Mo_erase ∈ mj_tb := mj_mem 873 (by decide +kernel) (by decide +kernel)
theorem lk_Lw_52 : Cond.methodLink "IsomerListLaw" 52 y_Mo_erase ∈ mj_tb ∧ Cond.instanceMethod y_Mo_erase ∈ mj_tb ∧ Cond.selects (y_Mo_erase).cls y_Mo_erase y_Mo_erase ∈ mj_tb := ⟨mj_mem 871 (by decide +kernel) (by decide +kernel), im_Mo_erase, se_Mo_erase⟩
theorem im_Mo_character : Cond.instanceMethod y_Mo_character ∈ mj_tb := mj_mem 876 (by decide +kernel) (by decide +kernel)
theorem se_Mo_character : Cond.selects (y_Mo_character).cls y_Mo_character y_Mo_character ∈ mj_tb := mj_mem 877 (by decide +kernel) (by decide +kernel)
theorem lk_Lw_91 : Cond.methodLink "IsomerListLaw" 91 y_Mo_character ∈ mj_tb ∧ Cond.instanceMethod y_Mo_character ∈ mj_tb ∧ Cond.selects (y_Mo_character).cls y_Mo_character y_Mo_character ∈ mj_tb := ⟨mj_mem 875 (by decide +kernel) (by decide +kernel), im_Mo_character, se_Mo_character⟩
theorem im_Mo_formula : Cond.instanceMethod y_Mo_formula ∈ mj_tb := mj_mem 880 (by decide +kernel) (by decide +kernel)
theorem se_Mo_formula : Cond.selects (y_Mo_formula).cls y_Mo_formula y_Mo_formula ∈ mj_tb := mj_mem 881 (by decide +kernel) (by decide +kernel)
theorem lk_Lw_56 : Cond.methodLink "IsomerListLaw" 56 y_Mo_formula ∈ mj_tb ∧ Cond.instanceMethod y_Mo_formula ∈ mj_tb ∧ Cond.selects (y_Mo_formula).cls y_Mo_formula y_Mo_formula ∈ mj_tb := ⟨mj_mem 879 (by decide +kernel) (by decide +kernel), im_Mo_formula, se_Mo_formula⟩
theorem im_Mo_elementAt : Cond.instanceMethod y_Mo_elementAt ∈ mj_tb := mj_mem 885 (by decide +kernel) (by decide +kernel)
theorem se_Mo_elementAt : Cond.selects (y_Mo_elementAt).cls y_Mo_elementAt y_Mo_elementAt ∈ mj_tb := mj_mem 34 (by decide +kernel) (by decide +kernel)
theorem lk_Mo_99 : Cond.methodLink "IsomerListModel" 99 y_Mo_elementAt ∈ mj_tb ∧ Cond.instanceMethod y_Mo_elementAt ∈ mj_tb ∧ Cond.selects (y_Mo_elementAt).cls y_Mo_elementAt y_Mo_elementAt ∈ mj_tb := ⟨mj_mem 883 (by decide +kernel) (by decide +kernel), im_Mo_elementAt, se_Mo_elementAt⟩
theorem im_Mo_at : Cond.instanceMethod y_Mo_at ∈ mj_tb := mj_mem 889 (by decide +kernel) (by decide +kernel)
theorem se_Mo_at : Cond.selects (y_Mo_at).cls y_Mo_at y_Mo_at ∈ mj_tb := mj_mem 35 (by decide +kernel) (by decide +kernel)
theorem lk_Mo_95 : Cond.methodLink "IsomerListModel" 95 y_Mo_at ∈ mj_tb ∧ Cond.instanceMethod y_Mo_at ∈ mj_tb ∧ Cond.selects (y_Mo_at).cls y_Mo_at y_Mo_at ∈ mj_tb := ⟨mj_mem 887 (by decide +kernel) (by decide +kernel), im_Mo_at, se_Mo_at⟩
theorem im_Mo_fault : Cond.instanceMethod y_Mo_fault ∈ mj_tb := mj_mem 893 (by decide +kernel) (by decide +kernel)
theorem se_Mo_fault : Cond.selects (y_Mo_fault).cls y_Mo_fault y_Mo_fault ∈ mj_tb := mj_mem 36 (by decide +kernel) (by decide +kernel)
theorem lk_Mo_103 : Cond.methodLink "IsomerListModel" 103 y_Mo_fault ∈ mj_tb ∧ Cond.instanceMethod y_Mo_fault ∈ mj_tb ∧ Cond.selects (y_Mo_fault).cls y_Mo_fault y_Mo_fault ∈ mj_tb := ⟨mj_mem 891 (by decide +kernel) (by decide +kernel), im_Mo_fault, se_Mo_fault⟩
theorem st_Mo_signSize : Cond.static y_Mo_signSize ∈ mj_tb := mj_mem 896 (by decide +kernel) (by decide +kernel)
theorem lk_Mo_107 : Cond.methodLink "IsomerListModel" 107 y_Mo_signSize ∈ mj_tb ∧ Cond.static y_Mo_signSize ∈ mj_tb := ⟨mj_mem 895 (by decide +kernel) (by decide +kernel), st_Mo_signSize⟩
theorem st_Mo_isDigit : Cond.static y_Mo_isDigit ∈ mj_tb := mj_mem 899 (by decide +kernel) (by decide +kernel)
theorem lk_Mo_110 : Cond.methodLink "IsomerListModel" 110 y_Mo_isDigit ∈ mj_tb ∧ Cond.static y_Mo_isDigit ∈ mj_tb := ⟨mj_mem 898 (by decide +kernel) (by decide +kernel), st_Mo_isDigit⟩
theorem st_Mo_valence : Cond.static y_Mo_valence ∈ mj_tb := mj_mem 902 (by decide +kernel) (by decide +kernel)
theorem lk_Mo_114 : Cond.methodLink "IsomerListModel" 114 y_Mo_valence ∈ mj_tb ∧ Cond.static y_Mo_valence ∈ mj_tb := ⟨mj_mem 901 (by decide +kernel) (by decide +kernel), st_Mo_valence⟩
theorem im_Mo_search : Cond.instanceMethod y_Mo_search ∈ mj_tb := mj_mem 906 (by decide +kernel) (by decide +kernel)
theorem se_Mo_search : Cond.selects (y_Mo_search).cls y_Mo_search y_Mo_search ∈ mj_tb := mj_mem 37 (by decide +kernel) (by decide +kernel)
theorem lk_Mo_126 : Cond.methodLink "IsomerListModel" 126 y_Mo_search ∈ mj_tb ∧ Cond.instanceMethod y_Mo_search ∈ mj_tb ∧ Cond.selects (y_Mo_search).cls y_Mo_search y_Mo_search ∈ mj_tb := ⟨mj_mem 904 (by decide +kernel) (by decide +kernel), im_Mo_search, se_Mo_search⟩
theorem im_Mo_keep : Cond.instanceMethod y_Mo_keep ∈ mj_tb := mj_mem 910 (by decide +kernel) (by decide +kernel)
theorem se_Mo_keep : Cond.selects (y_Mo_keep).cls y_Mo_keep y_Mo_keep ∈ mj_tb := mj_mem 38 (by decide +kernel) (by decide +kernel)
theorem lk_Mo_144 : Cond.methodLink "IsomerListModel" 144 y_Mo_keep ∈ mj_tb ∧ Cond.instanceMethod y_Mo_keep ∈ mj_tb ∧ Cond.selects (y_Mo_keep).cls y_Mo_keep y_Mo_keep ∈ mj_tb := ⟨mj_mem 908 (by decide +kernel) (by decide +kernel), im_Mo_keep, se_Mo_keep⟩
theorem im_Mo_isOne : Cond.instanceMethod y_Mo_isOne ∈ mj_tb := mj_mem 914 (by decide +kernel) (by decide +kernel)
theorem se_Mo_isOne : Cond.selects (y_Mo_isOne).cls y_Mo_isOne y_Mo_isOne ∈ mj_tb := mj_mem 39 (by decide +kernel) (by decide +kernel)
theorem lk_Mo_158 : Cond.methodLink "IsomerListModel" 158 y_Mo_isOne ∈ mj_tb ∧ Cond.instanceMethod y_Mo_isOne ∈ mj_tb ∧ Cond.selects (y_Mo_isOne).cls y_Mo_isOne y_Mo_isOne ∈ mj_tb := ⟨mj_mem 912 (by decide +kernel) (by decide +kernel), im_Mo_isOne, se_Mo_isOne⟩
theorem st_Mo_upper : Cond.static y_Mo_upper ∈ mj_tb := mj_mem 917 (by decide +kernel) (by decide +kernel)
theorem lk_Mo_138 : Cond.methodLink "IsomerListModel" 138 y_Mo_upper ∈ mj_tb ∧ Cond.static y_Mo_upper ∈ mj_tb := ⟨mj_mem 916 (by decide +kernel) (by decide +kernel), st_Mo_upper⟩
theorem st_Mo_lower : Cond.static y_Mo_lower ∈ mj_tb := mj_mem 920 (by decide +kernel) (by decide +kernel)
theorem lk_Mo_141 : Cond.methodLink "IsomerListModel" 141 y_Mo_lower ∈ mj_tb ∧ Cond.static y_Mo_lower ∈ mj_tb := ⟨mj_mem 919 (by decide +kernel) (by decide +kernel), st_Mo_lower⟩
theorem im_Mo_change : Cond.instanceMethod y_Mo_change ∈ mj_tb := mj_mem 924 (by decide +kernel) (by decide +kernel)
theorem se_Mo_change : Cond.selects (y_Mo_change).cls y_Mo_change y_Mo_change ∈ mj_tb := mj_mem 40 (by decide +kernel) (by decide +kernel)
theorem lk_Mo_148 : Cond.methodLink "IsomerListModel" 148 y_Mo_change ∈ mj_tb ∧ Cond.instanceMethod y_Mo_change ∈ mj_tb ∧ Cond.selects (y_Mo_change).cls y_Mo_change y_Mo_change ∈ mj_tb := ⟨mj_mem 922 (by decide +kernel) (by decide +kernel), im_Mo_change, se_Mo_change⟩
theorem st_Mo_least : Cond.static y_Mo_least ∈ mj_tb := mj_mem 927 (by decide +kernel) (by decide +kernel)
theorem lk_Mo_152 : Cond.methodLink "IsomerListModel" 152 y_Mo_least ∈ mj_tb ∧ Cond.static y_Mo_least ∈ mj_tb := ⟨mj_mem 926 (by decide +kernel) (by decide +kernel), st_Mo_least⟩
theorem im_Mo_numberings : Cond.instanceMethod y_Mo_numberings ∈ mj_tb := mj_mem 931 (by decide +kernel) (by decide +kernel)
theorem se_Mo_numberings : Cond.selects (y_Mo_numberings).cls y_Mo_numberings y_Mo_numberings ∈ mj_tb := mj_mem 41 (by decide +kernel) (by decide +kernel)
theorem lk_Mo_155 : Cond.methodLink "IsomerListModel" 155 y_Mo_numberings ∈ mj_tb ∧ Cond.instanceMethod y_Mo_numberings ∈ mj_tb ∧ Cond.selects (y_Mo_numberings).cls y_Mo_numberings y_Mo_numberings ∈ mj_tb := ⟨mj_mem 929 (by decide +kernel) (by decide +kernel), im_Mo_numberings, se_Mo_numberings⟩
theorem im_Mo_row : Cond.instanceMethod y_Mo_row ∈ mj_tb := mj_mem 935 (by decide +kernel) (by decide +kernel)
theorem se_Mo_row : Cond.selects (y_Mo_row).cls y_Mo_row y_Mo_row ∈ mj_tb := mj_mem 42 (by decide +kernel) (by decide +kernel)
theorem lk_Mo_161 : Cond.methodLink "IsomerListModel" 161 y_Mo_row ∈ mj_tb ∧ Cond.instanceMethod y_Mo_row ∈ mj_tb ∧ Cond.selects (y_Mo_row).cls y_Mo_row y_Mo_row ∈ mj_tb := ⟨mj_mem 933 (by decide +kernel) (by decide +kernel), im_Mo_row, se_Mo_row⟩
theorem st_Mo_pair : Cond.static y_Mo_pair ∈ mj_tb := mj_mem 938 (by decide +kernel) (by decide +kernel)
theorem lk_Mo_164 : Cond.methodLink "IsomerListModel" 164 y_Mo_pair ∈ mj_tb ∧ Cond.static y_Mo_pair ∈ mj_tb := ⟨mj_mem 937 (by decide +kernel) (by decide +kernel), st_Mo_pair⟩
theorem im_Mo_read : Cond.instanceMethod y_Mo_read ∈ mj_tb := mj_mem 941 (by decide +kernel) (by decide +kernel)
theorem se_Mo_read : Cond.selects (y_Mo_read).cls y_Mo_read y_Mo_read ∈ mj_tb := mj_mem 942 (by decide +kernel) (by decide +kernel)
theorem lk_Lw_60 : Cond.methodLink "IsomerListLaw" 60 y_Mo_read ∈ mj_tb ∧ Cond.instanceMethod y_Mo_read ∈ mj_tb ∧ Cond.selects (y_Mo_read).cls y_Mo_read y_Mo_read ∈ mj_tb := ⟨mj_mem 940 (by decide +kernel) (by decide +kernel), im_Mo_read, se_Mo_read⟩
theorem im_Mo_parse : Cond.instanceMethod y_Mo_parse ∈ mj_tb := mj_mem 946 (by decide +kernel) (by decide +kernel)
theorem se_Mo_parse : Cond.selects (y_Mo_parse).cls y_Mo_parse y_Mo_parse ∈ mj_tb := mj_mem 43 (by decide +kernel) (by decide +kernel)
theorem lk_Mo_170 : Cond.methodLink "IsomerListModel" 170 y_Mo_parse ∈ mj_tb ∧ Cond.instanceMethod y_Mo_parse ∈ mj_tb ∧ Cond.selects (y_Mo_parse).cls y_Mo_parse y_Mo_parse ∈ mj_tb := ⟨mj_mem 944 (by decide +kernel) (by decide +kernel), im_Mo_parse, se_Mo_parse⟩
theorem im_Mo_atEnd : Cond.instanceMethod y_Mo_atEnd ∈ mj_tb := mj_mem 950 (by decide +kernel) (by decide +kernel)
theorem se_Mo_atEnd : Cond.selects (y_Mo_atEnd).cls y_Mo_atEnd y_Mo_atEnd ∈ mj_tb := mj_mem 44 (by decide +kernel) (by decide +kernel)
theorem lk_Mo_177 : Cond.methodLink "IsomerListModel" 177 y_Mo_atEnd ∈ mj_tb ∧ Cond.instanceMethod y_Mo_atEnd ∈ mj_tb ∧ Cond.selects (y_Mo_atEnd).cls y_Mo_atEnd y_Mo_atEnd ∈ mj_tb := ⟨mj_mem 948 (by decide +kernel) (by decide +kernel), im_Mo_atEnd, se_Mo_atEnd⟩
theorem im_Mo_sumOf : Cond.instanceMethod y_Mo_sumOf ∈ mj_tb := mj_mem 954 (by decide +kernel) (by decide +kernel)
theorem se_Mo_sumOf : Cond.selects (y_Mo_sumOf).cls y_Mo_sumOf y_Mo_sumOf ∈ mj_tb := mj_mem 45 (by decide +kernel) (by decide +kernel)
theorem lk_Mo_180 : Cond.methodLink "IsomerListModel" 180 y_Mo_sumOf ∈ mj_tb ∧ Cond.instanceMethod y_Mo_sumOf ∈ mj_tb ∧ Cond.selects (y_Mo_sumOf).cls y_Mo_sumOf y_Mo_sumOf ∈ mj_tb := ⟨mj_mem 952 (by decide +kernel) (by decide +kernel), im_Mo_sumOf, se_Mo_sumOf⟩
theorem im_Mo_numberInList : Cond.instanceMethod y_Mo_numberInList ∈ mj_tb := mj_mem 958 (by decide +kernel) (by decide +kernel)
theorem se_Mo_numberInList : Cond.selects (y_Mo_numberInList).cls y_Mo_numberInList y_Mo_numberInList ∈ mj_tb := mj_mem 46 (by decide +kernel) (by decide +kernel)
theorem lk_Mo_174 : Cond.methodLink "IsomerListModel" 174 y_Mo_numberInList ∈ mj_tb ∧ Cond.instanceMethod y_Mo_numberInList ∈ mj_tb ∧ Cond.selects (y_Mo_numberInList).cls y_Mo_numberInList y_Mo_numberInList ∈ mj_tb := ⟨mj_mem 956 (by decide +kernel) (by decide +kernel), im_Mo_numberInList, se_Mo_numberInList⟩
theorem im_Mo_greatest : Cond.instanceMethod y_Mo_greatest ∈ mj_tb := mj_mem 962 (by decide +kernel) (by decide +kernel)
theorem se_Mo_greatest : Cond.selects (y_Mo_greatest).cls y_Mo_greatest y_Mo_greatest ∈ mj_tb := mj_mem 47 (by decide +kernel) (by decide +kernel)
theorem lk_Mo_183 : Cond.methodLink "IsomerListModel" 183 y_Mo_greatest ∈ mj_tb ∧ Cond.instanceMethod y_Mo_greatest ∈ mj_tb ∧ Cond.selects (y_Mo_greatest).cls y_Mo_greatest y_Mo_greatest ∈ mj_tb := ⟨mj_mem 960 (by decide +kernel) (by decide +kernel), im_Mo_greatest, se_Mo_greatest⟩
theorem im_Mo_take : Cond.instanceMethod y_Mo_take ∈ mj_tb := mj_mem 966 (by decide +kernel) (by decide +kernel)
theorem se_Mo_take : Cond.selects (y_Mo_take).cls y_Mo_take y_Mo_take ∈ mj_tb := mj_mem 48 (by decide +kernel) (by decide +kernel)
theorem lk_Mo_187 : Cond.methodLink "IsomerListModel" 187 y_Mo_take ∈ mj_tb ∧ Cond.instanceMethod y_Mo_take ∈ mj_tb ∧ Cond.selects (y_Mo_take).cls y_Mo_take y_Mo_take ∈ mj_tb := ⟨mj_mem 964 (by decide +kernel) (by decide +kernel), im_Mo_take, se_Mo_take⟩
theorem im_Mo_place : Cond.instanceMethod y_Mo_place ∈ mj_tb := mj_mem 969 (by decide +kernel) (by decide +kernel)
theorem se_Mo_place : Cond.selects (y_Mo_place).cls y_Mo_place y_Mo_place ∈ mj_tb := mj_mem 970 (by decide +kernel) (by decide +kernel)
theorem lk_Lw_64 : Cond.methodLink "IsomerListLaw" 64 y_Mo_place ∈ mj_tb ∧ Cond.instanceMethod y_Mo_place ∈ mj_tb ∧ Cond.selects (y_Mo_place).cls y_Mo_place y_Mo_place ∈ mj_tb := ⟨mj_mem 968 (by decide +kernel) (by decide +kernel), im_Mo_place, se_Mo_place⟩
theorem im_Mo_count : Cond.instanceMethod y_Mo_count ∈ mj_tb := mj_mem 973 (by decide +kernel) (by decide +kernel)
theorem se_Mo_count : Cond.selects (y_Mo_count).cls y_Mo_count y_Mo_count ∈ mj_tb := mj_mem 974 (by decide +kernel) (by decide +kernel)
theorem lk_Lw_68 : Cond.methodLink "IsomerListLaw" 68 y_Mo_count ∈ mj_tb ∧ Cond.instanceMethod y_Mo_count ∈ mj_tb ∧ Cond.selects (y_Mo_count).cls y_Mo_count y_Mo_count ∈ mj_tb := ⟨mj_mem 972 (by decide +kernel) (by decide +kernel), im_Mo_count, se_Mo_count⟩
theorem im_Mo_element : Cond.instanceMethod y_Mo_element ∈ mj_tb := mj_mem 977 (by decide +kernel) (by decide +kernel)
theorem se_Mo_element : Cond.selects (y_Mo_element).cls y_Mo_element y_Mo_element ∈ mj_tb := mj_mem 978 (by decide +kernel) (by decide +kernel)
theorem lk_Lw_72 : Cond.methodLink "IsomerListLaw" 72 y_Mo_element ∈ mj_tb ∧ Cond.instanceMethod y_Mo_element ∈ mj_tb ∧ Cond.selects (y_Mo_element).cls y_Mo_element y_Mo_element ∈ mj_tb := ⟨mj_mem 976 (by decide +kernel) (by decide +kernel), im_Mo_element, se_Mo_element⟩
theorem im_Mo_isAtom : Cond.instanceMethod y_Mo_isAtom ∈ mj_tb := mj_mem 982 (by decide +kernel) (by decide +kernel)
theorem se_Mo_isAtom : Cond.selects (y_Mo_isAtom).cls y_Mo_isAtom y_Mo_isAtom ∈ mj_tb := mj_mem 49 (by decide +kernel) (by decide +kernel)
theorem lk_Mo_190 : Cond.methodLink "IsomerListModel" 190 y_Mo_isAtom ∈ mj_tb ∧ Cond.instanceMethod y_Mo_isAtom ∈ mj_tb ∧ Cond.selects (y_Mo_isAtom).cls y_Mo_isAtom y_Mo_isAtom ∈ mj_tb := ⟨mj_mem 980 (by decide +kernel) (by decide +kernel), im_Mo_isAtom, se_Mo_isAtom⟩
theorem im_Mo_bond : Cond.instanceMethod y_Mo_bond ∈ mj_tb := mj_mem 985 (by decide +kernel) (by decide +kernel)
theorem se_Mo_bond : Cond.selects (y_Mo_bond).cls y_Mo_bond y_Mo_bond ∈ mj_tb := mj_mem 986 (by decide +kernel) (by decide +kernel)
theorem lk_Lw_76 : Cond.methodLink "IsomerListLaw" 76 y_Mo_bond ∈ mj_tb ∧ Cond.instanceMethod y_Mo_bond ∈ mj_tb ∧ Cond.selects (y_Mo_bond).cls y_Mo_bond y_Mo_bond ∈ mj_tb := ⟨mj_mem 984 (by decide +kernel) (by decide +kernel), im_Mo_bond, se_Mo_bond⟩
theorem im_Mo_isStructure : Cond.instanceMethod y_Mo_isStructure ∈ mj_tb := mj_mem 990 (by decide +kernel) (by decide +kernel)
theorem se_Mo_isStructure : Cond.selects (y_Mo_isStructure).cls y_Mo_isStructure y_Mo_isStructure ∈ mj_tb := mj_mem 50 (by decide +kernel) (by decide +kernel)
theorem lk_Mo_193 : Cond.methodLink "IsomerListModel" 193 y_Mo_isStructure ∈ mj_tb ∧ Cond.instanceMethod y_Mo_isStructure ∈ mj_tb ∧ Cond.selects (y_Mo_isStructure).cls y_Mo_isStructure y_Mo_isStructure ∈ mj_tb := ⟨mj_mem 988 (by decide +kernel) (by decide +kernel), im_Mo_isStructure, se_Mo_isStructure⟩
theorem im_Mo_bondOf : Cond.instanceMethod y_Mo_bondOf ∈ mj_tb := mj_mem 994 (by decide +kernel) (by decide +kernel)
theorem se_Mo_bondOf : Cond.selects (y_Mo_bondOf).cls y_Mo_bondOf y_Mo_bondOf ∈ mj_tb := mj_mem 51 (by decide +kernel) (by decide +kernel)
theorem lk_Mo_196 : Cond.methodLink "IsomerListModel" 196 y_Mo_bondOf ∈ mj_tb ∧ Cond.instanceMethod y_Mo_bondOf ∈ mj_tb ∧ Cond.selects (y_Mo_bondOf).cls y_Mo_bondOf y_Mo_bondOf ∈ mj_tb := ⟨mj_mem 992 (by decide +kernel) (by decide +kernel), im_Mo_bondOf, se_Mo_bondOf⟩
theorem im_Mo_hydrogens : Cond.instanceMethod y_Mo_hydrogens ∈ mj_tb := mj_mem 997 (by decide +kernel) (by decide +kernel)
theorem se_Mo_hydrogens : Cond.selects (y_Mo_hydrogens).cls y_Mo_hydrogens y_Mo_hydrogens ∈ mj_tb := mj_mem 998 (by decide +kernel) (by decide +kernel)
theorem lk_Lw_80 : Cond.methodLink "IsomerListLaw" 80 y_Mo_hydrogens ∈ mj_tb ∧ Cond.instanceMethod y_Mo_hydrogens ∈ mj_tb ∧ Cond.selects (y_Mo_hydrogens).cls y_Mo_hydrogens y_Mo_hydrogens ∈ mj_tb := ⟨mj_mem 996 (by decide +kernel) (by decide +kernel), im_Mo_hydrogens, se_Mo_hydrogens⟩
theorem im_Mo_ways : Cond.instanceMethod y_Mo_ways ∈ mj_tb := mj_mem 1001 (by decide +kernel) (by decide +kernel)
theorem se_Mo_ways : Cond.selects (y_Mo_ways).cls y_Mo_ways y_Mo_ways ∈ mj_tb := mj_mem 1002 (by decide +kernel) (by decide +kernel)
theorem lk_Lw_83 : Cond.methodLink "IsomerListLaw" 83 y_Mo_ways ∈ mj_tb ∧ Cond.instanceMethod y_Mo_ways ∈ mj_tb ∧ Cond.selects (y_Mo_ways).cls y_Mo_ways y_Mo_ways ∈ mj_tb := ⟨mj_mem 1000 (by decide +kernel) (by decide +kernel), im_Mo_ways, se_Mo_ways⟩
theorem im_Mo_write : Cond.instanceMethod y_Mo_write ∈ mj_tb := mj_mem 1005 (by decide +kernel) (by decide +kernel)
theorem se_Mo_write : Cond.selects (y_Mo_write).cls y_Mo_write y_Mo_write ∈ mj_tb := mj_mem 1006 (by decide +kernel) (by decide +kernel)
theorem lk_Lw_86 : Cond.methodLink "IsomerListLaw" 86 y_Mo_write ∈ mj_tb ∧ Cond.instanceMethod y_Mo_write ∈ mj_tb ∧ Cond.selects (y_Mo_write).cls y_Mo_write y_Mo_write ∈ mj_tb := ⟨mj_mem 1004 (by decide +kernel) (by decide +kernel), im_Mo_write, se_Mo_write⟩
theorem im_Mo_go : Cond.instanceMethod y_Mo_go ∈ mj_tb := mj_mem 1010 (by decide +kernel) (by decide +kernel)
theorem se_Mo_go : Cond.selects (y_Mo_go).cls y_Mo_go y_Mo_go ∈ mj_tb := mj_mem 52 (by decide +kernel) (by decide +kernel)
theorem lk_Mo_204 : Cond.methodLink "IsomerListModel" 204 y_Mo_go ∈ mj_tb ∧ Cond.instanceMethod y_Mo_go ∈ mj_tb ∧ Cond.selects (y_Mo_go).cls y_Mo_go y_Mo_go ∈ mj_tb := ⟨mj_mem 1008 (by decide +kernel) (by decide +kernel), im_Mo_go, se_Mo_go⟩
theorem im_Mo_putAtom : Cond.instanceMethod y_Mo_putAtom ∈ mj_tb := mj_mem 1014 (by decide +kernel) (by decide +kernel)
theorem se_Mo_putAtom : Cond.selects (y_Mo_putAtom).cls y_Mo_putAtom y_Mo_putAtom ∈ mj_tb := mj_mem 53 (by decide +kernel) (by decide +kernel)
theorem lk_Mo_207 : Cond.methodLink "IsomerListModel" 207 y_Mo_putAtom ∈ mj_tb ∧ Cond.instanceMethod y_Mo_putAtom ∈ mj_tb ∧ Cond.selects (y_Mo_putAtom).cls y_Mo_putAtom y_Mo_putAtom ∈ mj_tb := ⟨mj_mem 1012 (by decide +kernel) (by decide +kernel), im_Mo_putAtom, se_Mo_putAtom⟩
theorem im_Mo_putSign : Cond.instanceMethod y_Mo_putSign ∈ mj_tb := mj_mem 1018 (by decide +kernel) (by decide +kernel)
theorem se_Mo_putSign : Cond.selects (y_Mo_putSign).cls y_Mo_putSign y_Mo_putSign ∈ mj_tb := mj_mem 54 (by decide +kernel) (by decide +kernel)
theorem lk_Mo_216 : Cond.methodLink "IsomerListModel" 216 y_Mo_putSign ∈ mj_tb ∧ Cond.instanceMethod y_Mo_putSign ∈ mj_tb ∧ Cond.selects (y_Mo_putSign).cls y_Mo_putSign y_Mo_putSign ∈ mj_tb := ⟨mj_mem 1016 (by decide +kernel) (by decide +kernel), im_Mo_putSign, se_Mo_putSign⟩
theorem im_Mo_put : Cond.instanceMethod y_Mo_put ∈ mj_tb := mj_mem 1022 (by decide +kernel) (by decide +kernel)
theorem se_Mo_put : Cond.selects (y_Mo_put).cls y_Mo_put y_Mo_put ∈ mj_tb := mj_mem 55 (by decide +kernel) (by decide +kernel)
theorem lk_Mo_200 : Cond.methodLink "IsomerListModel" 200 y_Mo_put ∈ mj_tb ∧ Cond.instanceMethod y_Mo_put ∈ mj_tb ∧ Cond.selects (y_Mo_put).cls y_Mo_put y_Mo_put ∈ mj_tb := ⟨mj_mem 1020 (by decide +kernel) (by decide +kernel), im_Mo_put, se_Mo_put⟩
theorem im_Mo_putBond : Cond.instanceMethod y_Mo_putBond ∈ mj_tb := mj_mem 1026 (by decide +kernel) (by decide +kernel)
theorem se_Mo_putBond : Cond.selects (y_Mo_putBond).cls y_Mo_putBond y_Mo_putBond ∈ mj_tb := mj_mem 56 (by decide +kernel) (by decide +kernel)
theorem lk_Mo_213 : Cond.methodLink "IsomerListModel" 213 y_Mo_putBond ∈ mj_tb ∧ Cond.instanceMethod y_Mo_putBond ∈ mj_tb ∧ Cond.selects (y_Mo_putBond).cls y_Mo_putBond y_Mo_putBond ∈ mj_tb := ⟨mj_mem 1024 (by decide +kernel) (by decide +kernel), im_Mo_putBond, se_Mo_putBond⟩
theorem im_Mo_further : Cond.instanceMethod y_Mo_further ∈ mj_tb := mj_mem 1030 (by decide +kernel) (by decide +kernel)
theorem se_Mo_further : Cond.selects (y_Mo_further).cls y_Mo_further y_Mo_further ∈ mj_tb := mj_mem 57 (by decide +kernel) (by decide +kernel)
theorem lk_Mo_210 : Cond.methodLink "IsomerListModel" 210 y_Mo_further ∈ mj_tb ∧ Cond.instanceMethod y_Mo_further ∈ mj_tb ∧ Cond.selects (y_Mo_further).cls y_Mo_further y_Mo_further ∈ mj_tb := ⟨mj_mem 1028 (by decide +kernel) (by decide +kernel), im_Mo_further, se_Mo_further⟩
theorem im_Ln_init : Cond.instanceMethod y_Ln_init ∈ mj_tb := mj_mem 87 (by decide +kernel) (by decide +kernel)
theorem lk_IL_9 : Cond.methodLinkNest "IsomerList" 9 y_Ln_init "IsomerList" ∈ lw_tbl ∧ Cond.instanceMethod y_Ln_init ∈ mj_tb ∧ (y_Ln_init).name = "<init>" := ⟨List.mem_of_getElem? (i := 86) (by decide +kernel), im_Ln_init, rfl⟩
theorem im_Fr_init : Cond.instanceMethod y_Fr_init ∈ mj_tb := mj_mem 104 (by decide +kernel) (by decide +kernel)
theorem lk_IL_18 : Cond.methodLinkNest "IsomerList" 18 y_Fr_init "IsomerList" ∈ lw_tbl ∧ Cond.instanceMethod y_Fr_init ∈ mj_tb ∧ (y_Fr_init).name = "<init>" := ⟨List.mem_of_getElem? (i := 103) (by decide +kernel), im_Fr_init, rfl⟩
theorem im_Tr_init : Cond.instanceMethod y_Tr_init ∈ mj_tb := mj_mem 120 (by decide +kernel) (by decide +kernel)
theorem lk_IL_25 : Cond.methodLinkNest "IsomerList" 25 y_Tr_init "IsomerList" ∈ lw_tbl ∧ Cond.instanceMethod y_Tr_init ∈ mj_tb ∧ (y_Tr_init).name = "<init>" := ⟨List.mem_of_getElem? (i := 119) (by decide +kernel), im_Tr_init, rfl⟩
theorem im_Ml_init : Cond.instanceMethod y_Ml_init ∈ mj_tb := mj_mem 126 (by decide +kernel) (by decide +kernel)
theorem lk_Tr_11 : Cond.methodLinkNest "IsomerList$TextReader" 11 y_Ml_init "IsomerList" ∈ lw_tbl ∧ Cond.instanceMethod y_Ml_init ∈ mj_tb ∧ (y_Ml_init).name = "<init>" := ⟨List.mem_of_getElem? (i := 125) (by decide +kernel), im_Ml_init, rfl⟩
theorem im_Tw_init : Cond.instanceMethod y_Tw_init ∈ mj_tb := mj_mem 183 (by decide +kernel) (by decide +kernel)
theorem lk_IL_32 : Cond.methodLinkNest "IsomerList" 32 y_Tw_init "IsomerList" ∈ lw_tbl ∧ Cond.instanceMethod y_Tw_init ∈ mj_tb ∧ (y_Tw_init).name = "<init>" := ⟨List.mem_of_getElem? (i := 182) (by decide +kernel), im_Tw_init, rfl⟩
theorem im_Nu_init : Cond.instanceMethod y_Nu_init ∈ mj_tb := mj_mem 208 (by decide +kernel) (by decide +kernel)
theorem lk_IL_39 : Cond.methodLinkNest "IsomerList" 39 y_Nu_init "IsomerList" ∈ lw_tbl ∧ Cond.instanceMethod y_Nu_init ∈ mj_tb ∧ (y_Nu_init).name = "<init>" := ⟨List.mem_of_getElem? (i := 207) (by decide +kernel), im_Nu_init, rfl⟩
theorem lk_Ls_11 : Cond.methodLinkNest "IsomerList$Lister" 11 y_Ml_init "IsomerList" ∈ lw_tbl ∧ Cond.instanceMethod y_Ml_init ∈ mj_tb ∧ (y_Ml_init).name = "<init>" := ⟨List.mem_of_getElem? (i := 243) (by decide +kernel), im_Ml_init, rfl⟩
theorem lk_IL_55 : Cond.methodLinkNest "IsomerList" 55 y_Ml_init "IsomerList" ∈ lw_tbl ∧ Cond.instanceMethod y_Ml_init ∈ mj_tb ∧ (y_Ml_init).name = "<init>" := ⟨List.mem_of_getElem? (i := 261) (by decide +kernel), im_Ml_init, rfl⟩
theorem im_Ca_init : Cond.instanceMethod y_Ca_init ∈ mj_tb := mj_mem 265 (by decide +kernel) (by decide +kernel)
theorem lk_IL_62 : Cond.methodLinkNest "IsomerList" 62 y_Ca_init "IsomerList" ∈ lw_tbl ∧ Cond.instanceMethod y_Ca_init ∈ mj_tb ∧ (y_Ca_init).name = "<init>" := ⟨List.mem_of_getElem? (i := 264) (by decide +kernel), im_Ca_init, rfl⟩
theorem st_IL_signLength : Cond.static y_IL_signLength ∈ mj_tb := mj_mem 360 (by decide +kernel) (by decide +kernel)
theorem lk_Fr_42 : Cond.methodLinkNest "IsomerList$FormulaReader" 42 y_IL_signLength "IsomerList" ∈ lw_tbl ∧ Cond.static y_IL_signLength ∈ mj_tb := ⟨List.mem_of_getElem? (i := 359) (by decide +kernel), st_IL_signLength⟩
theorem st_IL_isDigit : Cond.static y_IL_isDigit ∈ mj_tb := mj_mem 369 (by decide +kernel) (by decide +kernel)
theorem lk_Fr_55 : Cond.methodLinkNest "IsomerList$FormulaReader" 55 y_IL_isDigit "IsomerList" ∈ lw_tbl ∧ Cond.static y_IL_isDigit ∈ mj_tb := ⟨List.mem_of_getElem? (i := 368) (by decide +kernel), st_IL_isDigit⟩
theorem st_IL_rowShift : Cond.static y_IL_rowShift ∈ mj_tb := mj_mem 443 (by decide +kernel) (by decide +kernel)
theorem lk_Nu_54 : Cond.methodLinkNest "IsomerList$Numbering" 54 y_IL_rowShift "IsomerList" ∈ lw_tbl ∧ Cond.static y_IL_rowShift ∈ mj_tb := ⟨List.mem_of_getElem? (i := 442) (by decide +kernel), st_IL_rowShift⟩
theorem lk_Ls_56 : Cond.methodLinkNest "IsomerList$Lister" 56 y_IL_rowShift "IsomerList" ∈ lw_tbl ∧ Cond.static y_IL_rowShift ∈ mj_tb := ⟨List.mem_of_getElem? (i := 461) (by decide +kernel), st_IL_rowShift⟩
theorem lk_Tr_108 : Cond.methodLinkNest "IsomerList$TextReader" 108 y_IL_signLength "IsomerList" ∈ lw_tbl ∧ Cond.static y_IL_signLength ∈ mj_tb := ⟨List.mem_of_getElem? (i := 495) (by decide +kernel), st_IL_signLength⟩
theorem lk_Tr_80 : Cond.methodLinkNest "IsomerList$TextReader" 80 y_IL_isDigit "IsomerList" ∈ lw_tbl ∧ Cond.static y_IL_isDigit ∈ mj_tb := ⟨List.mem_of_getElem? (i := 513) (by decide +kernel), st_IL_isDigit⟩
theorem st_IL_occurrences : Cond.static y_IL_occurrences ∈ mj_tb := mj_mem 540 (by decide +kernel) (by decide +kernel)
theorem lk_Ca_36 : Cond.methodLinkNest "IsomerList$Catalogue" 36 y_IL_occurrences "IsomerList" ∈ lw_tbl ∧ Cond.static y_IL_occurrences ∈ mj_tb := ⟨List.mem_of_getElem? (i := 539) (by decide +kernel), st_IL_occurrences⟩
theorem lk_Ml_52 : Cond.methodLinkNest "IsomerList$Molecule" 52 y_IL_rowShift "IsomerList" ∈ lw_tbl ∧ Cond.static y_IL_rowShift ∈ mj_tb := ⟨List.mem_of_getElem? (i := 688) (by decide +kernel), st_IL_rowShift⟩
end
section
/-! what each instruction is (by names.py) -/
theorem d_Ln_init_0 : decode (M_Ln_init).cc 0 = .ok (.aload_n 0, 1) := by decide +kernel
theorem d_Ln_init_1 : decode (M_Ln_init).cc 1 = .ok (.invokespecial 3, 3) := by decide +kernel
theorem d_Ln_init_4 : decode (M_Ln_init).cc 4 = .ok (.aload_n 0, 1) := by decide +kernel
theorem d_Ln_init_5 : decode (M_Ln_init).cc 5 = .ok (.bipush 60, 2) := by decide +kernel
theorem d_Ln_init_7 : decode (M_Ln_init).cc 7 = .ok (.newarray .char, 2) := by decide +kernel
theorem d_Ln_init_9 : decode (M_Ln_init).cc 9 = .ok (.putfield 9, 3) := by decide +kernel
theorem d_Ln_init_12 : decode (M_Ln_init).cc 12 = .ok (.return_, 1) := by decide +kernel
theorem d_Fr_init_0 : decode (M_Fr_init).cc 0 = .ok (.aload_n 0, 1) := by decide +kernel
theorem d_Fr_init_1 : decode (M_Fr_init).cc 1 = .ok (.invokespecial 3, 3) := by decide +kernel
theorem d_Fr_init_4 : decode (M_Fr_init).cc 4 = .ok (.aload_n 0, 1) := by decide +kernel
theorem d_Fr_init_5 : decode (M_Fr_init).cc 5 = .ok (.bipush 10, 2) := by decide +kernel
theorem d_Fr_init_7 : decode (M_Fr_init).cc 7 = .ok (.newarray .int, 2) := by decide +kernel
theorem d_Fr_init_9 : decode (M_Fr_init).cc 9 = .ok (.putfield 9, 3) := by decide +kernel
theorem d_Fr_init_12 : decode (M_Fr_init).cc 12 = .ok (.return_, 1) := by decide +kernel
theorem d_Ml_init_0 : decode (M_Ml_init).cc 0 = .ok (.aload_n 0, 1) := by decide +kernel
theorem d_Ml_init_1 : decode (M_Ml_init).cc 1 = .ok (.invokespecial 3, 3) := by decide +kernel
theorem d_Ml_init_4 : decode (M_Ml_init).cc 4 = .ok (.aload_n 0, 1) := by decide +kernel
theorem d_Ml_init_5 : decode (M_Ml_init).cc 5 = .ok (.bipush 6, 2) := by decide +kernel
theorem d_Ml_init_7 : decode (M_Ml_init).cc 7 = .ok (.newarray .int, 2) := by decide +kernel
theorem d_Ml_init_9 : decode (M_Ml_init).cc 9 = .ok (.putfield 9, 3) := by decide +kernel
theorem d_Ml_init_12 : decode (M_Ml_init).cc 12 = .ok (.aload_n 0, 1) := by decide +kernel
theorem d_Ml_init_13 : decode (M_Ml_init).cc 13 = .ok (.bipush 6, 2) := by decide +kernel
theorem d_Ml_init_15 : decode (M_Ml_init).cc 15 = .ok (.newarray .int, 2) := by decide +kernel
theorem d_Ml_init_17 : decode (M_Ml_init).cc 17 = .ok (.putfield 15, 3) := by decide +kernel
theorem d_Ml_init_20 : decode (M_Ml_init).cc 20 = .ok (.aload_n 0, 1) := by decide +kernel
theorem d_Ml_init_21 : decode (M_Ml_init).cc 21 = .ok (.bipush 36, 2) := by decide +kernel
theorem d_Ml_init_23 : decode (M_Ml_init).cc 23 = .ok (.newarray .int, 2) := by decide +kernel
theorem d_Ml_init_25 : decode (M_Ml_init).cc 25 = .ok (.putfield 18, 3) := by decide +kernel
theorem d_Ml_init_28 : decode (M_Ml_init).cc 28 = .ok (.return_, 1) := by decide +kernel
theorem d_Ca_init_0 : decode (M_Ca_init).cc 0 = .ok (.aload_n 0, 1) := by decide +kernel
theorem d_Ca_init_1 : decode (M_Ca_init).cc 1 = .ok (.invokespecial 3, 3) := by decide +kernel
theorem d_Ca_init_4 : decode (M_Ca_init).cc 4 = .ok (.aload_n 0, 1) := by decide +kernel
theorem d_Ca_init_5 : decode (M_Ca_init).cc 5 = .ok (.bipush 6, 2) := by decide +kernel
theorem d_Ca_init_7 : decode (M_Ca_init).cc 7 = .ok (.newarray .int, 2) := by decide +kernel
theorem d_Ca_init_9 : decode (M_Ca_init).cc 9 = .ok (.putfield 9, 3) := by decide +kernel
theorem d_Ca_init_12 : decode (M_Ca_init).cc 12 = .ok (.aload_n 0, 1) := by decide +kernel
theorem d_Ca_init_13 : decode (M_Ca_init).cc 13 = .ok (.sipush 500, 3) := by decide +kernel
theorem d_Ca_init_16 : decode (M_Ca_init).cc 16 = .ok (.newarray .int, 2) := by decide +kernel
theorem d_Ca_init_18 : decode (M_Ca_init).cc 18 = .ok (.putfield 15, 3) := by decide +kernel
theorem d_Ca_init_21 : decode (M_Ca_init).cc 21 = .ok (.return_, 1) := by decide +kernel
theorem d_Ln_clear_0 : decode (M_Ln_clear).cc 0 = .ok (.aload_n 0, 1) := by decide +kernel
theorem d_Ln_clear_1 : decode (M_Ln_clear).cc 1 = .ok (.iconst 0, 1) := by decide +kernel
theorem d_Ln_clear_2 : decode (M_Ln_clear).cc 2 = .ok (.putfield 15, 3) := by decide +kernel
theorem d_Ln_clear_5 : decode (M_Ln_clear).cc 5 = .ok (.return_, 1) := by decide +kernel
theorem d_Fr_readFrom_0 : decode (M_Fr_readFrom).cc 0 = .ok (.aload_n 0, 1) := by decide +kernel
theorem d_Fr_readFrom_1 : decode (M_Fr_readFrom).cc 1 = .ok (.getfield 9, 3) := by decide +kernel
theorem d_Fr_readFrom_4 : decode (M_Fr_readFrom).cc 4 = .ok (.iconst 0, 1) := by decide +kernel
theorem d_Fr_readFrom_5 : decode (M_Fr_readFrom).cc 5 = .ok (.invokestatic 15, 3) := by decide +kernel
theorem d_Fr_readFrom_8 : decode (M_Fr_readFrom).cc 8 = .ok (.aload_n 0, 1) := by decide +kernel
theorem d_Fr_readFrom_9 : decode (M_Fr_readFrom).cc 9 = .ok (.iconst 0, 1) := by decide +kernel
theorem d_Fr_readFrom_10 : decode (M_Fr_readFrom).cc 10 = .ok (.putfield 21, 3) := by decide +kernel
theorem d_Fr_readFrom_13 : decode (M_Fr_readFrom).cc 13 = .ok (.aload_n 1, 1) := by decide +kernel
theorem d_Fr_readFrom_14 : decode (M_Fr_readFrom).cc 14 = .ok (.getfield 25, 3) := by decide +kernel
theorem d_Fr_readFrom_17 : decode (M_Fr_readFrom).cc 17 = .ok (.ifCond .ne 6, 3) := by decide +kernel
theorem d_Fr_readFrom_20 : decode (M_Fr_readFrom).cc 20 = .ok (.bipush (-2), 2) := by decide +kernel
theorem d_Fr_readFrom_22 : decode (M_Fr_readFrom).cc 22 = .ok (.ireturn, 1) := by decide +kernel
theorem d_Fr_readFrom_23 : decode (M_Fr_readFrom).cc 23 = .ok (.iconst 0, 1) := by decide +kernel
theorem d_Fr_readFrom_24 : decode (M_Fr_readFrom).cc 24 = .ok (.istore_n 2, 1) := by decide +kernel
theorem d_Fr_readFrom_25 : decode (M_Fr_readFrom).cc 25 = .ok (.iload_n 2, 1) := by decide +kernel
theorem d_Fr_readFrom_26 : decode (M_Fr_readFrom).cc 26 = .ok (.bipush 60, 2) := by decide +kernel
theorem d_Fr_readFrom_28 : decode (M_Fr_readFrom).cc 28 = .ok (.if_icmp .ge 33, 3) := by decide +kernel
theorem d_Fr_readFrom_31 : decode (M_Fr_readFrom).cc 31 = .ok (.aload_n 0, 1) := by decide +kernel
theorem d_Fr_readFrom_32 : decode (M_Fr_readFrom).cc 32 = .ok (.getfield 21, 3) := by decide +kernel
theorem d_Fr_readFrom_35 : decode (M_Fr_readFrom).cc 35 = .ok (.aload_n 1, 1) := by decide +kernel
theorem d_Fr_readFrom_36 : decode (M_Fr_readFrom).cc 36 = .ok (.getfield 25, 3) := by decide +kernel
theorem d_Fr_readFrom_39 : decode (M_Fr_readFrom).cc 39 = .ok (.if_icmp .ge 22, 3) := by decide +kernel
theorem d_Fr_readFrom_42 : decode (M_Fr_readFrom).cc 42 = .ok (.aload_n 0, 1) := by decide +kernel
theorem d_Fr_readFrom_43 : decode (M_Fr_readFrom).cc 43 = .ok (.aload_n 1, 1) := by decide +kernel
theorem d_Fr_readFrom_44 : decode (M_Fr_readFrom).cc 44 = .ok (.invokevirtual 30, 3) := by decide +kernel
theorem d_Fr_readFrom_47 : decode (M_Fr_readFrom).cc 47 = .ok (.istore_n 3, 1) := by decide +kernel
theorem d_Fr_readFrom_48 : decode (M_Fr_readFrom).cc 48 = .ok (.iload_n 3, 1) := by decide +kernel
theorem d_Fr_readFrom_49 : decode (M_Fr_readFrom).cc 49 = .ok (.iconst (-1), 1) := by decide +kernel
theorem d_Fr_readFrom_50 : decode (M_Fr_readFrom).cc 50 = .ok (.if_icmp .eq 5, 3) := by decide +kernel
theorem d_Fr_readFrom_53 : decode (M_Fr_readFrom).cc 53 = .ok (.iload_n 3, 1) := by decide +kernel
theorem d_Fr_readFrom_54 : decode (M_Fr_readFrom).cc 54 = .ok (.ireturn, 1) := by decide +kernel
theorem d_Fr_readFrom_55 : decode (M_Fr_readFrom).cc 55 = .ok (.iinc 2 1, 3) := by decide +kernel
theorem d_Fr_readFrom_58 : decode (M_Fr_readFrom).cc 58 = .ok (.goto (-33), 3) := by decide +kernel
theorem d_Fr_readFrom_61 : decode (M_Fr_readFrom).cc 61 = .ok (.aload_n 0, 1) := by decide +kernel
theorem d_Fr_readFrom_62 : decode (M_Fr_readFrom).cc 62 = .ok (.invokevirtual 34, 3) := by decide +kernel
theorem d_Fr_readFrom_65 : decode (M_Fr_readFrom).cc 65 = .ok (.istore_n 2, 1) := by decide +kernel
theorem d_Fr_readFrom_66 : decode (M_Fr_readFrom).cc 66 = .ok (.iload_n 2, 1) := by decide +kernel
theorem d_Fr_readFrom_67 : decode (M_Fr_readFrom).cc 67 = .ok (.iconst 1, 1) := by decide +kernel
theorem d_Fr_readFrom_68 : decode (M_Fr_readFrom).cc 68 = .ok (.if_icmp .lt 9, 3) := by decide +kernel
theorem d_Fr_readFrom_71 : decode (M_Fr_readFrom).cc 71 = .ok (.iload_n 2, 1) := by decide +kernel
theorem d_Fr_readFrom_72 : decode (M_Fr_readFrom).cc 72 = .ok (.bipush 6, 2) := by decide +kernel
theorem d_Fr_readFrom_74 : decode (M_Fr_readFrom).cc 74 = .ok (.if_icmp .le 8, 3) := by decide +kernel
theorem d_Fr_readFrom_77 : decode (M_Fr_readFrom).cc 77 = .ok (.bipush (-5), 2) := by decide +kernel
theorem d_Fr_readFrom_79 : decode (M_Fr_readFrom).cc 79 = .ok (.goto 4, 3) := by decide +kernel
theorem d_Fr_readFrom_82 : decode (M_Fr_readFrom).cc 82 = .ok (.iconst (-1), 1) := by decide +kernel
theorem d_Fr_readFrom_83 : decode (M_Fr_readFrom).cc 83 = .ok (.ireturn, 1) := by decide +kernel
theorem d_Ar_fill_0 : decode (M_Ar_fill).cc 0 = .ok (.iconst 0, 1) := by decide +kernel
theorem d_Ar_fill_1 : decode (M_Ar_fill).cc 1 = .ok (.istore_n 2, 1) := by decide +kernel
theorem d_Ar_fill_2 : decode (M_Ar_fill).cc 2 = .ok (.aload_n 0, 1) := by decide +kernel
theorem d_Ar_fill_3 : decode (M_Ar_fill).cc 3 = .ok (.arraylength, 1) := by decide +kernel
theorem d_Ar_fill_4 : decode (M_Ar_fill).cc 4 = .ok (.istore_n 3, 1) := by decide +kernel
theorem d_Ar_fill_5 : decode (M_Ar_fill).cc 5 = .ok (.iload_n 2, 1) := by decide +kernel
theorem d_Ar_fill_6 : decode (M_Ar_fill).cc 6 = .ok (.iload_n 3, 1) := by decide +kernel
theorem d_Ar_fill_7 : decode (M_Ar_fill).cc 7 = .ok (.if_icmp .ge 13, 3) := by decide +kernel
theorem d_Ar_fill_10 : decode (M_Ar_fill).cc 10 = .ok (.aload_n 0, 1) := by decide +kernel
theorem d_Ar_fill_11 : decode (M_Ar_fill).cc 11 = .ok (.iload_n 2, 1) := by decide +kernel
theorem d_Ar_fill_12 : decode (M_Ar_fill).cc 12 = .ok (.iload_n 1, 1) := by decide +kernel
theorem d_Ar_fill_13 : decode (M_Ar_fill).cc 13 = .ok (.iastore, 1) := by decide +kernel
theorem d_Ar_fill_14 : decode (M_Ar_fill).cc 14 = .ok (.iinc 2 1, 3) := by decide +kernel
theorem d_Ar_fill_17 : decode (M_Ar_fill).cc 17 = .ok (.goto (-12), 3) := by decide +kernel
theorem d_Ar_fill_20 : decode (M_Ar_fill).cc 20 = .ok (.return_, 1) := by decide +kernel
theorem d_Fr_readElement_0 : decode (M_Fr_readElement).cc 0 = .ok (.aload_n 1, 1) := by decide +kernel
theorem d_Fr_readElement_1 : decode (M_Fr_readElement).cc 1 = .ok (.aload_n 0, 1) := by decide +kernel
theorem d_Fr_readElement_2 : decode (M_Fr_readElement).cc 2 = .ok (.getfield 21, 3) := by decide +kernel
theorem d_Fr_readElement_5 : decode (M_Fr_readElement).cc 5 = .ok (.invokevirtual 38, 3) := by decide +kernel
theorem d_Fr_readElement_8 : decode (M_Fr_readElement).cc 8 = .ok (.istore_n 2, 1) := by decide +kernel
theorem d_Fr_readElement_9 : decode (M_Fr_readElement).cc 9 = .ok (.iload_n 2, 1) := by decide +kernel
theorem d_Fr_readElement_10 : decode (M_Fr_readElement).cc 10 = .ok (.iconst (-1), 1) := by decide +kernel
theorem d_Fr_readElement_11 : decode (M_Fr_readElement).cc 11 = .ok (.if_icmp .ne 6, 3) := by decide +kernel
theorem d_Fr_readElement_14 : decode (M_Fr_readElement).cc 14 = .ok (.bipush (-2), 2) := by decide +kernel
theorem d_Fr_readElement_16 : decode (M_Fr_readElement).cc 16 = .ok (.ireturn, 1) := by decide +kernel
theorem d_Fr_readElement_17 : decode (M_Fr_readElement).cc 17 = .ok (.aload_n 0, 1) := by decide +kernel
theorem d_Fr_readElement_18 : decode (M_Fr_readElement).cc 18 = .ok (.getfield 9, 3) := by decide +kernel
theorem d_Fr_readElement_21 : decode (M_Fr_readElement).cc 21 = .ok (.iload_n 2, 1) := by decide +kernel
theorem d_Fr_readElement_22 : decode (M_Fr_readElement).cc 22 = .ok (.iaload, 1) := by decide +kernel
theorem d_Fr_readElement_23 : decode (M_Fr_readElement).cc 23 = .ok (.ifCond .le 6, 3) := by decide +kernel
theorem d_Fr_readElement_26 : decode (M_Fr_readElement).cc 26 = .ok (.bipush (-3), 2) := by decide +kernel
theorem d_Fr_readElement_28 : decode (M_Fr_readElement).cc 28 = .ok (.ireturn, 1) := by decide +kernel
theorem d_Fr_readElement_29 : decode (M_Fr_readElement).cc 29 = .ok (.aload_n 0, 1) := by decide +kernel
theorem d_Fr_readElement_30 : decode (M_Fr_readElement).cc 30 = .ok (.dup, 1) := by decide +kernel
theorem d_Fr_readElement_31 : decode (M_Fr_readElement).cc 31 = .ok (.getfield 21, 3) := by decide +kernel
theorem d_Fr_readElement_34 : decode (M_Fr_readElement).cc 34 = .ok (.iload_n 2, 1) := by decide +kernel
theorem d_Fr_readElement_35 : decode (M_Fr_readElement).cc 35 = .ok (.invokestatic 42, 3) := by decide +kernel
theorem d_Fr_readElement_38 : decode (M_Fr_readElement).cc 38 = .ok (.iadd, 1) := by decide +kernel
theorem d_Fr_readElement_39 : decode (M_Fr_readElement).cc 39 = .ok (.putfield 21, 3) := by decide +kernel
theorem d_Fr_readElement_42 : decode (M_Fr_readElement).cc 42 = .ok (.aload_n 0, 1) := by decide +kernel
theorem d_Fr_readElement_43 : decode (M_Fr_readElement).cc 43 = .ok (.aload_n 1, 1) := by decide +kernel
theorem d_Fr_readElement_44 : decode (M_Fr_readElement).cc 44 = .ok (.invokevirtual 45, 3) := by decide +kernel
theorem d_Fr_readElement_47 : decode (M_Fr_readElement).cc 47 = .ok (.istore_n 3, 1) := by decide +kernel
theorem d_Fr_readElement_48 : decode (M_Fr_readElement).cc 48 = .ok (.iload_n 3, 1) := by decide +kernel
theorem d_Fr_readElement_49 : decode (M_Fr_readElement).cc 49 = .ok (.ifCond .ne 7, 3) := by decide +kernel
theorem d_Fr_readElement_52 : decode (M_Fr_readElement).cc 52 = .ok (.iconst 1, 1) := by decide +kernel
theorem d_Fr_readElement_53 : decode (M_Fr_readElement).cc 53 = .ok (.goto 9, 3) := by decide +kernel
theorem d_Fr_readElement_56 : decode (M_Fr_readElement).cc 56 = .ok (.aload_n 0, 1) := by decide +kernel
theorem d_Fr_readElement_57 : decode (M_Fr_readElement).cc 57 = .ok (.aload_n 1, 1) := by decide +kernel
theorem d_Fr_readElement_58 : decode (M_Fr_readElement).cc 58 = .ok (.iload_n 3, 1) := by decide +kernel
theorem d_Fr_readElement_59 : decode (M_Fr_readElement).cc 59 = .ok (.invokevirtual 48, 3) := by decide +kernel
theorem d_Fr_readElement_62 : decode (M_Fr_readElement).cc 62 = .ok (.istore 4, 2) := by decide +kernel
theorem d_Fr_readElement_64 : decode (M_Fr_readElement).cc 64 = .ok (.iload 4, 2) := by decide +kernel
theorem d_Fr_readElement_66 : decode (M_Fr_readElement).cc 66 = .ok (.iconst (-1), 1) := by decide +kernel
theorem d_Fr_readElement_67 : decode (M_Fr_readElement).cc 67 = .ok (.if_icmp .ne 6, 3) := by decide +kernel
theorem d_Fr_readElement_70 : decode (M_Fr_readElement).cc 70 = .ok (.bipush (-4), 2) := by decide +kernel
theorem d_Fr_readElement_72 : decode (M_Fr_readElement).cc 72 = .ok (.ireturn, 1) := by decide +kernel
theorem d_Fr_readElement_73 : decode (M_Fr_readElement).cc 73 = .ok (.aload_n 0, 1) := by decide +kernel
theorem d_Fr_readElement_74 : decode (M_Fr_readElement).cc 74 = .ok (.getfield 9, 3) := by decide +kernel
theorem d_Fr_readElement_77 : decode (M_Fr_readElement).cc 77 = .ok (.iload_n 2, 1) := by decide +kernel
theorem d_Fr_readElement_78 : decode (M_Fr_readElement).cc 78 = .ok (.iload 4, 2) := by decide +kernel
theorem d_Fr_readElement_80 : decode (M_Fr_readElement).cc 80 = .ok (.iastore, 1) := by decide +kernel
theorem d_Fr_readElement_81 : decode (M_Fr_readElement).cc 81 = .ok (.aload_n 0, 1) := by decide +kernel
theorem d_Fr_readElement_82 : decode (M_Fr_readElement).cc 82 = .ok (.dup, 1) := by decide +kernel
theorem d_Fr_readElement_83 : decode (M_Fr_readElement).cc 83 = .ok (.getfield 21, 3) := by decide +kernel
theorem d_Fr_readElement_86 : decode (M_Fr_readElement).cc 86 = .ok (.iload_n 3, 1) := by decide +kernel
theorem d_Fr_readElement_87 : decode (M_Fr_readElement).cc 87 = .ok (.iadd, 1) := by decide +kernel
theorem d_Fr_readElement_88 : decode (M_Fr_readElement).cc 88 = .ok (.putfield 21, 3) := by decide +kernel
theorem d_Fr_readElement_91 : decode (M_Fr_readElement).cc 91 = .ok (.iconst (-1), 1) := by decide +kernel
theorem d_Fr_readElement_92 : decode (M_Fr_readElement).cc 92 = .ok (.ireturn, 1) := by decide +kernel
theorem d_Ln_elementAt_0 : decode (M_Ln_elementAt).cc 0 = .ok (.iconst (-1), 1) := by decide +kernel
theorem d_Ln_elementAt_1 : decode (M_Ln_elementAt).cc 1 = .ok (.istore_n 2, 1) := by decide +kernel
theorem d_Ln_elementAt_2 : decode (M_Ln_elementAt).cc 2 = .ok (.iconst 0, 1) := by decide +kernel
theorem d_Ln_elementAt_3 : decode (M_Ln_elementAt).cc 3 = .ok (.istore_n 3, 1) := by decide +kernel
theorem d_Ln_elementAt_4 : decode (M_Ln_elementAt).cc 4 = .ok (.iload_n 3, 1) := by decide +kernel
theorem d_Ln_elementAt_5 : decode (M_Ln_elementAt).cc 5 = .ok (.bipush 10, 2) := by decide +kernel
theorem d_Ln_elementAt_7 : decode (M_Ln_elementAt).cc 7 = .ok (.if_icmp .ge 52, 3) := by decide +kernel
theorem d_Ln_elementAt_10 : decode (M_Ln_elementAt).cc 10 = .ok (.getstatic 19, 3) := by decide +kernel
theorem d_Ln_elementAt_13 : decode (M_Ln_elementAt).cc 13 = .ok (.iload_n 3, 1) := by decide +kernel
theorem d_Ln_elementAt_14 : decode (M_Ln_elementAt).cc 14 = .ok (.caload, 1) := by decide +kernel
theorem d_Ln_elementAt_15 : decode (M_Ln_elementAt).cc 15 = .ok (.aload_n 0, 1) := by decide +kernel
theorem d_Ln_elementAt_16 : decode (M_Ln_elementAt).cc 16 = .ok (.iload_n 1, 1) := by decide +kernel
theorem d_Ln_elementAt_17 : decode (M_Ln_elementAt).cc 17 = .ok (.invokevirtual 22, 3) := by decide +kernel
theorem d_Ln_elementAt_20 : decode (M_Ln_elementAt).cc 20 = .ok (.if_icmp .ne 33, 3) := by decide +kernel
theorem d_Ln_elementAt_23 : decode (M_Ln_elementAt).cc 23 = .ok (.getstatic 26, 3) := by decide +kernel
theorem d_Ln_elementAt_26 : decode (M_Ln_elementAt).cc 26 = .ok (.iload_n 3, 1) := by decide +kernel
theorem d_Ln_elementAt_27 : decode (M_Ln_elementAt).cc 27 = .ok (.caload, 1) := by decide +kernel
theorem d_Ln_elementAt_28 : decode (M_Ln_elementAt).cc 28 = .ok (.ifCond .ne 8, 3) := by decide +kernel
theorem d_Ln_elementAt_31 : decode (M_Ln_elementAt).cc 31 = .ok (.iload_n 3, 1) := by decide +kernel
theorem d_Ln_elementAt_32 : decode (M_Ln_elementAt).cc 32 = .ok (.istore_n 2, 1) := by decide +kernel
theorem d_Ln_elementAt_33 : decode (M_Ln_elementAt).cc 33 = .ok (.goto 20, 3) := by decide +kernel
theorem d_Ln_elementAt_36 : decode (M_Ln_elementAt).cc 36 = .ok (.getstatic 26, 3) := by decide +kernel
theorem d_Ln_elementAt_39 : decode (M_Ln_elementAt).cc 39 = .ok (.iload_n 3, 1) := by decide +kernel
theorem d_Ln_elementAt_40 : decode (M_Ln_elementAt).cc 40 = .ok (.caload, 1) := by decide +kernel
theorem d_Ln_elementAt_41 : decode (M_Ln_elementAt).cc 41 = .ok (.aload_n 0, 1) := by decide +kernel
theorem d_Ln_elementAt_42 : decode (M_Ln_elementAt).cc 42 = .ok (.iload_n 1, 1) := by decide +kernel
theorem d_Ln_elementAt_43 : decode (M_Ln_elementAt).cc 43 = .ok (.iconst 1, 1) := by decide +kernel
theorem d_Ln_elementAt_44 : decode (M_Ln_elementAt).cc 44 = .ok (.iadd, 1) := by decide +kernel
theorem d_Ln_elementAt_45 : decode (M_Ln_elementAt).cc 45 = .ok (.invokevirtual 22, 3) := by decide +kernel
theorem d_Ln_elementAt_48 : decode (M_Ln_elementAt).cc 48 = .ok (.if_icmp .ne 5, 3) := by decide +kernel
theorem d_Ln_elementAt_51 : decode (M_Ln_elementAt).cc 51 = .ok (.iload_n 3, 1) := by decide +kernel
theorem d_Ln_elementAt_52 : decode (M_Ln_elementAt).cc 52 = .ok (.ireturn, 1) := by decide +kernel
theorem d_Ln_elementAt_53 : decode (M_Ln_elementAt).cc 53 = .ok (.iinc 3 1, 3) := by decide +kernel
theorem d_Ln_elementAt_56 : decode (M_Ln_elementAt).cc 56 = .ok (.goto (-52), 3) := by decide +kernel
theorem d_Ln_elementAt_59 : decode (M_Ln_elementAt).cc 59 = .ok (.iload_n 2, 1) := by decide +kernel
theorem d_Ln_elementAt_60 : decode (M_Ln_elementAt).cc 60 = .ok (.ireturn, 1) := by decide +kernel
theorem d_Ln_at_0 : decode (M_Ln_at).cc 0 = .ok (.iload_n 1, 1) := by decide +kernel
theorem d_Ln_at_1 : decode (M_Ln_at).cc 1 = .ok (.ifCond .lt 20, 3) := by decide +kernel
theorem d_Ln_at_4 : decode (M_Ln_at).cc 4 = .ok (.iload_n 1, 1) := by decide +kernel
theorem d_Ln_at_5 : decode (M_Ln_at).cc 5 = .ok (.aload_n 0, 1) := by decide +kernel
theorem d_Ln_at_6 : decode (M_Ln_at).cc 6 = .ok (.getfield 15, 3) := by decide +kernel
theorem d_Ln_at_9 : decode (M_Ln_at).cc 9 = .ok (.if_icmp .ge 12, 3) := by decide +kernel
theorem d_Ln_at_12 : decode (M_Ln_at).cc 12 = .ok (.aload_n 0, 1) := by decide +kernel
theorem d_Ln_at_13 : decode (M_Ln_at).cc 13 = .ok (.getfield 9, 3) := by decide +kernel
theorem d_Ln_at_16 : decode (M_Ln_at).cc 16 = .ok (.iload_n 1, 1) := by decide +kernel
theorem d_Ln_at_17 : decode (M_Ln_at).cc 17 = .ok (.caload, 1) := by decide +kernel
theorem d_Ln_at_18 : decode (M_Ln_at).cc 18 = .ok (.goto 5, 3) := by decide +kernel
theorem d_Ln_at_21 : decode (M_Ln_at).cc 21 = .ok (.bipush 32, 2) := by decide +kernel
theorem d_Ln_at_23 : decode (M_Ln_at).cc 23 = .ok (.ireturn, 1) := by decide +kernel
theorem d_Fr_digitsAhead_0 : decode (M_Fr_digitsAhead).cc 0 = .ok (.aload_n 0, 1) := by decide +kernel
theorem d_Fr_digitsAhead_1 : decode (M_Fr_digitsAhead).cc 1 = .ok (.getfield 21, 3) := by decide +kernel
theorem d_Fr_digitsAhead_4 : decode (M_Fr_digitsAhead).cc 4 = .ok (.istore_n 2, 1) := by decide +kernel
theorem d_Fr_digitsAhead_5 : decode (M_Fr_digitsAhead).cc 5 = .ok (.iload_n 2, 1) := by decide +kernel
theorem d_Fr_digitsAhead_6 : decode (M_Fr_digitsAhead).cc 6 = .ok (.aload_n 1, 1) := by decide +kernel
theorem d_Fr_digitsAhead_7 : decode (M_Fr_digitsAhead).cc 7 = .ok (.getfield 25, 3) := by decide +kernel
theorem d_Fr_digitsAhead_10 : decode (M_Fr_digitsAhead).cc 10 = .ok (.if_icmp .ge 20, 3) := by decide +kernel
theorem d_Fr_digitsAhead_13 : decode (M_Fr_digitsAhead).cc 13 = .ok (.aload_n 1, 1) := by decide +kernel
theorem d_Fr_digitsAhead_14 : decode (M_Fr_digitsAhead).cc 14 = .ok (.iload_n 2, 1) := by decide +kernel
theorem d_Fr_digitsAhead_15 : decode (M_Fr_digitsAhead).cc 15 = .ok (.invokevirtual 52, 3) := by decide +kernel
theorem d_Fr_digitsAhead_18 : decode (M_Fr_digitsAhead).cc 18 = .ok (.invokestatic 55, 3) := by decide +kernel
theorem d_Fr_digitsAhead_21 : decode (M_Fr_digitsAhead).cc 21 = .ok (.ifCond .eq 9, 3) := by decide +kernel
theorem d_Fr_digitsAhead_24 : decode (M_Fr_digitsAhead).cc 24 = .ok (.iinc 2 1, 3) := by decide +kernel
theorem d_Fr_digitsAhead_27 : decode (M_Fr_digitsAhead).cc 27 = .ok (.goto (-22), 3) := by decide +kernel
theorem d_Fr_digitsAhead_30 : decode (M_Fr_digitsAhead).cc 30 = .ok (.iload_n 2, 1) := by decide +kernel
theorem d_Fr_digitsAhead_31 : decode (M_Fr_digitsAhead).cc 31 = .ok (.aload_n 0, 1) := by decide +kernel
theorem d_Fr_digitsAhead_32 : decode (M_Fr_digitsAhead).cc 32 = .ok (.getfield 21, 3) := by decide +kernel
theorem d_Fr_digitsAhead_35 : decode (M_Fr_digitsAhead).cc 35 = .ok (.isub, 1) := by decide +kernel
theorem d_Fr_digitsAhead_36 : decode (M_Fr_digitsAhead).cc 36 = .ok (.ireturn, 1) := by decide +kernel
theorem d_Fr_numberAhead_0 : decode (M_Fr_numberAhead).cc 0 = .ok (.iload_n 2, 1) := by decide +kernel
theorem d_Fr_numberAhead_1 : decode (M_Fr_numberAhead).cc 1 = .ok (.iconst 2, 1) := by decide +kernel
theorem d_Fr_numberAhead_2 : decode (M_Fr_numberAhead).cc 2 = .ok (.if_icmp .gt 16, 3) := by decide +kernel
theorem d_Fr_numberAhead_5 : decode (M_Fr_numberAhead).cc 5 = .ok (.aload_n 1, 1) := by decide +kernel
theorem d_Fr_numberAhead_6 : decode (M_Fr_numberAhead).cc 6 = .ok (.aload_n 0, 1) := by decide +kernel
theorem d_Fr_numberAhead_7 : decode (M_Fr_numberAhead).cc 7 = .ok (.getfield 21, 3) := by decide +kernel
theorem d_Fr_numberAhead_10 : decode (M_Fr_numberAhead).cc 10 = .ok (.invokevirtual 52, 3) := by decide +kernel
theorem d_Fr_numberAhead_13 : decode (M_Fr_numberAhead).cc 13 = .ok (.bipush 48, 2) := by decide +kernel
theorem d_Fr_numberAhead_15 : decode (M_Fr_numberAhead).cc 15 = .ok (.if_icmp .ne 5, 3) := by decide +kernel
theorem d_Fr_numberAhead_18 : decode (M_Fr_numberAhead).cc 18 = .ok (.iconst (-1), 1) := by decide +kernel
theorem d_Fr_numberAhead_19 : decode (M_Fr_numberAhead).cc 19 = .ok (.ireturn, 1) := by decide +kernel
theorem d_Fr_numberAhead_20 : decode (M_Fr_numberAhead).cc 20 = .ok (.aload_n 1, 1) := by decide +kernel
theorem d_Fr_numberAhead_21 : decode (M_Fr_numberAhead).cc 21 = .ok (.aload_n 0, 1) := by decide +kernel
theorem d_Fr_numberAhead_22 : decode (M_Fr_numberAhead).cc 22 = .ok (.getfield 21, 3) := by decide +kernel
theorem d_Fr_numberAhead_25 : decode (M_Fr_numberAhead).cc 25 = .ok (.invokevirtual 52, 3) := by decide +kernel
theorem d_Fr_numberAhead_28 : decode (M_Fr_numberAhead).cc 28 = .ok (.bipush 48, 2) := by decide +kernel
theorem d_Fr_numberAhead_30 : decode (M_Fr_numberAhead).cc 30 = .ok (.isub, 1) := by decide +kernel
theorem d_Fr_numberAhead_31 : decode (M_Fr_numberAhead).cc 31 = .ok (.istore_n 3, 1) := by decide +kernel
theorem d_Fr_numberAhead_32 : decode (M_Fr_numberAhead).cc 32 = .ok (.iload_n 2, 1) := by decide +kernel
theorem d_Fr_numberAhead_33 : decode (M_Fr_numberAhead).cc 33 = .ok (.iconst 2, 1) := by decide +kernel
theorem d_Fr_numberAhead_34 : decode (M_Fr_numberAhead).cc 34 = .ok (.if_icmp .ne 22, 3) := by decide +kernel
theorem d_Fr_numberAhead_37 : decode (M_Fr_numberAhead).cc 37 = .ok (.iload_n 3, 1) := by decide +kernel
theorem d_Fr_numberAhead_38 : decode (M_Fr_numberAhead).cc 38 = .ok (.bipush 10, 2) := by decide +kernel
theorem d_Fr_numberAhead_40 : decode (M_Fr_numberAhead).cc 40 = .ok (.imul, 1) := by decide +kernel
theorem d_Fr_numberAhead_41 : decode (M_Fr_numberAhead).cc 41 = .ok (.aload_n 1, 1) := by decide +kernel
theorem d_Fr_numberAhead_42 : decode (M_Fr_numberAhead).cc 42 = .ok (.aload_n 0, 1) := by decide +kernel
theorem d_Fr_numberAhead_43 : decode (M_Fr_numberAhead).cc 43 = .ok (.getfield 21, 3) := by decide +kernel
theorem d_Fr_numberAhead_46 : decode (M_Fr_numberAhead).cc 46 = .ok (.iconst 1, 1) := by decide +kernel
theorem d_Fr_numberAhead_47 : decode (M_Fr_numberAhead).cc 47 = .ok (.iadd, 1) := by decide +kernel
theorem d_Fr_numberAhead_48 : decode (M_Fr_numberAhead).cc 48 = .ok (.invokevirtual 52, 3) := by decide +kernel
theorem d_Fr_numberAhead_51 : decode (M_Fr_numberAhead).cc 51 = .ok (.iadd, 1) := by decide +kernel
theorem d_Fr_numberAhead_52 : decode (M_Fr_numberAhead).cc 52 = .ok (.bipush 48, 2) := by decide +kernel
theorem d_Fr_numberAhead_54 : decode (M_Fr_numberAhead).cc 54 = .ok (.isub, 1) := by decide +kernel
theorem d_Fr_numberAhead_55 : decode (M_Fr_numberAhead).cc 55 = .ok (.istore_n 3, 1) := by decide +kernel
theorem d_Fr_numberAhead_56 : decode (M_Fr_numberAhead).cc 56 = .ok (.iload_n 3, 1) := by decide +kernel
theorem d_Fr_numberAhead_57 : decode (M_Fr_numberAhead).cc 57 = .ok (.iconst 1, 1) := by decide +kernel
theorem d_Fr_numberAhead_58 : decode (M_Fr_numberAhead).cc 58 = .ok (.if_icmp .ne 7, 3) := by decide +kernel
theorem d_Fr_numberAhead_61 : decode (M_Fr_numberAhead).cc 61 = .ok (.iconst (-1), 1) := by decide +kernel
theorem d_Fr_numberAhead_62 : decode (M_Fr_numberAhead).cc 62 = .ok (.goto 4, 3) := by decide +kernel
theorem d_Fr_numberAhead_65 : decode (M_Fr_numberAhead).cc 65 = .ok (.iload_n 3, 1) := by decide +kernel
theorem d_Fr_numberAhead_66 : decode (M_Fr_numberAhead).cc 66 = .ok (.ireturn, 1) := by decide +kernel
theorem d_Fr_heavyAtoms_0 : decode (M_Fr_heavyAtoms).cc 0 = .ok (.iconst 0, 1) := by decide +kernel
theorem d_Fr_heavyAtoms_1 : decode (M_Fr_heavyAtoms).cc 1 = .ok (.istore_n 1, 1) := by decide +kernel
theorem d_Fr_heavyAtoms_2 : decode (M_Fr_heavyAtoms).cc 2 = .ok (.iconst 0, 1) := by decide +kernel
theorem d_Fr_heavyAtoms_3 : decode (M_Fr_heavyAtoms).cc 3 = .ok (.istore_n 2, 1) := by decide +kernel
theorem d_Fr_heavyAtoms_4 : decode (M_Fr_heavyAtoms).cc 4 = .ok (.iload_n 2, 1) := by decide +kernel
theorem d_Fr_heavyAtoms_5 : decode (M_Fr_heavyAtoms).cc 5 = .ok (.bipush 10, 2) := by decide +kernel
theorem d_Fr_heavyAtoms_7 : decode (M_Fr_heavyAtoms).cc 7 = .ok (.if_icmp .ge 24, 3) := by decide +kernel
theorem d_Fr_heavyAtoms_10 : decode (M_Fr_heavyAtoms).cc 10 = .ok (.iload_n 2, 1) := by decide +kernel
theorem d_Fr_heavyAtoms_11 : decode (M_Fr_heavyAtoms).cc 11 = .ok (.bipush 9, 2) := by decide +kernel
theorem d_Fr_heavyAtoms_13 : decode (M_Fr_heavyAtoms).cc 13 = .ok (.if_icmp .eq 12, 3) := by decide +kernel
theorem d_Fr_heavyAtoms_16 : decode (M_Fr_heavyAtoms).cc 16 = .ok (.iload_n 1, 1) := by decide +kernel
theorem d_Fr_heavyAtoms_17 : decode (M_Fr_heavyAtoms).cc 17 = .ok (.aload_n 0, 1) := by decide +kernel
theorem d_Fr_heavyAtoms_18 : decode (M_Fr_heavyAtoms).cc 18 = .ok (.getfield 9, 3) := by decide +kernel
theorem d_Fr_heavyAtoms_21 : decode (M_Fr_heavyAtoms).cc 21 = .ok (.iload_n 2, 1) := by decide +kernel
theorem d_Fr_heavyAtoms_22 : decode (M_Fr_heavyAtoms).cc 22 = .ok (.iaload, 1) := by decide +kernel
theorem d_Fr_heavyAtoms_23 : decode (M_Fr_heavyAtoms).cc 23 = .ok (.iadd, 1) := by decide +kernel
theorem d_Fr_heavyAtoms_24 : decode (M_Fr_heavyAtoms).cc 24 = .ok (.istore_n 1, 1) := by decide +kernel
theorem d_Fr_heavyAtoms_25 : decode (M_Fr_heavyAtoms).cc 25 = .ok (.iinc 2 1, 3) := by decide +kernel
theorem d_Fr_heavyAtoms_28 : decode (M_Fr_heavyAtoms).cc 28 = .ok (.goto (-24), 3) := by decide +kernel
theorem d_Fr_heavyAtoms_31 : decode (M_Fr_heavyAtoms).cc 31 = .ok (.iload_n 1, 1) := by decide +kernel
theorem d_Fr_heavyAtoms_32 : decode (M_Fr_heavyAtoms).cc 32 = .ok (.ireturn, 1) := by decide +kernel
theorem d_Ca_take_0 : decode (M_Ca_take).cc 0 = .ok (.aload_n 0, 1) := by decide +kernel
theorem d_Ca_take_1 : decode (M_Ca_take).cc 1 = .ok (.iconst 0, 1) := by decide +kernel
theorem d_Ca_take_2 : decode (M_Ca_take).cc 2 = .ok (.putfield 18, 3) := by decide +kernel
theorem d_Ca_take_5 : decode (M_Ca_take).cc 5 = .ok (.aload_n 0, 1) := by decide +kernel
theorem d_Ca_take_6 : decode (M_Ca_take).cc 6 = .ok (.iconst 0, 1) := by decide +kernel
theorem d_Ca_take_7 : decode (M_Ca_take).cc 7 = .ok (.putfield 22, 3) := by decide +kernel
theorem d_Ca_take_10 : decode (M_Ca_take).cc 10 = .ok (.aload_n 0, 1) := by decide +kernel
theorem d_Ca_take_11 : decode (M_Ca_take).cc 11 = .ok (.aload_n 1, 1) := by decide +kernel
theorem d_Ca_take_12 : decode (M_Ca_take).cc 12 = .ok (.bipush 9, 2) := by decide +kernel
theorem d_Ca_take_14 : decode (M_Ca_take).cc 14 = .ok (.iaload, 1) := by decide +kernel
theorem d_Ca_take_15 : decode (M_Ca_take).cc 15 = .ok (.putfield 25, 3) := by decide +kernel
theorem d_Ca_take_18 : decode (M_Ca_take).cc 18 = .ok (.iconst 0, 1) := by decide +kernel
theorem d_Ca_take_19 : decode (M_Ca_take).cc 19 = .ok (.istore_n 2, 1) := by decide +kernel
theorem d_Ca_take_20 : decode (M_Ca_take).cc 20 = .ok (.iload_n 2, 1) := by decide +kernel
theorem d_Ca_take_21 : decode (M_Ca_take).cc 21 = .ok (.bipush 9, 2) := by decide +kernel
theorem d_Ca_take_23 : decode (M_Ca_take).cc 23 = .ok (.if_icmp .ge 53, 3) := by decide +kernel
theorem d_Ca_take_26 : decode (M_Ca_take).cc 26 = .ok (.iconst 0, 1) := by decide +kernel
theorem d_Ca_take_27 : decode (M_Ca_take).cc 27 = .ok (.istore_n 3, 1) := by decide +kernel
theorem d_Ca_take_28 : decode (M_Ca_take).cc 28 = .ok (.iload_n 3, 1) := by decide +kernel
theorem d_Ca_take_29 : decode (M_Ca_take).cc 29 = .ok (.aload_n 1, 1) := by decide +kernel
theorem d_Ca_take_30 : decode (M_Ca_take).cc 30 = .ok (.iload_n 2, 1) := by decide +kernel
theorem d_Ca_take_31 : decode (M_Ca_take).cc 31 = .ok (.iaload, 1) := by decide +kernel
theorem d_Ca_take_32 : decode (M_Ca_take).cc 32 = .ok (.if_icmp .ge 38, 3) := by decide +kernel
theorem d_Ca_take_35 : decode (M_Ca_take).cc 35 = .ok (.aload_n 0, 1) := by decide +kernel
theorem d_Ca_take_36 : decode (M_Ca_take).cc 36 = .ok (.getfield 18, 3) := by decide +kernel
theorem d_Ca_take_39 : decode (M_Ca_take).cc 39 = .ok (.bipush 6, 2) := by decide +kernel
theorem d_Ca_take_41 : decode (M_Ca_take).cc 41 = .ok (.if_icmp .ge 29, 3) := by decide +kernel
theorem d_Ca_take_44 : decode (M_Ca_take).cc 44 = .ok (.aload_n 0, 1) := by decide +kernel
theorem d_Ca_take_45 : decode (M_Ca_take).cc 45 = .ok (.getfield 9, 3) := by decide +kernel
theorem d_Ca_take_48 : decode (M_Ca_take).cc 48 = .ok (.aload_n 0, 1) := by decide +kernel
theorem d_Ca_take_49 : decode (M_Ca_take).cc 49 = .ok (.getfield 18, 3) := by decide +kernel
theorem d_Ca_take_52 : decode (M_Ca_take).cc 52 = .ok (.iload_n 2, 1) := by decide +kernel
theorem d_Ca_take_53 : decode (M_Ca_take).cc 53 = .ok (.iastore, 1) := by decide +kernel
theorem d_Ca_take_54 : decode (M_Ca_take).cc 54 = .ok (.aload_n 0, 1) := by decide +kernel
theorem d_Ca_take_55 : decode (M_Ca_take).cc 55 = .ok (.dup, 1) := by decide +kernel
theorem d_Ca_take_56 : decode (M_Ca_take).cc 56 = .ok (.getfield 18, 3) := by decide +kernel
theorem d_Ca_take_59 : decode (M_Ca_take).cc 59 = .ok (.iconst 1, 1) := by decide +kernel
theorem d_Ca_take_60 : decode (M_Ca_take).cc 60 = .ok (.iadd, 1) := by decide +kernel
theorem d_Ca_take_61 : decode (M_Ca_take).cc 61 = .ok (.putfield 18, 3) := by decide +kernel
theorem d_Ca_take_64 : decode (M_Ca_take).cc 64 = .ok (.iinc 3 1, 3) := by decide +kernel
theorem d_Ca_take_67 : decode (M_Ca_take).cc 67 = .ok (.goto (-39), 3) := by decide +kernel
theorem d_Ca_take_70 : decode (M_Ca_take).cc 70 = .ok (.iinc 2 1, 3) := by decide +kernel
theorem d_Ca_take_73 : decode (M_Ca_take).cc 73 = .ok (.goto (-53), 3) := by decide +kernel
theorem d_Ca_take_76 : decode (M_Ca_take).cc 76 = .ok (.return_, 1) := by decide +kernel
theorem d_Ca_hasSameFormula_0 : decode (M_Ca_hasSameFormula).cc 0 = .ok (.aload_n 0, 1) := by decide +kernel
theorem d_Ca_hasSameFormula_1 : decode (M_Ca_hasSameFormula).cc 1 = .ok (.getfield 18, 3) := by decide +kernel
theorem d_Ca_hasSameFormula_4 : decode (M_Ca_hasSameFormula).cc 4 = .ok (.aload_n 1, 1) := by decide +kernel
theorem d_Ca_hasSameFormula_5 : decode (M_Ca_hasSameFormula).cc 5 = .ok (.getfield 18, 3) := by decide +kernel
theorem d_Ca_hasSameFormula_8 : decode (M_Ca_hasSameFormula).cc 8 = .ok (.if_icmp .ne 14, 3) := by decide +kernel
theorem d_Ca_hasSameFormula_11 : decode (M_Ca_hasSameFormula).cc 11 = .ok (.aload_n 0, 1) := by decide +kernel
theorem d_Ca_hasSameFormula_12 : decode (M_Ca_hasSameFormula).cc 12 = .ok (.getfield 25, 3) := by decide +kernel
theorem d_Ca_hasSameFormula_15 : decode (M_Ca_hasSameFormula).cc 15 = .ok (.aload_n 1, 1) := by decide +kernel
theorem d_Ca_hasSameFormula_16 : decode (M_Ca_hasSameFormula).cc 16 = .ok (.getfield 25, 3) := by decide +kernel
theorem d_Ca_hasSameFormula_19 : decode (M_Ca_hasSameFormula).cc 19 = .ok (.if_icmp .eq 5, 3) := by decide +kernel
theorem d_Ca_hasSameFormula_22 : decode (M_Ca_hasSameFormula).cc 22 = .ok (.iconst 0, 1) := by decide +kernel
theorem d_Ca_hasSameFormula_23 : decode (M_Ca_hasSameFormula).cc 23 = .ok (.ireturn, 1) := by decide +kernel
theorem d_Ca_hasSameFormula_24 : decode (M_Ca_hasSameFormula).cc 24 = .ok (.iconst 0, 1) := by decide +kernel
theorem d_Ca_hasSameFormula_25 : decode (M_Ca_hasSameFormula).cc 25 = .ok (.istore_n 2, 1) := by decide +kernel
theorem d_Ca_hasSameFormula_26 : decode (M_Ca_hasSameFormula).cc 26 = .ok (.iload_n 2, 1) := by decide +kernel
theorem d_Ca_hasSameFormula_27 : decode (M_Ca_hasSameFormula).cc 27 = .ok (.aload_n 0, 1) := by decide +kernel
theorem d_Ca_hasSameFormula_28 : decode (M_Ca_hasSameFormula).cc 28 = .ok (.getfield 18, 3) := by decide +kernel
theorem d_Ca_hasSameFormula_31 : decode (M_Ca_hasSameFormula).cc 31 = .ok (.if_icmp .ge 26, 3) := by decide +kernel
theorem d_Ca_hasSameFormula_34 : decode (M_Ca_hasSameFormula).cc 34 = .ok (.aload_n 0, 1) := by decide +kernel
theorem d_Ca_hasSameFormula_35 : decode (M_Ca_hasSameFormula).cc 35 = .ok (.getfield 9, 3) := by decide +kernel
theorem d_Ca_hasSameFormula_38 : decode (M_Ca_hasSameFormula).cc 38 = .ok (.iload_n 2, 1) := by decide +kernel
theorem d_Ca_hasSameFormula_39 : decode (M_Ca_hasSameFormula).cc 39 = .ok (.iaload, 1) := by decide +kernel
theorem d_Ca_hasSameFormula_40 : decode (M_Ca_hasSameFormula).cc 40 = .ok (.aload_n 1, 1) := by decide +kernel
theorem d_Ca_hasSameFormula_41 : decode (M_Ca_hasSameFormula).cc 41 = .ok (.getfield 9, 3) := by decide +kernel
theorem d_Ca_hasSameFormula_44 : decode (M_Ca_hasSameFormula).cc 44 = .ok (.iload_n 2, 1) := by decide +kernel
theorem d_Ca_hasSameFormula_45 : decode (M_Ca_hasSameFormula).cc 45 = .ok (.iaload, 1) := by decide +kernel
theorem d_Ca_hasSameFormula_46 : decode (M_Ca_hasSameFormula).cc 46 = .ok (.if_icmp .eq 5, 3) := by decide +kernel
theorem d_Ca_hasSameFormula_49 : decode (M_Ca_hasSameFormula).cc 49 = .ok (.iconst 0, 1) := by decide +kernel
theorem d_Ca_hasSameFormula_50 : decode (M_Ca_hasSameFormula).cc 50 = .ok (.ireturn, 1) := by decide +kernel
theorem d_Ca_hasSameFormula_51 : decode (M_Ca_hasSameFormula).cc 51 = .ok (.iinc 2 1, 3) := by decide +kernel
theorem d_Ca_hasSameFormula_54 : decode (M_Ca_hasSameFormula).cc 54 = .ok (.goto (-28), 3) := by decide +kernel
theorem d_Ca_hasSameFormula_57 : decode (M_Ca_hasSameFormula).cc 57 = .ok (.iconst 1, 1) := by decide +kernel
theorem d_Ca_hasSameFormula_58 : decode (M_Ca_hasSameFormula).cc 58 = .ok (.ireturn, 1) := by decide +kernel
theorem d_Ml_addAtomsOf_0 : decode (M_Ml_addAtomsOf).cc 0 = .ok (.aload_n 0, 1) := by decide +kernel
theorem d_Ml_addAtomsOf_1 : decode (M_Ml_addAtomsOf).cc 1 = .ok (.invokevirtual 34, 3) := by decide +kernel
theorem d_Ml_addAtomsOf_4 : decode (M_Ml_addAtomsOf).cc 4 = .ok (.iconst 0, 1) := by decide +kernel
theorem d_Ml_addAtomsOf_5 : decode (M_Ml_addAtomsOf).cc 5 = .ok (.istore_n 2, 1) := by decide +kernel
theorem d_Ml_addAtomsOf_6 : decode (M_Ml_addAtomsOf).cc 6 = .ok (.iload_n 2, 1) := by decide +kernel
theorem d_Ml_addAtomsOf_7 : decode (M_Ml_addAtomsOf).cc 7 = .ok (.aload_n 1, 1) := by decide +kernel
theorem d_Ml_addAtomsOf_8 : decode (M_Ml_addAtomsOf).cc 8 = .ok (.getfield 37, 3) := by decide +kernel
theorem d_Ml_addAtomsOf_11 : decode (M_Ml_addAtomsOf).cc 11 = .ok (.if_icmp .ge 19, 3) := by decide +kernel
theorem d_Ml_addAtomsOf_14 : decode (M_Ml_addAtomsOf).cc 14 = .ok (.aload_n 0, 1) := by decide +kernel
theorem d_Ml_addAtomsOf_15 : decode (M_Ml_addAtomsOf).cc 15 = .ok (.aload_n 1, 1) := by decide +kernel
theorem d_Ml_addAtomsOf_16 : decode (M_Ml_addAtomsOf).cc 16 = .ok (.getfield 40, 3) := by decide +kernel
theorem d_Ml_addAtomsOf_19 : decode (M_Ml_addAtomsOf).cc 19 = .ok (.iload_n 2, 1) := by decide +kernel
theorem d_Ml_addAtomsOf_20 : decode (M_Ml_addAtomsOf).cc 20 = .ok (.iaload, 1) := by decide +kernel
theorem d_Ml_addAtomsOf_21 : decode (M_Ml_addAtomsOf).cc 21 = .ok (.invokevirtual 41, 3) := by decide +kernel
theorem d_Ml_addAtomsOf_24 : decode (M_Ml_addAtomsOf).cc 24 = .ok (.iinc 2 1, 3) := by decide +kernel
theorem d_Ml_addAtomsOf_27 : decode (M_Ml_addAtomsOf).cc 27 = .ok (.goto (-21), 3) := by decide +kernel
theorem d_Ml_addAtomsOf_30 : decode (M_Ml_addAtomsOf).cc 30 = .ok (.return_, 1) := by decide +kernel
theorem d_Ml_clear_0 : decode (M_Ml_clear).cc 0 = .ok (.aload_n 0, 1) := by decide +kernel
theorem d_Ml_clear_1 : decode (M_Ml_clear).cc 1 = .ok (.iconst 0, 1) := by decide +kernel
theorem d_Ml_clear_2 : decode (M_Ml_clear).cc 2 = .ok (.putfield 21, 3) := by decide +kernel
theorem d_Ml_clear_5 : decode (M_Ml_clear).cc 5 = .ok (.aload_n 0, 1) := by decide +kernel
theorem d_Ml_clear_6 : decode (M_Ml_clear).cc 6 = .ok (.getfield 18, 3) := by decide +kernel
theorem d_Ml_clear_9 : decode (M_Ml_clear).cc 9 = .ok (.iconst 0, 1) := by decide +kernel
theorem d_Ml_clear_10 : decode (M_Ml_clear).cc 10 = .ok (.invokestatic 25, 3) := by decide +kernel
theorem d_Ml_clear_13 : decode (M_Ml_clear).cc 13 = .ok (.return_, 1) := by decide +kernel
theorem d_Ml_addAtom_0 : decode (M_Ml_addAtom).cc 0 = .ok (.aload_n 0, 1) := by decide +kernel
theorem d_Ml_addAtom_1 : decode (M_Ml_addAtom).cc 1 = .ok (.getfield 21, 3) := by decide +kernel
theorem d_Ml_addAtom_4 : decode (M_Ml_addAtom).cc 4 = .ok (.bipush 6, 2) := by decide +kernel
theorem d_Ml_addAtom_6 : decode (M_Ml_addAtom).cc 6 = .ok (.if_icmp .ge 37, 3) := by decide +kernel
theorem d_Ml_addAtom_9 : decode (M_Ml_addAtom).cc 9 = .ok (.aload_n 0, 1) := by decide +kernel
theorem d_Ml_addAtom_10 : decode (M_Ml_addAtom).cc 10 = .ok (.getfield 9, 3) := by decide +kernel
theorem d_Ml_addAtom_13 : decode (M_Ml_addAtom).cc 13 = .ok (.aload_n 0, 1) := by decide +kernel
theorem d_Ml_addAtom_14 : decode (M_Ml_addAtom).cc 14 = .ok (.getfield 21, 3) := by decide +kernel
theorem d_Ml_addAtom_17 : decode (M_Ml_addAtom).cc 17 = .ok (.iload_n 1, 1) := by decide +kernel
theorem d_Ml_addAtom_18 : decode (M_Ml_addAtom).cc 18 = .ok (.iastore, 1) := by decide +kernel
theorem d_Ml_addAtom_19 : decode (M_Ml_addAtom).cc 19 = .ok (.aload_n 0, 1) := by decide +kernel
theorem d_Ml_addAtom_20 : decode (M_Ml_addAtom).cc 20 = .ok (.getfield 15, 3) := by decide +kernel
theorem d_Ml_addAtom_23 : decode (M_Ml_addAtom).cc 23 = .ok (.aload_n 0, 1) := by decide +kernel
theorem d_Ml_addAtom_24 : decode (M_Ml_addAtom).cc 24 = .ok (.getfield 21, 3) := by decide +kernel
theorem d_Ml_addAtom_27 : decode (M_Ml_addAtom).cc 27 = .ok (.getstatic 31, 3) := by decide +kernel
theorem d_Ml_addAtom_30 : decode (M_Ml_addAtom).cc 30 = .ok (.iload_n 1, 1) := by decide +kernel
theorem d_Ml_addAtom_31 : decode (M_Ml_addAtom).cc 31 = .ok (.iaload, 1) := by decide +kernel
theorem d_Ml_addAtom_32 : decode (M_Ml_addAtom).cc 32 = .ok (.iastore, 1) := by decide +kernel
theorem d_Ml_addAtom_33 : decode (M_Ml_addAtom).cc 33 = .ok (.aload_n 0, 1) := by decide +kernel
theorem d_Ml_addAtom_34 : decode (M_Ml_addAtom).cc 34 = .ok (.dup, 1) := by decide +kernel
theorem d_Ml_addAtom_35 : decode (M_Ml_addAtom).cc 35 = .ok (.getfield 21, 3) := by decide +kernel
theorem d_Ml_addAtom_38 : decode (M_Ml_addAtom).cc 38 = .ok (.iconst 1, 1) := by decide +kernel
theorem d_Ml_addAtom_39 : decode (M_Ml_addAtom).cc 39 = .ok (.iadd, 1) := by decide +kernel
theorem d_Ml_addAtom_40 : decode (M_Ml_addAtom).cc 40 = .ok (.putfield 21, 3) := by decide +kernel
theorem d_Ml_addAtom_43 : decode (M_Ml_addAtom).cc 43 = .ok (.return_, 1) := by decide +kernel
theorem d_Ml_between_0 : decode (M_Ml_between).cc 0 = .ok (.aload_n 0, 1) := by decide +kernel
theorem d_Ml_between_1 : decode (M_Ml_between).cc 1 = .ok (.getfield 18, 3) := by decide +kernel
theorem d_Ml_between_4 : decode (M_Ml_between).cc 4 = .ok (.iload_n 1, 1) := by decide +kernel
theorem d_Ml_between_5 : decode (M_Ml_between).cc 5 = .ok (.bipush 6, 2) := by decide +kernel
theorem d_Ml_between_7 : decode (M_Ml_between).cc 7 = .ok (.imul, 1) := by decide +kernel
theorem d_Ml_between_8 : decode (M_Ml_between).cc 8 = .ok (.iload_n 2, 1) := by decide +kernel
theorem d_Ml_between_9 : decode (M_Ml_between).cc 9 = .ok (.iadd, 1) := by decide +kernel
theorem d_Ml_between_10 : decode (M_Ml_between).cc 10 = .ok (.iaload, 1) := by decide +kernel
theorem d_Ml_between_11 : decode (M_Ml_between).cc 11 = .ok (.ireturn, 1) := by decide +kernel
theorem d_Ca_add_0 : decode (M_Ca_add).cc 0 = .ok (.aload_n 0, 1) := by decide +kernel
theorem d_Ca_add_1 : decode (M_Ca_add).cc 1 = .ok (.getfield 22, 3) := by decide +kernel
theorem d_Ca_add_4 : decode (M_Ca_add).cc 4 = .ok (.sipush 500, 3) := by decide +kernel
theorem d_Ca_add_7 : decode (M_Ca_add).cc 7 = .ok (.if_icmp .ge 13, 3) := by decide +kernel
theorem d_Ca_add_10 : decode (M_Ca_add).cc 10 = .ok (.aload_n 0, 1) := by decide +kernel
theorem d_Ca_add_11 : decode (M_Ca_add).cc 11 = .ok (.getfield 15, 3) := by decide +kernel
theorem d_Ca_add_14 : decode (M_Ca_add).cc 14 = .ok (.aload_n 0, 1) := by decide +kernel
theorem d_Ca_add_15 : decode (M_Ca_add).cc 15 = .ok (.getfield 22, 3) := by decide +kernel
theorem d_Ca_add_18 : decode (M_Ca_add).cc 18 = .ok (.iload_n 1, 1) := by decide +kernel
theorem d_Ca_add_19 : decode (M_Ca_add).cc 19 = .ok (.iastore, 1) := by decide +kernel
theorem d_Ca_add_20 : decode (M_Ca_add).cc 20 = .ok (.aload_n 0, 1) := by decide +kernel
theorem d_Ca_add_21 : decode (M_Ca_add).cc 21 = .ok (.dup, 1) := by decide +kernel
theorem d_Ca_add_22 : decode (M_Ca_add).cc 22 = .ok (.getfield 22, 3) := by decide +kernel
theorem d_Ca_add_25 : decode (M_Ca_add).cc 25 = .ok (.iconst 1, 1) := by decide +kernel
theorem d_Ca_add_26 : decode (M_Ca_add).cc 26 = .ok (.iadd, 1) := by decide +kernel
theorem d_Ca_add_27 : decode (M_Ca_add).cc 27 = .ok (.putfield 22, 3) := by decide +kernel
theorem d_Ca_add_30 : decode (M_Ca_add).cc 30 = .ok (.return_, 1) := by decide +kernel
theorem d_Ma_min_0 : decode (M_Ma_min).cc 0 = .ok (.iload_n 0, 1) := by decide +kernel
theorem d_Ma_min_1 : decode (M_Ma_min).cc 1 = .ok (.iload_n 1, 1) := by decide +kernel
theorem d_Ma_min_2 : decode (M_Ma_min).cc 2 = .ok (.if_icmp .gt 7, 3) := by decide +kernel
theorem d_Ma_min_5 : decode (M_Ma_min).cc 5 = .ok (.iload_n 0, 1) := by decide +kernel
theorem d_Ma_min_6 : decode (M_Ma_min).cc 6 = .ok (.goto 4, 3) := by decide +kernel
theorem d_Ma_min_9 : decode (M_Ma_min).cc 9 = .ok (.iload_n 1, 1) := by decide +kernel
theorem d_Ma_min_10 : decode (M_Ma_min).cc 10 = .ok (.ireturn, 1) := by decide +kernel
theorem d_Ca_isOverfull_0 : decode (M_Ca_isOverfull).cc 0 = .ok (.aload_n 0, 1) := by decide +kernel
theorem d_Ca_isOverfull_1 : decode (M_Ca_isOverfull).cc 1 = .ok (.getfield 22, 3) := by decide +kernel
theorem d_Ca_isOverfull_4 : decode (M_Ca_isOverfull).cc 4 = .ok (.sipush 500, 3) := by decide +kernel
theorem d_Ca_isOverfull_7 : decode (M_Ca_isOverfull).cc 7 = .ok (.if_icmp .le 7, 3) := by decide +kernel
theorem d_Ca_isOverfull_10 : decode (M_Ca_isOverfull).cc 10 = .ok (.iconst 1, 1) := by decide +kernel
theorem d_Ca_isOverfull_11 : decode (M_Ca_isOverfull).cc 11 = .ok (.goto 4, 3) := by decide +kernel
theorem d_Ca_isOverfull_14 : decode (M_Ca_isOverfull).cc 14 = .ok (.iconst 0, 1) := by decide +kernel
theorem d_Ca_isOverfull_15 : decode (M_Ca_isOverfull).cc 15 = .ok (.ireturn, 1) := by decide +kernel
theorem d_Ml_bind_0 : decode (M_Ml_bind).cc 0 = .ok (.iload_n 3, 1) := by decide +kernel
theorem d_Ml_bind_1 : decode (M_Ml_bind).cc 1 = .ok (.aload_n 0, 1) := by decide +kernel
theorem d_Ml_bind_2 : decode (M_Ml_bind).cc 2 = .ok (.iload_n 1, 1) := by decide +kernel
theorem d_Ml_bind_3 : decode (M_Ml_bind).cc 3 = .ok (.iload_n 2, 1) := by decide +kernel
theorem d_Ml_bind_4 : decode (M_Ml_bind).cc 4 = .ok (.invokevirtual 60, 3) := by decide +kernel
theorem d_Ml_bind_7 : decode (M_Ml_bind).cc 7 = .ok (.isub, 1) := by decide +kernel
theorem d_Ml_bind_8 : decode (M_Ml_bind).cc 8 = .ok (.istore 4, 2) := by decide +kernel
theorem d_Ml_bind_10 : decode (M_Ml_bind).cc 10 = .ok (.aload_n 0, 1) := by decide +kernel
theorem d_Ml_bind_11 : decode (M_Ml_bind).cc 11 = .ok (.getfield 15, 3) := by decide +kernel
theorem d_Ml_bind_14 : decode (M_Ml_bind).cc 14 = .ok (.iload_n 1, 1) := by decide +kernel
theorem d_Ml_bind_15 : decode (M_Ml_bind).cc 15 = .ok (.dup2, 1) := by decide +kernel
theorem d_Ml_bind_16 : decode (M_Ml_bind).cc 16 = .ok (.iaload, 1) := by decide +kernel
theorem d_Ml_bind_17 : decode (M_Ml_bind).cc 17 = .ok (.iload 4, 2) := by decide +kernel
theorem d_Ml_bind_19 : decode (M_Ml_bind).cc 19 = .ok (.isub, 1) := by decide +kernel
theorem d_Ml_bind_20 : decode (M_Ml_bind).cc 20 = .ok (.iastore, 1) := by decide +kernel
theorem d_Ml_bind_21 : decode (M_Ml_bind).cc 21 = .ok (.aload_n 0, 1) := by decide +kernel
theorem d_Ml_bind_22 : decode (M_Ml_bind).cc 22 = .ok (.getfield 15, 3) := by decide +kernel
theorem d_Ml_bind_25 : decode (M_Ml_bind).cc 25 = .ok (.iload_n 2, 1) := by decide +kernel
theorem d_Ml_bind_26 : decode (M_Ml_bind).cc 26 = .ok (.dup2, 1) := by decide +kernel
theorem d_Ml_bind_27 : decode (M_Ml_bind).cc 27 = .ok (.iaload, 1) := by decide +kernel
theorem d_Ml_bind_28 : decode (M_Ml_bind).cc 28 = .ok (.iload 4, 2) := by decide +kernel
theorem d_Ml_bind_30 : decode (M_Ml_bind).cc 30 = .ok (.isub, 1) := by decide +kernel
theorem d_Ml_bind_31 : decode (M_Ml_bind).cc 31 = .ok (.iastore, 1) := by decide +kernel
theorem d_Ml_bind_32 : decode (M_Ml_bind).cc 32 = .ok (.aload_n 0, 1) := by decide +kernel
theorem d_Ml_bind_33 : decode (M_Ml_bind).cc 33 = .ok (.getfield 18, 3) := by decide +kernel
theorem d_Ml_bind_36 : decode (M_Ml_bind).cc 36 = .ok (.iload_n 1, 1) := by decide +kernel
theorem d_Ml_bind_37 : decode (M_Ml_bind).cc 37 = .ok (.bipush 6, 2) := by decide +kernel
theorem d_Ml_bind_39 : decode (M_Ml_bind).cc 39 = .ok (.imul, 1) := by decide +kernel
theorem d_Ml_bind_40 : decode (M_Ml_bind).cc 40 = .ok (.iload_n 2, 1) := by decide +kernel
theorem d_Ml_bind_41 : decode (M_Ml_bind).cc 41 = .ok (.iadd, 1) := by decide +kernel
theorem d_Ml_bind_42 : decode (M_Ml_bind).cc 42 = .ok (.iload_n 3, 1) := by decide +kernel
theorem d_Ml_bind_43 : decode (M_Ml_bind).cc 43 = .ok (.iastore, 1) := by decide +kernel
theorem d_Ml_bind_44 : decode (M_Ml_bind).cc 44 = .ok (.aload_n 0, 1) := by decide +kernel
theorem d_Ml_bind_45 : decode (M_Ml_bind).cc 45 = .ok (.getfield 18, 3) := by decide +kernel
theorem d_Ml_bind_48 : decode (M_Ml_bind).cc 48 = .ok (.iload_n 2, 1) := by decide +kernel
theorem d_Ml_bind_49 : decode (M_Ml_bind).cc 49 = .ok (.bipush 6, 2) := by decide +kernel
theorem d_Ml_bind_51 : decode (M_Ml_bind).cc 51 = .ok (.imul, 1) := by decide +kernel
theorem d_Ml_bind_52 : decode (M_Ml_bind).cc 52 = .ok (.iload_n 1, 1) := by decide +kernel
theorem d_Ml_bind_53 : decode (M_Ml_bind).cc 53 = .ok (.iadd, 1) := by decide +kernel
theorem d_Ml_bind_54 : decode (M_Ml_bind).cc 54 = .ok (.iload_n 3, 1) := by decide +kernel
theorem d_Ml_bind_55 : decode (M_Ml_bind).cc 55 = .ok (.iastore, 1) := by decide +kernel
theorem d_Ml_bind_56 : decode (M_Ml_bind).cc 56 = .ok (.return_, 1) := by decide +kernel
theorem d_Ma_max_0 : decode (M_Ma_max).cc 0 = .ok (.iload_n 0, 1) := by decide +kernel
theorem d_Ma_max_1 : decode (M_Ma_max).cc 1 = .ok (.iload_n 1, 1) := by decide +kernel
theorem d_Ma_max_2 : decode (M_Ma_max).cc 2 = .ok (.if_icmp .lt 7, 3) := by decide +kernel
theorem d_Ma_max_5 : decode (M_Ma_max).cc 5 = .ok (.iload_n 0, 1) := by decide +kernel
theorem d_Ma_max_6 : decode (M_Ma_max).cc 6 = .ok (.goto 4, 3) := by decide +kernel
theorem d_Ma_max_9 : decode (M_Ma_max).cc 9 = .ok (.iload_n 1, 1) := by decide +kernel
theorem d_Ma_max_10 : decode (M_Ma_max).cc 10 = .ok (.ireturn, 1) := by decide +kernel
theorem d_Ml_isOverbound_0 : decode (M_Ml_isOverbound).cc 0 = .ok (.iconst 0, 1) := by decide +kernel
theorem d_Ml_isOverbound_1 : decode (M_Ml_isOverbound).cc 1 = .ok (.istore_n 1, 1) := by decide +kernel
theorem d_Ml_isOverbound_2 : decode (M_Ml_isOverbound).cc 2 = .ok (.iload_n 1, 1) := by decide +kernel
theorem d_Ml_isOverbound_3 : decode (M_Ml_isOverbound).cc 3 = .ok (.aload_n 0, 1) := by decide +kernel
theorem d_Ml_isOverbound_4 : decode (M_Ml_isOverbound).cc 4 = .ok (.getfield 21, 3) := by decide +kernel
theorem d_Ml_isOverbound_7 : decode (M_Ml_isOverbound).cc 7 = .ok (.if_icmp .ge 20, 3) := by decide +kernel
theorem d_Ml_isOverbound_10 : decode (M_Ml_isOverbound).cc 10 = .ok (.aload_n 0, 1) := by decide +kernel
theorem d_Ml_isOverbound_11 : decode (M_Ml_isOverbound).cc 11 = .ok (.getfield 15, 3) := by decide +kernel
theorem d_Ml_isOverbound_14 : decode (M_Ml_isOverbound).cc 14 = .ok (.iload_n 1, 1) := by decide +kernel
theorem d_Ml_isOverbound_15 : decode (M_Ml_isOverbound).cc 15 = .ok (.iaload, 1) := by decide +kernel
theorem d_Ml_isOverbound_16 : decode (M_Ml_isOverbound).cc 16 = .ok (.ifCond .ge 5, 3) := by decide +kernel
theorem d_Ml_isOverbound_19 : decode (M_Ml_isOverbound).cc 19 = .ok (.iconst 1, 1) := by decide +kernel
theorem d_Ml_isOverbound_20 : decode (M_Ml_isOverbound).cc 20 = .ok (.ireturn, 1) := by decide +kernel
theorem d_Ml_isOverbound_21 : decode (M_Ml_isOverbound).cc 21 = .ok (.iinc 1 1, 3) := by decide +kernel
theorem d_Ml_isOverbound_24 : decode (M_Ml_isOverbound).cc 24 = .ok (.goto (-22), 3) := by decide +kernel
theorem d_Ml_isOverbound_27 : decode (M_Ml_isOverbound).cc 27 = .ok (.iconst 0, 1) := by decide +kernel
theorem d_Ml_isOverbound_28 : decode (M_Ml_isOverbound).cc 28 = .ok (.ireturn, 1) := by decide +kernel
theorem d_Ca_hasFormulaOf_0 : decode (M_Ca_hasFormulaOf).cc 0 = .ok (.aload_n 0, 1) := by decide +kernel
theorem d_Ca_hasFormulaOf_1 : decode (M_Ca_hasFormulaOf).cc 1 = .ok (.getfield 18, 3) := by decide +kernel
theorem d_Ca_hasFormulaOf_4 : decode (M_Ca_hasFormulaOf).cc 4 = .ok (.aload_n 1, 1) := by decide +kernel
theorem d_Ca_hasFormulaOf_5 : decode (M_Ca_hasFormulaOf).cc 5 = .ok (.getfield 28, 3) := by decide +kernel
theorem d_Ca_hasFormulaOf_8 : decode (M_Ca_hasFormulaOf).cc 8 = .ok (.if_icmp .ne 14, 3) := by decide +kernel
theorem d_Ca_hasFormulaOf_11 : decode (M_Ca_hasFormulaOf).cc 11 = .ok (.aload_n 0, 1) := by decide +kernel
theorem d_Ca_hasFormulaOf_12 : decode (M_Ca_hasFormulaOf).cc 12 = .ok (.getfield 25, 3) := by decide +kernel
theorem d_Ca_hasFormulaOf_15 : decode (M_Ca_hasFormulaOf).cc 15 = .ok (.aload_n 1, 1) := by decide +kernel
theorem d_Ca_hasFormulaOf_16 : decode (M_Ca_hasFormulaOf).cc 16 = .ok (.invokevirtual 31, 3) := by decide +kernel
theorem d_Ca_hasFormulaOf_19 : decode (M_Ca_hasFormulaOf).cc 19 = .ok (.if_icmp .eq 5, 3) := by decide +kernel
theorem d_Ca_hasFormulaOf_22 : decode (M_Ca_hasFormulaOf).cc 22 = .ok (.iconst 0, 1) := by decide +kernel
theorem d_Ca_hasFormulaOf_23 : decode (M_Ca_hasFormulaOf).cc 23 = .ok (.ireturn, 1) := by decide +kernel
theorem d_Ca_hasFormulaOf_24 : decode (M_Ca_hasFormulaOf).cc 24 = .ok (.iconst 0, 1) := by decide +kernel
theorem d_Ca_hasFormulaOf_25 : decode (M_Ca_hasFormulaOf).cc 25 = .ok (.istore_n 2, 1) := by decide +kernel
theorem d_Ca_hasFormulaOf_26 : decode (M_Ca_hasFormulaOf).cc 26 = .ok (.iload_n 2, 1) := by decide +kernel
theorem d_Ca_hasFormulaOf_27 : decode (M_Ca_hasFormulaOf).cc 27 = .ok (.aload_n 0, 1) := by decide +kernel
theorem d_Ca_hasFormulaOf_28 : decode (M_Ca_hasFormulaOf).cc 28 = .ok (.getfield 18, 3) := by decide +kernel
theorem d_Ca_hasFormulaOf_31 : decode (M_Ca_hasFormulaOf).cc 31 = .ok (.if_icmp .ge 45, 3) := by decide +kernel
theorem d_Ca_hasFormulaOf_34 : decode (M_Ca_hasFormulaOf).cc 34 = .ok (.aload_n 0, 1) := by decide +kernel
theorem d_Ca_hasFormulaOf_35 : decode (M_Ca_hasFormulaOf).cc 35 = .ok (.getfield 9, 3) := by decide +kernel
theorem d_Ca_hasFormulaOf_38 : decode (M_Ca_hasFormulaOf).cc 38 = .ok (.iload_n 2, 1) := by decide +kernel
theorem d_Ca_hasFormulaOf_39 : decode (M_Ca_hasFormulaOf).cc 39 = .ok (.iaload, 1) := by decide +kernel
theorem d_Ca_hasFormulaOf_40 : decode (M_Ca_hasFormulaOf).cc 40 = .ok (.istore_n 3, 1) := by decide +kernel
theorem d_Ca_hasFormulaOf_41 : decode (M_Ca_hasFormulaOf).cc 41 = .ok (.iload_n 3, 1) := by decide +kernel
theorem d_Ca_hasFormulaOf_42 : decode (M_Ca_hasFormulaOf).cc 42 = .ok (.aload_n 1, 1) := by decide +kernel
theorem d_Ca_hasFormulaOf_43 : decode (M_Ca_hasFormulaOf).cc 43 = .ok (.getfield 35, 3) := by decide +kernel
theorem d_Ca_hasFormulaOf_46 : decode (M_Ca_hasFormulaOf).cc 46 = .ok (.aload_n 0, 1) := by decide +kernel
theorem d_Ca_hasFormulaOf_47 : decode (M_Ca_hasFormulaOf).cc 47 = .ok (.getfield 18, 3) := by decide +kernel
theorem d_Ca_hasFormulaOf_50 : decode (M_Ca_hasFormulaOf).cc 50 = .ok (.invokestatic 36, 3) := by decide +kernel
theorem d_Ca_hasFormulaOf_53 : decode (M_Ca_hasFormulaOf).cc 53 = .ok (.iload_n 3, 1) := by decide +kernel
theorem d_Ca_hasFormulaOf_54 : decode (M_Ca_hasFormulaOf).cc 54 = .ok (.aload_n 0, 1) := by decide +kernel
theorem d_Ca_hasFormulaOf_55 : decode (M_Ca_hasFormulaOf).cc 55 = .ok (.getfield 9, 3) := by decide +kernel
theorem d_Ca_hasFormulaOf_58 : decode (M_Ca_hasFormulaOf).cc 58 = .ok (.aload_n 0, 1) := by decide +kernel
theorem d_Ca_hasFormulaOf_59 : decode (M_Ca_hasFormulaOf).cc 59 = .ok (.getfield 18, 3) := by decide +kernel
theorem d_Ca_hasFormulaOf_62 : decode (M_Ca_hasFormulaOf).cc 62 = .ok (.invokestatic 36, 3) := by decide +kernel
theorem d_Ca_hasFormulaOf_65 : decode (M_Ca_hasFormulaOf).cc 65 = .ok (.if_icmp .eq 5, 3) := by decide +kernel
theorem d_Ca_hasFormulaOf_68 : decode (M_Ca_hasFormulaOf).cc 68 = .ok (.iconst 0, 1) := by decide +kernel
theorem d_Ca_hasFormulaOf_69 : decode (M_Ca_hasFormulaOf).cc 69 = .ok (.ireturn, 1) := by decide +kernel
theorem d_Ca_hasFormulaOf_70 : decode (M_Ca_hasFormulaOf).cc 70 = .ok (.iinc 2 1, 3) := by decide +kernel
theorem d_Ca_hasFormulaOf_73 : decode (M_Ca_hasFormulaOf).cc 73 = .ok (.goto (-47), 3) := by decide +kernel
theorem d_Ca_hasFormulaOf_76 : decode (M_Ca_hasFormulaOf).cc 76 = .ok (.iconst 1, 1) := by decide +kernel
theorem d_Ca_hasFormulaOf_77 : decode (M_Ca_hasFormulaOf).cc 77 = .ok (.ireturn, 1) := by decide +kernel
theorem d_Ml_freeSum_0 : decode (M_Ml_freeSum).cc 0 = .ok (.iconst 0, 1) := by decide +kernel
theorem d_Ml_freeSum_1 : decode (M_Ml_freeSum).cc 1 = .ok (.istore_n 1, 1) := by decide +kernel
theorem d_Ml_freeSum_2 : decode (M_Ml_freeSum).cc 2 = .ok (.iconst 0, 1) := by decide +kernel
theorem d_Ml_freeSum_3 : decode (M_Ml_freeSum).cc 3 = .ok (.istore_n 2, 1) := by decide +kernel
theorem d_Ml_freeSum_4 : decode (M_Ml_freeSum).cc 4 = .ok (.iload_n 2, 1) := by decide +kernel
theorem d_Ml_freeSum_5 : decode (M_Ml_freeSum).cc 5 = .ok (.aload_n 0, 1) := by decide +kernel
theorem d_Ml_freeSum_6 : decode (M_Ml_freeSum).cc 6 = .ok (.getfield 21, 3) := by decide +kernel
theorem d_Ml_freeSum_9 : decode (M_Ml_freeSum).cc 9 = .ok (.if_icmp .ge 18, 3) := by decide +kernel
theorem d_Ml_freeSum_12 : decode (M_Ml_freeSum).cc 12 = .ok (.iload_n 1, 1) := by decide +kernel
theorem d_Ml_freeSum_13 : decode (M_Ml_freeSum).cc 13 = .ok (.aload_n 0, 1) := by decide +kernel
theorem d_Ml_freeSum_14 : decode (M_Ml_freeSum).cc 14 = .ok (.getfield 15, 3) := by decide +kernel
theorem d_Ml_freeSum_17 : decode (M_Ml_freeSum).cc 17 = .ok (.iload_n 2, 1) := by decide +kernel
theorem d_Ml_freeSum_18 : decode (M_Ml_freeSum).cc 18 = .ok (.iaload, 1) := by decide +kernel
theorem d_Ml_freeSum_19 : decode (M_Ml_freeSum).cc 19 = .ok (.iadd, 1) := by decide +kernel
theorem d_Ml_freeSum_20 : decode (M_Ml_freeSum).cc 20 = .ok (.istore_n 1, 1) := by decide +kernel
theorem d_Ml_freeSum_21 : decode (M_Ml_freeSum).cc 21 = .ok (.iinc 2 1, 3) := by decide +kernel
theorem d_Ml_freeSum_24 : decode (M_Ml_freeSum).cc 24 = .ok (.goto (-20), 3) := by decide +kernel
theorem d_Ml_freeSum_27 : decode (M_Ml_freeSum).cc 27 = .ok (.iload_n 1, 1) := by decide +kernel
theorem d_Ml_freeSum_28 : decode (M_Ml_freeSum).cc 28 = .ok (.ireturn, 1) := by decide +kernel
theorem d_Ca_find_0 : decode (M_Ca_find).cc 0 = .ok (.iconst 0, 1) := by decide +kernel
theorem d_Ca_find_1 : decode (M_Ca_find).cc 1 = .ok (.istore_n 2, 1) := by decide +kernel
theorem d_Ca_find_2 : decode (M_Ca_find).cc 2 = .ok (.iload_n 2, 1) := by decide +kernel
theorem d_Ca_find_3 : decode (M_Ca_find).cc 3 = .ok (.aload_n 0, 1) := by decide +kernel
theorem d_Ca_find_4 : decode (M_Ca_find).cc 4 = .ok (.getfield 22, 3) := by decide +kernel
theorem d_Ca_find_7 : decode (M_Ca_find).cc 7 = .ok (.if_icmp .ge 21, 3) := by decide +kernel
theorem d_Ca_find_10 : decode (M_Ca_find).cc 10 = .ok (.aload_n 0, 1) := by decide +kernel
theorem d_Ca_find_11 : decode (M_Ca_find).cc 11 = .ok (.getfield 15, 3) := by decide +kernel
theorem d_Ca_find_14 : decode (M_Ca_find).cc 14 = .ok (.iload_n 2, 1) := by decide +kernel
theorem d_Ca_find_15 : decode (M_Ca_find).cc 15 = .ok (.iaload, 1) := by decide +kernel
theorem d_Ca_find_16 : decode (M_Ca_find).cc 16 = .ok (.iload_n 1, 1) := by decide +kernel
theorem d_Ca_find_17 : decode (M_Ca_find).cc 17 = .ok (.if_icmp .ne 5, 3) := by decide +kernel
theorem d_Ca_find_20 : decode (M_Ca_find).cc 20 = .ok (.iload_n 2, 1) := by decide +kernel
theorem d_Ca_find_21 : decode (M_Ca_find).cc 21 = .ok (.ireturn, 1) := by decide +kernel
theorem d_Ca_find_22 : decode (M_Ca_find).cc 22 = .ok (.iinc 2 1, 3) := by decide +kernel
theorem d_Ca_find_25 : decode (M_Ca_find).cc 25 = .ok (.goto (-23), 3) := by decide +kernel
theorem d_Ca_find_28 : decode (M_Ca_find).cc 28 = .ok (.iconst (-1), 1) := by decide +kernel
theorem d_Ca_find_29 : decode (M_Ca_find).cc 29 = .ok (.ireturn, 1) := by decide +kernel
theorem d_Ln_add_0 : decode (M_Ln_add).cc 0 = .ok (.aload_n 0, 1) := by decide +kernel
theorem d_Ln_add_1 : decode (M_Ln_add).cc 1 = .ok (.getfield 15, 3) := by decide +kernel
theorem d_Ln_add_4 : decode (M_Ln_add).cc 4 = .ok (.bipush 60, 2) := by decide +kernel
theorem d_Ln_add_6 : decode (M_Ln_add).cc 6 = .ok (.if_icmp .ge 23, 3) := by decide +kernel
theorem d_Ln_add_9 : decode (M_Ln_add).cc 9 = .ok (.aload_n 0, 1) := by decide +kernel
theorem d_Ln_add_10 : decode (M_Ln_add).cc 10 = .ok (.getfield 9, 3) := by decide +kernel
theorem d_Ln_add_13 : decode (M_Ln_add).cc 13 = .ok (.aload_n 0, 1) := by decide +kernel
theorem d_Ln_add_14 : decode (M_Ln_add).cc 14 = .ok (.getfield 15, 3) := by decide +kernel
theorem d_Ln_add_17 : decode (M_Ln_add).cc 17 = .ok (.iload_n 1, 1) := by decide +kernel
theorem d_Ln_add_18 : decode (M_Ln_add).cc 18 = .ok (.castore, 1) := by decide +kernel
theorem d_Ln_add_19 : decode (M_Ln_add).cc 19 = .ok (.aload_n 0, 1) := by decide +kernel
theorem d_Ln_add_20 : decode (M_Ln_add).cc 20 = .ok (.dup, 1) := by decide +kernel
theorem d_Ln_add_21 : decode (M_Ln_add).cc 21 = .ok (.getfield 15, 3) := by decide +kernel
theorem d_Ln_add_24 : decode (M_Ln_add).cc 24 = .ok (.iconst 1, 1) := by decide +kernel
theorem d_Ln_add_25 : decode (M_Ln_add).cc 25 = .ok (.iadd, 1) := by decide +kernel
theorem d_Ln_add_26 : decode (M_Ln_add).cc 26 = .ok (.putfield 15, 3) := by decide +kernel
theorem d_Ln_add_29 : decode (M_Ln_add).cc 29 = .ok (.return_, 1) := by decide +kernel
theorem d_Ml_build_0 : decode (M_Ml_build).cc 0 = .ok (.aload_n 0, 1) := by decide +kernel
theorem d_Ml_build_1 : decode (M_Ml_build).cc 1 = .ok (.aload_n 1, 1) := by decide +kernel
theorem d_Ml_build_2 : decode (M_Ml_build).cc 2 = .ok (.invokevirtual 45, 3) := by decide +kernel
theorem d_Ml_build_5 : decode (M_Ml_build).cc 5 = .ok (.aload_n 1, 1) := by decide +kernel
theorem d_Ml_build_6 : decode (M_Ml_build).cc 6 = .ok (.getfield 49, 3) := by decide +kernel
theorem d_Ml_build_9 : decode (M_Ml_build).cc 9 = .ok (.iload_n 2, 1) := by decide +kernel
theorem d_Ml_build_10 : decode (M_Ml_build).cc 10 = .ok (.iaload, 1) := by decide +kernel
theorem d_Ml_build_11 : decode (M_Ml_build).cc 11 = .ok (.istore_n 3, 1) := by decide +kernel
theorem d_Ml_build_12 : decode (M_Ml_build).cc 12 = .ok (.iconst 1, 1) := by decide +kernel
theorem d_Ml_build_13 : decode (M_Ml_build).cc 13 = .ok (.istore 4, 2) := by decide +kernel
theorem d_Ml_build_15 : decode (M_Ml_build).cc 15 = .ok (.iload 4, 2) := by decide +kernel
theorem d_Ml_build_17 : decode (M_Ml_build).cc 17 = .ok (.aload_n 0, 1) := by decide +kernel
theorem d_Ml_build_18 : decode (M_Ml_build).cc 18 = .ok (.getfield 21, 3) := by decide +kernel
theorem d_Ml_build_21 : decode (M_Ml_build).cc 21 = .ok (.if_icmp .ge 53, 3) := by decide +kernel
theorem d_Ml_build_24 : decode (M_Ml_build).cc 24 = .ok (.iload_n 3, 1) := by decide +kernel
theorem d_Ml_build_25 : decode (M_Ml_build).cc 25 = .ok (.iload 4, 2) := by decide +kernel
theorem d_Ml_build_27 : decode (M_Ml_build).cc 27 = .ok (.invokestatic 52, 3) := by decide +kernel
theorem d_Ml_build_30 : decode (M_Ml_build).cc 30 = .ok (.ishr, 1) := by decide +kernel
theorem d_Ml_build_31 : decode (M_Ml_build).cc 31 = .ok (.istore 5, 2) := by decide +kernel
theorem d_Ml_build_33 : decode (M_Ml_build).cc 33 = .ok (.iload 4, 2) := by decide +kernel
theorem d_Ml_build_35 : decode (M_Ml_build).cc 35 = .ok (.iconst 1, 1) := by decide +kernel
theorem d_Ml_build_36 : decode (M_Ml_build).cc 36 = .ok (.isub, 1) := by decide +kernel
theorem d_Ml_build_37 : decode (M_Ml_build).cc 37 = .ok (.istore 6, 2) := by decide +kernel
theorem d_Ml_build_39 : decode (M_Ml_build).cc 39 = .ok (.iload 6, 2) := by decide +kernel
theorem d_Ml_build_41 : decode (M_Ml_build).cc 41 = .ok (.ifCond .lt 27, 3) := by decide +kernel
theorem d_Ml_build_44 : decode (M_Ml_build).cc 44 = .ok (.aload_n 0, 1) := by decide +kernel
theorem d_Ml_build_45 : decode (M_Ml_build).cc 45 = .ok (.iload 4, 2) := by decide +kernel
theorem d_Ml_build_47 : decode (M_Ml_build).cc 47 = .ok (.iload 6, 2) := by decide +kernel
theorem d_Ml_build_49 : decode (M_Ml_build).cc 49 = .ok (.iload 5, 2) := by decide +kernel
theorem d_Ml_build_51 : decode (M_Ml_build).cc 51 = .ok (.iconst 3, 1) := by decide +kernel
theorem d_Ml_build_52 : decode (M_Ml_build).cc 52 = .ok (.iand, 1) := by decide +kernel
theorem d_Ml_build_53 : decode (M_Ml_build).cc 53 = .ok (.invokevirtual 56, 3) := by decide +kernel
theorem d_Ml_build_56 : decode (M_Ml_build).cc 56 = .ok (.iload 5, 2) := by decide +kernel
theorem d_Ml_build_58 : decode (M_Ml_build).cc 58 = .ok (.iconst 2, 1) := by decide +kernel
theorem d_Ml_build_59 : decode (M_Ml_build).cc 59 = .ok (.ishr, 1) := by decide +kernel
theorem d_Ml_build_60 : decode (M_Ml_build).cc 60 = .ok (.istore 5, 2) := by decide +kernel
theorem d_Ml_build_62 : decode (M_Ml_build).cc 62 = .ok (.iinc 6 (-1), 3) := by decide +kernel
theorem d_Ml_build_65 : decode (M_Ml_build).cc 65 = .ok (.goto (-26), 3) := by decide +kernel
theorem d_Ml_build_68 : decode (M_Ml_build).cc 68 = .ok (.iinc 4 1, 3) := by decide +kernel
theorem d_Ml_build_71 : decode (M_Ml_build).cc 71 = .ok (.goto (-56), 3) := by decide +kernel
theorem d_Ml_build_74 : decode (M_Ml_build).cc 74 = .ok (.return_, 1) := by decide +kernel
theorem d_Ln_addElement_0 : decode (M_Ln_addElement).cc 0 = .ok (.aload_n 0, 1) := by decide +kernel
theorem d_Ln_addElement_1 : decode (M_Ln_addElement).cc 1 = .ok (.getstatic 19, 3) := by decide +kernel
theorem d_Ln_addElement_4 : decode (M_Ln_addElement).cc 4 = .ok (.iload_n 1, 1) := by decide +kernel
theorem d_Ln_addElement_5 : decode (M_Ln_addElement).cc 5 = .ok (.caload, 1) := by decide +kernel
theorem d_Ln_addElement_6 : decode (M_Ln_addElement).cc 6 = .ok (.invokevirtual 29, 3) := by decide +kernel
theorem d_Ln_addElement_9 : decode (M_Ln_addElement).cc 9 = .ok (.getstatic 26, 3) := by decide +kernel
theorem d_Ln_addElement_12 : decode (M_Ln_addElement).cc 12 = .ok (.iload_n 1, 1) := by decide +kernel
theorem d_Ln_addElement_13 : decode (M_Ln_addElement).cc 13 = .ok (.caload, 1) := by decide +kernel
theorem d_Ln_addElement_14 : decode (M_Ln_addElement).cc 14 = .ok (.ifCond .eq 12, 3) := by decide +kernel
theorem d_Ln_addElement_17 : decode (M_Ln_addElement).cc 17 = .ok (.aload_n 0, 1) := by decide +kernel
theorem d_Ln_addElement_18 : decode (M_Ln_addElement).cc 18 = .ok (.getstatic 26, 3) := by decide +kernel
theorem d_Ln_addElement_21 : decode (M_Ln_addElement).cc 21 = .ok (.iload_n 1, 1) := by decide +kernel
theorem d_Ln_addElement_22 : decode (M_Ln_addElement).cc 22 = .ok (.caload, 1) := by decide +kernel
theorem d_Ln_addElement_23 : decode (M_Ln_addElement).cc 23 = .ok (.invokevirtual 29, 3) := by decide +kernel
theorem d_Ln_addElement_26 : decode (M_Ln_addElement).cc 26 = .ok (.return_, 1) := by decide +kernel
theorem d_Ln_addBond_0 : decode (M_Ln_addBond).cc 0 = .ok (.iload_n 1, 1) := by decide +kernel
theorem d_Ln_addBond_1 : decode (M_Ln_addBond).cc 1 = .ok (.iconst 2, 1) := by decide +kernel
theorem d_Ln_addBond_2 : decode (M_Ln_addBond).cc 2 = .ok (.if_icmp .ne 12, 3) := by decide +kernel
theorem d_Ln_addBond_5 : decode (M_Ln_addBond).cc 5 = .ok (.aload_n 0, 1) := by decide +kernel
theorem d_Ln_addBond_6 : decode (M_Ln_addBond).cc 6 = .ok (.bipush 61, 2) := by decide +kernel
theorem d_Ln_addBond_8 : decode (M_Ln_addBond).cc 8 = .ok (.invokevirtual 29, 3) := by decide +kernel
theorem d_Ln_addBond_11 : decode (M_Ln_addBond).cc 11 = .ok (.goto 14, 3) := by decide +kernel
theorem d_Ln_addBond_14 : decode (M_Ln_addBond).cc 14 = .ok (.iload_n 1, 1) := by decide +kernel
theorem d_Ln_addBond_15 : decode (M_Ln_addBond).cc 15 = .ok (.iconst 3, 1) := by decide +kernel
theorem d_Ln_addBond_16 : decode (M_Ln_addBond).cc 16 = .ok (.if_icmp .ne 9, 3) := by decide +kernel
theorem d_Ln_addBond_19 : decode (M_Ln_addBond).cc 19 = .ok (.aload_n 0, 1) := by decide +kernel
theorem d_Ln_addBond_20 : decode (M_Ln_addBond).cc 20 = .ok (.bipush 35, 2) := by decide +kernel
theorem d_Ln_addBond_22 : decode (M_Ln_addBond).cc 22 = .ok (.invokevirtual 29, 3) := by decide +kernel
theorem d_Ln_addBond_25 : decode (M_Ln_addBond).cc 25 = .ok (.return_, 1) := by decide +kernel
end
section
/-! what each instruction is (by names.py) -/
theorem d_IL_init_0 : decode (M_IL_init).cc 0 = .ok (.aload_n 0, 1) := by decide +kernel
theorem d_IL_init_1 : decode (M_IL_init).cc 1 = .ok (.invokespecial 1, 3) := by decide +kernel
theorem d_IL_init_4 : decode (M_IL_init).cc 4 = .ok (.aload_n 0, 1) := by decide +kernel
theorem d_IL_init_5 : decode (M_IL_init).cc 5 = .ok (.new 7, 3) := by decide +kernel
theorem d_IL_init_8 : decode (M_IL_init).cc 8 = .ok (.dup, 1) := by decide +kernel
theorem d_IL_init_9 : decode (M_IL_init).cc 9 = .ok (.invokespecial 9, 3) := by decide +kernel
theorem d_IL_init_12 : decode (M_IL_init).cc 12 = .ok (.putfield 10, 3) := by decide +kernel
theorem d_IL_init_15 : decode (M_IL_init).cc 15 = .ok (.aload_n 0, 1) := by decide +kernel
theorem d_IL_init_16 : decode (M_IL_init).cc 16 = .ok (.new 16, 3) := by decide +kernel
theorem d_IL_init_19 : decode (M_IL_init).cc 19 = .ok (.dup, 1) := by decide +kernel
theorem d_IL_init_20 : decode (M_IL_init).cc 20 = .ok (.invokespecial 18, 3) := by decide +kernel
theorem d_IL_init_23 : decode (M_IL_init).cc 23 = .ok (.putfield 19, 3) := by decide +kernel
theorem d_IL_init_26 : decode (M_IL_init).cc 26 = .ok (.aload_n 0, 1) := by decide +kernel
theorem d_IL_init_27 : decode (M_IL_init).cc 27 = .ok (.new 23, 3) := by decide +kernel
theorem d_IL_init_30 : decode (M_IL_init).cc 30 = .ok (.dup, 1) := by decide +kernel
theorem d_IL_init_31 : decode (M_IL_init).cc 31 = .ok (.invokespecial 25, 3) := by decide +kernel
theorem d_IL_init_34 : decode (M_IL_init).cc 34 = .ok (.putfield 26, 3) := by decide +kernel
theorem d_IL_init_37 : decode (M_IL_init).cc 37 = .ok (.aload_n 0, 1) := by decide +kernel
theorem d_IL_init_38 : decode (M_IL_init).cc 38 = .ok (.new 30, 3) := by decide +kernel
theorem d_IL_init_41 : decode (M_IL_init).cc 41 = .ok (.dup, 1) := by decide +kernel
theorem d_IL_init_42 : decode (M_IL_init).cc 42 = .ok (.invokespecial 32, 3) := by decide +kernel
theorem d_IL_init_45 : decode (M_IL_init).cc 45 = .ok (.putfield 33, 3) := by decide +kernel
theorem d_IL_init_48 : decode (M_IL_init).cc 48 = .ok (.aload_n 0, 1) := by decide +kernel
theorem d_IL_init_49 : decode (M_IL_init).cc 49 = .ok (.new 37, 3) := by decide +kernel
theorem d_IL_init_52 : decode (M_IL_init).cc 52 = .ok (.dup, 1) := by decide +kernel
theorem d_IL_init_53 : decode (M_IL_init).cc 53 = .ok (.invokespecial 39, 3) := by decide +kernel
theorem d_IL_init_56 : decode (M_IL_init).cc 56 = .ok (.putfield 40, 3) := by decide +kernel
theorem d_IL_init_59 : decode (M_IL_init).cc 59 = .ok (.aload_n 0, 1) := by decide +kernel
theorem d_IL_init_60 : decode (M_IL_init).cc 60 = .ok (.new 44, 3) := by decide +kernel
theorem d_IL_init_63 : decode (M_IL_init).cc 63 = .ok (.dup, 1) := by decide +kernel
theorem d_IL_init_64 : decode (M_IL_init).cc 64 = .ok (.aload_n 0, 1) := by decide +kernel
theorem d_IL_init_65 : decode (M_IL_init).cc 65 = .ok (.getfield 40, 3) := by decide +kernel
theorem d_IL_init_68 : decode (M_IL_init).cc 68 = .ok (.invokespecial 46, 3) := by decide +kernel
theorem d_IL_init_71 : decode (M_IL_init).cc 71 = .ok (.putfield 49, 3) := by decide +kernel
theorem d_IL_init_74 : decode (M_IL_init).cc 74 = .ok (.aload_n 0, 1) := by decide +kernel
theorem d_IL_init_75 : decode (M_IL_init).cc 75 = .ok (.new 53, 3) := by decide +kernel
theorem d_IL_init_78 : decode (M_IL_init).cc 78 = .ok (.dup, 1) := by decide +kernel
theorem d_IL_init_79 : decode (M_IL_init).cc 79 = .ok (.invokespecial 55, 3) := by decide +kernel
theorem d_IL_init_82 : decode (M_IL_init).cc 82 = .ok (.putfield 56, 3) := by decide +kernel
theorem d_IL_init_85 : decode (M_IL_init).cc 85 = .ok (.aload_n 0, 1) := by decide +kernel
theorem d_IL_init_86 : decode (M_IL_init).cc 86 = .ok (.new 60, 3) := by decide +kernel
theorem d_IL_init_89 : decode (M_IL_init).cc 89 = .ok (.dup, 1) := by decide +kernel
theorem d_IL_init_90 : decode (M_IL_init).cc 90 = .ok (.invokespecial 62, 3) := by decide +kernel
theorem d_IL_init_93 : decode (M_IL_init).cc 93 = .ok (.putfield 63, 3) := by decide +kernel
theorem d_IL_init_96 : decode (M_IL_init).cc 96 = .ok (.aload_n 0, 1) := by decide +kernel
theorem d_IL_init_97 : decode (M_IL_init).cc 97 = .ok (.new 60, 3) := by decide +kernel
theorem d_IL_init_100 : decode (M_IL_init).cc 100 = .ok (.dup, 1) := by decide +kernel
theorem d_IL_init_101 : decode (M_IL_init).cc 101 = .ok (.invokespecial 62, 3) := by decide +kernel
theorem d_IL_init_104 : decode (M_IL_init).cc 104 = .ok (.putfield 67, 3) := by decide +kernel
theorem d_IL_init_107 : decode (M_IL_init).cc 107 = .ok (.aload_n 0, 1) := by decide +kernel
theorem d_IL_init_108 : decode (M_IL_init).cc 108 = .ok (.iconst (-1), 1) := by decide +kernel
theorem d_IL_init_109 : decode (M_IL_init).cc 109 = .ok (.putfield 70, 3) := by decide +kernel
theorem d_IL_init_112 : decode (M_IL_init).cc 112 = .ok (.return_, 1) := by decide +kernel
theorem d_Tr_init_0 : decode (M_Tr_init).cc 0 = .ok (.aload_n 0, 1) := by decide +kernel
theorem d_Tr_init_1 : decode (M_Tr_init).cc 1 = .ok (.invokespecial 3, 3) := by decide +kernel
theorem d_Tr_init_4 : decode (M_Tr_init).cc 4 = .ok (.aload_n 0, 1) := by decide +kernel
theorem d_Tr_init_5 : decode (M_Tr_init).cc 5 = .ok (.new 9, 3) := by decide +kernel
theorem d_Tr_init_8 : decode (M_Tr_init).cc 8 = .ok (.dup, 1) := by decide +kernel
theorem d_Tr_init_9 : decode (M_Tr_init).cc 9 = .ok (.invokespecial 11, 3) := by decide +kernel
theorem d_Tr_init_12 : decode (M_Tr_init).cc 12 = .ok (.putfield 12, 3) := by decide +kernel
theorem d_Tr_init_15 : decode (M_Tr_init).cc 15 = .ok (.aload_n 0, 1) := by decide +kernel
theorem d_Tr_init_16 : decode (M_Tr_init).cc 16 = .ok (.bipush 10, 2) := by decide +kernel
theorem d_Tr_init_18 : decode (M_Tr_init).cc 18 = .ok (.newarray .int, 2) := by decide +kernel
theorem d_Tr_init_20 : decode (M_Tr_init).cc 20 = .ok (.putfield 18, 3) := by decide +kernel
theorem d_Tr_init_23 : decode (M_Tr_init).cc 23 = .ok (.aload_n 0, 1) := by decide +kernel
theorem d_Tr_init_24 : decode (M_Tr_init).cc 24 = .ok (.bipush 10, 2) := by decide +kernel
theorem d_Tr_init_26 : decode (M_Tr_init).cc 26 = .ok (.newarray .int, 2) := by decide +kernel
theorem d_Tr_init_28 : decode (M_Tr_init).cc 28 = .ok (.putfield 22, 3) := by decide +kernel
theorem d_Tr_init_31 : decode (M_Tr_init).cc 31 = .ok (.aload_n 0, 1) := by decide +kernel
theorem d_Tr_init_32 : decode (M_Tr_init).cc 32 = .ok (.bipush 6, 2) := by decide +kernel
theorem d_Tr_init_34 : decode (M_Tr_init).cc 34 = .ok (.newarray .int, 2) := by decide +kernel
theorem d_Tr_init_36 : decode (M_Tr_init).cc 36 = .ok (.putfield 25, 3) := by decide +kernel
theorem d_Tr_init_39 : decode (M_Tr_init).cc 39 = .ok (.return_, 1) := by decide +kernel
theorem d_Tw_init_0 : decode (M_Tw_init).cc 0 = .ok (.aload_n 0, 1) := by decide +kernel
theorem d_Tw_init_1 : decode (M_Tw_init).cc 1 = .ok (.invokespecial 3, 3) := by decide +kernel
theorem d_Tw_init_4 : decode (M_Tw_init).cc 4 = .ok (.aload_n 0, 1) := by decide +kernel
theorem d_Tw_init_5 : decode (M_Tw_init).cc 5 = .ok (.bipush 6, 2) := by decide +kernel
theorem d_Tw_init_7 : decode (M_Tw_init).cc 7 = .ok (.newarray .int, 2) := by decide +kernel
theorem d_Tw_init_9 : decode (M_Tw_init).cc 9 = .ok (.putfield 9, 3) := by decide +kernel
theorem d_Tw_init_12 : decode (M_Tw_init).cc 12 = .ok (.aload_n 0, 1) := by decide +kernel
theorem d_Tw_init_13 : decode (M_Tw_init).cc 13 = .ok (.bipush 10, 2) := by decide +kernel
theorem d_Tw_init_15 : decode (M_Tw_init).cc 15 = .ok (.newarray .int, 2) := by decide +kernel
theorem d_Tw_init_17 : decode (M_Tw_init).cc 17 = .ok (.putfield 15, 3) := by decide +kernel
theorem d_Tw_init_20 : decode (M_Tw_init).cc 20 = .ok (.aload_n 0, 1) := by decide +kernel
theorem d_Tw_init_21 : decode (M_Tw_init).cc 21 = .ok (.bipush 10, 2) := by decide +kernel
theorem d_Tw_init_23 : decode (M_Tw_init).cc 23 = .ok (.newarray .int, 2) := by decide +kernel
theorem d_Tw_init_25 : decode (M_Tw_init).cc 25 = .ok (.putfield 18, 3) := by decide +kernel
theorem d_Tw_init_28 : decode (M_Tw_init).cc 28 = .ok (.return_, 1) := by decide +kernel
theorem d_Nu_init_0 : decode (M_Nu_init).cc 0 = .ok (.aload_n 0, 1) := by decide +kernel
theorem d_Nu_init_1 : decode (M_Nu_init).cc 1 = .ok (.invokespecial 3, 3) := by decide +kernel
theorem d_Nu_init_4 : decode (M_Nu_init).cc 4 = .ok (.aload_n 0, 1) := by decide +kernel
theorem d_Nu_init_5 : decode (M_Nu_init).cc 5 = .ok (.bipush 6, 2) := by decide +kernel
theorem d_Nu_init_7 : decode (M_Nu_init).cc 7 = .ok (.newarray .int, 2) := by decide +kernel
theorem d_Nu_init_9 : decode (M_Nu_init).cc 9 = .ok (.putfield 9, 3) := by decide +kernel
theorem d_Nu_init_12 : decode (M_Nu_init).cc 12 = .ok (.aload_n 0, 1) := by decide +kernel
theorem d_Nu_init_13 : decode (M_Nu_init).cc 13 = .ok (.bipush 6, 2) := by decide +kernel
theorem d_Nu_init_15 : decode (M_Nu_init).cc 15 = .ok (.newarray .boolean, 2) := by decide +kernel
theorem d_Nu_init_17 : decode (M_Nu_init).cc 17 = .ok (.putfield 15, 3) := by decide +kernel
theorem d_Nu_init_20 : decode (M_Nu_init).cc 20 = .ok (.return_, 1) := by decide +kernel
theorem d_Ls_init_0 : decode (M_Ls_init).cc 0 = .ok (.aload_n 0, 1) := by decide +kernel
theorem d_Ls_init_1 : decode (M_Ls_init).cc 1 = .ok (.invokespecial 3, 3) := by decide +kernel
theorem d_Ls_init_4 : decode (M_Ls_init).cc 4 = .ok (.aload_n 0, 1) := by decide +kernel
theorem d_Ls_init_5 : decode (M_Ls_init).cc 5 = .ok (.new 9, 3) := by decide +kernel
theorem d_Ls_init_8 : decode (M_Ls_init).cc 8 = .ok (.dup, 1) := by decide +kernel
theorem d_Ls_init_9 : decode (M_Ls_init).cc 9 = .ok (.invokespecial 11, 3) := by decide +kernel
theorem d_Ls_init_12 : decode (M_Ls_init).cc 12 = .ok (.putfield 12, 3) := by decide +kernel
theorem d_Ls_init_15 : decode (M_Ls_init).cc 15 = .ok (.aload_n 0, 1) := by decide +kernel
theorem d_Ls_init_16 : decode (M_Ls_init).cc 16 = .ok (.bipush 7, 2) := by decide +kernel
theorem d_Ls_init_18 : decode (M_Ls_init).cc 18 = .ok (.newarray .int, 2) := by decide +kernel
theorem d_Ls_init_20 : decode (M_Ls_init).cc 20 = .ok (.putfield 18, 3) := by decide +kernel
theorem d_Ls_init_23 : decode (M_Ls_init).cc 23 = .ok (.aload_n 0, 1) := by decide +kernel
theorem d_Ls_init_24 : decode (M_Ls_init).cc 24 = .ok (.bipush 6, 2) := by decide +kernel
theorem d_Ls_init_26 : decode (M_Ls_init).cc 26 = .ok (.newarray .int, 2) := by decide +kernel
theorem d_Ls_init_28 : decode (M_Ls_init).cc 28 = .ok (.putfield 22, 3) := by decide +kernel
theorem d_Ls_init_31 : decode (M_Ls_init).cc 31 = .ok (.aload_n 0, 1) := by decide +kernel
theorem d_Ls_init_32 : decode (M_Ls_init).cc 32 = .ok (.aload_n 1, 1) := by decide +kernel
theorem d_Ls_init_33 : decode (M_Ls_init).cc 33 = .ok (.putfield 25, 3) := by decide +kernel
theorem d_Ls_init_36 : decode (M_Ls_init).cc 36 = .ok (.return_, 1) := by decide +kernel
theorem d_IL_erase_0 : decode (M_IL_erase).cc 0 = .ok (.aload_n 0, 1) := by decide +kernel
theorem d_IL_erase_1 : decode (M_IL_erase).cc 1 = .ok (.getfield 10, 3) := by decide +kernel
theorem d_IL_erase_4 : decode (M_IL_erase).cc 4 = .ok (.getfield 74, 3) := by decide +kernel
theorem d_IL_erase_7 : decode (M_IL_erase).cc 7 = .ok (.istore_n 1, 1) := by decide +kernel
theorem d_IL_erase_8 : decode (M_IL_erase).cc 8 = .ok (.aload_n 0, 1) := by decide +kernel
theorem d_IL_erase_9 : decode (M_IL_erase).cc 9 = .ok (.getfield 10, 3) := by decide +kernel
theorem d_IL_erase_12 : decode (M_IL_erase).cc 12 = .ok (.invokevirtual 84, 3) := by decide +kernel
theorem d_IL_erase_15 : decode (M_IL_erase).cc 15 = .ok (.iload_n 1, 1) := by decide +kernel
theorem d_IL_erase_16 : decode (M_IL_erase).cc 16 = .ok (.ireturn, 1) := by decide +kernel
theorem d_IL_formula_0 : decode (M_IL_formula).cc 0 = .ok (.aload_n 0, 1) := by decide +kernel
theorem d_IL_formula_1 : decode (M_IL_formula).cc 1 = .ok (.getfield 19, 3) := by decide +kernel
theorem d_IL_formula_4 : decode (M_IL_formula).cc 4 = .ok (.aload_n 0, 1) := by decide +kernel
theorem d_IL_formula_5 : decode (M_IL_formula).cc 5 = .ok (.getfield 10, 3) := by decide +kernel
theorem d_IL_formula_8 : decode (M_IL_formula).cc 8 = .ok (.invokevirtual 87, 3) := by decide +kernel
theorem d_IL_formula_11 : decode (M_IL_formula).cc 11 = .ok (.istore_n 1, 1) := by decide +kernel
theorem d_IL_formula_12 : decode (M_IL_formula).cc 12 = .ok (.iload_n 1, 1) := by decide +kernel
theorem d_IL_formula_13 : decode (M_IL_formula).cc 13 = .ok (.iconst (-1), 1) := by decide +kernel
theorem d_IL_formula_14 : decode (M_IL_formula).cc 14 = .ok (.if_icmp .ne 22, 3) := by decide +kernel
theorem d_IL_formula_17 : decode (M_IL_formula).cc 17 = .ok (.aload_n 0, 1) := by decide +kernel
theorem d_IL_formula_18 : decode (M_IL_formula).cc 18 = .ok (.getfield 67, 3) := by decide +kernel
theorem d_IL_formula_21 : decode (M_IL_formula).cc 21 = .ok (.aload_n 0, 1) := by decide +kernel
theorem d_IL_formula_22 : decode (M_IL_formula).cc 22 = .ok (.getfield 19, 3) := by decide +kernel
theorem d_IL_formula_25 : decode (M_IL_formula).cc 25 = .ok (.getfield 91, 3) := by decide +kernel
theorem d_IL_formula_28 : decode (M_IL_formula).cc 28 = .ok (.invokevirtual 95, 3) := by decide +kernel
theorem d_IL_formula_31 : decode (M_IL_formula).cc 31 = .ok (.aload_n 0, 1) := by decide +kernel
theorem d_IL_formula_32 : decode (M_IL_formula).cc 32 = .ok (.invokevirtual 99, 3) := by decide +kernel
theorem d_IL_formula_35 : decode (M_IL_formula).cc 35 = .ok (.istore_n 1, 1) := by decide +kernel
theorem d_IL_formula_36 : decode (M_IL_formula).cc 36 = .ok (.aload_n 0, 1) := by decide +kernel
theorem d_IL_formula_37 : decode (M_IL_formula).cc 37 = .ok (.iload_n 1, 1) := by decide +kernel
theorem d_IL_formula_38 : decode (M_IL_formula).cc 38 = .ok (.iconst (-1), 1) := by decide +kernel
theorem d_IL_formula_39 : decode (M_IL_formula).cc 39 = .ok (.if_icmp .ne 7, 3) := by decide +kernel
theorem d_IL_formula_42 : decode (M_IL_formula).cc 42 = .ok (.iconst (-1), 1) := by decide +kernel
theorem d_IL_formula_43 : decode (M_IL_formula).cc 43 = .ok (.goto 10, 3) := by decide +kernel
theorem d_IL_formula_46 : decode (M_IL_formula).cc 46 = .ok (.aload_n 0, 1) := by decide +kernel
theorem d_IL_formula_47 : decode (M_IL_formula).cc 47 = .ok (.getfield 19, 3) := by decide +kernel
theorem d_IL_formula_50 : decode (M_IL_formula).cc 50 = .ok (.getfield 103, 3) := by decide +kernel
theorem d_IL_formula_53 : decode (M_IL_formula).cc 53 = .ok (.putfield 70, 3) := by decide +kernel
theorem d_IL_formula_56 : decode (M_IL_formula).cc 56 = .ok (.iload_n 1, 1) := by decide +kernel
theorem d_IL_formula_57 : decode (M_IL_formula).cc 57 = .ok (.iconst (-1), 1) := by decide +kernel
theorem d_IL_formula_58 : decode (M_IL_formula).cc 58 = .ok (.if_icmp .ne 13, 3) := by decide +kernel
theorem d_IL_formula_61 : decode (M_IL_formula).cc 61 = .ok (.aload_n 0, 1) := by decide +kernel
theorem d_IL_formula_62 : decode (M_IL_formula).cc 62 = .ok (.getfield 63, 3) := by decide +kernel
theorem d_IL_formula_65 : decode (M_IL_formula).cc 65 = .ok (.getfield 106, 3) := by decide +kernel
theorem d_IL_formula_68 : decode (M_IL_formula).cc 68 = .ok (.goto 4, 3) := by decide +kernel
theorem d_IL_formula_71 : decode (M_IL_formula).cc 71 = .ok (.iload_n 1, 1) := by decide +kernel
theorem d_IL_formula_72 : decode (M_IL_formula).cc 72 = .ok (.ireturn, 1) := by decide +kernel
theorem d_IL_signLength_0 : decode (M_IL_signLength).cc 0 = .ok (.getstatic 188, 3) := by decide +kernel
theorem d_IL_signLength_3 : decode (M_IL_signLength).cc 3 = .ok (.iload_n 0, 1) := by decide +kernel
theorem d_IL_signLength_4 : decode (M_IL_signLength).cc 4 = .ok (.caload, 1) := by decide +kernel
theorem d_IL_signLength_5 : decode (M_IL_signLength).cc 5 = .ok (.ifCond .ne 7, 3) := by decide +kernel
theorem d_IL_signLength_8 : decode (M_IL_signLength).cc 8 = .ok (.iconst 1, 1) := by decide +kernel
theorem d_IL_signLength_9 : decode (M_IL_signLength).cc 9 = .ok (.goto 4, 3) := by decide +kernel
theorem d_IL_signLength_12 : decode (M_IL_signLength).cc 12 = .ok (.iconst 2, 1) := by decide +kernel
theorem d_IL_signLength_13 : decode (M_IL_signLength).cc 13 = .ok (.ireturn, 1) := by decide +kernel
theorem d_IL_isDigit_0 : decode (M_IL_isDigit).cc 0 = .ok (.iload_n 0, 1) := by decide +kernel
theorem d_IL_isDigit_1 : decode (M_IL_isDigit).cc 1 = .ok (.bipush 48, 2) := by decide +kernel
theorem d_IL_isDigit_3 : decode (M_IL_isDigit).cc 3 = .ok (.if_icmp .lt 13, 3) := by decide +kernel
theorem d_IL_isDigit_6 : decode (M_IL_isDigit).cc 6 = .ok (.iload_n 0, 1) := by decide +kernel
theorem d_IL_isDigit_7 : decode (M_IL_isDigit).cc 7 = .ok (.bipush 57, 2) := by decide +kernel
theorem d_IL_isDigit_9 : decode (M_IL_isDigit).cc 9 = .ok (.if_icmp .gt 7, 3) := by decide +kernel
theorem d_IL_isDigit_12 : decode (M_IL_isDigit).cc 12 = .ok (.iconst 1, 1) := by decide +kernel
theorem d_IL_isDigit_13 : decode (M_IL_isDigit).cc 13 = .ok (.goto 4, 3) := by decide +kernel
theorem d_IL_isDigit_16 : decode (M_IL_isDigit).cc 16 = .ok (.iconst 0, 1) := by decide +kernel
theorem d_IL_isDigit_17 : decode (M_IL_isDigit).cc 17 = .ok (.ireturn, 1) := by decide +kernel
theorem d_IL_listSpare_0 : decode (M_IL_listSpare).cc 0 = .ok (.aload_n 0, 1) := by decide +kernel
theorem d_IL_listSpare_1 : decode (M_IL_listSpare).cc 1 = .ok (.getfield 67, 3) := by decide +kernel
theorem d_IL_listSpare_4 : decode (M_IL_listSpare).cc 4 = .ok (.aload_n 0, 1) := by decide +kernel
theorem d_IL_listSpare_5 : decode (M_IL_listSpare).cc 5 = .ok (.getfield 63, 3) := by decide +kernel
theorem d_IL_listSpare_8 : decode (M_IL_listSpare).cc 8 = .ok (.invokevirtual 165, 3) := by decide +kernel
theorem d_IL_listSpare_11 : decode (M_IL_listSpare).cc 11 = .ok (.ifCond .eq 5, 3) := by decide +kernel
theorem d_IL_listSpare_14 : decode (M_IL_listSpare).cc 14 = .ok (.iconst (-1), 1) := by decide +kernel
theorem d_IL_listSpare_15 : decode (M_IL_listSpare).cc 15 = .ok (.ireturn, 1) := by decide +kernel
theorem d_IL_listSpare_16 : decode (M_IL_listSpare).cc 16 = .ok (.aload_n 0, 1) := by decide +kernel
theorem d_IL_listSpare_17 : decode (M_IL_listSpare).cc 17 = .ok (.getfield 49, 3) := by decide +kernel
theorem d_IL_listSpare_20 : decode (M_IL_listSpare).cc 20 = .ok (.aload_n 0, 1) := by decide +kernel
theorem d_IL_listSpare_21 : decode (M_IL_listSpare).cc 21 = .ok (.getfield 67, 3) := by decide +kernel
theorem d_IL_listSpare_24 : decode (M_IL_listSpare).cc 24 = .ok (.invokevirtual 169, 3) := by decide +kernel
theorem d_IL_listSpare_27 : decode (M_IL_listSpare).cc 27 = .ok (.aload_n 0, 1) := by decide +kernel
theorem d_IL_listSpare_28 : decode (M_IL_listSpare).cc 28 = .ok (.getfield 67, 3) := by decide +kernel
theorem d_IL_listSpare_31 : decode (M_IL_listSpare).cc 31 = .ok (.invokevirtual 173, 3) := by decide +kernel
theorem d_IL_listSpare_34 : decode (M_IL_listSpare).cc 34 = .ok (.ifCond .eq 6, 3) := by decide +kernel
theorem d_IL_listSpare_37 : decode (M_IL_listSpare).cc 37 = .ok (.bipush (-6), 2) := by decide +kernel
theorem d_IL_listSpare_39 : decode (M_IL_listSpare).cc 39 = .ok (.ireturn, 1) := by decide +kernel
theorem d_IL_listSpare_40 : decode (M_IL_listSpare).cc 40 = .ok (.aload_n 0, 1) := by decide +kernel
theorem d_IL_listSpare_41 : decode (M_IL_listSpare).cc 41 = .ok (.getfield 63, 3) := by decide +kernel
theorem d_IL_listSpare_44 : decode (M_IL_listSpare).cc 44 = .ok (.astore_n 1, 1) := by decide +kernel
theorem d_IL_listSpare_45 : decode (M_IL_listSpare).cc 45 = .ok (.aload_n 0, 1) := by decide +kernel
theorem d_IL_listSpare_46 : decode (M_IL_listSpare).cc 46 = .ok (.aload_n 0, 1) := by decide +kernel
theorem d_IL_listSpare_47 : decode (M_IL_listSpare).cc 47 = .ok (.getfield 67, 3) := by decide +kernel
theorem d_IL_listSpare_50 : decode (M_IL_listSpare).cc 50 = .ok (.putfield 63, 3) := by decide +kernel
theorem d_IL_listSpare_53 : decode (M_IL_listSpare).cc 53 = .ok (.aload_n 0, 1) := by decide +kernel
theorem d_IL_listSpare_54 : decode (M_IL_listSpare).cc 54 = .ok (.aload_n 1, 1) := by decide +kernel
theorem d_IL_listSpare_55 : decode (M_IL_listSpare).cc 55 = .ok (.putfield 67, 3) := by decide +kernel
theorem d_IL_listSpare_58 : decode (M_IL_listSpare).cc 58 = .ok (.iconst (-1), 1) := by decide +kernel
theorem d_IL_listSpare_59 : decode (M_IL_listSpare).cc 59 = .ok (.ireturn, 1) := by decide +kernel
theorem d_Ls_fill_0 : decode (M_Ls_fill).cc 0 = .ok (.aload_n 0, 1) := by decide +kernel
theorem d_Ls_fill_1 : decode (M_Ls_fill).cc 1 = .ok (.aload_n 1, 1) := by decide +kernel
theorem d_Ls_fill_2 : decode (M_Ls_fill).cc 2 = .ok (.putfield 29, 3) := by decide +kernel
theorem d_Ls_fill_5 : decode (M_Ls_fill).cc 5 = .ok (.aload_n 0, 1) := by decide +kernel
theorem d_Ls_fill_6 : decode (M_Ls_fill).cc 6 = .ok (.getfield 12, 3) := by decide +kernel
theorem d_Ls_fill_9 : decode (M_Ls_fill).cc 9 = .ok (.aload_n 1, 1) := by decide +kernel
theorem d_Ls_fill_10 : decode (M_Ls_fill).cc 10 = .ok (.invokevirtual 33, 3) := by decide +kernel
theorem d_Ls_fill_13 : decode (M_Ls_fill).cc 13 = .ok (.aload_n 0, 1) := by decide +kernel
theorem d_Ls_fill_14 : decode (M_Ls_fill).cc 14 = .ok (.invokevirtual 37, 3) := by decide +kernel
theorem d_Ls_fill_17 : decode (M_Ls_fill).cc 17 = .ok (.aload_n 0, 1) := by decide +kernel
theorem d_Ls_fill_18 : decode (M_Ls_fill).cc 18 = .ok (.getfield 18, 3) := by decide +kernel
theorem d_Ls_fill_21 : decode (M_Ls_fill).cc 21 = .ok (.iconst 0, 1) := by decide +kernel
theorem d_Ls_fill_22 : decode (M_Ls_fill).cc 22 = .ok (.iaload, 1) := by decide +kernel
theorem d_Ls_fill_23 : decode (M_Ls_fill).cc 23 = .ok (.aload_n 1, 1) := by decide +kernel
theorem d_Ls_fill_24 : decode (M_Ls_fill).cc 24 = .ok (.getfield 40, 3) := by decide +kernel
theorem d_Ls_fill_27 : decode (M_Ls_fill).cc 27 = .ok (.isub, 1) := by decide +kernel
theorem d_Ls_fill_28 : decode (M_Ls_fill).cc 28 = .ok (.istore_n 2, 1) := by decide +kernel
theorem d_Ls_fill_29 : decode (M_Ls_fill).cc 29 = .ok (.iload_n 2, 1) := by decide +kernel
theorem d_Ls_fill_30 : decode (M_Ls_fill).cc 30 = .ok (.ifCond .lt 18, 3) := by decide +kernel
theorem d_Ls_fill_33 : decode (M_Ls_fill).cc 33 = .ok (.iload_n 2, 1) := by decide +kernel
theorem d_Ls_fill_34 : decode (M_Ls_fill).cc 34 = .ok (.iconst 2, 1) := by decide +kernel
theorem d_Ls_fill_35 : decode (M_Ls_fill).cc 35 = .ok (.irem, 1) := by decide +kernel
theorem d_Ls_fill_36 : decode (M_Ls_fill).cc 36 = .ok (.ifCond .ne 12, 3) := by decide +kernel
theorem d_Ls_fill_39 : decode (M_Ls_fill).cc 39 = .ok (.aload_n 0, 1) := by decide +kernel
theorem d_Ls_fill_40 : decode (M_Ls_fill).cc 40 = .ok (.iconst 0, 1) := by decide +kernel
theorem d_Ls_fill_41 : decode (M_Ls_fill).cc 41 = .ok (.iload_n 2, 1) := by decide +kernel
theorem d_Ls_fill_42 : decode (M_Ls_fill).cc 42 = .ok (.iconst 2, 1) := by decide +kernel
theorem d_Ls_fill_43 : decode (M_Ls_fill).cc 43 = .ok (.idiv, 1) := by decide +kernel
theorem d_Ls_fill_44 : decode (M_Ls_fill).cc 44 = .ok (.iconst 0, 1) := by decide +kernel
theorem d_Ls_fill_45 : decode (M_Ls_fill).cc 45 = .ok (.invokevirtual 46, 3) := by decide +kernel
theorem d_Ls_fill_48 : decode (M_Ls_fill).cc 48 = .ok (.return_, 1) := by decide +kernel
theorem d_Ls_sumValences_0 : decode (M_Ls_sumValences).cc 0 = .ok (.aload_n 0, 1) := by decide +kernel
theorem d_Ls_sumValences_1 : decode (M_Ls_sumValences).cc 1 = .ok (.getfield 18, 3) := by decide +kernel
theorem d_Ls_sumValences_4 : decode (M_Ls_sumValences).cc 4 = .ok (.aload_n 0, 1) := by decide +kernel
theorem d_Ls_sumValences_5 : decode (M_Ls_sumValences).cc 5 = .ok (.getfield 12, 3) := by decide +kernel
theorem d_Ls_sumValences_8 : decode (M_Ls_sumValences).cc 8 = .ok (.getfield 50, 3) := by decide +kernel
theorem d_Ls_sumValences_11 : decode (M_Ls_sumValences).cc 11 = .ok (.iconst 0, 1) := by decide +kernel
theorem d_Ls_sumValences_12 : decode (M_Ls_sumValences).cc 12 = .ok (.iastore, 1) := by decide +kernel
theorem d_Ls_sumValences_13 : decode (M_Ls_sumValences).cc 13 = .ok (.aload_n 0, 1) := by decide +kernel
theorem d_Ls_sumValences_14 : decode (M_Ls_sumValences).cc 14 = .ok (.getfield 12, 3) := by decide +kernel
theorem d_Ls_sumValences_17 : decode (M_Ls_sumValences).cc 17 = .ok (.getfield 50, 3) := by decide +kernel
theorem d_Ls_sumValences_20 : decode (M_Ls_sumValences).cc 20 = .ok (.iconst 1, 1) := by decide +kernel
theorem d_Ls_sumValences_21 : decode (M_Ls_sumValences).cc 21 = .ok (.isub, 1) := by decide +kernel
theorem d_Ls_sumValences_22 : decode (M_Ls_sumValences).cc 22 = .ok (.istore_n 1, 1) := by decide +kernel
theorem d_Ls_sumValences_23 : decode (M_Ls_sumValences).cc 23 = .ok (.iload_n 1, 1) := by decide +kernel
theorem d_Ls_sumValences_24 : decode (M_Ls_sumValences).cc 24 = .ok (.ifCond .lt 33, 3) := by decide +kernel
theorem d_Ls_sumValences_27 : decode (M_Ls_sumValences).cc 27 = .ok (.aload_n 0, 1) := by decide +kernel
theorem d_Ls_sumValences_28 : decode (M_Ls_sumValences).cc 28 = .ok (.getfield 18, 3) := by decide +kernel
theorem d_Ls_sumValences_31 : decode (M_Ls_sumValences).cc 31 = .ok (.iload_n 1, 1) := by decide +kernel
theorem d_Ls_sumValences_32 : decode (M_Ls_sumValences).cc 32 = .ok (.aload_n 0, 1) := by decide +kernel
theorem d_Ls_sumValences_33 : decode (M_Ls_sumValences).cc 33 = .ok (.getfield 18, 3) := by decide +kernel
theorem d_Ls_sumValences_36 : decode (M_Ls_sumValences).cc 36 = .ok (.iload_n 1, 1) := by decide +kernel
theorem d_Ls_sumValences_37 : decode (M_Ls_sumValences).cc 37 = .ok (.iconst 1, 1) := by decide +kernel
theorem d_Ls_sumValences_38 : decode (M_Ls_sumValences).cc 38 = .ok (.iadd, 1) := by decide +kernel
theorem d_Ls_sumValences_39 : decode (M_Ls_sumValences).cc 39 = .ok (.iaload, 1) := by decide +kernel
theorem d_Ls_sumValences_40 : decode (M_Ls_sumValences).cc 40 = .ok (.aload_n 0, 1) := by decide +kernel
theorem d_Ls_sumValences_41 : decode (M_Ls_sumValences).cc 41 = .ok (.getfield 12, 3) := by decide +kernel
theorem d_Ls_sumValences_44 : decode (M_Ls_sumValences).cc 44 = .ok (.getfield 53, 3) := by decide +kernel
theorem d_Ls_sumValences_47 : decode (M_Ls_sumValences).cc 47 = .ok (.iload_n 1, 1) := by decide +kernel
theorem d_Ls_sumValences_48 : decode (M_Ls_sumValences).cc 48 = .ok (.iaload, 1) := by decide +kernel
theorem d_Ls_sumValences_49 : decode (M_Ls_sumValences).cc 49 = .ok (.iadd, 1) := by decide +kernel
theorem d_Ls_sumValences_50 : decode (M_Ls_sumValences).cc 50 = .ok (.iastore, 1) := by decide +kernel
theorem d_Ls_sumValences_51 : decode (M_Ls_sumValences).cc 51 = .ok (.iinc 1 (-1), 3) := by decide +kernel
theorem d_Ls_sumValences_54 : decode (M_Ls_sumValences).cc 54 = .ok (.goto (-31), 3) := by decide +kernel
theorem d_Ls_sumValences_57 : decode (M_Ls_sumValences).cc 57 = .ok (.return_, 1) := by decide +kernel
theorem d_Ls_endRow_0 : decode (M_Ls_endRow).cc 0 = .ok (.iload_n 1, 1) := by decide +kernel
theorem d_Ls_endRow_1 : decode (M_Ls_endRow).cc 1 = .ok (.iconst 1, 1) := by decide +kernel
theorem d_Ls_endRow_2 : decode (M_Ls_endRow).cc 2 = .ok (.iadd, 1) := by decide +kernel
theorem d_Ls_endRow_3 : decode (M_Ls_endRow).cc 3 = .ok (.istore 4, 2) := by decide +kernel
theorem d_Ls_endRow_5 : decode (M_Ls_endRow).cc 5 = .ok (.aload_n 0, 1) := by decide +kernel
theorem d_Ls_endRow_6 : decode (M_Ls_endRow).cc 6 = .ok (.iload 4, 2) := by decide +kernel
theorem d_Ls_endRow_8 : decode (M_Ls_endRow).cc 8 = .ok (.iload_n 2, 1) := by decide +kernel
theorem d_Ls_endRow_9 : decode (M_Ls_endRow).cc 9 = .ok (.invokevirtual 77, 3) := by decide +kernel
theorem d_Ls_endRow_12 : decode (M_Ls_endRow).cc 12 = .ok (.ifCond .eq 20, 3) := by decide +kernel
theorem d_Ls_endRow_15 : decode (M_Ls_endRow).cc 15 = .ok (.aload_n 0, 1) := by decide +kernel
theorem d_Ls_endRow_16 : decode (M_Ls_endRow).cc 16 = .ok (.getfield 25, 3) := by decide +kernel
theorem d_Ls_endRow_19 : decode (M_Ls_endRow).cc 19 = .ok (.aload_n 0, 1) := by decide +kernel
theorem d_Ls_endRow_20 : decode (M_Ls_endRow).cc 20 = .ok (.getfield 12, 3) := by decide +kernel
theorem d_Ls_endRow_23 : decode (M_Ls_endRow).cc 23 = .ok (.iload 4, 2) := by decide +kernel
theorem d_Ls_endRow_25 : decode (M_Ls_endRow).cc 25 = .ok (.iload_n 3, 1) := by decide +kernel
theorem d_Ls_endRow_26 : decode (M_Ls_endRow).cc 26 = .ok (.invokevirtual 81, 3) := by decide +kernel
theorem d_Ls_endRow_29 : decode (M_Ls_endRow).cc 29 = .ok (.ifCond .ne 4, 3) := by decide +kernel
theorem d_Ls_endRow_32 : decode (M_Ls_endRow).cc 32 = .ok (.return_, 1) := by decide +kernel
theorem d_Ls_endRow_33 : decode (M_Ls_endRow).cc 33 = .ok (.iload 4, 2) := by decide +kernel
theorem d_Ls_endRow_35 : decode (M_Ls_endRow).cc 35 = .ok (.aload_n 0, 1) := by decide +kernel
theorem d_Ls_endRow_36 : decode (M_Ls_endRow).cc 36 = .ok (.getfield 12, 3) := by decide +kernel
theorem d_Ls_endRow_39 : decode (M_Ls_endRow).cc 39 = .ok (.getfield 50, 3) := by decide +kernel
theorem d_Ls_endRow_42 : decode (M_Ls_endRow).cc 42 = .ok (.if_icmp .lt 14, 3) := by decide +kernel
theorem d_Ls_endRow_45 : decode (M_Ls_endRow).cc 45 = .ok (.aload_n 0, 1) := by decide +kernel
theorem d_Ls_endRow_46 : decode (M_Ls_endRow).cc 46 = .ok (.getfield 29, 3) := by decide +kernel
theorem d_Ls_endRow_49 : decode (M_Ls_endRow).cc 49 = .ok (.iload_n 3, 1) := by decide +kernel
theorem d_Ls_endRow_50 : decode (M_Ls_endRow).cc 50 = .ok (.invokevirtual 87, 3) := by decide +kernel
theorem d_Ls_endRow_53 : decode (M_Ls_endRow).cc 53 = .ok (.goto 12, 3) := by decide +kernel
theorem d_Ls_endRow_56 : decode (M_Ls_endRow).cc 56 = .ok (.aload_n 0, 1) := by decide +kernel
theorem d_Ls_endRow_57 : decode (M_Ls_endRow).cc 57 = .ok (.iload 4, 2) := by decide +kernel
theorem d_Ls_endRow_59 : decode (M_Ls_endRow).cc 59 = .ok (.iconst 0, 1) := by decide +kernel
theorem d_Ls_endRow_60 : decode (M_Ls_endRow).cc 60 = .ok (.iload_n 2, 1) := by decide +kernel
theorem d_Ls_endRow_61 : decode (M_Ls_endRow).cc 61 = .ok (.iload_n 3, 1) := by decide +kernel
theorem d_Ls_endRow_62 : decode (M_Ls_endRow).cc 62 = .ok (.invokevirtual 73, 3) := by decide +kernel
theorem d_Ls_endRow_65 : decode (M_Ls_endRow).cc 65 = .ok (.return_, 1) := by decide +kernel
theorem d_Ls_canBeEnded_0 : decode (M_Ls_canBeEnded).cc 0 = .ok (.aload_n 0, 1) := by decide +kernel
theorem d_Ls_canBeEnded_1 : decode (M_Ls_canBeEnded).cc 1 = .ok (.getfield 12, 3) := by decide +kernel
theorem d_Ls_canBeEnded_4 : decode (M_Ls_canBeEnded).cc 4 = .ok (.getfield 50, 3) := by decide +kernel
theorem d_Ls_canBeEnded_7 : decode (M_Ls_canBeEnded).cc 7 = .ok (.iload_n 1, 1) := by decide +kernel
theorem d_Ls_canBeEnded_8 : decode (M_Ls_canBeEnded).cc 8 = .ok (.isub, 1) := by decide +kernel
theorem d_Ls_canBeEnded_9 : decode (M_Ls_canBeEnded).cc 9 = .ok (.istore_n 3, 1) := by decide +kernel
theorem d_Ls_canBeEnded_10 : decode (M_Ls_canBeEnded).cc 10 = .ok (.iload_n 2, 1) := by decide +kernel
theorem d_Ls_canBeEnded_11 : decode (M_Ls_canBeEnded).cc 11 = .ok (.aload_n 0, 1) := by decide +kernel
theorem d_Ls_canBeEnded_12 : decode (M_Ls_canBeEnded).cc 12 = .ok (.getfield 18, 3) := by decide +kernel
theorem d_Ls_canBeEnded_15 : decode (M_Ls_canBeEnded).cc 15 = .ok (.iload_n 1, 1) := by decide +kernel
theorem d_Ls_canBeEnded_16 : decode (M_Ls_canBeEnded).cc 16 = .ok (.iaload, 1) := by decide +kernel
theorem d_Ls_canBeEnded_17 : decode (M_Ls_canBeEnded).cc 17 = .ok (.if_icmp .gt 20, 3) := by decide +kernel
theorem d_Ls_canBeEnded_20 : decode (M_Ls_canBeEnded).cc 20 = .ok (.iload_n 2, 1) := by decide +kernel
theorem d_Ls_canBeEnded_21 : decode (M_Ls_canBeEnded).cc 21 = .ok (.aload_n 0, 1) := by decide +kernel
theorem d_Ls_canBeEnded_22 : decode (M_Ls_canBeEnded).cc 22 = .ok (.iload_n 1, 1) := by decide +kernel
theorem d_Ls_canBeEnded_23 : decode (M_Ls_canBeEnded).cc 23 = .ok (.invokevirtual 91, 3) := by decide +kernel
theorem d_Ls_canBeEnded_26 : decode (M_Ls_canBeEnded).cc 26 = .ok (.iload_n 3, 1) := by decide +kernel
theorem d_Ls_canBeEnded_27 : decode (M_Ls_canBeEnded).cc 27 = .ok (.iadd, 1) := by decide +kernel
theorem d_Ls_canBeEnded_28 : decode (M_Ls_canBeEnded).cc 28 = .ok (.iconst 1, 1) := by decide +kernel
theorem d_Ls_canBeEnded_29 : decode (M_Ls_canBeEnded).cc 29 = .ok (.isub, 1) := by decide +kernel
theorem d_Ls_canBeEnded_30 : decode (M_Ls_canBeEnded).cc 30 = .ok (.if_icmp .lt 7, 3) := by decide +kernel
theorem d_Ls_canBeEnded_33 : decode (M_Ls_canBeEnded).cc 33 = .ok (.iconst 1, 1) := by decide +kernel
theorem d_Ls_canBeEnded_34 : decode (M_Ls_canBeEnded).cc 34 = .ok (.goto 4, 3) := by decide +kernel
theorem d_Ls_canBeEnded_37 : decode (M_Ls_canBeEnded).cc 37 = .ok (.iconst 0, 1) := by decide +kernel
theorem d_Ls_canBeEnded_38 : decode (M_Ls_canBeEnded).cc 38 = .ok (.ireturn, 1) := by decide +kernel
theorem d_Ls_countGroups_0 : decode (M_Ls_countGroups).cc 0 = .ok (.iconst 0, 1) := by decide +kernel
theorem d_Ls_countGroups_1 : decode (M_Ls_countGroups).cc 1 = .ok (.istore_n 2, 1) := by decide +kernel
theorem d_Ls_countGroups_2 : decode (M_Ls_countGroups).cc 2 = .ok (.iconst 0, 1) := by decide +kernel
theorem d_Ls_countGroups_3 : decode (M_Ls_countGroups).cc 3 = .ok (.istore_n 3, 1) := by decide +kernel
theorem d_Ls_countGroups_4 : decode (M_Ls_countGroups).cc 4 = .ok (.iload_n 3, 1) := by decide +kernel
theorem d_Ls_countGroups_5 : decode (M_Ls_countGroups).cc 5 = .ok (.iload_n 1, 1) := by decide +kernel
theorem d_Ls_countGroups_6 : decode (M_Ls_countGroups).cc 6 = .ok (.if_icmp .ge 84, 3) := by decide +kernel
theorem d_Ls_countGroups_9 : decode (M_Ls_countGroups).cc 9 = .ok (.aload_n 0, 1) := by decide +kernel
theorem d_Ls_countGroups_10 : decode (M_Ls_countGroups).cc 10 = .ok (.getfield 22, 3) := by decide +kernel
theorem d_Ls_countGroups_13 : decode (M_Ls_countGroups).cc 13 = .ok (.iload_n 3, 1) := by decide +kernel
theorem d_Ls_countGroups_14 : decode (M_Ls_countGroups).cc 14 = .ok (.iload_n 3, 1) := by decide +kernel
theorem d_Ls_countGroups_15 : decode (M_Ls_countGroups).cc 15 = .ok (.iastore, 1) := by decide +kernel
theorem d_Ls_countGroups_16 : decode (M_Ls_countGroups).cc 16 = .ok (.iinc 2 1, 3) := by decide +kernel
theorem d_Ls_countGroups_19 : decode (M_Ls_countGroups).cc 19 = .ok (.iconst 0, 1) := by decide +kernel
theorem d_Ls_countGroups_20 : decode (M_Ls_countGroups).cc 20 = .ok (.istore 4, 2) := by decide +kernel
theorem d_Ls_countGroups_22 : decode (M_Ls_countGroups).cc 22 = .ok (.iload 4, 2) := by decide +kernel
theorem d_Ls_countGroups_24 : decode (M_Ls_countGroups).cc 24 = .ok (.iload_n 3, 1) := by decide +kernel
theorem d_Ls_countGroups_25 : decode (M_Ls_countGroups).cc 25 = .ok (.if_icmp .ge 59, 3) := by decide +kernel
theorem d_Ls_countGroups_28 : decode (M_Ls_countGroups).cc 28 = .ok (.aload_n 0, 1) := by decide +kernel
theorem d_Ls_countGroups_29 : decode (M_Ls_countGroups).cc 29 = .ok (.getfield 12, 3) := by decide +kernel
theorem d_Ls_countGroups_32 : decode (M_Ls_countGroups).cc 32 = .ok (.iload_n 3, 1) := by decide +kernel
theorem d_Ls_countGroups_33 : decode (M_Ls_countGroups).cc 33 = .ok (.iload 4, 2) := by decide +kernel
theorem d_Ls_countGroups_35 : decode (M_Ls_countGroups).cc 35 = .ok (.invokevirtual 94, 3) := by decide +kernel
theorem d_Ls_countGroups_38 : decode (M_Ls_countGroups).cc 38 = .ok (.ifCond .le 40, 3) := by decide +kernel
theorem d_Ls_countGroups_41 : decode (M_Ls_countGroups).cc 41 = .ok (.aload_n 0, 1) := by decide +kernel
theorem d_Ls_countGroups_42 : decode (M_Ls_countGroups).cc 42 = .ok (.getfield 22, 3) := by decide +kernel
theorem d_Ls_countGroups_45 : decode (M_Ls_countGroups).cc 45 = .ok (.iload 4, 2) := by decide +kernel
theorem d_Ls_countGroups_47 : decode (M_Ls_countGroups).cc 47 = .ok (.iaload, 1) := by decide +kernel
theorem d_Ls_countGroups_48 : decode (M_Ls_countGroups).cc 48 = .ok (.aload_n 0, 1) := by decide +kernel
theorem d_Ls_countGroups_49 : decode (M_Ls_countGroups).cc 49 = .ok (.getfield 22, 3) := by decide +kernel
theorem d_Ls_countGroups_52 : decode (M_Ls_countGroups).cc 52 = .ok (.iload_n 3, 1) := by decide +kernel
theorem d_Ls_countGroups_53 : decode (M_Ls_countGroups).cc 53 = .ok (.iaload, 1) := by decide +kernel
theorem d_Ls_countGroups_54 : decode (M_Ls_countGroups).cc 54 = .ok (.if_icmp .eq 24, 3) := by decide +kernel
theorem d_Ls_countGroups_57 : decode (M_Ls_countGroups).cc 57 = .ok (.aload_n 0, 1) := by decide +kernel
theorem d_Ls_countGroups_58 : decode (M_Ls_countGroups).cc 58 = .ok (.aload_n 0, 1) := by decide +kernel
theorem d_Ls_countGroups_59 : decode (M_Ls_countGroups).cc 59 = .ok (.getfield 22, 3) := by decide +kernel
theorem d_Ls_countGroups_62 : decode (M_Ls_countGroups).cc 62 = .ok (.iload 4, 2) := by decide +kernel
theorem d_Ls_countGroups_64 : decode (M_Ls_countGroups).cc 64 = .ok (.iaload, 1) := by decide +kernel
theorem d_Ls_countGroups_65 : decode (M_Ls_countGroups).cc 65 = .ok (.aload_n 0, 1) := by decide +kernel
theorem d_Ls_countGroups_66 : decode (M_Ls_countGroups).cc 66 = .ok (.getfield 22, 3) := by decide +kernel
theorem d_Ls_countGroups_69 : decode (M_Ls_countGroups).cc 69 = .ok (.iload_n 3, 1) := by decide +kernel
theorem d_Ls_countGroups_70 : decode (M_Ls_countGroups).cc 70 = .ok (.iaload, 1) := by decide +kernel
theorem d_Ls_countGroups_71 : decode (M_Ls_countGroups).cc 71 = .ok (.iload_n 3, 1) := by decide +kernel
theorem d_Ls_countGroups_72 : decode (M_Ls_countGroups).cc 72 = .ok (.invokevirtual 97, 3) := by decide +kernel
theorem d_Ls_countGroups_75 : decode (M_Ls_countGroups).cc 75 = .ok (.iinc 2 (-1), 3) := by decide +kernel
theorem d_Ls_countGroups_78 : decode (M_Ls_countGroups).cc 78 = .ok (.iinc 4 1, 3) := by decide +kernel
theorem d_Ls_countGroups_81 : decode (M_Ls_countGroups).cc 81 = .ok (.goto (-59), 3) := by decide +kernel
theorem d_Ls_countGroups_84 : decode (M_Ls_countGroups).cc 84 = .ok (.iinc 3 1, 3) := by decide +kernel
theorem d_Ls_countGroups_87 : decode (M_Ls_countGroups).cc 87 = .ok (.goto (-83), 3) := by decide +kernel
theorem d_Ls_countGroups_90 : decode (M_Ls_countGroups).cc 90 = .ok (.iload_n 2, 1) := by decide +kernel
theorem d_Ls_countGroups_91 : decode (M_Ls_countGroups).cc 91 = .ok (.ireturn, 1) := by decide +kernel
theorem d_Ls_joinGroups_0 : decode (M_Ls_joinGroups).cc 0 = .ok (.iconst 0, 1) := by decide +kernel
theorem d_Ls_joinGroups_1 : decode (M_Ls_joinGroups).cc 1 = .ok (.istore 4, 2) := by decide +kernel
theorem d_Ls_joinGroups_3 : decode (M_Ls_joinGroups).cc 3 = .ok (.iload 4, 2) := by decide +kernel
theorem d_Ls_joinGroups_5 : decode (M_Ls_joinGroups).cc 5 = .ok (.iload_n 3, 1) := by decide +kernel
theorem d_Ls_joinGroups_6 : decode (M_Ls_joinGroups).cc 6 = .ok (.if_icmp .gt 28, 3) := by decide +kernel
theorem d_Ls_joinGroups_9 : decode (M_Ls_joinGroups).cc 9 = .ok (.aload_n 0, 1) := by decide +kernel
theorem d_Ls_joinGroups_10 : decode (M_Ls_joinGroups).cc 10 = .ok (.getfield 22, 3) := by decide +kernel
theorem d_Ls_joinGroups_13 : decode (M_Ls_joinGroups).cc 13 = .ok (.iload 4, 2) := by decide +kernel
theorem d_Ls_joinGroups_15 : decode (M_Ls_joinGroups).cc 15 = .ok (.iaload, 1) := by decide +kernel
theorem d_Ls_joinGroups_16 : decode (M_Ls_joinGroups).cc 16 = .ok (.iload_n 1, 1) := by decide +kernel
theorem d_Ls_joinGroups_17 : decode (M_Ls_joinGroups).cc 17 = .ok (.if_icmp .ne 11, 3) := by decide +kernel
theorem d_Ls_joinGroups_20 : decode (M_Ls_joinGroups).cc 20 = .ok (.aload_n 0, 1) := by decide +kernel
theorem d_Ls_joinGroups_21 : decode (M_Ls_joinGroups).cc 21 = .ok (.getfield 22, 3) := by decide +kernel
theorem d_Ls_joinGroups_24 : decode (M_Ls_joinGroups).cc 24 = .ok (.iload 4, 2) := by decide +kernel
theorem d_Ls_joinGroups_26 : decode (M_Ls_joinGroups).cc 26 = .ok (.iload_n 2, 1) := by decide +kernel
theorem d_Ls_joinGroups_27 : decode (M_Ls_joinGroups).cc 27 = .ok (.iastore, 1) := by decide +kernel
theorem d_Ls_joinGroups_28 : decode (M_Ls_joinGroups).cc 28 = .ok (.iinc 4 1, 3) := by decide +kernel
theorem d_Ls_joinGroups_31 : decode (M_Ls_joinGroups).cc 31 = .ok (.goto (-28), 3) := by decide +kernel
theorem d_Ls_joinGroups_34 : decode (M_Ls_joinGroups).cc 34 = .ok (.return_, 1) := by decide +kernel
theorem d_Nu_isGreatest_0 : decode (M_Nu_isGreatest).cc 0 = .ok (.aload_n 0, 1) := by decide +kernel
theorem d_Nu_isGreatest_1 : decode (M_Nu_isGreatest).cc 1 = .ok (.aload_n 1, 1) := by decide +kernel
theorem d_Nu_isGreatest_2 : decode (M_Nu_isGreatest).cc 2 = .ok (.putfield 19, 3) := by decide +kernel
theorem d_Nu_isGreatest_5 : decode (M_Nu_isGreatest).cc 5 = .ok (.aload_n 0, 1) := by decide +kernel
theorem d_Nu_isGreatest_6 : decode (M_Nu_isGreatest).cc 6 = .ok (.aload_n 1, 1) := by decide +kernel
theorem d_Nu_isGreatest_7 : decode (M_Nu_isGreatest).cc 7 = .ok (.getfield 43, 3) := by decide +kernel
theorem d_Nu_isGreatest_10 : decode (M_Nu_isGreatest).cc 10 = .ok (.putfield 23, 3) := by decide +kernel
theorem d_Nu_isGreatest_13 : decode (M_Nu_isGreatest).cc 13 = .ok (.aload_n 0, 1) := by decide +kernel
theorem d_Nu_isGreatest_14 : decode (M_Nu_isGreatest).cc 14 = .ok (.iload_n 2, 1) := by decide +kernel
theorem d_Nu_isGreatest_15 : decode (M_Nu_isGreatest).cc 15 = .ok (.putfield 32, 3) := by decide +kernel
theorem d_Nu_isGreatest_18 : decode (M_Nu_isGreatest).cc 18 = .ok (.aload_n 0, 1) := by decide +kernel
theorem d_Nu_isGreatest_19 : decode (M_Nu_isGreatest).cc 19 = .ok (.iconst 0, 1) := by decide +kernel
theorem d_Nu_isGreatest_20 : decode (M_Nu_isGreatest).cc 20 = .ok (.iload_n 3, 1) := by decide +kernel
theorem d_Nu_isGreatest_21 : decode (M_Nu_isGreatest).cc 21 = .ok (.invokevirtual 46, 3) := by decide +kernel
theorem d_Nu_isGreatest_24 : decode (M_Nu_isGreatest).cc 24 = .ok (.ifCond .ne 7, 3) := by decide +kernel
theorem d_Nu_isGreatest_27 : decode (M_Nu_isGreatest).cc 27 = .ok (.iconst 1, 1) := by decide +kernel
theorem d_Nu_isGreatest_28 : decode (M_Nu_isGreatest).cc 28 = .ok (.goto 4, 3) := by decide +kernel
theorem d_Nu_isGreatest_31 : decode (M_Nu_isGreatest).cc 31 = .ok (.iconst 0, 1) := by decide +kernel
theorem d_Nu_isGreatest_32 : decode (M_Nu_isGreatest).cc 32 = .ok (.ireturn, 1) := by decide +kernel
theorem d_Nu_canBeBeaten_0 : decode (M_Nu_canBeBeaten).cc 0 = .ok (.iload_n 1, 1) := by decide +kernel
theorem d_Nu_canBeBeaten_1 : decode (M_Nu_canBeBeaten).cc 1 = .ok (.aload_n 0, 1) := by decide +kernel
theorem d_Nu_canBeBeaten_2 : decode (M_Nu_canBeBeaten).cc 2 = .ok (.getfield 32, 3) := by decide +kernel
theorem d_Nu_canBeBeaten_5 : decode (M_Nu_canBeBeaten).cc 5 = .ok (.if_icmp .lt 5, 3) := by decide +kernel
theorem d_Nu_canBeBeaten_8 : decode (M_Nu_canBeBeaten).cc 8 = .ok (.iconst 0, 1) := by decide +kernel
theorem d_Nu_canBeBeaten_9 : decode (M_Nu_canBeBeaten).cc 9 = .ok (.ireturn, 1) := by decide +kernel
theorem d_Nu_canBeBeaten_10 : decode (M_Nu_canBeBeaten).cc 10 = .ok (.iload_n 2, 1) := by decide +kernel
theorem d_Nu_canBeBeaten_11 : decode (M_Nu_canBeBeaten).cc 11 = .ok (.iload_n 1, 1) := by decide +kernel
theorem d_Nu_canBeBeaten_12 : decode (M_Nu_canBeBeaten).cc 12 = .ok (.invokestatic 54, 3) := by decide +kernel
theorem d_Nu_canBeBeaten_15 : decode (M_Nu_canBeBeaten).cc 15 = .ok (.ishr, 1) := by decide +kernel
theorem d_Nu_canBeBeaten_16 : decode (M_Nu_canBeBeaten).cc 16 = .ok (.iconst 1, 1) := by decide +kernel
theorem d_Nu_canBeBeaten_17 : decode (M_Nu_canBeBeaten).cc 17 = .ok (.iconst 2, 1) := by decide +kernel
theorem d_Nu_canBeBeaten_18 : decode (M_Nu_canBeBeaten).cc 18 = .ok (.iload_n 1, 1) := by decide +kernel
theorem d_Nu_canBeBeaten_19 : decode (M_Nu_canBeBeaten).cc 19 = .ok (.imul, 1) := by decide +kernel
theorem d_Nu_canBeBeaten_20 : decode (M_Nu_canBeBeaten).cc 20 = .ok (.ishl, 1) := by decide +kernel
theorem d_Nu_canBeBeaten_21 : decode (M_Nu_canBeBeaten).cc 21 = .ok (.iconst 1, 1) := by decide +kernel
theorem d_Nu_canBeBeaten_22 : decode (M_Nu_canBeBeaten).cc 22 = .ok (.isub, 1) := by decide +kernel
theorem d_Nu_canBeBeaten_23 : decode (M_Nu_canBeBeaten).cc 23 = .ok (.iand, 1) := by decide +kernel
theorem d_Nu_canBeBeaten_24 : decode (M_Nu_canBeBeaten).cc 24 = .ok (.istore_n 3, 1) := by decide +kernel
theorem d_Nu_canBeBeaten_25 : decode (M_Nu_canBeBeaten).cc 25 = .ok (.iconst 0, 1) := by decide +kernel
theorem d_Nu_canBeBeaten_26 : decode (M_Nu_canBeBeaten).cc 26 = .ok (.istore 4, 2) := by decide +kernel
theorem d_Nu_canBeBeaten_28 : decode (M_Nu_canBeBeaten).cc 28 = .ok (.iload 4, 2) := by decide +kernel
theorem d_Nu_canBeBeaten_30 : decode (M_Nu_canBeBeaten).cc 30 = .ok (.aload_n 0, 1) := by decide +kernel
theorem d_Nu_canBeBeaten_31 : decode (M_Nu_canBeBeaten).cc 31 = .ok (.getfield 32, 3) := by decide +kernel
theorem d_Nu_canBeBeaten_34 : decode (M_Nu_canBeBeaten).cc 34 = .ok (.if_icmp .ge 72, 3) := by decide +kernel
theorem d_Nu_canBeBeaten_37 : decode (M_Nu_canBeBeaten).cc 37 = .ok (.aload_n 0, 1) := by decide +kernel
theorem d_Nu_canBeBeaten_38 : decode (M_Nu_canBeBeaten).cc 38 = .ok (.getfield 15, 3) := by decide +kernel
theorem d_Nu_canBeBeaten_41 : decode (M_Nu_canBeBeaten).cc 41 = .ok (.iload 4, 2) := by decide +kernel
theorem d_Nu_canBeBeaten_43 : decode (M_Nu_canBeBeaten).cc 43 = .ok (.baload, 1) := by decide +kernel
theorem d_Nu_canBeBeaten_44 : decode (M_Nu_canBeBeaten).cc 44 = .ok (.ifCond .ne 56, 3) := by decide +kernel
theorem d_Nu_canBeBeaten_47 : decode (M_Nu_canBeBeaten).cc 47 = .ok (.aload_n 0, 1) := by decide +kernel
theorem d_Nu_canBeBeaten_48 : decode (M_Nu_canBeBeaten).cc 48 = .ok (.getfield 19, 3) := by decide +kernel
theorem d_Nu_canBeBeaten_51 : decode (M_Nu_canBeBeaten).cc 51 = .ok (.getfield 43, 3) := by decide +kernel
theorem d_Nu_canBeBeaten_54 : decode (M_Nu_canBeBeaten).cc 54 = .ok (.iload 4, 2) := by decide +kernel
theorem d_Nu_canBeBeaten_56 : decode (M_Nu_canBeBeaten).cc 56 = .ok (.iaload, 1) := by decide +kernel
theorem d_Nu_canBeBeaten_57 : decode (M_Nu_canBeBeaten).cc 57 = .ok (.aload_n 0, 1) := by decide +kernel
theorem d_Nu_canBeBeaten_58 : decode (M_Nu_canBeBeaten).cc 58 = .ok (.getfield 23, 3) := by decide +kernel
theorem d_Nu_canBeBeaten_61 : decode (M_Nu_canBeBeaten).cc 61 = .ok (.iload_n 1, 1) := by decide +kernel
theorem d_Nu_canBeBeaten_62 : decode (M_Nu_canBeBeaten).cc 62 = .ok (.iaload, 1) := by decide +kernel
theorem d_Nu_canBeBeaten_63 : decode (M_Nu_canBeBeaten).cc 63 = .ok (.if_icmp .ne 37, 3) := by decide +kernel
theorem d_Nu_canBeBeaten_66 : decode (M_Nu_canBeBeaten).cc 66 = .ok (.aload_n 0, 1) := by decide +kernel
theorem d_Nu_canBeBeaten_67 : decode (M_Nu_canBeBeaten).cc 67 = .ok (.iload_n 1, 1) := by decide +kernel
theorem d_Nu_canBeBeaten_68 : decode (M_Nu_canBeBeaten).cc 68 = .ok (.iload 4, 2) := by decide +kernel
theorem d_Nu_canBeBeaten_70 : decode (M_Nu_canBeBeaten).cc 70 = .ok (.invokevirtual 58, 3) := by decide +kernel
theorem d_Nu_canBeBeaten_73 : decode (M_Nu_canBeBeaten).cc 73 = .ok (.istore 5, 2) := by decide +kernel
theorem d_Nu_canBeBeaten_75 : decode (M_Nu_canBeBeaten).cc 75 = .ok (.iload 5, 2) := by decide +kernel
theorem d_Nu_canBeBeaten_77 : decode (M_Nu_canBeBeaten).cc 77 = .ok (.iload_n 3, 1) := by decide +kernel
theorem d_Nu_canBeBeaten_78 : decode (M_Nu_canBeBeaten).cc 78 = .ok (.if_icmp .gt 20, 3) := by decide +kernel
theorem d_Nu_canBeBeaten_81 : decode (M_Nu_canBeBeaten).cc 81 = .ok (.iload 5, 2) := by decide +kernel
theorem d_Nu_canBeBeaten_83 : decode (M_Nu_canBeBeaten).cc 83 = .ok (.iload_n 3, 1) := by decide +kernel
theorem d_Nu_canBeBeaten_84 : decode (M_Nu_canBeBeaten).cc 84 = .ok (.if_icmp .ne 16, 3) := by decide +kernel
theorem d_Nu_canBeBeaten_87 : decode (M_Nu_canBeBeaten).cc 87 = .ok (.aload_n 0, 1) := by decide +kernel
theorem d_Nu_canBeBeaten_88 : decode (M_Nu_canBeBeaten).cc 88 = .ok (.iload_n 1, 1) := by decide +kernel
theorem d_Nu_canBeBeaten_89 : decode (M_Nu_canBeBeaten).cc 89 = .ok (.iload 4, 2) := by decide +kernel
theorem d_Nu_canBeBeaten_91 : decode (M_Nu_canBeBeaten).cc 91 = .ok (.iload_n 2, 1) := by decide +kernel
theorem d_Nu_canBeBeaten_92 : decode (M_Nu_canBeBeaten).cc 92 = .ok (.invokevirtual 62, 3) := by decide +kernel
theorem d_Nu_canBeBeaten_95 : decode (M_Nu_canBeBeaten).cc 95 = .ok (.ifCond .eq 5, 3) := by decide +kernel
theorem d_Nu_canBeBeaten_98 : decode (M_Nu_canBeBeaten).cc 98 = .ok (.iconst 1, 1) := by decide +kernel
theorem d_Nu_canBeBeaten_99 : decode (M_Nu_canBeBeaten).cc 99 = .ok (.ireturn, 1) := by decide +kernel
theorem d_Nu_canBeBeaten_100 : decode (M_Nu_canBeBeaten).cc 100 = .ok (.iinc 4 1, 3) := by decide +kernel
theorem d_Nu_canBeBeaten_103 : decode (M_Nu_canBeBeaten).cc 103 = .ok (.goto (-75), 3) := by decide +kernel
theorem d_Nu_canBeBeaten_106 : decode (M_Nu_canBeBeaten).cc 106 = .ok (.iconst 0, 1) := by decide +kernel
theorem d_Nu_canBeBeaten_107 : decode (M_Nu_canBeBeaten).cc 107 = .ok (.ireturn, 1) := by decide +kernel
theorem d_IL_rowShift_0 : decode (M_IL_rowShift).cc 0 = .ok (.bipush 30, 2) := by decide +kernel
theorem d_IL_rowShift_2 : decode (M_IL_rowShift).cc 2 = .ok (.iload_n 0, 1) := by decide +kernel
theorem d_IL_rowShift_3 : decode (M_IL_rowShift).cc 3 = .ok (.iload_n 0, 1) := by decide +kernel
theorem d_IL_rowShift_4 : decode (M_IL_rowShift).cc 4 = .ok (.iconst 1, 1) := by decide +kernel
theorem d_IL_rowShift_5 : decode (M_IL_rowShift).cc 5 = .ok (.iadd, 1) := by decide +kernel
theorem d_IL_rowShift_6 : decode (M_IL_rowShift).cc 6 = .ok (.imul, 1) := by decide +kernel
theorem d_IL_rowShift_7 : decode (M_IL_rowShift).cc 7 = .ok (.isub, 1) := by decide +kernel
theorem d_IL_rowShift_8 : decode (M_IL_rowShift).cc 8 = .ok (.ireturn, 1) := by decide +kernel
theorem d_Nu_row_0 : decode (M_Nu_row).cc 0 = .ok (.iconst 0, 1) := by decide +kernel
theorem d_Nu_row_1 : decode (M_Nu_row).cc 1 = .ok (.istore_n 3, 1) := by decide +kernel
theorem d_Nu_row_2 : decode (M_Nu_row).cc 2 = .ok (.iconst 0, 1) := by decide +kernel
theorem d_Nu_row_3 : decode (M_Nu_row).cc 3 = .ok (.istore 4, 2) := by decide +kernel
theorem d_Nu_row_5 : decode (M_Nu_row).cc 5 = .ok (.iload 4, 2) := by decide +kernel
theorem d_Nu_row_7 : decode (M_Nu_row).cc 7 = .ok (.iload_n 1, 1) := by decide +kernel
theorem d_Nu_row_8 : decode (M_Nu_row).cc 8 = .ok (.if_icmp .ge 34, 3) := by decide +kernel
theorem d_Nu_row_11 : decode (M_Nu_row).cc 11 = .ok (.iload_n 3, 1) := by decide +kernel
theorem d_Nu_row_12 : decode (M_Nu_row).cc 12 = .ok (.iconst 2, 1) := by decide +kernel
theorem d_Nu_row_13 : decode (M_Nu_row).cc 13 = .ok (.ishl, 1) := by decide +kernel
theorem d_Nu_row_14 : decode (M_Nu_row).cc 14 = .ok (.aload_n 0, 1) := by decide +kernel
theorem d_Nu_row_15 : decode (M_Nu_row).cc 15 = .ok (.getfield 19, 3) := by decide +kernel
theorem d_Nu_row_18 : decode (M_Nu_row).cc 18 = .ok (.getfield 66, 3) := by decide +kernel
theorem d_Nu_row_21 : decode (M_Nu_row).cc 21 = .ok (.iload_n 2, 1) := by decide +kernel
theorem d_Nu_row_22 : decode (M_Nu_row).cc 22 = .ok (.bipush 6, 2) := by decide +kernel
theorem d_Nu_row_24 : decode (M_Nu_row).cc 24 = .ok (.imul, 1) := by decide +kernel
theorem d_Nu_row_25 : decode (M_Nu_row).cc 25 = .ok (.aload_n 0, 1) := by decide +kernel
theorem d_Nu_row_26 : decode (M_Nu_row).cc 26 = .ok (.getfield 9, 3) := by decide +kernel
theorem d_Nu_row_29 : decode (M_Nu_row).cc 29 = .ok (.iload 4, 2) := by decide +kernel
theorem d_Nu_row_31 : decode (M_Nu_row).cc 31 = .ok (.iaload, 1) := by decide +kernel
theorem d_Nu_row_32 : decode (M_Nu_row).cc 32 = .ok (.iadd, 1) := by decide +kernel
theorem d_Nu_row_33 : decode (M_Nu_row).cc 33 = .ok (.iaload, 1) := by decide +kernel
theorem d_Nu_row_34 : decode (M_Nu_row).cc 34 = .ok (.ior, 1) := by decide +kernel
theorem d_Nu_row_35 : decode (M_Nu_row).cc 35 = .ok (.istore_n 3, 1) := by decide +kernel
theorem d_Nu_row_36 : decode (M_Nu_row).cc 36 = .ok (.iinc 4 1, 3) := by decide +kernel
theorem d_Nu_row_39 : decode (M_Nu_row).cc 39 = .ok (.goto (-34), 3) := by decide +kernel
theorem d_Nu_row_42 : decode (M_Nu_row).cc 42 = .ok (.iload_n 3, 1) := by decide +kernel
theorem d_Nu_row_43 : decode (M_Nu_row).cc 43 = .ok (.ireturn, 1) := by decide +kernel
theorem d_Nu_canBeBeatenWith_0 : decode (M_Nu_canBeBeatenWith).cc 0 = .ok (.aload_n 0, 1) := by decide +kernel
theorem d_Nu_canBeBeatenWith_1 : decode (M_Nu_canBeBeatenWith).cc 1 = .ok (.getfield 9, 3) := by decide +kernel
theorem d_Nu_canBeBeatenWith_4 : decode (M_Nu_canBeBeatenWith).cc 4 = .ok (.iload_n 1, 1) := by decide +kernel
theorem d_Nu_canBeBeatenWith_5 : decode (M_Nu_canBeBeatenWith).cc 5 = .ok (.iload_n 2, 1) := by decide +kernel
theorem d_Nu_canBeBeatenWith_6 : decode (M_Nu_canBeBeatenWith).cc 6 = .ok (.iastore, 1) := by decide +kernel
theorem d_Nu_canBeBeatenWith_7 : decode (M_Nu_canBeBeatenWith).cc 7 = .ok (.aload_n 0, 1) := by decide +kernel
theorem d_Nu_canBeBeatenWith_8 : decode (M_Nu_canBeBeatenWith).cc 8 = .ok (.getfield 15, 3) := by decide +kernel
theorem d_Nu_canBeBeatenWith_11 : decode (M_Nu_canBeBeatenWith).cc 11 = .ok (.iload_n 2, 1) := by decide +kernel
theorem d_Nu_canBeBeatenWith_12 : decode (M_Nu_canBeBeatenWith).cc 12 = .ok (.iconst 1, 1) := by decide +kernel
theorem d_Nu_canBeBeatenWith_13 : decode (M_Nu_canBeBeatenWith).cc 13 = .ok (.bastore, 1) := by decide +kernel
theorem d_Nu_canBeBeatenWith_14 : decode (M_Nu_canBeBeatenWith).cc 14 = .ok (.aload_n 0, 1) := by decide +kernel
theorem d_Nu_canBeBeatenWith_15 : decode (M_Nu_canBeBeatenWith).cc 15 = .ok (.iload_n 1, 1) := by decide +kernel
theorem d_Nu_canBeBeatenWith_16 : decode (M_Nu_canBeBeatenWith).cc 16 = .ok (.iconst 1, 1) := by decide +kernel
theorem d_Nu_canBeBeatenWith_17 : decode (M_Nu_canBeBeatenWith).cc 17 = .ok (.iadd, 1) := by decide +kernel
theorem d_Nu_canBeBeatenWith_18 : decode (M_Nu_canBeBeatenWith).cc 18 = .ok (.iload_n 3, 1) := by decide +kernel
theorem d_Nu_canBeBeatenWith_19 : decode (M_Nu_canBeBeatenWith).cc 19 = .ok (.invokevirtual 46, 3) := by decide +kernel
theorem d_Nu_canBeBeatenWith_22 : decode (M_Nu_canBeBeatenWith).cc 22 = .ok (.istore 4, 2) := by decide +kernel
theorem d_Nu_canBeBeatenWith_24 : decode (M_Nu_canBeBeatenWith).cc 24 = .ok (.aload_n 0, 1) := by decide +kernel
theorem d_Nu_canBeBeatenWith_25 : decode (M_Nu_canBeBeatenWith).cc 25 = .ok (.getfield 15, 3) := by decide +kernel
theorem d_Nu_canBeBeatenWith_28 : decode (M_Nu_canBeBeatenWith).cc 28 = .ok (.iload_n 2, 1) := by decide +kernel
theorem d_Nu_canBeBeatenWith_29 : decode (M_Nu_canBeBeatenWith).cc 29 = .ok (.iconst 0, 1) := by decide +kernel
theorem d_Nu_canBeBeatenWith_30 : decode (M_Nu_canBeBeatenWith).cc 30 = .ok (.bastore, 1) := by decide +kernel
theorem d_Nu_canBeBeatenWith_31 : decode (M_Nu_canBeBeatenWith).cc 31 = .ok (.iload 4, 2) := by decide +kernel
theorem d_Nu_canBeBeatenWith_33 : decode (M_Nu_canBeBeatenWith).cc 33 = .ok (.ireturn, 1) := by decide +kernel
theorem d_Ls_bindOn_0 : decode (M_Ls_bindOn).cc 0 = .ok (.iload_n 2, 1) := by decide +kernel
theorem d_Ls_bindOn_1 : decode (M_Ls_bindOn).cc 1 = .ok (.iload_n 1, 1) := by decide +kernel
theorem d_Ls_bindOn_2 : decode (M_Ls_bindOn).cc 2 = .ok (.if_icmp .lt 12, 3) := by decide +kernel
theorem d_Ls_bindOn_5 : decode (M_Ls_bindOn).cc 5 = .ok (.aload_n 0, 1) := by decide +kernel
theorem d_Ls_bindOn_6 : decode (M_Ls_bindOn).cc 6 = .ok (.iload_n 1, 1) := by decide +kernel
theorem d_Ls_bindOn_7 : decode (M_Ls_bindOn).cc 7 = .ok (.iload_n 3, 1) := by decide +kernel
theorem d_Ls_bindOn_8 : decode (M_Ls_bindOn).cc 8 = .ok (.iload 4, 2) := by decide +kernel
theorem d_Ls_bindOn_10 : decode (M_Ls_bindOn).cc 10 = .ok (.invokevirtual 46, 3) := by decide +kernel
theorem d_Ls_bindOn_13 : decode (M_Ls_bindOn).cc 13 = .ok (.return_, 1) := by decide +kernel
theorem d_Ls_bindOn_14 : decode (M_Ls_bindOn).cc 14 = .ok (.iload_n 1, 1) := by decide +kernel
theorem d_Ls_bindOn_15 : decode (M_Ls_bindOn).cc 15 = .ok (.invokestatic 56, 3) := by decide +kernel
theorem d_Ls_bindOn_18 : decode (M_Ls_bindOn).cc 18 = .ok (.iconst 2, 1) := by decide +kernel
theorem d_Ls_bindOn_19 : decode (M_Ls_bindOn).cc 19 = .ok (.iload_n 1, 1) := by decide +kernel
theorem d_Ls_bindOn_20 : decode (M_Ls_bindOn).cc 20 = .ok (.iconst 1, 1) := by decide +kernel
theorem d_Ls_bindOn_21 : decode (M_Ls_bindOn).cc 21 = .ok (.isub, 1) := by decide +kernel
theorem d_Ls_bindOn_22 : decode (M_Ls_bindOn).cc 22 = .ok (.iload_n 2, 1) := by decide +kernel
theorem d_Ls_bindOn_23 : decode (M_Ls_bindOn).cc 23 = .ok (.isub, 1) := by decide +kernel
theorem d_Ls_bindOn_24 : decode (M_Ls_bindOn).cc 24 = .ok (.imul, 1) := by decide +kernel
theorem d_Ls_bindOn_25 : decode (M_Ls_bindOn).cc 25 = .ok (.iadd, 1) := by decide +kernel
theorem d_Ls_bindOn_26 : decode (M_Ls_bindOn).cc 26 = .ok (.istore 5, 2) := by decide +kernel
theorem d_Ls_bindOn_28 : decode (M_Ls_bindOn).cc 28 = .ok (.iconst 3, 1) := by decide +kernel
theorem d_Ls_bindOn_29 : decode (M_Ls_bindOn).cc 29 = .ok (.iload_n 3, 1) := by decide +kernel
theorem d_Ls_bindOn_30 : decode (M_Ls_bindOn).cc 30 = .ok (.invokestatic 60, 3) := by decide +kernel
theorem d_Ls_bindOn_33 : decode (M_Ls_bindOn).cc 33 = .ok (.aload_n 0, 1) := by decide +kernel
theorem d_Ls_bindOn_34 : decode (M_Ls_bindOn).cc 34 = .ok (.getfield 12, 3) := by decide +kernel
theorem d_Ls_bindOn_37 : decode (M_Ls_bindOn).cc 37 = .ok (.getfield 53, 3) := by decide +kernel
theorem d_Ls_bindOn_40 : decode (M_Ls_bindOn).cc 40 = .ok (.iload_n 1, 1) := by decide +kernel
theorem d_Ls_bindOn_41 : decode (M_Ls_bindOn).cc 41 = .ok (.iaload, 1) := by decide +kernel
theorem d_Ls_bindOn_42 : decode (M_Ls_bindOn).cc 42 = .ok (.aload_n 0, 1) := by decide +kernel
theorem d_Ls_bindOn_43 : decode (M_Ls_bindOn).cc 43 = .ok (.getfield 12, 3) := by decide +kernel
theorem d_Ls_bindOn_46 : decode (M_Ls_bindOn).cc 46 = .ok (.getfield 53, 3) := by decide +kernel
theorem d_Ls_bindOn_49 : decode (M_Ls_bindOn).cc 49 = .ok (.iload_n 2, 1) := by decide +kernel
theorem d_Ls_bindOn_50 : decode (M_Ls_bindOn).cc 50 = .ok (.iaload, 1) := by decide +kernel
theorem d_Ls_bindOn_51 : decode (M_Ls_bindOn).cc 51 = .ok (.invokestatic 60, 3) := by decide +kernel
theorem d_Ls_bindOn_54 : decode (M_Ls_bindOn).cc 54 = .ok (.invokestatic 60, 3) := by decide +kernel
theorem d_Ls_bindOn_57 : decode (M_Ls_bindOn).cc 57 = .ok (.istore 6, 2) := by decide +kernel
theorem d_Ls_bindOn_59 : decode (M_Ls_bindOn).cc 59 = .ok (.iload 6, 2) := by decide +kernel
theorem d_Ls_bindOn_61 : decode (M_Ls_bindOn).cc 61 = .ok (.istore 7, 2) := by decide +kernel
theorem d_Ls_bindOn_63 : decode (M_Ls_bindOn).cc 63 = .ok (.iload 7, 2) := by decide +kernel
theorem d_Ls_bindOn_65 : decode (M_Ls_bindOn).cc 65 = .ok (.ifCond .lt 50, 3) := by decide +kernel
theorem d_Ls_bindOn_68 : decode (M_Ls_bindOn).cc 68 = .ok (.aload_n 0, 1) := by decide +kernel
theorem d_Ls_bindOn_69 : decode (M_Ls_bindOn).cc 69 = .ok (.getfield 29, 3) := by decide +kernel
theorem d_Ls_bindOn_72 : decode (M_Ls_bindOn).cc 72 = .ok (.invokevirtual 66, 3) := by decide +kernel
theorem d_Ls_bindOn_75 : decode (M_Ls_bindOn).cc 75 = .ok (.ifCond .ne 40, 3) := by decide +kernel
theorem d_Ls_bindOn_78 : decode (M_Ls_bindOn).cc 78 = .ok (.aload_n 0, 1) := by decide +kernel
theorem d_Ls_bindOn_79 : decode (M_Ls_bindOn).cc 79 = .ok (.getfield 12, 3) := by decide +kernel
theorem d_Ls_bindOn_82 : decode (M_Ls_bindOn).cc 82 = .ok (.iload_n 1, 1) := by decide +kernel
theorem d_Ls_bindOn_83 : decode (M_Ls_bindOn).cc 83 = .ok (.iload_n 2, 1) := by decide +kernel
theorem d_Ls_bindOn_84 : decode (M_Ls_bindOn).cc 84 = .ok (.iload 7, 2) := by decide +kernel
theorem d_Ls_bindOn_86 : decode (M_Ls_bindOn).cc 86 = .ok (.invokevirtual 70, 3) := by decide +kernel
theorem d_Ls_bindOn_89 : decode (M_Ls_bindOn).cc 89 = .ok (.aload_n 0, 1) := by decide +kernel
theorem d_Ls_bindOn_90 : decode (M_Ls_bindOn).cc 90 = .ok (.iload_n 1, 1) := by decide +kernel
theorem d_Ls_bindOn_91 : decode (M_Ls_bindOn).cc 91 = .ok (.iload_n 2, 1) := by decide +kernel
theorem d_Ls_bindOn_92 : decode (M_Ls_bindOn).cc 92 = .ok (.iconst 1, 1) := by decide +kernel
theorem d_Ls_bindOn_93 : decode (M_Ls_bindOn).cc 93 = .ok (.iadd, 1) := by decide +kernel
theorem d_Ls_bindOn_94 : decode (M_Ls_bindOn).cc 94 = .ok (.iload_n 3, 1) := by decide +kernel
theorem d_Ls_bindOn_95 : decode (M_Ls_bindOn).cc 95 = .ok (.iload 7, 2) := by decide +kernel
theorem d_Ls_bindOn_97 : decode (M_Ls_bindOn).cc 97 = .ok (.isub, 1) := by decide +kernel
theorem d_Ls_bindOn_98 : decode (M_Ls_bindOn).cc 98 = .ok (.iload 4, 2) := by decide +kernel
theorem d_Ls_bindOn_100 : decode (M_Ls_bindOn).cc 100 = .ok (.iload 7, 2) := by decide +kernel
theorem d_Ls_bindOn_102 : decode (M_Ls_bindOn).cc 102 = .ok (.iload 5, 2) := by decide +kernel
theorem d_Ls_bindOn_104 : decode (M_Ls_bindOn).cc 104 = .ok (.ishl, 1) := by decide +kernel
theorem d_Ls_bindOn_105 : decode (M_Ls_bindOn).cc 105 = .ok (.ior, 1) := by decide +kernel
theorem d_Ls_bindOn_106 : decode (M_Ls_bindOn).cc 106 = .ok (.invokevirtual 73, 3) := by decide +kernel
theorem d_Ls_bindOn_109 : decode (M_Ls_bindOn).cc 109 = .ok (.iinc 7 (-1), 3) := by decide +kernel
theorem d_Ls_bindOn_112 : decode (M_Ls_bindOn).cc 112 = .ok (.goto (-49), 3) := by decide +kernel
theorem d_Ls_bindOn_115 : decode (M_Ls_bindOn).cc 115 = .ok (.aload_n 0, 1) := by decide +kernel
theorem d_Ls_bindOn_116 : decode (M_Ls_bindOn).cc 116 = .ok (.getfield 12, 3) := by decide +kernel
theorem d_Ls_bindOn_119 : decode (M_Ls_bindOn).cc 119 = .ok (.iload_n 1, 1) := by decide +kernel
theorem d_Ls_bindOn_120 : decode (M_Ls_bindOn).cc 120 = .ok (.iload_n 2, 1) := by decide +kernel
theorem d_Ls_bindOn_121 : decode (M_Ls_bindOn).cc 121 = .ok (.iconst 0, 1) := by decide +kernel
theorem d_Ls_bindOn_122 : decode (M_Ls_bindOn).cc 122 = .ok (.invokevirtual 70, 3) := by decide +kernel
theorem d_Ls_bindOn_125 : decode (M_Ls_bindOn).cc 125 = .ok (.return_, 1) := by decide +kernel
theorem d_IL_read_0 : decode (M_IL_read).cc 0 = .ok (.aload_n 0, 1) := by decide +kernel
theorem d_IL_read_1 : decode (M_IL_read).cc 1 = .ok (.getfield 26, 3) := by decide +kernel
theorem d_IL_read_4 : decode (M_IL_read).cc 4 = .ok (.aload_n 0, 1) := by decide +kernel
theorem d_IL_read_5 : decode (M_IL_read).cc 5 = .ok (.getfield 10, 3) := by decide +kernel
theorem d_IL_read_8 : decode (M_IL_read).cc 8 = .ok (.invokevirtual 109, 3) := by decide +kernel
theorem d_IL_read_11 : decode (M_IL_read).cc 11 = .ok (.istore_n 1, 1) := by decide +kernel
theorem d_IL_read_12 : decode (M_IL_read).cc 12 = .ok (.aload_n 0, 1) := by decide +kernel
theorem d_IL_read_13 : decode (M_IL_read).cc 13 = .ok (.iload_n 1, 1) := by decide +kernel
theorem d_IL_read_14 : decode (M_IL_read).cc 14 = .ok (.iconst (-1), 1) := by decide +kernel
theorem d_IL_read_15 : decode (M_IL_read).cc 15 = .ok (.if_icmp .ne 7, 3) := by decide +kernel
theorem d_IL_read_18 : decode (M_IL_read).cc 18 = .ok (.iconst (-1), 1) := by decide +kernel
theorem d_IL_read_19 : decode (M_IL_read).cc 19 = .ok (.goto 10, 3) := by decide +kernel
theorem d_IL_read_22 : decode (M_IL_read).cc 22 = .ok (.aload_n 0, 1) := by decide +kernel
theorem d_IL_read_23 : decode (M_IL_read).cc 23 = .ok (.getfield 26, 3) := by decide +kernel
theorem d_IL_read_26 : decode (M_IL_read).cc 26 = .ok (.getfield 110, 3) := by decide +kernel
theorem d_IL_read_29 : decode (M_IL_read).cc 29 = .ok (.putfield 70, 3) := by decide +kernel
theorem d_IL_read_32 : decode (M_IL_read).cc 32 = .ok (.iload_n 1, 1) := by decide +kernel
theorem d_IL_read_33 : decode (M_IL_read).cc 33 = .ok (.iconst (-1), 1) := by decide +kernel
theorem d_IL_read_34 : decode (M_IL_read).cc 34 = .ok (.if_icmp .ne 17, 3) := by decide +kernel
theorem d_IL_read_37 : decode (M_IL_read).cc 37 = .ok (.aload_n 0, 1) := by decide +kernel
theorem d_IL_read_38 : decode (M_IL_read).cc 38 = .ok (.aload_n 0, 1) := by decide +kernel
theorem d_IL_read_39 : decode (M_IL_read).cc 39 = .ok (.getfield 26, 3) := by decide +kernel
theorem d_IL_read_42 : decode (M_IL_read).cc 42 = .ok (.getfield 111, 3) := by decide +kernel
theorem d_IL_read_45 : decode (M_IL_read).cc 45 = .ok (.invokevirtual 114, 3) := by decide +kernel
theorem d_IL_read_48 : decode (M_IL_read).cc 48 = .ok (.goto 4, 3) := by decide +kernel
theorem d_IL_read_51 : decode (M_IL_read).cc 51 = .ok (.iload_n 1, 1) := by decide +kernel
theorem d_IL_read_52 : decode (M_IL_read).cc 52 = .ok (.ireturn, 1) := by decide +kernel
theorem d_Tr_readFrom_0 : decode (M_Tr_readFrom).cc 0 = .ok (.aload_n 0, 1) := by decide +kernel
theorem d_Tr_readFrom_1 : decode (M_Tr_readFrom).cc 1 = .ok (.getfield 12, 3) := by decide +kernel
theorem d_Tr_readFrom_4 : decode (M_Tr_readFrom).cc 4 = .ok (.invokevirtual 28, 3) := by decide +kernel
theorem d_Tr_readFrom_7 : decode (M_Tr_readFrom).cc 7 = .ok (.aload_n 0, 1) := by decide +kernel
theorem d_Tr_readFrom_8 : decode (M_Tr_readFrom).cc 8 = .ok (.getfield 18, 3) := by decide +kernel
theorem d_Tr_readFrom_11 : decode (M_Tr_readFrom).cc 11 = .ok (.iconst (-1), 1) := by decide +kernel
theorem d_Tr_readFrom_12 : decode (M_Tr_readFrom).cc 12 = .ok (.invokestatic 31, 3) := by decide +kernel
theorem d_Tr_readFrom_15 : decode (M_Tr_readFrom).cc 15 = .ok (.aload_n 0, 1) := by decide +kernel
theorem d_Tr_readFrom_16 : decode (M_Tr_readFrom).cc 16 = .ok (.iconst 0, 1) := by decide +kernel
theorem d_Tr_readFrom_17 : decode (M_Tr_readFrom).cc 17 = .ok (.putfield 37, 3) := by decide +kernel
theorem d_Tr_readFrom_20 : decode (M_Tr_readFrom).cc 20 = .ok (.aload_n 0, 1) := by decide +kernel
theorem d_Tr_readFrom_21 : decode (M_Tr_readFrom).cc 21 = .ok (.iconst (-1), 1) := by decide +kernel
theorem d_Tr_readFrom_22 : decode (M_Tr_readFrom).cc 22 = .ok (.putfield 41, 3) := by decide +kernel
theorem d_Tr_readFrom_25 : decode (M_Tr_readFrom).cc 25 = .ok (.aload_n 0, 1) := by decide +kernel
theorem d_Tr_readFrom_26 : decode (M_Tr_readFrom).cc 26 = .ok (.iconst 0, 1) := by decide +kernel
theorem d_Tr_readFrom_27 : decode (M_Tr_readFrom).cc 27 = .ok (.putfield 44, 3) := by decide +kernel
theorem d_Tr_readFrom_30 : decode (M_Tr_readFrom).cc 30 = .ok (.aload_n 0, 1) := by decide +kernel
theorem d_Tr_readFrom_31 : decode (M_Tr_readFrom).cc 31 = .ok (.aload_n 1, 1) := by decide +kernel
theorem d_Tr_readFrom_32 : decode (M_Tr_readFrom).cc 32 = .ok (.iconst 0, 1) := by decide +kernel
theorem d_Tr_readFrom_33 : decode (M_Tr_readFrom).cc 33 = .ok (.invokevirtual 47, 3) := by decide +kernel
theorem d_Tr_readFrom_36 : decode (M_Tr_readFrom).cc 36 = .ok (.istore_n 2, 1) := by decide +kernel
theorem d_Tr_readFrom_37 : decode (M_Tr_readFrom).cc 37 = .ok (.iconst 0, 1) := by decide +kernel
theorem d_Tr_readFrom_38 : decode (M_Tr_readFrom).cc 38 = .ok (.istore_n 3, 1) := by decide +kernel
theorem d_Tr_readFrom_39 : decode (M_Tr_readFrom).cc 39 = .ok (.iload_n 3, 1) := by decide +kernel
theorem d_Tr_readFrom_40 : decode (M_Tr_readFrom).cc 40 = .ok (.bipush 60, 2) := by decide +kernel
theorem d_Tr_readFrom_42 : decode (M_Tr_readFrom).cc 42 = .ok (.if_icmp .ge 31, 3) := by decide +kernel
theorem d_Tr_readFrom_45 : decode (M_Tr_readFrom).cc 45 = .ok (.iload_n 2, 1) := by decide +kernel
theorem d_Tr_readFrom_46 : decode (M_Tr_readFrom).cc 46 = .ok (.iconst (-1), 1) := by decide +kernel
theorem d_Tr_readFrom_47 : decode (M_Tr_readFrom).cc 47 = .ok (.if_icmp .ne 26, 3) := by decide +kernel
theorem d_Tr_readFrom_50 : decode (M_Tr_readFrom).cc 50 = .ok (.aload_n 0, 1) := by decide +kernel
theorem d_Tr_readFrom_51 : decode (M_Tr_readFrom).cc 51 = .ok (.getfield 44, 3) := by decide +kernel
theorem d_Tr_readFrom_54 : decode (M_Tr_readFrom).cc 54 = .ok (.aload_n 1, 1) := by decide +kernel
theorem d_Tr_readFrom_55 : decode (M_Tr_readFrom).cc 55 = .ok (.getfield 51, 3) := by decide +kernel
theorem d_Tr_readFrom_58 : decode (M_Tr_readFrom).cc 58 = .ok (.if_icmp .ge 15, 3) := by decide +kernel
theorem d_Tr_readFrom_61 : decode (M_Tr_readFrom).cc 61 = .ok (.aload_n 0, 1) := by decide +kernel
theorem d_Tr_readFrom_62 : decode (M_Tr_readFrom).cc 62 = .ok (.aload_n 1, 1) := by decide +kernel
theorem d_Tr_readFrom_63 : decode (M_Tr_readFrom).cc 63 = .ok (.invokevirtual 56, 3) := by decide +kernel
theorem d_Tr_readFrom_66 : decode (M_Tr_readFrom).cc 66 = .ok (.istore_n 2, 1) := by decide +kernel
theorem d_Tr_readFrom_67 : decode (M_Tr_readFrom).cc 67 = .ok (.iinc 3 1, 3) := by decide +kernel
theorem d_Tr_readFrom_70 : decode (M_Tr_readFrom).cc 70 = .ok (.goto (-31), 3) := by decide +kernel
theorem d_Tr_readFrom_73 : decode (M_Tr_readFrom).cc 73 = .ok (.iload_n 2, 1) := by decide +kernel
theorem d_Tr_readFrom_74 : decode (M_Tr_readFrom).cc 74 = .ok (.iconst (-1), 1) := by decide +kernel
theorem d_Tr_readFrom_75 : decode (M_Tr_readFrom).cc 75 = .ok (.if_icmp .ne 10, 3) := by decide +kernel
theorem d_Tr_readFrom_78 : decode (M_Tr_readFrom).cc 78 = .ok (.aload_n 0, 1) := by decide +kernel
theorem d_Tr_readFrom_79 : decode (M_Tr_readFrom).cc 79 = .ok (.invokevirtual 60, 3) := by decide +kernel
theorem d_Tr_readFrom_82 : decode (M_Tr_readFrom).cc 82 = .ok (.goto 4, 3) := by decide +kernel
theorem d_Tr_readFrom_85 : decode (M_Tr_readFrom).cc 85 = .ok (.iload_n 2, 1) := by decide +kernel
theorem d_Tr_readFrom_86 : decode (M_Tr_readFrom).cc 86 = .ok (.ireturn, 1) := by decide +kernel
theorem d_Tr_readAtom_0 : decode (M_Tr_readAtom).cc 0 = .ok (.aload_n 1, 1) := by decide +kernel
theorem d_Tr_readAtom_1 : decode (M_Tr_readAtom).cc 1 = .ok (.aload_n 0, 1) := by decide +kernel
theorem d_Tr_readAtom_2 : decode (M_Tr_readAtom).cc 2 = .ok (.getfield 44, 3) := by decide +kernel
theorem d_Tr_readAtom_5 : decode (M_Tr_readAtom).cc 5 = .ok (.invokevirtual 88, 3) := by decide +kernel
theorem d_Tr_readAtom_8 : decode (M_Tr_readAtom).cc 8 = .ok (.istore_n 3, 1) := by decide +kernel
theorem d_Tr_readAtom_9 : decode (M_Tr_readAtom).cc 9 = .ok (.iload_n 3, 1) := by decide +kernel
theorem d_Tr_readAtom_10 : decode (M_Tr_readAtom).cc 10 = .ok (.iconst (-1), 1) := by decide +kernel
theorem d_Tr_readAtom_11 : decode (M_Tr_readAtom).cc 11 = .ok (.if_icmp .eq 9, 3) := by decide +kernel
theorem d_Tr_readAtom_14 : decode (M_Tr_readAtom).cc 14 = .ok (.iload_n 3, 1) := by decide +kernel
theorem d_Tr_readAtom_15 : decode (M_Tr_readAtom).cc 15 = .ok (.bipush 9, 2) := by decide +kernel
theorem d_Tr_readAtom_17 : decode (M_Tr_readAtom).cc 17 = .ok (.if_icmp .ne 6, 3) := by decide +kernel
theorem d_Tr_readAtom_20 : decode (M_Tr_readAtom).cc 20 = .ok (.bipush (-2), 2) := by decide +kernel
theorem d_Tr_readAtom_22 : decode (M_Tr_readAtom).cc 22 = .ok (.ireturn, 1) := by decide +kernel
theorem d_Tr_readAtom_23 : decode (M_Tr_readAtom).cc 23 = .ok (.aload_n 0, 1) := by decide +kernel
theorem d_Tr_readAtom_24 : decode (M_Tr_readAtom).cc 24 = .ok (.getfield 12, 3) := by decide +kernel
theorem d_Tr_readAtom_27 : decode (M_Tr_readAtom).cc 27 = .ok (.getfield 92, 3) := by decide +kernel
theorem d_Tr_readAtom_30 : decode (M_Tr_readAtom).cc 30 = .ok (.istore 4, 2) := by decide +kernel
theorem d_Tr_readAtom_32 : decode (M_Tr_readAtom).cc 32 = .ok (.iload 4, 2) := by decide +kernel
theorem d_Tr_readAtom_34 : decode (M_Tr_readAtom).cc 34 = .ok (.bipush 6, 2) := by decide +kernel
theorem d_Tr_readAtom_36 : decode (M_Tr_readAtom).cc 36 = .ok (.if_icmp .lt 6, 3) := by decide +kernel
theorem d_Tr_readAtom_39 : decode (M_Tr_readAtom).cc 39 = .ok (.bipush (-5), 2) := by decide +kernel
theorem d_Tr_readAtom_41 : decode (M_Tr_readAtom).cc 41 = .ok (.ireturn, 1) := by decide +kernel
theorem d_Tr_readAtom_42 : decode (M_Tr_readAtom).cc 42 = .ok (.aload_n 0, 1) := by decide +kernel
theorem d_Tr_readAtom_43 : decode (M_Tr_readAtom).cc 43 = .ok (.getfield 12, 3) := by decide +kernel
theorem d_Tr_readAtom_46 : decode (M_Tr_readAtom).cc 46 = .ok (.iload_n 3, 1) := by decide +kernel
theorem d_Tr_readAtom_47 : decode (M_Tr_readAtom).cc 47 = .ok (.invokevirtual 95, 3) := by decide +kernel
theorem d_Tr_readAtom_50 : decode (M_Tr_readAtom).cc 50 = .ok (.aload_n 0, 1) := by decide +kernel
theorem d_Tr_readAtom_51 : decode (M_Tr_readAtom).cc 51 = .ok (.getfield 41, 3) := by decide +kernel
theorem d_Tr_readAtom_54 : decode (M_Tr_readAtom).cc 54 = .ok (.iconst (-1), 1) := by decide +kernel
theorem d_Tr_readAtom_55 : decode (M_Tr_readAtom).cc 55 = .ok (.if_icmp .eq 21, 3) := by decide +kernel
theorem d_Tr_readAtom_58 : decode (M_Tr_readAtom).cc 58 = .ok (.aload_n 0, 1) := by decide +kernel
theorem d_Tr_readAtom_59 : decode (M_Tr_readAtom).cc 59 = .ok (.getfield 12, 3) := by decide +kernel
theorem d_Tr_readAtom_62 : decode (M_Tr_readAtom).cc 62 = .ok (.aload_n 0, 1) := by decide +kernel
theorem d_Tr_readAtom_63 : decode (M_Tr_readAtom).cc 63 = .ok (.getfield 41, 3) := by decide +kernel
theorem d_Tr_readAtom_66 : decode (M_Tr_readAtom).cc 66 = .ok (.iload 4, 2) := by decide +kernel
theorem d_Tr_readAtom_68 : decode (M_Tr_readAtom).cc 68 = .ok (.iload_n 2, 1) := by decide +kernel
theorem d_Tr_readAtom_69 : decode (M_Tr_readAtom).cc 69 = .ok (.iconst 1, 1) := by decide +kernel
theorem d_Tr_readAtom_70 : decode (M_Tr_readAtom).cc 70 = .ok (.invokestatic 99, 3) := by decide +kernel
theorem d_Tr_readAtom_73 : decode (M_Tr_readAtom).cc 73 = .ok (.invokevirtual 104, 3) := by decide +kernel
theorem d_Tr_readAtom_76 : decode (M_Tr_readAtom).cc 76 = .ok (.aload_n 0, 1) := by decide +kernel
theorem d_Tr_readAtom_77 : decode (M_Tr_readAtom).cc 77 = .ok (.iload 4, 2) := by decide +kernel
theorem d_Tr_readAtom_79 : decode (M_Tr_readAtom).cc 79 = .ok (.putfield 41, 3) := by decide +kernel
theorem d_Tr_readAtom_82 : decode (M_Tr_readAtom).cc 82 = .ok (.aload_n 0, 1) := by decide +kernel
theorem d_Tr_readAtom_83 : decode (M_Tr_readAtom).cc 83 = .ok (.iconst 1, 1) := by decide +kernel
theorem d_Tr_readAtom_84 : decode (M_Tr_readAtom).cc 84 = .ok (.putfield 76, 3) := by decide +kernel
theorem d_Tr_readAtom_87 : decode (M_Tr_readAtom).cc 87 = .ok (.aload_n 0, 1) := by decide +kernel
theorem d_Tr_readAtom_88 : decode (M_Tr_readAtom).cc 88 = .ok (.dup, 1) := by decide +kernel
theorem d_Tr_readAtom_89 : decode (M_Tr_readAtom).cc 89 = .ok (.getfield 44, 3) := by decide +kernel
theorem d_Tr_readAtom_92 : decode (M_Tr_readAtom).cc 92 = .ok (.iload_n 3, 1) := by decide +kernel
theorem d_Tr_readAtom_93 : decode (M_Tr_readAtom).cc 93 = .ok (.invokestatic 108, 3) := by decide +kernel
theorem d_Tr_readAtom_96 : decode (M_Tr_readAtom).cc 96 = .ok (.iadd, 1) := by decide +kernel
theorem d_Tr_readAtom_97 : decode (M_Tr_readAtom).cc 97 = .ok (.putfield 44, 3) := by decide +kernel
theorem d_Tr_readAtom_100 : decode (M_Tr_readAtom).cc 100 = .ok (.iconst (-1), 1) := by decide +kernel
theorem d_Tr_readAtom_101 : decode (M_Tr_readAtom).cc 101 = .ok (.ireturn, 1) := by decide +kernel
theorem d_Tr_readPart_0 : decode (M_Tr_readPart).cc 0 = .ok (.aload_n 1, 1) := by decide +kernel
theorem d_Tr_readPart_1 : decode (M_Tr_readPart).cc 1 = .ok (.aload_n 0, 1) := by decide +kernel
theorem d_Tr_readPart_2 : decode (M_Tr_readPart).cc 2 = .ok (.getfield 44, 3) := by decide +kernel
theorem d_Tr_readPart_5 : decode (M_Tr_readPart).cc 5 = .ok (.invokevirtual 64, 3) := by decide +kernel
theorem d_Tr_readPart_8 : decode (M_Tr_readPart).cc 8 = .ok (.istore_n 2, 1) := by decide +kernel
theorem d_Tr_readPart_9 : decode (M_Tr_readPart).cc 9 = .ok (.iload_n 2, 1) := by decide +kernel
theorem d_Tr_readPart_10 : decode (M_Tr_readPart).cc 10 = .ok (.bipush 41, 2) := by decide +kernel
theorem d_Tr_readPart_12 : decode (M_Tr_readPart).cc 12 = .ok (.if_icmp .ne 8, 3) := by decide +kernel
theorem d_Tr_readPart_15 : decode (M_Tr_readPart).cc 15 = .ok (.aload_n 0, 1) := by decide +kernel
theorem d_Tr_readPart_16 : decode (M_Tr_readPart).cc 16 = .ok (.invokevirtual 67, 3) := by decide +kernel
theorem d_Tr_readPart_19 : decode (M_Tr_readPart).cc 19 = .ok (.ireturn, 1) := by decide +kernel
theorem d_Tr_readPart_20 : decode (M_Tr_readPart).cc 20 = .ok (.iload_n 2, 1) := by decide +kernel
theorem d_Tr_readPart_21 : decode (M_Tr_readPart).cc 21 = .ok (.bipush 40, 2) := by decide +kernel
theorem d_Tr_readPart_23 : decode (M_Tr_readPart).cc 23 = .ok (.if_icmp .ne 9, 3) := by decide +kernel
theorem d_Tr_readPart_26 : decode (M_Tr_readPart).cc 26 = .ok (.aload_n 0, 1) := by decide +kernel
theorem d_Tr_readPart_27 : decode (M_Tr_readPart).cc 27 = .ok (.aload_n 1, 1) := by decide +kernel
theorem d_Tr_readPart_28 : decode (M_Tr_readPart).cc 28 = .ok (.invokevirtual 70, 3) := by decide +kernel
theorem d_Tr_readPart_31 : decode (M_Tr_readPart).cc 31 = .ok (.ireturn, 1) := by decide +kernel
theorem d_Tr_readPart_32 : decode (M_Tr_readPart).cc 32 = .ok (.aload_n 0, 1) := by decide +kernel
theorem d_Tr_readPart_33 : decode (M_Tr_readPart).cc 33 = .ok (.aload_n 1, 1) := by decide +kernel
theorem d_Tr_readPart_34 : decode (M_Tr_readPart).cc 34 = .ok (.invokevirtual 73, 3) := by decide +kernel
theorem d_Tr_readPart_37 : decode (M_Tr_readPart).cc 37 = .ok (.istore_n 3, 1) := by decide +kernel
theorem d_Tr_readPart_38 : decode (M_Tr_readPart).cc 38 = .ok (.aload_n 1, 1) := by decide +kernel
theorem d_Tr_readPart_39 : decode (M_Tr_readPart).cc 39 = .ok (.aload_n 0, 1) := by decide +kernel
theorem d_Tr_readPart_40 : decode (M_Tr_readPart).cc 40 = .ok (.getfield 44, 3) := by decide +kernel
theorem d_Tr_readPart_43 : decode (M_Tr_readPart).cc 43 = .ok (.invokevirtual 64, 3) := by decide +kernel
theorem d_Tr_readPart_46 : decode (M_Tr_readPart).cc 46 = .ok (.istore 4, 2) := by decide +kernel
theorem d_Tr_readPart_48 : decode (M_Tr_readPart).cc 48 = .ok (.aload_n 0, 1) := by decide +kernel
theorem d_Tr_readPart_49 : decode (M_Tr_readPart).cc 49 = .ok (.getfield 76, 3) := by decide +kernel
theorem d_Tr_readPart_52 : decode (M_Tr_readPart).cc 52 = .ok (.ifCond .eq 29, 3) := by decide +kernel
theorem d_Tr_readPart_55 : decode (M_Tr_readPart).cc 55 = .ok (.iload 4, 2) := by decide +kernel
theorem d_Tr_readPart_57 : decode (M_Tr_readPart).cc 57 = .ok (.invokestatic 80, 3) := by decide +kernel
theorem d_Tr_readPart_60 : decode (M_Tr_readPart).cc 60 = .ok (.ifCond .eq 21, 3) := by decide +kernel
theorem d_Tr_readPart_63 : decode (M_Tr_readPart).cc 63 = .ok (.iload 4, 2) := by decide +kernel
theorem d_Tr_readPart_65 : decode (M_Tr_readPart).cc 65 = .ok (.bipush 48, 2) := by decide +kernel
theorem d_Tr_readPart_67 : decode (M_Tr_readPart).cc 67 = .ok (.if_icmp .eq 14, 3) := by decide +kernel
theorem d_Tr_readPart_70 : decode (M_Tr_readPart).cc 70 = .ok (.aload_n 0, 1) := by decide +kernel
theorem d_Tr_readPart_71 : decode (M_Tr_readPart).cc 71 = .ok (.iload 4, 2) := by decide +kernel
theorem d_Tr_readPart_73 : decode (M_Tr_readPart).cc 73 = .ok (.bipush 48, 2) := by decide +kernel
theorem d_Tr_readPart_75 : decode (M_Tr_readPart).cc 75 = .ok (.isub, 1) := by decide +kernel
theorem d_Tr_readPart_76 : decode (M_Tr_readPart).cc 76 = .ok (.iload_n 3, 1) := by decide +kernel
theorem d_Tr_readPart_77 : decode (M_Tr_readPart).cc 77 = .ok (.invokevirtual 84, 3) := by decide +kernel
theorem d_Tr_readPart_80 : decode (M_Tr_readPart).cc 80 = .ok (.ireturn, 1) := by decide +kernel
theorem d_Tr_readPart_81 : decode (M_Tr_readPart).cc 81 = .ok (.aload_n 0, 1) := by decide +kernel
theorem d_Tr_readPart_82 : decode (M_Tr_readPart).cc 82 = .ok (.aload_n 1, 1) := by decide +kernel
theorem d_Tr_readPart_83 : decode (M_Tr_readPart).cc 83 = .ok (.iload_n 3, 1) := by decide +kernel
theorem d_Tr_readPart_84 : decode (M_Tr_readPart).cc 84 = .ok (.invokevirtual 47, 3) := by decide +kernel
theorem d_Tr_readPart_87 : decode (M_Tr_readPart).cc 87 = .ok (.ireturn, 1) := by decide +kernel
theorem d_Tr_closeBranch_0 : decode (M_Tr_closeBranch).cc 0 = .ok (.aload_n 0, 1) := by decide +kernel
theorem d_Tr_closeBranch_1 : decode (M_Tr_closeBranch).cc 1 = .ok (.getfield 37, 3) := by decide +kernel
theorem d_Tr_closeBranch_4 : decode (M_Tr_closeBranch).cc 4 = .ok (.ifCond .ne 6, 3) := by decide +kernel
theorem d_Tr_closeBranch_7 : decode (M_Tr_closeBranch).cc 7 = .ok (.bipush (-2), 2) := by decide +kernel
theorem d_Tr_closeBranch_9 : decode (M_Tr_closeBranch).cc 9 = .ok (.ireturn, 1) := by decide +kernel
theorem d_Tr_closeBranch_10 : decode (M_Tr_closeBranch).cc 10 = .ok (.aload_n 0, 1) := by decide +kernel
theorem d_Tr_closeBranch_11 : decode (M_Tr_closeBranch).cc 11 = .ok (.dup, 1) := by decide +kernel
theorem d_Tr_closeBranch_12 : decode (M_Tr_closeBranch).cc 12 = .ok (.getfield 37, 3) := by decide +kernel
theorem d_Tr_closeBranch_15 : decode (M_Tr_closeBranch).cc 15 = .ok (.iconst 1, 1) := by decide +kernel
theorem d_Tr_closeBranch_16 : decode (M_Tr_closeBranch).cc 16 = .ok (.isub, 1) := by decide +kernel
theorem d_Tr_closeBranch_17 : decode (M_Tr_closeBranch).cc 17 = .ok (.putfield 37, 3) := by decide +kernel
theorem d_Tr_closeBranch_20 : decode (M_Tr_closeBranch).cc 20 = .ok (.aload_n 0, 1) := by decide +kernel
theorem d_Tr_closeBranch_21 : decode (M_Tr_closeBranch).cc 21 = .ok (.aload_n 0, 1) := by decide +kernel
theorem d_Tr_closeBranch_22 : decode (M_Tr_closeBranch).cc 22 = .ok (.getfield 25, 3) := by decide +kernel
theorem d_Tr_closeBranch_25 : decode (M_Tr_closeBranch).cc 25 = .ok (.aload_n 0, 1) := by decide +kernel
theorem d_Tr_closeBranch_26 : decode (M_Tr_closeBranch).cc 26 = .ok (.getfield 37, 3) := by decide +kernel
theorem d_Tr_closeBranch_29 : decode (M_Tr_closeBranch).cc 29 = .ok (.iaload, 1) := by decide +kernel
theorem d_Tr_closeBranch_30 : decode (M_Tr_closeBranch).cc 30 = .ok (.putfield 41, 3) := by decide +kernel
theorem d_Tr_closeBranch_33 : decode (M_Tr_closeBranch).cc 33 = .ok (.aload_n 0, 1) := by decide +kernel
theorem d_Tr_closeBranch_34 : decode (M_Tr_closeBranch).cc 34 = .ok (.iconst 0, 1) := by decide +kernel
theorem d_Tr_closeBranch_35 : decode (M_Tr_closeBranch).cc 35 = .ok (.putfield 76, 3) := by decide +kernel
theorem d_Tr_closeBranch_38 : decode (M_Tr_closeBranch).cc 38 = .ok (.aload_n 0, 1) := by decide +kernel
theorem d_Tr_closeBranch_39 : decode (M_Tr_closeBranch).cc 39 = .ok (.dup, 1) := by decide +kernel
theorem d_Tr_closeBranch_40 : decode (M_Tr_closeBranch).cc 40 = .ok (.getfield 44, 3) := by decide +kernel
theorem d_Tr_closeBranch_43 : decode (M_Tr_closeBranch).cc 43 = .ok (.iconst 1, 1) := by decide +kernel
theorem d_Tr_closeBranch_44 : decode (M_Tr_closeBranch).cc 44 = .ok (.iadd, 1) := by decide +kernel
theorem d_Tr_closeBranch_45 : decode (M_Tr_closeBranch).cc 45 = .ok (.putfield 44, 3) := by decide +kernel
theorem d_Tr_closeBranch_48 : decode (M_Tr_closeBranch).cc 48 = .ok (.iconst (-1), 1) := by decide +kernel
theorem d_Tr_closeBranch_49 : decode (M_Tr_closeBranch).cc 49 = .ok (.ireturn, 1) := by decide +kernel
theorem d_Tr_openBranch_0 : decode (M_Tr_openBranch).cc 0 = .ok (.aload_n 0, 1) := by decide +kernel
theorem d_Tr_openBranch_1 : decode (M_Tr_openBranch).cc 1 = .ok (.getfield 37, 3) := by decide +kernel
theorem d_Tr_openBranch_4 : decode (M_Tr_openBranch).cc 4 = .ok (.bipush 6, 2) := by decide +kernel
theorem d_Tr_openBranch_6 : decode (M_Tr_openBranch).cc 6 = .ok (.if_icmp .ge 26, 3) := by decide +kernel
theorem d_Tr_openBranch_9 : decode (M_Tr_openBranch).cc 9 = .ok (.aload_n 0, 1) := by decide +kernel
theorem d_Tr_openBranch_10 : decode (M_Tr_openBranch).cc 10 = .ok (.getfield 25, 3) := by decide +kernel
theorem d_Tr_openBranch_13 : decode (M_Tr_openBranch).cc 13 = .ok (.aload_n 0, 1) := by decide +kernel
theorem d_Tr_openBranch_14 : decode (M_Tr_openBranch).cc 14 = .ok (.getfield 37, 3) := by decide +kernel
theorem d_Tr_openBranch_17 : decode (M_Tr_openBranch).cc 17 = .ok (.aload_n 0, 1) := by decide +kernel
theorem d_Tr_openBranch_18 : decode (M_Tr_openBranch).cc 18 = .ok (.getfield 41, 3) := by decide +kernel
theorem d_Tr_openBranch_21 : decode (M_Tr_openBranch).cc 21 = .ok (.iastore, 1) := by decide +kernel
theorem d_Tr_openBranch_22 : decode (M_Tr_openBranch).cc 22 = .ok (.aload_n 0, 1) := by decide +kernel
theorem d_Tr_openBranch_23 : decode (M_Tr_openBranch).cc 23 = .ok (.dup, 1) := by decide +kernel
theorem d_Tr_openBranch_24 : decode (M_Tr_openBranch).cc 24 = .ok (.getfield 37, 3) := by decide +kernel
theorem d_Tr_openBranch_27 : decode (M_Tr_openBranch).cc 27 = .ok (.iconst 1, 1) := by decide +kernel
theorem d_Tr_openBranch_28 : decode (M_Tr_openBranch).cc 28 = .ok (.iadd, 1) := by decide +kernel
theorem d_Tr_openBranch_29 : decode (M_Tr_openBranch).cc 29 = .ok (.putfield 37, 3) := by decide +kernel
theorem d_Tr_openBranch_32 : decode (M_Tr_openBranch).cc 32 = .ok (.aload_n 0, 1) := by decide +kernel
theorem d_Tr_openBranch_33 : decode (M_Tr_openBranch).cc 33 = .ok (.dup, 1) := by decide +kernel
theorem d_Tr_openBranch_34 : decode (M_Tr_openBranch).cc 34 = .ok (.getfield 44, 3) := by decide +kernel
theorem d_Tr_openBranch_37 : decode (M_Tr_openBranch).cc 37 = .ok (.iconst 1, 1) := by decide +kernel
theorem d_Tr_openBranch_38 : decode (M_Tr_openBranch).cc 38 = .ok (.iadd, 1) := by decide +kernel
theorem d_Tr_openBranch_39 : decode (M_Tr_openBranch).cc 39 = .ok (.putfield 44, 3) := by decide +kernel
theorem d_Tr_openBranch_42 : decode (M_Tr_openBranch).cc 42 = .ok (.aload_n 0, 1) := by decide +kernel
theorem d_Tr_openBranch_43 : decode (M_Tr_openBranch).cc 43 = .ok (.aload_n 1, 1) := by decide +kernel
theorem d_Tr_openBranch_44 : decode (M_Tr_openBranch).cc 44 = .ok (.invokevirtual 73, 3) := by decide +kernel
theorem d_Tr_openBranch_47 : decode (M_Tr_openBranch).cc 47 = .ok (.istore_n 2, 1) := by decide +kernel
theorem d_Tr_openBranch_48 : decode (M_Tr_openBranch).cc 48 = .ok (.aload_n 0, 1) := by decide +kernel
theorem d_Tr_openBranch_49 : decode (M_Tr_openBranch).cc 49 = .ok (.aload_n 1, 1) := by decide +kernel
theorem d_Tr_openBranch_50 : decode (M_Tr_openBranch).cc 50 = .ok (.iload_n 2, 1) := by decide +kernel
theorem d_Tr_openBranch_51 : decode (M_Tr_openBranch).cc 51 = .ok (.invokevirtual 47, 3) := by decide +kernel
theorem d_Tr_openBranch_54 : decode (M_Tr_openBranch).cc 54 = .ok (.ireturn, 1) := by decide +kernel
theorem d_Tr_readBond_0 : decode (M_Tr_readBond).cc 0 = .ok (.aload_n 1, 1) := by decide +kernel
theorem d_Tr_readBond_1 : decode (M_Tr_readBond).cc 1 = .ok (.aload_n 0, 1) := by decide +kernel
theorem d_Tr_readBond_2 : decode (M_Tr_readBond).cc 2 = .ok (.getfield 44, 3) := by decide +kernel
theorem d_Tr_readBond_5 : decode (M_Tr_readBond).cc 5 = .ok (.invokevirtual 64, 3) := by decide +kernel
theorem d_Tr_readBond_8 : decode (M_Tr_readBond).cc 8 = .ok (.istore_n 2, 1) := by decide +kernel
theorem d_Tr_readBond_9 : decode (M_Tr_readBond).cc 9 = .ok (.iload_n 2, 1) := by decide +kernel
theorem d_Tr_readBond_10 : decode (M_Tr_readBond).cc 10 = .ok (.bipush 45, 2) := by decide +kernel
theorem d_Tr_readBond_12 : decode (M_Tr_readBond).cc 12 = .ok (.if_icmp .ne 7, 3) := by decide +kernel
theorem d_Tr_readBond_15 : decode (M_Tr_readBond).cc 15 = .ok (.iconst 1, 1) := by decide +kernel
theorem d_Tr_readBond_16 : decode (M_Tr_readBond).cc 16 = .ok (.goto 24, 3) := by decide +kernel
theorem d_Tr_readBond_19 : decode (M_Tr_readBond).cc 19 = .ok (.iload_n 2, 1) := by decide +kernel
theorem d_Tr_readBond_20 : decode (M_Tr_readBond).cc 20 = .ok (.bipush 61, 2) := by decide +kernel
theorem d_Tr_readBond_22 : decode (M_Tr_readBond).cc 22 = .ok (.if_icmp .ne 7, 3) := by decide +kernel
theorem d_Tr_readBond_25 : decode (M_Tr_readBond).cc 25 = .ok (.iconst 2, 1) := by decide +kernel
theorem d_Tr_readBond_26 : decode (M_Tr_readBond).cc 26 = .ok (.goto 14, 3) := by decide +kernel
theorem d_Tr_readBond_29 : decode (M_Tr_readBond).cc 29 = .ok (.iload_n 2, 1) := by decide +kernel
theorem d_Tr_readBond_30 : decode (M_Tr_readBond).cc 30 = .ok (.bipush 35, 2) := by decide +kernel
theorem d_Tr_readBond_32 : decode (M_Tr_readBond).cc 32 = .ok (.if_icmp .ne 7, 3) := by decide +kernel
theorem d_Tr_readBond_35 : decode (M_Tr_readBond).cc 35 = .ok (.iconst 3, 1) := by decide +kernel
theorem d_Tr_readBond_36 : decode (M_Tr_readBond).cc 36 = .ok (.goto 4, 3) := by decide +kernel
theorem d_Tr_readBond_39 : decode (M_Tr_readBond).cc 39 = .ok (.iconst 0, 1) := by decide +kernel
theorem d_Tr_readBond_40 : decode (M_Tr_readBond).cc 40 = .ok (.istore_n 3, 1) := by decide +kernel
theorem d_Tr_readBond_41 : decode (M_Tr_readBond).cc 41 = .ok (.iload_n 3, 1) := by decide +kernel
theorem d_Tr_readBond_42 : decode (M_Tr_readBond).cc 42 = .ok (.ifCond .eq 13, 3) := by decide +kernel
theorem d_Tr_readBond_45 : decode (M_Tr_readBond).cc 45 = .ok (.aload_n 0, 1) := by decide +kernel
theorem d_Tr_readBond_46 : decode (M_Tr_readBond).cc 46 = .ok (.dup, 1) := by decide +kernel
theorem d_Tr_readBond_47 : decode (M_Tr_readBond).cc 47 = .ok (.getfield 44, 3) := by decide +kernel
theorem d_Tr_readBond_50 : decode (M_Tr_readBond).cc 50 = .ok (.iconst 1, 1) := by decide +kernel
theorem d_Tr_readBond_51 : decode (M_Tr_readBond).cc 51 = .ok (.iadd, 1) := by decide +kernel
theorem d_Tr_readBond_52 : decode (M_Tr_readBond).cc 52 = .ok (.putfield 44, 3) := by decide +kernel
theorem d_Tr_readBond_55 : decode (M_Tr_readBond).cc 55 = .ok (.iload_n 3, 1) := by decide +kernel
theorem d_Tr_readBond_56 : decode (M_Tr_readBond).cc 56 = .ok (.ireturn, 1) := by decide +kernel
theorem d_Tr_readRing_0 : decode (M_Tr_readRing).cc 0 = .ok (.aload_n 0, 1) := by decide +kernel
theorem d_Tr_readRing_1 : decode (M_Tr_readRing).cc 1 = .ok (.getfield 18, 3) := by decide +kernel
theorem d_Tr_readRing_4 : decode (M_Tr_readRing).cc 4 = .ok (.iload_n 1, 1) := by decide +kernel
theorem d_Tr_readRing_5 : decode (M_Tr_readRing).cc 5 = .ok (.iaload, 1) := by decide +kernel
theorem d_Tr_readRing_6 : decode (M_Tr_readRing).cc 6 = .ok (.istore_n 3, 1) := by decide +kernel
theorem d_Tr_readRing_7 : decode (M_Tr_readRing).cc 7 = .ok (.iload_n 3, 1) := by decide +kernel
theorem d_Tr_readRing_8 : decode (M_Tr_readRing).cc 8 = .ok (.iconst (-1), 1) := by decide +kernel
theorem d_Tr_readRing_9 : decode (M_Tr_readRing).cc 9 = .ok (.if_icmp .ne 23, 3) := by decide +kernel
theorem d_Tr_readRing_12 : decode (M_Tr_readRing).cc 12 = .ok (.aload_n 0, 1) := by decide +kernel
theorem d_Tr_readRing_13 : decode (M_Tr_readRing).cc 13 = .ok (.getfield 18, 3) := by decide +kernel
theorem d_Tr_readRing_16 : decode (M_Tr_readRing).cc 16 = .ok (.iload_n 1, 1) := by decide +kernel
theorem d_Tr_readRing_17 : decode (M_Tr_readRing).cc 17 = .ok (.aload_n 0, 1) := by decide +kernel
theorem d_Tr_readRing_18 : decode (M_Tr_readRing).cc 18 = .ok (.getfield 41, 3) := by decide +kernel
theorem d_Tr_readRing_21 : decode (M_Tr_readRing).cc 21 = .ok (.iastore, 1) := by decide +kernel
theorem d_Tr_readRing_22 : decode (M_Tr_readRing).cc 22 = .ok (.aload_n 0, 1) := by decide +kernel
theorem d_Tr_readRing_23 : decode (M_Tr_readRing).cc 23 = .ok (.getfield 22, 3) := by decide +kernel
theorem d_Tr_readRing_26 : decode (M_Tr_readRing).cc 26 = .ok (.iload_n 1, 1) := by decide +kernel
theorem d_Tr_readRing_27 : decode (M_Tr_readRing).cc 27 = .ok (.iload_n 2, 1) := by decide +kernel
theorem d_Tr_readRing_28 : decode (M_Tr_readRing).cc 28 = .ok (.iastore, 1) := by decide +kernel
theorem d_Tr_readRing_29 : decode (M_Tr_readRing).cc 29 = .ok (.goto 93, 3) := by decide +kernel
theorem d_Tr_readRing_32 : decode (M_Tr_readRing).cc 32 = .ok (.aload_n 0, 1) := by decide +kernel
theorem d_Tr_readRing_33 : decode (M_Tr_readRing).cc 33 = .ok (.getfield 22, 3) := by decide +kernel
theorem d_Tr_readRing_36 : decode (M_Tr_readRing).cc 36 = .ok (.iload_n 1, 1) := by decide +kernel
theorem d_Tr_readRing_37 : decode (M_Tr_readRing).cc 37 = .ok (.iaload, 1) := by decide +kernel
theorem d_Tr_readRing_38 : decode (M_Tr_readRing).cc 38 = .ok (.istore 4, 2) := by decide +kernel
theorem d_Tr_readRing_40 : decode (M_Tr_readRing).cc 40 = .ok (.iload 4, 2) := by decide +kernel
theorem d_Tr_readRing_42 : decode (M_Tr_readRing).cc 42 = .ok (.ifCond .eq 17, 3) := by decide +kernel
theorem d_Tr_readRing_45 : decode (M_Tr_readRing).cc 45 = .ok (.iload_n 2, 1) := by decide +kernel
theorem d_Tr_readRing_46 : decode (M_Tr_readRing).cc 46 = .ok (.ifCond .eq 13, 3) := by decide +kernel
theorem d_Tr_readRing_49 : decode (M_Tr_readRing).cc 49 = .ok (.iload 4, 2) := by decide +kernel
theorem d_Tr_readRing_51 : decode (M_Tr_readRing).cc 51 = .ok (.iload_n 2, 1) := by decide +kernel
theorem d_Tr_readRing_52 : decode (M_Tr_readRing).cc 52 = .ok (.if_icmp .eq 7, 3) := by decide +kernel
theorem d_Tr_readRing_55 : decode (M_Tr_readRing).cc 55 = .ok (.iconst 1, 1) := by decide +kernel
theorem d_Tr_readRing_56 : decode (M_Tr_readRing).cc 56 = .ok (.goto 4, 3) := by decide +kernel
theorem d_Tr_readRing_59 : decode (M_Tr_readRing).cc 59 = .ok (.iconst 0, 1) := by decide +kernel
theorem d_Tr_readRing_60 : decode (M_Tr_readRing).cc 60 = .ok (.istore 5, 2) := by decide +kernel
theorem d_Tr_readRing_62 : decode (M_Tr_readRing).cc 62 = .ok (.iload 5, 2) := by decide +kernel
theorem d_Tr_readRing_64 : decode (M_Tr_readRing).cc 64 = .ok (.ifCond .ne 26, 3) := by decide +kernel
theorem d_Tr_readRing_67 : decode (M_Tr_readRing).cc 67 = .ok (.iload_n 3, 1) := by decide +kernel
theorem d_Tr_readRing_68 : decode (M_Tr_readRing).cc 68 = .ok (.aload_n 0, 1) := by decide +kernel
theorem d_Tr_readRing_69 : decode (M_Tr_readRing).cc 69 = .ok (.getfield 41, 3) := by decide +kernel
theorem d_Tr_readRing_72 : decode (M_Tr_readRing).cc 72 = .ok (.if_icmp .eq 18, 3) := by decide +kernel
theorem d_Tr_readRing_75 : decode (M_Tr_readRing).cc 75 = .ok (.aload_n 0, 1) := by decide +kernel
theorem d_Tr_readRing_76 : decode (M_Tr_readRing).cc 76 = .ok (.getfield 12, 3) := by decide +kernel
theorem d_Tr_readRing_79 : decode (M_Tr_readRing).cc 79 = .ok (.iload_n 3, 1) := by decide +kernel
theorem d_Tr_readRing_80 : decode (M_Tr_readRing).cc 80 = .ok (.aload_n 0, 1) := by decide +kernel
theorem d_Tr_readRing_81 : decode (M_Tr_readRing).cc 81 = .ok (.getfield 41, 3) := by decide +kernel
theorem d_Tr_readRing_84 : decode (M_Tr_readRing).cc 84 = .ok (.invokevirtual 111, 3) := by decide +kernel
theorem d_Tr_readRing_87 : decode (M_Tr_readRing).cc 87 = .ok (.ifCond .le 6, 3) := by decide +kernel
theorem d_Tr_readRing_90 : decode (M_Tr_readRing).cc 90 = .ok (.bipush (-7), 2) := by decide +kernel
theorem d_Tr_readRing_92 : decode (M_Tr_readRing).cc 92 = .ok (.ireturn, 1) := by decide +kernel
theorem d_Tr_readRing_93 : decode (M_Tr_readRing).cc 93 = .ok (.aload_n 0, 1) := by decide +kernel
theorem d_Tr_readRing_94 : decode (M_Tr_readRing).cc 94 = .ok (.getfield 12, 3) := by decide +kernel
theorem d_Tr_readRing_97 : decode (M_Tr_readRing).cc 97 = .ok (.iload_n 3, 1) := by decide +kernel
theorem d_Tr_readRing_98 : decode (M_Tr_readRing).cc 98 = .ok (.aload_n 0, 1) := by decide +kernel
theorem d_Tr_readRing_99 : decode (M_Tr_readRing).cc 99 = .ok (.getfield 41, 3) := by decide +kernel
theorem d_Tr_readRing_102 : decode (M_Tr_readRing).cc 102 = .ok (.iconst 1, 1) := by decide +kernel
theorem d_Tr_readRing_103 : decode (M_Tr_readRing).cc 103 = .ok (.iload 4, 2) := by decide +kernel
theorem d_Tr_readRing_105 : decode (M_Tr_readRing).cc 105 = .ok (.iload_n 2, 1) := by decide +kernel
theorem d_Tr_readRing_106 : decode (M_Tr_readRing).cc 106 = .ok (.invokestatic 99, 3) := by decide +kernel
theorem d_Tr_readRing_109 : decode (M_Tr_readRing).cc 109 = .ok (.invokestatic 99, 3) := by decide +kernel
theorem d_Tr_readRing_112 : decode (M_Tr_readRing).cc 112 = .ok (.invokevirtual 104, 3) := by decide +kernel
theorem d_Tr_readRing_115 : decode (M_Tr_readRing).cc 115 = .ok (.aload_n 0, 1) := by decide +kernel
theorem d_Tr_readRing_116 : decode (M_Tr_readRing).cc 116 = .ok (.getfield 18, 3) := by decide +kernel
theorem d_Tr_readRing_119 : decode (M_Tr_readRing).cc 119 = .ok (.iload_n 1, 1) := by decide +kernel
theorem d_Tr_readRing_120 : decode (M_Tr_readRing).cc 120 = .ok (.iconst (-1), 1) := by decide +kernel
theorem d_Tr_readRing_121 : decode (M_Tr_readRing).cc 121 = .ok (.iastore, 1) := by decide +kernel
theorem d_Tr_readRing_122 : decode (M_Tr_readRing).cc 122 = .ok (.aload_n 0, 1) := by decide +kernel
theorem d_Tr_readRing_123 : decode (M_Tr_readRing).cc 123 = .ok (.dup, 1) := by decide +kernel
theorem d_Tr_readRing_124 : decode (M_Tr_readRing).cc 124 = .ok (.getfield 44, 3) := by decide +kernel
theorem d_Tr_readRing_127 : decode (M_Tr_readRing).cc 127 = .ok (.iconst 1, 1) := by decide +kernel
theorem d_Tr_readRing_128 : decode (M_Tr_readRing).cc 128 = .ok (.iadd, 1) := by decide +kernel
theorem d_Tr_readRing_129 : decode (M_Tr_readRing).cc 129 = .ok (.putfield 44, 3) := by decide +kernel
theorem d_Tr_readRing_132 : decode (M_Tr_readRing).cc 132 = .ok (.iconst (-1), 1) := by decide +kernel
theorem d_Tr_readRing_133 : decode (M_Tr_readRing).cc 133 = .ok (.ireturn, 1) := by decide +kernel
theorem d_Tr_faultAtEnd_0 : decode (M_Tr_faultAtEnd).cc 0 = .ok (.aload_n 0, 1) := by decide +kernel
theorem d_Tr_faultAtEnd_1 : decode (M_Tr_faultAtEnd).cc 1 = .ok (.getfield 37, 3) := by decide +kernel
theorem d_Tr_faultAtEnd_4 : decode (M_Tr_faultAtEnd).cc 4 = .ok (.ifCond .le 6, 3) := by decide +kernel
theorem d_Tr_faultAtEnd_7 : decode (M_Tr_faultAtEnd).cc 7 = .ok (.bipush (-2), 2) := by decide +kernel
theorem d_Tr_faultAtEnd_9 : decode (M_Tr_faultAtEnd).cc 9 = .ok (.ireturn, 1) := by decide +kernel
theorem d_Tr_faultAtEnd_10 : decode (M_Tr_faultAtEnd).cc 10 = .ok (.iconst 1, 1) := by decide +kernel
theorem d_Tr_faultAtEnd_11 : decode (M_Tr_faultAtEnd).cc 11 = .ok (.istore_n 1, 1) := by decide +kernel
theorem d_Tr_faultAtEnd_12 : decode (M_Tr_faultAtEnd).cc 12 = .ok (.iload_n 1, 1) := by decide +kernel
theorem d_Tr_faultAtEnd_13 : decode (M_Tr_faultAtEnd).cc 13 = .ok (.bipush 9, 2) := by decide +kernel
theorem d_Tr_faultAtEnd_15 : decode (M_Tr_faultAtEnd).cc 15 = .ok (.if_icmp .gt 22, 3) := by decide +kernel
theorem d_Tr_faultAtEnd_18 : decode (M_Tr_faultAtEnd).cc 18 = .ok (.aload_n 0, 1) := by decide +kernel
theorem d_Tr_faultAtEnd_19 : decode (M_Tr_faultAtEnd).cc 19 = .ok (.getfield 18, 3) := by decide +kernel
theorem d_Tr_faultAtEnd_22 : decode (M_Tr_faultAtEnd).cc 22 = .ok (.iload_n 1, 1) := by decide +kernel
theorem d_Tr_faultAtEnd_23 : decode (M_Tr_faultAtEnd).cc 23 = .ok (.iaload, 1) := by decide +kernel
theorem d_Tr_faultAtEnd_24 : decode (M_Tr_faultAtEnd).cc 24 = .ok (.iconst (-1), 1) := by decide +kernel
theorem d_Tr_faultAtEnd_25 : decode (M_Tr_faultAtEnd).cc 25 = .ok (.if_icmp .eq 6, 3) := by decide +kernel
theorem d_Tr_faultAtEnd_28 : decode (M_Tr_faultAtEnd).cc 28 = .ok (.bipush (-7), 2) := by decide +kernel
theorem d_Tr_faultAtEnd_30 : decode (M_Tr_faultAtEnd).cc 30 = .ok (.ireturn, 1) := by decide +kernel
theorem d_Tr_faultAtEnd_31 : decode (M_Tr_faultAtEnd).cc 31 = .ok (.iinc 1 1, 3) := by decide +kernel
theorem d_Tr_faultAtEnd_34 : decode (M_Tr_faultAtEnd).cc 34 = .ok (.goto (-22), 3) := by decide +kernel
theorem d_Tr_faultAtEnd_37 : decode (M_Tr_faultAtEnd).cc 37 = .ok (.aload_n 0, 1) := by decide +kernel
theorem d_Tr_faultAtEnd_38 : decode (M_Tr_faultAtEnd).cc 38 = .ok (.getfield 12, 3) := by decide +kernel
theorem d_Tr_faultAtEnd_41 : decode (M_Tr_faultAtEnd).cc 41 = .ok (.invokevirtual 114, 3) := by decide +kernel
theorem d_Tr_faultAtEnd_44 : decode (M_Tr_faultAtEnd).cc 44 = .ok (.ifCond .eq 8, 3) := by decide +kernel
theorem d_Tr_faultAtEnd_47 : decode (M_Tr_faultAtEnd).cc 47 = .ok (.bipush (-8), 2) := by decide +kernel
theorem d_Tr_faultAtEnd_49 : decode (M_Tr_faultAtEnd).cc 49 = .ok (.goto 4, 3) := by decide +kernel
theorem d_Tr_faultAtEnd_52 : decode (M_Tr_faultAtEnd).cc 52 = .ok (.iconst (-1), 1) := by decide +kernel
theorem d_Tr_faultAtEnd_53 : decode (M_Tr_faultAtEnd).cc 53 = .ok (.ireturn, 1) := by decide +kernel
theorem d_IL_findInList_0 : decode (M_IL_findInList).cc 0 = .ok (.aload_n 0, 1) := by decide +kernel
theorem d_IL_findInList_1 : decode (M_IL_findInList).cc 1 = .ok (.getfield 63, 3) := by decide +kernel
theorem d_IL_findInList_4 : decode (M_IL_findInList).cc 4 = .ok (.aload_n 1, 1) := by decide +kernel
theorem d_IL_findInList_5 : decode (M_IL_findInList).cc 5 = .ok (.invokevirtual 177, 3) := by decide +kernel
theorem d_IL_findInList_8 : decode (M_IL_findInList).cc 8 = .ok (.ifCond .ne 5, 3) := by decide +kernel
theorem d_IL_findInList_11 : decode (M_IL_findInList).cc 11 = .ok (.iconst (-1), 1) := by decide +kernel
theorem d_IL_findInList_12 : decode (M_IL_findInList).cc 12 = .ok (.ireturn, 1) := by decide +kernel
theorem d_IL_findInList_13 : decode (M_IL_findInList).cc 13 = .ok (.aload_n 0, 1) := by decide +kernel
theorem d_IL_findInList_14 : decode (M_IL_findInList).cc 14 = .ok (.getfield 40, 3) := by decide +kernel
theorem d_IL_findInList_17 : decode (M_IL_findInList).cc 17 = .ok (.aload_n 1, 1) := by decide +kernel
theorem d_IL_findInList_18 : decode (M_IL_findInList).cc 18 = .ok (.aload_n 0, 1) := by decide +kernel
theorem d_IL_findInList_19 : decode (M_IL_findInList).cc 19 = .ok (.getfield 63, 3) := by decide +kernel
theorem d_IL_findInList_22 : decode (M_IL_findInList).cc 22 = .ok (.getfield 128, 3) := by decide +kernel
theorem d_IL_findInList_25 : decode (M_IL_findInList).cc 25 = .ok (.iconst 0, 1) := by decide +kernel
theorem d_IL_findInList_26 : decode (M_IL_findInList).cc 26 = .ok (.invokevirtual 148, 3) := by decide +kernel
theorem d_IL_findInList_29 : decode (M_IL_findInList).cc 29 = .ok (.aload_n 0, 1) := by decide +kernel
theorem d_IL_findInList_30 : decode (M_IL_findInList).cc 30 = .ok (.getfield 63, 3) := by decide +kernel
theorem d_IL_findInList_33 : decode (M_IL_findInList).cc 33 = .ok (.aload_n 0, 1) := by decide +kernel
theorem d_IL_findInList_34 : decode (M_IL_findInList).cc 34 = .ok (.getfield 40, 3) := by decide +kernel
theorem d_IL_findInList_37 : decode (M_IL_findInList).cc 37 = .ok (.getfield 181, 3) := by decide +kernel
theorem d_IL_findInList_40 : decode (M_IL_findInList).cc 40 = .ok (.invokevirtual 184, 3) := by decide +kernel
theorem d_IL_findInList_43 : decode (M_IL_findInList).cc 43 = .ok (.ireturn, 1) := by decide +kernel
theorem d_IL_occurrences_0 : decode (M_IL_occurrences).cc 0 = .ok (.iconst 0, 1) := by decide +kernel
theorem d_IL_occurrences_1 : decode (M_IL_occurrences).cc 1 = .ok (.istore_n 3, 1) := by decide +kernel
theorem d_IL_occurrences_2 : decode (M_IL_occurrences).cc 2 = .ok (.iconst 0, 1) := by decide +kernel
theorem d_IL_occurrences_3 : decode (M_IL_occurrences).cc 3 = .ok (.istore 4, 2) := by decide +kernel
theorem d_IL_occurrences_5 : decode (M_IL_occurrences).cc 5 = .ok (.iload 4, 2) := by decide +kernel
theorem d_IL_occurrences_7 : decode (M_IL_occurrences).cc 7 = .ok (.iload_n 2, 1) := by decide +kernel
theorem d_IL_occurrences_8 : decode (M_IL_occurrences).cc 8 = .ok (.if_icmp .ge 20, 3) := by decide +kernel
theorem d_IL_occurrences_11 : decode (M_IL_occurrences).cc 11 = .ok (.aload_n 1, 1) := by decide +kernel
theorem d_IL_occurrences_12 : decode (M_IL_occurrences).cc 12 = .ok (.iload 4, 2) := by decide +kernel
theorem d_IL_occurrences_14 : decode (M_IL_occurrences).cc 14 = .ok (.iaload, 1) := by decide +kernel
theorem d_IL_occurrences_15 : decode (M_IL_occurrences).cc 15 = .ok (.iload_n 0, 1) := by decide +kernel
theorem d_IL_occurrences_16 : decode (M_IL_occurrences).cc 16 = .ok (.if_icmp .ne 6, 3) := by decide +kernel
theorem d_IL_occurrences_19 : decode (M_IL_occurrences).cc 19 = .ok (.iinc 3 1, 3) := by decide +kernel
theorem d_IL_occurrences_22 : decode (M_IL_occurrences).cc 22 = .ok (.iinc 4 1, 3) := by decide +kernel
theorem d_IL_occurrences_25 : decode (M_IL_occurrences).cc 25 = .ok (.goto (-20), 3) := by decide +kernel
theorem d_IL_occurrences_28 : decode (M_IL_occurrences).cc 28 = .ok (.iload_n 3, 1) := by decide +kernel
theorem d_IL_occurrences_29 : decode (M_IL_occurrences).cc 29 = .ok (.ireturn, 1) := by decide +kernel
theorem d_Nu_search_0 : decode (M_Nu_search).cc 0 = .ok (.aload_n 0, 1) := by decide +kernel
theorem d_Nu_search_1 : decode (M_Nu_search).cc 1 = .ok (.aload_n 1, 1) := by decide +kernel
theorem d_Nu_search_2 : decode (M_Nu_search).cc 2 = .ok (.putfield 19, 3) := by decide +kernel
theorem d_Nu_search_5 : decode (M_Nu_search).cc 5 = .ok (.aload_n 0, 1) := by decide +kernel
theorem d_Nu_search_6 : decode (M_Nu_search).cc 6 = .ok (.aload_n 2, 1) := by decide +kernel
theorem d_Nu_search_7 : decode (M_Nu_search).cc 7 = .ok (.putfield 23, 3) := by decide +kernel
theorem d_Nu_search_10 : decode (M_Nu_search).cc 10 = .ok (.aload_n 0, 1) := by decide +kernel
theorem d_Nu_search_11 : decode (M_Nu_search).cc 11 = .ok (.aload_n 1, 1) := by decide +kernel
theorem d_Nu_search_12 : decode (M_Nu_search).cc 12 = .ok (.getfield 26, 3) := by decide +kernel
theorem d_Nu_search_15 : decode (M_Nu_search).cc 15 = .ok (.putfield 32, 3) := by decide +kernel
theorem d_Nu_search_18 : decode (M_Nu_search).cc 18 = .ok (.aload_n 0, 1) := by decide +kernel
theorem d_Nu_search_19 : decode (M_Nu_search).cc 19 = .ok (.iload_n 3, 1) := by decide +kernel
theorem d_Nu_search_20 : decode (M_Nu_search).cc 20 = .ok (.putfield 33, 3) := by decide +kernel
theorem d_Nu_search_23 : decode (M_Nu_search).cc 23 = .ok (.aload_n 0, 1) := by decide +kernel
theorem d_Nu_search_24 : decode (M_Nu_search).cc 24 = .ok (.iconst 0, 1) := by decide +kernel
theorem d_Nu_search_25 : decode (M_Nu_search).cc 25 = .ok (.putfield 36, 3) := by decide +kernel
theorem d_Nu_search_28 : decode (M_Nu_search).cc 28 = .ok (.aload_n 0, 1) := by decide +kernel
theorem d_Nu_search_29 : decode (M_Nu_search).cc 29 = .ok (.iconst 0, 1) := by decide +kernel
theorem d_Nu_search_30 : decode (M_Nu_search).cc 30 = .ok (.iconst 0, 1) := by decide +kernel
theorem d_Nu_search_31 : decode (M_Nu_search).cc 31 = .ok (.invokevirtual 39, 3) := by decide +kernel
theorem d_Nu_search_34 : decode (M_Nu_search).cc 34 = .ok (.return_, 1) := by decide +kernel
theorem d_Nu_choose_0 : decode (M_Nu_choose).cc 0 = .ok (.iload_n 1, 1) := by decide +kernel
theorem d_Nu_choose_1 : decode (M_Nu_choose).cc 1 = .ok (.aload_n 0, 1) := by decide +kernel
theorem d_Nu_choose_2 : decode (M_Nu_choose).cc 2 = .ok (.getfield 32, 3) := by decide +kernel
theorem d_Nu_choose_5 : decode (M_Nu_choose).cc 5 = .ok (.if_icmp .lt 9, 3) := by decide +kernel
theorem d_Nu_choose_8 : decode (M_Nu_choose).cc 8 = .ok (.aload_n 0, 1) := by decide +kernel
theorem d_Nu_choose_9 : decode (M_Nu_choose).cc 9 = .ok (.iload_n 2, 1) := by decide +kernel
theorem d_Nu_choose_10 : decode (M_Nu_choose).cc 10 = .ok (.invokevirtual 50, 3) := by decide +kernel
theorem d_Nu_choose_13 : decode (M_Nu_choose).cc 13 = .ok (.return_, 1) := by decide +kernel
theorem d_Nu_choose_14 : decode (M_Nu_choose).cc 14 = .ok (.iload_n 1, 1) := by decide +kernel
theorem d_Nu_choose_15 : decode (M_Nu_choose).cc 15 = .ok (.invokestatic 54, 3) := by decide +kernel
theorem d_Nu_choose_18 : decode (M_Nu_choose).cc 18 = .ok (.istore_n 3, 1) := by decide +kernel
theorem d_Nu_choose_19 : decode (M_Nu_choose).cc 19 = .ok (.iconst 0, 1) := by decide +kernel
theorem d_Nu_choose_20 : decode (M_Nu_choose).cc 20 = .ok (.istore 4, 2) := by decide +kernel
theorem d_Nu_choose_22 : decode (M_Nu_choose).cc 22 = .ok (.iload 4, 2) := by decide +kernel
theorem d_Nu_choose_24 : decode (M_Nu_choose).cc 24 = .ok (.aload_n 0, 1) := by decide +kernel
theorem d_Nu_choose_25 : decode (M_Nu_choose).cc 25 = .ok (.getfield 32, 3) := by decide +kernel
theorem d_Nu_choose_28 : decode (M_Nu_choose).cc 28 = .ok (.if_icmp .ge 97, 3) := by decide +kernel
theorem d_Nu_choose_31 : decode (M_Nu_choose).cc 31 = .ok (.aload_n 0, 1) := by decide +kernel
theorem d_Nu_choose_32 : decode (M_Nu_choose).cc 32 = .ok (.getfield 15, 3) := by decide +kernel
theorem d_Nu_choose_35 : decode (M_Nu_choose).cc 35 = .ok (.iload 4, 2) := by decide +kernel
theorem d_Nu_choose_37 : decode (M_Nu_choose).cc 37 = .ok (.baload, 1) := by decide +kernel
theorem d_Nu_choose_38 : decode (M_Nu_choose).cc 38 = .ok (.ifCond .ne 81, 3) := by decide +kernel
theorem d_Nu_choose_41 : decode (M_Nu_choose).cc 41 = .ok (.aload_n 0, 1) := by decide +kernel
theorem d_Nu_choose_42 : decode (M_Nu_choose).cc 42 = .ok (.getfield 19, 3) := by decide +kernel
theorem d_Nu_choose_45 : decode (M_Nu_choose).cc 45 = .ok (.getfield 43, 3) := by decide +kernel
theorem d_Nu_choose_48 : decode (M_Nu_choose).cc 48 = .ok (.iload 4, 2) := by decide +kernel
theorem d_Nu_choose_50 : decode (M_Nu_choose).cc 50 = .ok (.iaload, 1) := by decide +kernel
theorem d_Nu_choose_51 : decode (M_Nu_choose).cc 51 = .ok (.aload_n 0, 1) := by decide +kernel
theorem d_Nu_choose_52 : decode (M_Nu_choose).cc 52 = .ok (.getfield 23, 3) := by decide +kernel
theorem d_Nu_choose_55 : decode (M_Nu_choose).cc 55 = .ok (.iload_n 1, 1) := by decide +kernel
theorem d_Nu_choose_56 : decode (M_Nu_choose).cc 56 = .ok (.iaload, 1) := by decide +kernel
theorem d_Nu_choose_57 : decode (M_Nu_choose).cc 57 = .ok (.if_icmp .ne 62, 3) := by decide +kernel
theorem d_Nu_choose_60 : decode (M_Nu_choose).cc 60 = .ok (.iload_n 2, 1) := by decide +kernel
theorem d_Nu_choose_61 : decode (M_Nu_choose).cc 61 = .ok (.aload_n 0, 1) := by decide +kernel
theorem d_Nu_choose_62 : decode (M_Nu_choose).cc 62 = .ok (.iload_n 1, 1) := by decide +kernel
theorem d_Nu_choose_63 : decode (M_Nu_choose).cc 63 = .ok (.iload 4, 2) := by decide +kernel
theorem d_Nu_choose_65 : decode (M_Nu_choose).cc 65 = .ok (.invokevirtual 58, 3) := by decide +kernel
theorem d_Nu_choose_68 : decode (M_Nu_choose).cc 68 = .ok (.iload_n 3, 1) := by decide +kernel
theorem d_Nu_choose_69 : decode (M_Nu_choose).cc 69 = .ok (.ishl, 1) := by decide +kernel
theorem d_Nu_choose_70 : decode (M_Nu_choose).cc 70 = .ok (.ior, 1) := by decide +kernel
theorem d_Nu_choose_71 : decode (M_Nu_choose).cc 71 = .ok (.istore 5, 2) := by decide +kernel
theorem d_Nu_choose_73 : decode (M_Nu_choose).cc 73 = .ok (.iload 5, 2) := by decide +kernel
theorem d_Nu_choose_75 : decode (M_Nu_choose).cc 75 = .ok (.iload_n 3, 1) := by decide +kernel
theorem d_Nu_choose_76 : decode (M_Nu_choose).cc 76 = .ok (.ishr, 1) := by decide +kernel
theorem d_Nu_choose_77 : decode (M_Nu_choose).cc 77 = .ok (.aload_n 0, 1) := by decide +kernel
theorem d_Nu_choose_78 : decode (M_Nu_choose).cc 78 = .ok (.getfield 33, 3) := by decide +kernel
theorem d_Nu_choose_81 : decode (M_Nu_choose).cc 81 = .ok (.iload_n 3, 1) := by decide +kernel
theorem d_Nu_choose_82 : decode (M_Nu_choose).cc 82 = .ok (.ishr, 1) := by decide +kernel
theorem d_Nu_choose_83 : decode (M_Nu_choose).cc 83 = .ok (.if_icmp .lt 36, 3) := by decide +kernel
theorem d_Nu_choose_86 : decode (M_Nu_choose).cc 86 = .ok (.aload_n 0, 1) := by decide +kernel
theorem d_Nu_choose_87 : decode (M_Nu_choose).cc 87 = .ok (.getfield 9, 3) := by decide +kernel
theorem d_Nu_choose_90 : decode (M_Nu_choose).cc 90 = .ok (.iload_n 1, 1) := by decide +kernel
theorem d_Nu_choose_91 : decode (M_Nu_choose).cc 91 = .ok (.iload 4, 2) := by decide +kernel
theorem d_Nu_choose_93 : decode (M_Nu_choose).cc 93 = .ok (.iastore, 1) := by decide +kernel
theorem d_Nu_choose_94 : decode (M_Nu_choose).cc 94 = .ok (.aload_n 0, 1) := by decide +kernel
theorem d_Nu_choose_95 : decode (M_Nu_choose).cc 95 = .ok (.getfield 15, 3) := by decide +kernel
theorem d_Nu_choose_98 : decode (M_Nu_choose).cc 98 = .ok (.iload 4, 2) := by decide +kernel
theorem d_Nu_choose_100 : decode (M_Nu_choose).cc 100 = .ok (.iconst 1, 1) := by decide +kernel
theorem d_Nu_choose_101 : decode (M_Nu_choose).cc 101 = .ok (.bastore, 1) := by decide +kernel
theorem d_Nu_choose_102 : decode (M_Nu_choose).cc 102 = .ok (.aload_n 0, 1) := by decide +kernel
theorem d_Nu_choose_103 : decode (M_Nu_choose).cc 103 = .ok (.iload_n 1, 1) := by decide +kernel
theorem d_Nu_choose_104 : decode (M_Nu_choose).cc 104 = .ok (.iconst 1, 1) := by decide +kernel
theorem d_Nu_choose_105 : decode (M_Nu_choose).cc 105 = .ok (.iadd, 1) := by decide +kernel
theorem d_Nu_choose_106 : decode (M_Nu_choose).cc 106 = .ok (.iload 5, 2) := by decide +kernel
theorem d_Nu_choose_108 : decode (M_Nu_choose).cc 108 = .ok (.invokevirtual 39, 3) := by decide +kernel
theorem d_Nu_choose_111 : decode (M_Nu_choose).cc 111 = .ok (.aload_n 0, 1) := by decide +kernel
theorem d_Nu_choose_112 : decode (M_Nu_choose).cc 112 = .ok (.getfield 15, 3) := by decide +kernel
theorem d_Nu_choose_115 : decode (M_Nu_choose).cc 115 = .ok (.iload 4, 2) := by decide +kernel
theorem d_Nu_choose_117 : decode (M_Nu_choose).cc 117 = .ok (.iconst 0, 1) := by decide +kernel
theorem d_Nu_choose_118 : decode (M_Nu_choose).cc 118 = .ok (.bastore, 1) := by decide +kernel
theorem d_Nu_choose_119 : decode (M_Nu_choose).cc 119 = .ok (.iinc 4 1, 3) := by decide +kernel
theorem d_Nu_choose_122 : decode (M_Nu_choose).cc 122 = .ok (.goto (-100), 3) := by decide +kernel
theorem d_Nu_choose_125 : decode (M_Nu_choose).cc 125 = .ok (.return_, 1) := by decide +kernel
theorem d_Nu_noteCode_0 : decode (M_Nu_noteCode).cc 0 = .ok (.iload_n 1, 1) := by decide +kernel
theorem d_Nu_noteCode_1 : decode (M_Nu_noteCode).cc 1 = .ok (.aload_n 0, 1) := by decide +kernel
theorem d_Nu_noteCode_2 : decode (M_Nu_noteCode).cc 2 = .ok (.getfield 33, 3) := by decide +kernel
theorem d_Nu_noteCode_5 : decode (M_Nu_noteCode).cc 5 = .ok (.if_icmp .le 13, 3) := by decide +kernel
theorem d_Nu_noteCode_8 : decode (M_Nu_noteCode).cc 8 = .ok (.aload_n 0, 1) := by decide +kernel
theorem d_Nu_noteCode_9 : decode (M_Nu_noteCode).cc 9 = .ok (.iload_n 1, 1) := by decide +kernel
theorem d_Nu_noteCode_10 : decode (M_Nu_noteCode).cc 10 = .ok (.putfield 33, 3) := by decide +kernel
theorem d_Nu_noteCode_13 : decode (M_Nu_noteCode).cc 13 = .ok (.aload_n 0, 1) := by decide +kernel
theorem d_Nu_noteCode_14 : decode (M_Nu_noteCode).cc 14 = .ok (.iconst 0, 1) := by decide +kernel
theorem d_Nu_noteCode_15 : decode (M_Nu_noteCode).cc 15 = .ok (.putfield 36, 3) := by decide +kernel
theorem d_Nu_noteCode_18 : decode (M_Nu_noteCode).cc 18 = .ok (.aload_n 0, 1) := by decide +kernel
theorem d_Nu_noteCode_19 : decode (M_Nu_noteCode).cc 19 = .ok (.dup, 1) := by decide +kernel
theorem d_Nu_noteCode_20 : decode (M_Nu_noteCode).cc 20 = .ok (.getfield 36, 3) := by decide +kernel
theorem d_Nu_noteCode_23 : decode (M_Nu_noteCode).cc 23 = .ok (.iconst 1, 1) := by decide +kernel
theorem d_Nu_noteCode_24 : decode (M_Nu_noteCode).cc 24 = .ok (.iadd, 1) := by decide +kernel
theorem d_Nu_noteCode_25 : decode (M_Nu_noteCode).cc 25 = .ok (.putfield 36, 3) := by decide +kernel
theorem d_Nu_noteCode_28 : decode (M_Nu_noteCode).cc 28 = .ok (.return_, 1) := by decide +kernel
theorem d_IL_place_0 : decode (M_IL_place).cc 0 = .ok (.aload_n 0, 1) := by decide +kernel
theorem d_IL_place_1 : decode (M_IL_place).cc 1 = .ok (.getfield 70, 3) := by decide +kernel
theorem d_IL_place_4 : decode (M_IL_place).cc 4 = .ok (.ireturn, 1) := by decide +kernel
theorem d_IL_count_0 : decode (M_IL_count).cc 0 = .ok (.iload_n 1, 1) := by decide +kernel
theorem d_IL_count_1 : decode (M_IL_count).cc 1 = .ok (.tableswitch 51 0 2 #[27, 35, 43], 27) := by decide +kernel
theorem d_IL_count_28 : decode (M_IL_count).cc 28 = .ok (.aload_n 0, 1) := by decide +kernel
theorem d_IL_count_29 : decode (M_IL_count).cc 29 = .ok (.getfield 63, 3) := by decide +kernel
theorem d_IL_count_32 : decode (M_IL_count).cc 32 = .ok (.getfield 106, 3) := by decide +kernel
theorem d_IL_count_35 : decode (M_IL_count).cc 35 = .ok (.ireturn, 1) := by decide +kernel
theorem d_IL_count_36 : decode (M_IL_count).cc 36 = .ok (.aload_n 0, 1) := by decide +kernel
theorem d_IL_count_37 : decode (M_IL_count).cc 37 = .ok (.getfield 63, 3) := by decide +kernel
theorem d_IL_count_40 : decode (M_IL_count).cc 40 = .ok (.getfield 118, 3) := by decide +kernel
theorem d_IL_count_43 : decode (M_IL_count).cc 43 = .ok (.ireturn, 1) := by decide +kernel
theorem d_IL_count_44 : decode (M_IL_count).cc 44 = .ok (.aload_n 0, 1) := by decide +kernel
theorem d_IL_count_45 : decode (M_IL_count).cc 45 = .ok (.getfield 63, 3) := by decide +kernel
theorem d_IL_count_48 : decode (M_IL_count).cc 48 = .ok (.getfield 121, 3) := by decide +kernel
theorem d_IL_count_51 : decode (M_IL_count).cc 51 = .ok (.ireturn, 1) := by decide +kernel
theorem d_IL_count_52 : decode (M_IL_count).cc 52 = .ok (.iconst (-1), 1) := by decide +kernel
theorem d_IL_count_53 : decode (M_IL_count).cc 53 = .ok (.ireturn, 1) := by decide +kernel
theorem d_IL_character_0 : decode (M_IL_character).cc 0 = .ok (.aload_n 0, 1) := by decide +kernel
theorem d_IL_character_1 : decode (M_IL_character).cc 1 = .ok (.getfield 10, 3) := by decide +kernel
theorem d_IL_character_4 : decode (M_IL_character).cc 4 = .ok (.iload_n 1, 1) := by decide +kernel
theorem d_IL_character_5 : decode (M_IL_character).cc 5 = .ok (.invokevirtual 159, 3) := by decide +kernel
theorem d_IL_character_8 : decode (M_IL_character).cc 8 = .ok (.ireturn, 1) := by decide +kernel
theorem d_IL_type_0 : decode (M_IL_type).cc 0 = .ok (.aload_n 0, 1) := by decide +kernel
theorem d_IL_type_1 : decode (M_IL_type).cc 1 = .ok (.getfield 10, 3) := by decide +kernel
theorem d_IL_type_4 : decode (M_IL_type).cc 4 = .ok (.getfield 74, 3) := by decide +kernel
theorem d_IL_type_7 : decode (M_IL_type).cc 7 = .ok (.bipush 60, 2) := by decide +kernel
theorem d_IL_type_9 : decode (M_IL_type).cc 9 = .ok (.if_icmp .ne 11, 3) := by decide +kernel
theorem d_IL_type_12 : decode (M_IL_type).cc 12 = .ok (.new 77, 3) := by decide +kernel
theorem d_IL_type_15 : decode (M_IL_type).cc 15 = .ok (.dup, 1) := by decide +kernel
theorem d_IL_type_16 : decode (M_IL_type).cc 16 = .ok (.invokespecial 79, 3) := by decide +kernel
theorem d_IL_type_19 : decode (M_IL_type).cc 19 = .ok (.athrow, 1) := by decide +kernel
theorem d_IL_type_20 : decode (M_IL_type).cc 20 = .ok (.aload_n 0, 1) := by decide +kernel
theorem d_IL_type_21 : decode (M_IL_type).cc 21 = .ok (.getfield 10, 3) := by decide +kernel
theorem d_IL_type_24 : decode (M_IL_type).cc 24 = .ok (.iload_n 1, 1) := by decide +kernel
theorem d_IL_type_25 : decode (M_IL_type).cc 25 = .ok (.invokevirtual 80, 3) := by decide +kernel
theorem d_IL_type_28 : decode (M_IL_type).cc 28 = .ok (.aload_n 0, 1) := by decide +kernel
theorem d_IL_type_29 : decode (M_IL_type).cc 29 = .ok (.getfield 10, 3) := by decide +kernel
theorem d_IL_type_32 : decode (M_IL_type).cc 32 = .ok (.getfield 74, 3) := by decide +kernel
theorem d_IL_type_35 : decode (M_IL_type).cc 35 = .ok (.ireturn, 1) := by decide +kernel
theorem d_IL_element_0 : decode (M_IL_element).cc 0 = .ok (.aload_n 0, 1) := by decide +kernel
theorem d_IL_element_1 : decode (M_IL_element).cc 1 = .ok (.iload_n 1, 1) := by decide +kernel
theorem d_IL_element_2 : decode (M_IL_element).cc 2 = .ok (.invokevirtual 124, 3) := by decide +kernel
theorem d_IL_element_5 : decode (M_IL_element).cc 5 = .ok (.aload_n 0, 1) := by decide +kernel
theorem d_IL_element_6 : decode (M_IL_element).cc 6 = .ok (.getfield 63, 3) := by decide +kernel
theorem d_IL_element_9 : decode (M_IL_element).cc 9 = .ok (.getfield 128, 3) := by decide +kernel
theorem d_IL_element_12 : decode (M_IL_element).cc 12 = .ok (.iload_n 1, 1) := by decide +kernel
theorem d_IL_element_13 : decode (M_IL_element).cc 13 = .ok (.iaload, 1) := by decide +kernel
theorem d_IL_element_14 : decode (M_IL_element).cc 14 = .ok (.ireturn, 1) := by decide +kernel
theorem d_IL_checkAtom_0 : decode (M_IL_checkAtom).cc 0 = .ok (.iload_n 1, 1) := by decide +kernel
theorem d_IL_checkAtom_1 : decode (M_IL_checkAtom).cc 1 = .ok (.ifCond .lt 14, 3) := by decide +kernel
theorem d_IL_checkAtom_4 : decode (M_IL_checkAtom).cc 4 = .ok (.iload_n 1, 1) := by decide +kernel
theorem d_IL_checkAtom_5 : decode (M_IL_checkAtom).cc 5 = .ok (.aload_n 0, 1) := by decide +kernel
theorem d_IL_checkAtom_6 : decode (M_IL_checkAtom).cc 6 = .ok (.getfield 63, 3) := by decide +kernel
theorem d_IL_checkAtom_9 : decode (M_IL_checkAtom).cc 9 = .ok (.getfield 118, 3) := by decide +kernel
theorem d_IL_checkAtom_12 : decode (M_IL_checkAtom).cc 12 = .ok (.if_icmp .lt 11, 3) := by decide +kernel
theorem d_IL_checkAtom_15 : decode (M_IL_checkAtom).cc 15 = .ok (.new 162, 3) := by decide +kernel
theorem d_IL_checkAtom_18 : decode (M_IL_checkAtom).cc 18 = .ok (.dup, 1) := by decide +kernel
theorem d_IL_checkAtom_19 : decode (M_IL_checkAtom).cc 19 = .ok (.invokespecial 164, 3) := by decide +kernel
theorem d_IL_checkAtom_22 : decode (M_IL_checkAtom).cc 22 = .ok (.athrow, 1) := by decide +kernel
theorem d_IL_checkAtom_23 : decode (M_IL_checkAtom).cc 23 = .ok (.return_, 1) := by decide +kernel
theorem d_IL_bond_0 : decode (M_IL_bond).cc 0 = .ok (.aload_n 0, 1) := by decide +kernel
theorem d_IL_bond_1 : decode (M_IL_bond).cc 1 = .ok (.iload_n 1, 1) := by decide +kernel
theorem d_IL_bond_2 : decode (M_IL_bond).cc 2 = .ok (.invokevirtual 131, 3) := by decide +kernel
theorem d_IL_bond_5 : decode (M_IL_bond).cc 5 = .ok (.aload_n 0, 1) := by decide +kernel
theorem d_IL_bond_6 : decode (M_IL_bond).cc 6 = .ok (.iload_n 2, 1) := by decide +kernel
theorem d_IL_bond_7 : decode (M_IL_bond).cc 7 = .ok (.invokevirtual 124, 3) := by decide +kernel
theorem d_IL_bond_10 : decode (M_IL_bond).cc 10 = .ok (.aload_n 0, 1) := by decide +kernel
theorem d_IL_bond_11 : decode (M_IL_bond).cc 11 = .ok (.iload_n 3, 1) := by decide +kernel
theorem d_IL_bond_12 : decode (M_IL_bond).cc 12 = .ok (.invokevirtual 124, 3) := by decide +kernel
theorem d_IL_bond_15 : decode (M_IL_bond).cc 15 = .ok (.aload_n 0, 1) := by decide +kernel
theorem d_IL_bond_16 : decode (M_IL_bond).cc 16 = .ok (.getfield 56, 3) := by decide +kernel
theorem d_IL_bond_19 : decode (M_IL_bond).cc 19 = .ok (.aload_n 0, 1) := by decide +kernel
theorem d_IL_bond_20 : decode (M_IL_bond).cc 20 = .ok (.getfield 63, 3) := by decide +kernel
theorem d_IL_bond_23 : decode (M_IL_bond).cc 23 = .ok (.iload_n 1, 1) := by decide +kernel
theorem d_IL_bond_24 : decode (M_IL_bond).cc 24 = .ok (.invokevirtual 134, 3) := by decide +kernel
theorem d_IL_bond_27 : decode (M_IL_bond).cc 27 = .ok (.aload_n 0, 1) := by decide +kernel
theorem d_IL_bond_28 : decode (M_IL_bond).cc 28 = .ok (.getfield 56, 3) := by decide +kernel
theorem d_IL_bond_31 : decode (M_IL_bond).cc 31 = .ok (.iload_n 2, 1) := by decide +kernel
theorem d_IL_bond_32 : decode (M_IL_bond).cc 32 = .ok (.iload_n 3, 1) := by decide +kernel
theorem d_IL_bond_33 : decode (M_IL_bond).cc 33 = .ok (.invokevirtual 138, 3) := by decide +kernel
theorem d_IL_bond_36 : decode (M_IL_bond).cc 36 = .ok (.ireturn, 1) := by decide +kernel
theorem d_IL_checkStructure_0 : decode (M_IL_checkStructure).cc 0 = .ok (.iload_n 1, 1) := by decide +kernel
theorem d_IL_checkStructure_1 : decode (M_IL_checkStructure).cc 1 = .ok (.ifCond .lt 14, 3) := by decide +kernel
theorem d_IL_checkStructure_4 : decode (M_IL_checkStructure).cc 4 = .ok (.iload_n 1, 1) := by decide +kernel
theorem d_IL_checkStructure_5 : decode (M_IL_checkStructure).cc 5 = .ok (.aload_n 0, 1) := by decide +kernel
theorem d_IL_checkStructure_6 : decode (M_IL_checkStructure).cc 6 = .ok (.getfield 63, 3) := by decide +kernel
theorem d_IL_checkStructure_9 : decode (M_IL_checkStructure).cc 9 = .ok (.getfield 106, 3) := by decide +kernel
theorem d_IL_checkStructure_12 : decode (M_IL_checkStructure).cc 12 = .ok (.if_icmp .lt 11, 3) := by decide +kernel
theorem d_IL_checkStructure_15 : decode (M_IL_checkStructure).cc 15 = .ok (.new 162, 3) := by decide +kernel
theorem d_IL_checkStructure_18 : decode (M_IL_checkStructure).cc 18 = .ok (.dup, 1) := by decide +kernel
theorem d_IL_checkStructure_19 : decode (M_IL_checkStructure).cc 19 = .ok (.invokespecial 164, 3) := by decide +kernel
theorem d_IL_checkStructure_22 : decode (M_IL_checkStructure).cc 22 = .ok (.athrow, 1) := by decide +kernel
theorem d_IL_checkStructure_23 : decode (M_IL_checkStructure).cc 23 = .ok (.return_, 1) := by decide +kernel
theorem d_IL_hydrogens_0 : decode (M_IL_hydrogens).cc 0 = .ok (.aload_n 0, 1) := by decide +kernel
theorem d_IL_hydrogens_1 : decode (M_IL_hydrogens).cc 1 = .ok (.iload_n 1, 1) := by decide +kernel
theorem d_IL_hydrogens_2 : decode (M_IL_hydrogens).cc 2 = .ok (.invokevirtual 131, 3) := by decide +kernel
theorem d_IL_hydrogens_5 : decode (M_IL_hydrogens).cc 5 = .ok (.aload_n 0, 1) := by decide +kernel
theorem d_IL_hydrogens_6 : decode (M_IL_hydrogens).cc 6 = .ok (.iload_n 2, 1) := by decide +kernel
theorem d_IL_hydrogens_7 : decode (M_IL_hydrogens).cc 7 = .ok (.invokevirtual 124, 3) := by decide +kernel
theorem d_IL_hydrogens_10 : decode (M_IL_hydrogens).cc 10 = .ok (.aload_n 0, 1) := by decide +kernel
theorem d_IL_hydrogens_11 : decode (M_IL_hydrogens).cc 11 = .ok (.getfield 56, 3) := by decide +kernel
theorem d_IL_hydrogens_14 : decode (M_IL_hydrogens).cc 14 = .ok (.aload_n 0, 1) := by decide +kernel
theorem d_IL_hydrogens_15 : decode (M_IL_hydrogens).cc 15 = .ok (.getfield 63, 3) := by decide +kernel
theorem d_IL_hydrogens_18 : decode (M_IL_hydrogens).cc 18 = .ok (.iload_n 1, 1) := by decide +kernel
theorem d_IL_hydrogens_19 : decode (M_IL_hydrogens).cc 19 = .ok (.invokevirtual 134, 3) := by decide +kernel
theorem d_IL_hydrogens_22 : decode (M_IL_hydrogens).cc 22 = .ok (.aload_n 0, 1) := by decide +kernel
theorem d_IL_hydrogens_23 : decode (M_IL_hydrogens).cc 23 = .ok (.getfield 56, 3) := by decide +kernel
theorem d_IL_hydrogens_26 : decode (M_IL_hydrogens).cc 26 = .ok (.getfield 142, 3) := by decide +kernel
theorem d_IL_hydrogens_29 : decode (M_IL_hydrogens).cc 29 = .ok (.iload_n 2, 1) := by decide +kernel
theorem d_IL_hydrogens_30 : decode (M_IL_hydrogens).cc 30 = .ok (.iaload, 1) := by decide +kernel
theorem d_IL_hydrogens_31 : decode (M_IL_hydrogens).cc 31 = .ok (.ireturn, 1) := by decide +kernel
theorem d_IL_ways_0 : decode (M_IL_ways).cc 0 = .ok (.aload_n 0, 1) := by decide +kernel
theorem d_IL_ways_1 : decode (M_IL_ways).cc 1 = .ok (.iload_n 1, 1) := by decide +kernel
theorem d_IL_ways_2 : decode (M_IL_ways).cc 2 = .ok (.invokevirtual 131, 3) := by decide +kernel
theorem d_IL_ways_5 : decode (M_IL_ways).cc 5 = .ok (.aload_n 0, 1) := by decide +kernel
theorem d_IL_ways_6 : decode (M_IL_ways).cc 6 = .ok (.getfield 56, 3) := by decide +kernel
theorem d_IL_ways_9 : decode (M_IL_ways).cc 9 = .ok (.aload_n 0, 1) := by decide +kernel
theorem d_IL_ways_10 : decode (M_IL_ways).cc 10 = .ok (.getfield 63, 3) := by decide +kernel
theorem d_IL_ways_13 : decode (M_IL_ways).cc 13 = .ok (.iload_n 1, 1) := by decide +kernel
theorem d_IL_ways_14 : decode (M_IL_ways).cc 14 = .ok (.invokevirtual 134, 3) := by decide +kernel
theorem d_IL_ways_17 : decode (M_IL_ways).cc 17 = .ok (.aload_n 0, 1) := by decide +kernel
theorem d_IL_ways_18 : decode (M_IL_ways).cc 18 = .ok (.getfield 40, 3) := by decide +kernel
theorem d_IL_ways_21 : decode (M_IL_ways).cc 21 = .ok (.aload_n 0, 1) := by decide +kernel
theorem d_IL_ways_22 : decode (M_IL_ways).cc 22 = .ok (.getfield 56, 3) := by decide +kernel
theorem d_IL_ways_25 : decode (M_IL_ways).cc 25 = .ok (.aload_n 0, 1) := by decide +kernel
theorem d_IL_ways_26 : decode (M_IL_ways).cc 26 = .ok (.getfield 63, 3) := by decide +kernel
theorem d_IL_ways_29 : decode (M_IL_ways).cc 29 = .ok (.getfield 128, 3) := by decide +kernel
theorem d_IL_ways_32 : decode (M_IL_ways).cc 32 = .ok (.aload_n 0, 1) := by decide +kernel
theorem d_IL_ways_33 : decode (M_IL_ways).cc 33 = .ok (.getfield 63, 3) := by decide +kernel
theorem d_IL_ways_36 : decode (M_IL_ways).cc 36 = .ok (.getfield 145, 3) := by decide +kernel
theorem d_IL_ways_39 : decode (M_IL_ways).cc 39 = .ok (.iload_n 1, 1) := by decide +kernel
theorem d_IL_ways_40 : decode (M_IL_ways).cc 40 = .ok (.iaload, 1) := by decide +kernel
theorem d_IL_ways_41 : decode (M_IL_ways).cc 41 = .ok (.invokevirtual 148, 3) := by decide +kernel
theorem d_IL_ways_44 : decode (M_IL_ways).cc 44 = .ok (.aload_n 0, 1) := by decide +kernel
theorem d_IL_ways_45 : decode (M_IL_ways).cc 45 = .ok (.getfield 40, 3) := by decide +kernel
theorem d_IL_ways_48 : decode (M_IL_ways).cc 48 = .ok (.getfield 152, 3) := by decide +kernel
theorem d_IL_ways_51 : decode (M_IL_ways).cc 51 = .ok (.ireturn, 1) := by decide +kernel
theorem d_IL_write_0 : decode (M_IL_write).cc 0 = .ok (.aload_n 0, 1) := by decide +kernel
theorem d_IL_write_1 : decode (M_IL_write).cc 1 = .ok (.iload_n 1, 1) := by decide +kernel
theorem d_IL_write_2 : decode (M_IL_write).cc 2 = .ok (.invokevirtual 131, 3) := by decide +kernel
theorem d_IL_write_5 : decode (M_IL_write).cc 5 = .ok (.aload_n 0, 1) := by decide +kernel
theorem d_IL_write_6 : decode (M_IL_write).cc 6 = .ok (.getfield 56, 3) := by decide +kernel
theorem d_IL_write_9 : decode (M_IL_write).cc 9 = .ok (.aload_n 0, 1) := by decide +kernel
theorem d_IL_write_10 : decode (M_IL_write).cc 10 = .ok (.getfield 63, 3) := by decide +kernel
theorem d_IL_write_13 : decode (M_IL_write).cc 13 = .ok (.iload_n 1, 1) := by decide +kernel
theorem d_IL_write_14 : decode (M_IL_write).cc 14 = .ok (.invokevirtual 134, 3) := by decide +kernel
theorem d_IL_write_17 : decode (M_IL_write).cc 17 = .ok (.aload_n 0, 1) := by decide +kernel
theorem d_IL_write_18 : decode (M_IL_write).cc 18 = .ok (.getfield 33, 3) := by decide +kernel
theorem d_IL_write_21 : decode (M_IL_write).cc 21 = .ok (.aload_n 0, 1) := by decide +kernel
theorem d_IL_write_22 : decode (M_IL_write).cc 22 = .ok (.getfield 10, 3) := by decide +kernel
theorem d_IL_write_25 : decode (M_IL_write).cc 25 = .ok (.aload_n 0, 1) := by decide +kernel
theorem d_IL_write_26 : decode (M_IL_write).cc 26 = .ok (.getfield 56, 3) := by decide +kernel
theorem d_IL_write_29 : decode (M_IL_write).cc 29 = .ok (.invokevirtual 155, 3) := by decide +kernel
theorem d_IL_write_32 : decode (M_IL_write).cc 32 = .ok (.aload_n 0, 1) := by decide +kernel
theorem d_IL_write_33 : decode (M_IL_write).cc 33 = .ok (.getfield 10, 3) := by decide +kernel
theorem d_IL_write_36 : decode (M_IL_write).cc 36 = .ok (.getfield 74, 3) := by decide +kernel
theorem d_IL_write_39 : decode (M_IL_write).cc 39 = .ok (.ireturn, 1) := by decide +kernel
theorem d_Tw_writeTo_0 : decode (M_Tw_writeTo).cc 0 = .ok (.aload_n 0, 1) := by decide +kernel
theorem d_Tw_writeTo_1 : decode (M_Tw_writeTo).cc 1 = .ok (.aload_n 1, 1) := by decide +kernel
theorem d_Tw_writeTo_2 : decode (M_Tw_writeTo).cc 2 = .ok (.putfield 21, 3) := by decide +kernel
theorem d_Tw_writeTo_5 : decode (M_Tw_writeTo).cc 5 = .ok (.aload_n 0, 1) := by decide +kernel
theorem d_Tw_writeTo_6 : decode (M_Tw_writeTo).cc 6 = .ok (.aload_n 2, 1) := by decide +kernel
theorem d_Tw_writeTo_7 : decode (M_Tw_writeTo).cc 7 = .ok (.putfield 25, 3) := by decide +kernel
theorem d_Tw_writeTo_10 : decode (M_Tw_writeTo).cc 10 = .ok (.aload_n 0, 1) := by decide +kernel
theorem d_Tw_writeTo_11 : decode (M_Tw_writeTo).cc 11 = .ok (.iconst 0, 1) := by decide +kernel
theorem d_Tw_writeTo_12 : decode (M_Tw_writeTo).cc 12 = .ok (.putfield 29, 3) := by decide +kernel
theorem d_Tw_writeTo_15 : decode (M_Tw_writeTo).cc 15 = .ok (.aload_n 0, 1) := by decide +kernel
theorem d_Tw_writeTo_16 : decode (M_Tw_writeTo).cc 16 = .ok (.getfield 9, 3) := by decide +kernel
theorem d_Tw_writeTo_19 : decode (M_Tw_writeTo).cc 19 = .ok (.bipush (-2), 2) := by decide +kernel
theorem d_Tw_writeTo_21 : decode (M_Tw_writeTo).cc 21 = .ok (.invokestatic 33, 3) := by decide +kernel
theorem d_Tw_writeTo_24 : decode (M_Tw_writeTo).cc 24 = .ok (.aload_n 0, 1) := by decide +kernel
theorem d_Tw_writeTo_25 : decode (M_Tw_writeTo).cc 25 = .ok (.iconst 0, 1) := by decide +kernel
theorem d_Tw_writeTo_26 : decode (M_Tw_writeTo).cc 26 = .ok (.iconst (-1), 1) := by decide +kernel
theorem d_Tw_writeTo_27 : decode (M_Tw_writeTo).cc 27 = .ok (.invokevirtual 39, 3) := by decide +kernel
theorem d_Tw_writeTo_30 : decode (M_Tw_writeTo).cc 30 = .ok (.aload_n 0, 1) := by decide +kernel
theorem d_Tw_writeTo_31 : decode (M_Tw_writeTo).cc 31 = .ok (.getfield 21, 3) := by decide +kernel
theorem d_Tw_writeTo_34 : decode (M_Tw_writeTo).cc 34 = .ok (.invokevirtual 43, 3) := by decide +kernel
theorem d_Tw_writeTo_37 : decode (M_Tw_writeTo).cc 37 = .ok (.aload_n 0, 1) := by decide +kernel
theorem d_Tw_writeTo_38 : decode (M_Tw_writeTo).cc 38 = .ok (.iconst 0, 1) := by decide +kernel
theorem d_Tw_writeTo_39 : decode (M_Tw_writeTo).cc 39 = .ok (.invokevirtual 48, 3) := by decide +kernel
theorem d_Tw_writeTo_42 : decode (M_Tw_writeTo).cc 42 = .ok (.return_, 1) := by decide +kernel
theorem d_Tw_goThrough_0 : decode (M_Tw_goThrough).cc 0 = .ok (.aload_n 0, 1) := by decide +kernel
theorem d_Tw_goThrough_1 : decode (M_Tw_goThrough).cc 1 = .ok (.getfield 9, 3) := by decide +kernel
theorem d_Tw_goThrough_4 : decode (M_Tw_goThrough).cc 4 = .ok (.iload_n 1, 1) := by decide +kernel
theorem d_Tw_goThrough_5 : decode (M_Tw_goThrough).cc 5 = .ok (.iload_n 2, 1) := by decide +kernel
theorem d_Tw_goThrough_6 : decode (M_Tw_goThrough).cc 6 = .ok (.iastore, 1) := by decide +kernel
theorem d_Tw_goThrough_7 : decode (M_Tw_goThrough).cc 7 = .ok (.iconst 0, 1) := by decide +kernel
theorem d_Tw_goThrough_8 : decode (M_Tw_goThrough).cc 8 = .ok (.istore_n 3, 1) := by decide +kernel
theorem d_Tw_goThrough_9 : decode (M_Tw_goThrough).cc 9 = .ok (.iload_n 3, 1) := by decide +kernel
theorem d_Tw_goThrough_10 : decode (M_Tw_goThrough).cc 10 = .ok (.aload_n 0, 1) := by decide +kernel
theorem d_Tw_goThrough_11 : decode (M_Tw_goThrough).cc 11 = .ok (.getfield 25, 3) := by decide +kernel
theorem d_Tw_goThrough_14 : decode (M_Tw_goThrough).cc 14 = .ok (.getfield 52, 3) := by decide +kernel
theorem d_Tw_goThrough_17 : decode (M_Tw_goThrough).cc 17 = .ok (.if_icmp .ge 52, 3) := by decide +kernel
theorem d_Tw_goThrough_20 : decode (M_Tw_goThrough).cc 20 = .ok (.aload_n 0, 1) := by decide +kernel
theorem d_Tw_goThrough_21 : decode (M_Tw_goThrough).cc 21 = .ok (.getfield 25, 3) := by decide +kernel
theorem d_Tw_goThrough_24 : decode (M_Tw_goThrough).cc 24 = .ok (.iload_n 1, 1) := by decide +kernel
theorem d_Tw_goThrough_25 : decode (M_Tw_goThrough).cc 25 = .ok (.iload_n 3, 1) := by decide +kernel
theorem d_Tw_goThrough_26 : decode (M_Tw_goThrough).cc 26 = .ok (.invokevirtual 57, 3) := by decide +kernel
theorem d_Tw_goThrough_29 : decode (M_Tw_goThrough).cc 29 = .ok (.ifCond .le 34, 3) := by decide +kernel
theorem d_Tw_goThrough_32 : decode (M_Tw_goThrough).cc 32 = .ok (.aload_n 0, 1) := by decide +kernel
theorem d_Tw_goThrough_33 : decode (M_Tw_goThrough).cc 33 = .ok (.getfield 9, 3) := by decide +kernel
theorem d_Tw_goThrough_36 : decode (M_Tw_goThrough).cc 36 = .ok (.iload_n 3, 1) := by decide +kernel
theorem d_Tw_goThrough_37 : decode (M_Tw_goThrough).cc 37 = .ok (.iaload, 1) := by decide +kernel
theorem d_Tw_goThrough_38 : decode (M_Tw_goThrough).cc 38 = .ok (.bipush (-2), 2) := by decide +kernel
theorem d_Tw_goThrough_40 : decode (M_Tw_goThrough).cc 40 = .ok (.if_icmp .ne 12, 3) := by decide +kernel
theorem d_Tw_goThrough_43 : decode (M_Tw_goThrough).cc 43 = .ok (.aload_n 0, 1) := by decide +kernel
theorem d_Tw_goThrough_44 : decode (M_Tw_goThrough).cc 44 = .ok (.iload_n 3, 1) := by decide +kernel
theorem d_Tw_goThrough_45 : decode (M_Tw_goThrough).cc 45 = .ok (.iload_n 1, 1) := by decide +kernel
theorem d_Tw_goThrough_46 : decode (M_Tw_goThrough).cc 46 = .ok (.invokevirtual 39, 3) := by decide +kernel
theorem d_Tw_goThrough_49 : decode (M_Tw_goThrough).cc 49 = .ok (.goto 14, 3) := by decide +kernel
theorem d_Tw_goThrough_52 : decode (M_Tw_goThrough).cc 52 = .ok (.iload_n 3, 1) := by decide +kernel
theorem d_Tw_goThrough_53 : decode (M_Tw_goThrough).cc 53 = .ok (.iload_n 2, 1) := by decide +kernel
theorem d_Tw_goThrough_54 : decode (M_Tw_goThrough).cc 54 = .ok (.if_icmp .eq 9, 3) := by decide +kernel
theorem d_Tw_goThrough_57 : decode (M_Tw_goThrough).cc 57 = .ok (.aload_n 0, 1) := by decide +kernel
theorem d_Tw_goThrough_58 : decode (M_Tw_goThrough).cc 58 = .ok (.iload_n 1, 1) := by decide +kernel
theorem d_Tw_goThrough_59 : decode (M_Tw_goThrough).cc 59 = .ok (.iload_n 3, 1) := by decide +kernel
theorem d_Tw_goThrough_60 : decode (M_Tw_goThrough).cc 60 = .ok (.invokevirtual 61, 3) := by decide +kernel
theorem d_Tw_goThrough_63 : decode (M_Tw_goThrough).cc 63 = .ok (.iinc 3 1, 3) := by decide +kernel
theorem d_Tw_goThrough_66 : decode (M_Tw_goThrough).cc 66 = .ok (.goto (-57), 3) := by decide +kernel
theorem d_Tw_goThrough_69 : decode (M_Tw_goThrough).cc 69 = .ok (.return_, 1) := by decide +kernel
theorem d_Tw_meetRing_0 : decode (M_Tw_meetRing).cc 0 = .ok (.iconst 1, 1) := by decide +kernel
theorem d_Tw_meetRing_1 : decode (M_Tw_meetRing).cc 1 = .ok (.istore_n 3, 1) := by decide +kernel
theorem d_Tw_meetRing_2 : decode (M_Tw_meetRing).cc 2 = .ok (.iload_n 3, 1) := by decide +kernel
theorem d_Tw_meetRing_3 : decode (M_Tw_meetRing).cc 3 = .ok (.aload_n 0, 1) := by decide +kernel
theorem d_Tw_meetRing_4 : decode (M_Tw_meetRing).cc 4 = .ok (.getfield 29, 3) := by decide +kernel
theorem d_Tw_meetRing_7 : decode (M_Tw_meetRing).cc 7 = .ok (.if_icmp .gt 30, 3) := by decide +kernel
theorem d_Tw_meetRing_10 : decode (M_Tw_meetRing).cc 10 = .ok (.aload_n 0, 1) := by decide +kernel
theorem d_Tw_meetRing_11 : decode (M_Tw_meetRing).cc 11 = .ok (.getfield 15, 3) := by decide +kernel
theorem d_Tw_meetRing_14 : decode (M_Tw_meetRing).cc 14 = .ok (.iload_n 3, 1) := by decide +kernel
theorem d_Tw_meetRing_15 : decode (M_Tw_meetRing).cc 15 = .ok (.iaload, 1) := by decide +kernel
theorem d_Tw_meetRing_16 : decode (M_Tw_meetRing).cc 16 = .ok (.iload_n 2, 1) := by decide +kernel
theorem d_Tw_meetRing_17 : decode (M_Tw_meetRing).cc 17 = .ok (.if_icmp .ne 14, 3) := by decide +kernel
theorem d_Tw_meetRing_20 : decode (M_Tw_meetRing).cc 20 = .ok (.aload_n 0, 1) := by decide +kernel
theorem d_Tw_meetRing_21 : decode (M_Tw_meetRing).cc 21 = .ok (.getfield 18, 3) := by decide +kernel
theorem d_Tw_meetRing_24 : decode (M_Tw_meetRing).cc 24 = .ok (.iload_n 3, 1) := by decide +kernel
theorem d_Tw_meetRing_25 : decode (M_Tw_meetRing).cc 25 = .ok (.iaload, 1) := by decide +kernel
theorem d_Tw_meetRing_26 : decode (M_Tw_meetRing).cc 26 = .ok (.iload_n 1, 1) := by decide +kernel
theorem d_Tw_meetRing_27 : decode (M_Tw_meetRing).cc 27 = .ok (.if_icmp .ne 4, 3) := by decide +kernel
theorem d_Tw_meetRing_30 : decode (M_Tw_meetRing).cc 30 = .ok (.return_, 1) := by decide +kernel
theorem d_Tw_meetRing_31 : decode (M_Tw_meetRing).cc 31 = .ok (.iinc 3 1, 3) := by decide +kernel
theorem d_Tw_meetRing_34 : decode (M_Tw_meetRing).cc 34 = .ok (.goto (-32), 3) := by decide +kernel
theorem d_Tw_meetRing_37 : decode (M_Tw_meetRing).cc 37 = .ok (.aload_n 0, 1) := by decide +kernel
theorem d_Tw_meetRing_38 : decode (M_Tw_meetRing).cc 38 = .ok (.getfield 29, 3) := by decide +kernel
theorem d_Tw_meetRing_41 : decode (M_Tw_meetRing).cc 41 = .ok (.bipush 9, 2) := by decide +kernel
theorem d_Tw_meetRing_43 : decode (M_Tw_meetRing).cc 43 = .ok (.if_icmp .ge 33, 3) := by decide +kernel
theorem d_Tw_meetRing_46 : decode (M_Tw_meetRing).cc 46 = .ok (.aload_n 0, 1) := by decide +kernel
theorem d_Tw_meetRing_47 : decode (M_Tw_meetRing).cc 47 = .ok (.dup, 1) := by decide +kernel
theorem d_Tw_meetRing_48 : decode (M_Tw_meetRing).cc 48 = .ok (.getfield 29, 3) := by decide +kernel
theorem d_Tw_meetRing_51 : decode (M_Tw_meetRing).cc 51 = .ok (.iconst 1, 1) := by decide +kernel
theorem d_Tw_meetRing_52 : decode (M_Tw_meetRing).cc 52 = .ok (.iadd, 1) := by decide +kernel
theorem d_Tw_meetRing_53 : decode (M_Tw_meetRing).cc 53 = .ok (.putfield 29, 3) := by decide +kernel
theorem d_Tw_meetRing_56 : decode (M_Tw_meetRing).cc 56 = .ok (.aload_n 0, 1) := by decide +kernel
theorem d_Tw_meetRing_57 : decode (M_Tw_meetRing).cc 57 = .ok (.getfield 15, 3) := by decide +kernel
theorem d_Tw_meetRing_60 : decode (M_Tw_meetRing).cc 60 = .ok (.aload_n 0, 1) := by decide +kernel
theorem d_Tw_meetRing_61 : decode (M_Tw_meetRing).cc 61 = .ok (.getfield 29, 3) := by decide +kernel
theorem d_Tw_meetRing_64 : decode (M_Tw_meetRing).cc 64 = .ok (.iload_n 1, 1) := by decide +kernel
theorem d_Tw_meetRing_65 : decode (M_Tw_meetRing).cc 65 = .ok (.iastore, 1) := by decide +kernel
theorem d_Tw_meetRing_66 : decode (M_Tw_meetRing).cc 66 = .ok (.aload_n 0, 1) := by decide +kernel
theorem d_Tw_meetRing_67 : decode (M_Tw_meetRing).cc 67 = .ok (.getfield 18, 3) := by decide +kernel
theorem d_Tw_meetRing_70 : decode (M_Tw_meetRing).cc 70 = .ok (.aload_n 0, 1) := by decide +kernel
theorem d_Tw_meetRing_71 : decode (M_Tw_meetRing).cc 71 = .ok (.getfield 29, 3) := by decide +kernel
theorem d_Tw_meetRing_74 : decode (M_Tw_meetRing).cc 74 = .ok (.iload_n 2, 1) := by decide +kernel
theorem d_Tw_meetRing_75 : decode (M_Tw_meetRing).cc 75 = .ok (.iastore, 1) := by decide +kernel
theorem d_Tw_meetRing_76 : decode (M_Tw_meetRing).cc 76 = .ok (.return_, 1) := by decide +kernel
theorem d_Tw_putAtom_0 : decode (M_Tw_putAtom).cc 0 = .ok (.aload_n 0, 1) := by decide +kernel
theorem d_Tw_putAtom_1 : decode (M_Tw_putAtom).cc 1 = .ok (.getfield 21, 3) := by decide +kernel
theorem d_Tw_putAtom_4 : decode (M_Tw_putAtom).cc 4 = .ok (.aload_n 0, 1) := by decide +kernel
theorem d_Tw_putAtom_5 : decode (M_Tw_putAtom).cc 5 = .ok (.getfield 25, 3) := by decide +kernel
theorem d_Tw_putAtom_8 : decode (M_Tw_putAtom).cc 8 = .ok (.getfield 64, 3) := by decide +kernel
theorem d_Tw_putAtom_11 : decode (M_Tw_putAtom).cc 11 = .ok (.iload_n 1, 1) := by decide +kernel
theorem d_Tw_putAtom_12 : decode (M_Tw_putAtom).cc 12 = .ok (.iaload, 1) := by decide +kernel
theorem d_Tw_putAtom_13 : decode (M_Tw_putAtom).cc 13 = .ok (.invokevirtual 67, 3) := by decide +kernel
theorem d_Tw_putAtom_16 : decode (M_Tw_putAtom).cc 16 = .ok (.aload_n 0, 1) := by decide +kernel
theorem d_Tw_putAtom_17 : decode (M_Tw_putAtom).cc 17 = .ok (.iload_n 1, 1) := by decide +kernel
theorem d_Tw_putAtom_18 : decode (M_Tw_putAtom).cc 18 = .ok (.invokevirtual 70, 3) := by decide +kernel
theorem d_Tw_putAtom_21 : decode (M_Tw_putAtom).cc 21 = .ok (.aload_n 0, 1) := by decide +kernel
theorem d_Tw_putAtom_22 : decode (M_Tw_putAtom).cc 22 = .ok (.iload_n 1, 1) := by decide +kernel
theorem d_Tw_putAtom_23 : decode (M_Tw_putAtom).cc 23 = .ok (.invokevirtual 73, 3) := by decide +kernel
theorem d_Tw_putAtom_26 : decode (M_Tw_putAtom).cc 26 = .ok (.istore_n 2, 1) := by decide +kernel
theorem d_Tw_putAtom_27 : decode (M_Tw_putAtom).cc 27 = .ok (.iconst 0, 1) := by decide +kernel
theorem d_Tw_putAtom_28 : decode (M_Tw_putAtom).cc 28 = .ok (.istore_n 3, 1) := by decide +kernel
theorem d_Tw_putAtom_29 : decode (M_Tw_putAtom).cc 29 = .ok (.iload_n 3, 1) := by decide +kernel
theorem d_Tw_putAtom_30 : decode (M_Tw_putAtom).cc 30 = .ok (.iload_n 2, 1) := by decide +kernel
theorem d_Tw_putAtom_31 : decode (M_Tw_putAtom).cc 31 = .ok (.if_icmp .ge 43, 3) := by decide +kernel
theorem d_Tw_putAtom_34 : decode (M_Tw_putAtom).cc 34 = .ok (.aload_n 0, 1) := by decide +kernel
theorem d_Tw_putAtom_35 : decode (M_Tw_putAtom).cc 35 = .ok (.getfield 9, 3) := by decide +kernel
theorem d_Tw_putAtom_38 : decode (M_Tw_putAtom).cc 38 = .ok (.iload_n 3, 1) := by decide +kernel
theorem d_Tw_putAtom_39 : decode (M_Tw_putAtom).cc 39 = .ok (.iaload, 1) := by decide +kernel
theorem d_Tw_putAtom_40 : decode (M_Tw_putAtom).cc 40 = .ok (.iload_n 1, 1) := by decide +kernel
theorem d_Tw_putAtom_41 : decode (M_Tw_putAtom).cc 41 = .ok (.if_icmp .ne 27, 3) := by decide +kernel
theorem d_Tw_putAtom_44 : decode (M_Tw_putAtom).cc 44 = .ok (.aload_n 0, 1) := by decide +kernel
theorem d_Tw_putAtom_45 : decode (M_Tw_putAtom).cc 45 = .ok (.getfield 21, 3) := by decide +kernel
theorem d_Tw_putAtom_48 : decode (M_Tw_putAtom).cc 48 = .ok (.bipush 40, 2) := by decide +kernel
theorem d_Tw_putAtom_50 : decode (M_Tw_putAtom).cc 50 = .ok (.invokevirtual 77, 3) := by decide +kernel
theorem d_Tw_putAtom_53 : decode (M_Tw_putAtom).cc 53 = .ok (.aload_n 0, 1) := by decide +kernel
theorem d_Tw_putAtom_54 : decode (M_Tw_putAtom).cc 54 = .ok (.iload_n 1, 1) := by decide +kernel
theorem d_Tw_putAtom_55 : decode (M_Tw_putAtom).cc 55 = .ok (.iload_n 3, 1) := by decide +kernel
theorem d_Tw_putAtom_56 : decode (M_Tw_putAtom).cc 56 = .ok (.invokevirtual 81, 3) := by decide +kernel
theorem d_Tw_putAtom_59 : decode (M_Tw_putAtom).cc 59 = .ok (.aload_n 0, 1) := by decide +kernel
theorem d_Tw_putAtom_60 : decode (M_Tw_putAtom).cc 60 = .ok (.getfield 21, 3) := by decide +kernel
theorem d_Tw_putAtom_63 : decode (M_Tw_putAtom).cc 63 = .ok (.bipush 41, 2) := by decide +kernel
theorem d_Tw_putAtom_65 : decode (M_Tw_putAtom).cc 65 = .ok (.invokevirtual 77, 3) := by decide +kernel
theorem d_Tw_putAtom_68 : decode (M_Tw_putAtom).cc 68 = .ok (.iinc 3 1, 3) := by decide +kernel
theorem d_Tw_putAtom_71 : decode (M_Tw_putAtom).cc 71 = .ok (.goto (-42), 3) := by decide +kernel
theorem d_Tw_putAtom_74 : decode (M_Tw_putAtom).cc 74 = .ok (.iload_n 2, 1) := by decide +kernel
theorem d_Tw_putAtom_75 : decode (M_Tw_putAtom).cc 75 = .ok (.iconst (-1), 1) := by decide +kernel
theorem d_Tw_putAtom_76 : decode (M_Tw_putAtom).cc 76 = .ok (.if_icmp .eq 9, 3) := by decide +kernel
theorem d_Tw_putAtom_79 : decode (M_Tw_putAtom).cc 79 = .ok (.aload_n 0, 1) := by decide +kernel
theorem d_Tw_putAtom_80 : decode (M_Tw_putAtom).cc 80 = .ok (.iload_n 1, 1) := by decide +kernel
theorem d_Tw_putAtom_81 : decode (M_Tw_putAtom).cc 81 = .ok (.iload_n 2, 1) := by decide +kernel
theorem d_Tw_putAtom_82 : decode (M_Tw_putAtom).cc 82 = .ok (.invokevirtual 81, 3) := by decide +kernel
theorem d_Tw_putAtom_85 : decode (M_Tw_putAtom).cc 85 = .ok (.return_, 1) := by decide +kernel
theorem d_Tw_putRings_0 : decode (M_Tw_putRings).cc 0 = .ok (.iconst 1, 1) := by decide +kernel
theorem d_Tw_putRings_1 : decode (M_Tw_putRings).cc 1 = .ok (.istore_n 2, 1) := by decide +kernel
theorem d_Tw_putRings_2 : decode (M_Tw_putRings).cc 2 = .ok (.iload_n 2, 1) := by decide +kernel
theorem d_Tw_putRings_3 : decode (M_Tw_putRings).cc 3 = .ok (.aload_n 0, 1) := by decide +kernel
theorem d_Tw_putRings_4 : decode (M_Tw_putRings).cc 4 = .ok (.getfield 29, 3) := by decide +kernel
theorem d_Tw_putRings_7 : decode (M_Tw_putRings).cc 7 = .ok (.if_icmp .gt 67, 3) := by decide +kernel
theorem d_Tw_putRings_10 : decode (M_Tw_putRings).cc 10 = .ok (.aload_n 0, 1) := by decide +kernel
theorem d_Tw_putRings_11 : decode (M_Tw_putRings).cc 11 = .ok (.getfield 15, 3) := by decide +kernel
theorem d_Tw_putRings_14 : decode (M_Tw_putRings).cc 14 = .ok (.iload_n 2, 1) := by decide +kernel
theorem d_Tw_putRings_15 : decode (M_Tw_putRings).cc 15 = .ok (.iaload, 1) := by decide +kernel
theorem d_Tw_putRings_16 : decode (M_Tw_putRings).cc 16 = .ok (.iload_n 1, 1) := by decide +kernel
theorem d_Tw_putRings_17 : decode (M_Tw_putRings).cc 17 = .ok (.if_icmp .eq 13, 3) := by decide +kernel
theorem d_Tw_putRings_20 : decode (M_Tw_putRings).cc 20 = .ok (.aload_n 0, 1) := by decide +kernel
theorem d_Tw_putRings_21 : decode (M_Tw_putRings).cc 21 = .ok (.getfield 18, 3) := by decide +kernel
theorem d_Tw_putRings_24 : decode (M_Tw_putRings).cc 24 = .ok (.iload_n 2, 1) := by decide +kernel
theorem d_Tw_putRings_25 : decode (M_Tw_putRings).cc 25 = .ok (.iaload, 1) := by decide +kernel
theorem d_Tw_putRings_26 : decode (M_Tw_putRings).cc 26 = .ok (.iload_n 1, 1) := by decide +kernel
theorem d_Tw_putRings_27 : decode (M_Tw_putRings).cc 27 = .ok (.if_icmp .ne 41, 3) := by decide +kernel
theorem d_Tw_putRings_30 : decode (M_Tw_putRings).cc 30 = .ok (.aload_n 0, 1) := by decide +kernel
theorem d_Tw_putRings_31 : decode (M_Tw_putRings).cc 31 = .ok (.getfield 21, 3) := by decide +kernel
theorem d_Tw_putRings_34 : decode (M_Tw_putRings).cc 34 = .ok (.aload_n 0, 1) := by decide +kernel
theorem d_Tw_putRings_35 : decode (M_Tw_putRings).cc 35 = .ok (.getfield 25, 3) := by decide +kernel
theorem d_Tw_putRings_38 : decode (M_Tw_putRings).cc 38 = .ok (.aload_n 0, 1) := by decide +kernel
theorem d_Tw_putRings_39 : decode (M_Tw_putRings).cc 39 = .ok (.getfield 15, 3) := by decide +kernel
theorem d_Tw_putRings_42 : decode (M_Tw_putRings).cc 42 = .ok (.iload_n 2, 1) := by decide +kernel
theorem d_Tw_putRings_43 : decode (M_Tw_putRings).cc 43 = .ok (.iaload, 1) := by decide +kernel
theorem d_Tw_putRings_44 : decode (M_Tw_putRings).cc 44 = .ok (.aload_n 0, 1) := by decide +kernel
theorem d_Tw_putRings_45 : decode (M_Tw_putRings).cc 45 = .ok (.getfield 18, 3) := by decide +kernel
theorem d_Tw_putRings_48 : decode (M_Tw_putRings).cc 48 = .ok (.iload_n 2, 1) := by decide +kernel
theorem d_Tw_putRings_49 : decode (M_Tw_putRings).cc 49 = .ok (.iaload, 1) := by decide +kernel
theorem d_Tw_putRings_50 : decode (M_Tw_putRings).cc 50 = .ok (.invokevirtual 57, 3) := by decide +kernel
theorem d_Tw_putRings_53 : decode (M_Tw_putRings).cc 53 = .ok (.invokevirtual 84, 3) := by decide +kernel
theorem d_Tw_putRings_56 : decode (M_Tw_putRings).cc 56 = .ok (.aload_n 0, 1) := by decide +kernel
theorem d_Tw_putRings_57 : decode (M_Tw_putRings).cc 57 = .ok (.getfield 21, 3) := by decide +kernel
theorem d_Tw_putRings_60 : decode (M_Tw_putRings).cc 60 = .ok (.bipush 48, 2) := by decide +kernel
theorem d_Tw_putRings_62 : decode (M_Tw_putRings).cc 62 = .ok (.iload_n 2, 1) := by decide +kernel
theorem d_Tw_putRings_63 : decode (M_Tw_putRings).cc 63 = .ok (.iadd, 1) := by decide +kernel
theorem d_Tw_putRings_64 : decode (M_Tw_putRings).cc 64 = .ok (.i2c, 1) := by decide +kernel
theorem d_Tw_putRings_65 : decode (M_Tw_putRings).cc 65 = .ok (.invokevirtual 77, 3) := by decide +kernel
theorem d_Tw_putRings_68 : decode (M_Tw_putRings).cc 68 = .ok (.iinc 2 1, 3) := by decide +kernel
theorem d_Tw_putRings_71 : decode (M_Tw_putRings).cc 71 = .ok (.goto (-69), 3) := by decide +kernel
theorem d_Tw_putRings_74 : decode (M_Tw_putRings).cc 74 = .ok (.return_, 1) := by decide +kernel
theorem d_Tw_lastFurtherOn_0 : decode (M_Tw_lastFurtherOn).cc 0 = .ok (.aload_n 0, 1) := by decide +kernel
theorem d_Tw_lastFurtherOn_1 : decode (M_Tw_lastFurtherOn).cc 1 = .ok (.getfield 25, 3) := by decide +kernel
theorem d_Tw_lastFurtherOn_4 : decode (M_Tw_lastFurtherOn).cc 4 = .ok (.getfield 52, 3) := by decide +kernel
theorem d_Tw_lastFurtherOn_7 : decode (M_Tw_lastFurtherOn).cc 7 = .ok (.iconst 1, 1) := by decide +kernel
theorem d_Tw_lastFurtherOn_8 : decode (M_Tw_lastFurtherOn).cc 8 = .ok (.isub, 1) := by decide +kernel
theorem d_Tw_lastFurtherOn_9 : decode (M_Tw_lastFurtherOn).cc 9 = .ok (.istore_n 2, 1) := by decide +kernel
theorem d_Tw_lastFurtherOn_10 : decode (M_Tw_lastFurtherOn).cc 10 = .ok (.iload_n 2, 1) := by decide +kernel
theorem d_Tw_lastFurtherOn_11 : decode (M_Tw_lastFurtherOn).cc 11 = .ok (.ifCond .lt 21, 3) := by decide +kernel
theorem d_Tw_lastFurtherOn_14 : decode (M_Tw_lastFurtherOn).cc 14 = .ok (.aload_n 0, 1) := by decide +kernel
theorem d_Tw_lastFurtherOn_15 : decode (M_Tw_lastFurtherOn).cc 15 = .ok (.getfield 9, 3) := by decide +kernel
theorem d_Tw_lastFurtherOn_18 : decode (M_Tw_lastFurtherOn).cc 18 = .ok (.iload_n 2, 1) := by decide +kernel
theorem d_Tw_lastFurtherOn_19 : decode (M_Tw_lastFurtherOn).cc 19 = .ok (.iaload, 1) := by decide +kernel
theorem d_Tw_lastFurtherOn_20 : decode (M_Tw_lastFurtherOn).cc 20 = .ok (.iload_n 1, 1) := by decide +kernel
theorem d_Tw_lastFurtherOn_21 : decode (M_Tw_lastFurtherOn).cc 21 = .ok (.if_icmp .ne 5, 3) := by decide +kernel
theorem d_Tw_lastFurtherOn_24 : decode (M_Tw_lastFurtherOn).cc 24 = .ok (.iload_n 2, 1) := by decide +kernel
theorem d_Tw_lastFurtherOn_25 : decode (M_Tw_lastFurtherOn).cc 25 = .ok (.ireturn, 1) := by decide +kernel
theorem d_Tw_lastFurtherOn_26 : decode (M_Tw_lastFurtherOn).cc 26 = .ok (.iinc 2 (-1), 3) := by decide +kernel
theorem d_Tw_lastFurtherOn_29 : decode (M_Tw_lastFurtherOn).cc 29 = .ok (.goto (-19), 3) := by decide +kernel
theorem d_Tw_lastFurtherOn_32 : decode (M_Tw_lastFurtherOn).cc 32 = .ok (.iconst (-1), 1) := by decide +kernel
theorem d_Tw_lastFurtherOn_33 : decode (M_Tw_lastFurtherOn).cc 33 = .ok (.ireturn, 1) := by decide +kernel
theorem d_Tw_putBound_0 : decode (M_Tw_putBound).cc 0 = .ok (.aload_n 0, 1) := by decide +kernel
theorem d_Tw_putBound_1 : decode (M_Tw_putBound).cc 1 = .ok (.getfield 21, 3) := by decide +kernel
theorem d_Tw_putBound_4 : decode (M_Tw_putBound).cc 4 = .ok (.aload_n 0, 1) := by decide +kernel
theorem d_Tw_putBound_5 : decode (M_Tw_putBound).cc 5 = .ok (.getfield 25, 3) := by decide +kernel
theorem d_Tw_putBound_8 : decode (M_Tw_putBound).cc 8 = .ok (.iload_n 1, 1) := by decide +kernel
theorem d_Tw_putBound_9 : decode (M_Tw_putBound).cc 9 = .ok (.iload_n 2, 1) := by decide +kernel
theorem d_Tw_putBound_10 : decode (M_Tw_putBound).cc 10 = .ok (.invokevirtual 57, 3) := by decide +kernel
theorem d_Tw_putBound_13 : decode (M_Tw_putBound).cc 13 = .ok (.invokevirtual 84, 3) := by decide +kernel
theorem d_Tw_putBound_16 : decode (M_Tw_putBound).cc 16 = .ok (.aload_n 0, 1) := by decide +kernel
theorem d_Tw_putBound_17 : decode (M_Tw_putBound).cc 17 = .ok (.iload_n 2, 1) := by decide +kernel
theorem d_Tw_putBound_18 : decode (M_Tw_putBound).cc 18 = .ok (.invokevirtual 48, 3) := by decide +kernel
theorem d_Tw_putBound_21 : decode (M_Tw_putBound).cc 21 = .ok (.return_, 1) := by decide +kernel
end
section
/-! what each instruction is (by names.py) -/
theorem d_Mo_init_0 : decode (M_Mo_init).cc 0 = .ok (.aload_n 0, 1) := by decide +kernel
theorem d_Mo_init_1 : decode (M_Mo_init).cc 1 = .ok (.invokespecial 1, 3) := by decide +kernel
theorem d_Mo_init_4 : decode (M_Mo_init).cc 4 = .ok (.aload_n 0, 1) := by decide +kernel
theorem d_Mo_init_5 : decode (M_Mo_init).cc 5 = .ok (.bipush 60, 2) := by decide +kernel
theorem d_Mo_init_7 : decode (M_Mo_init).cc 7 = .ok (.newarray .char, 2) := by decide +kernel
theorem d_Mo_init_9 : decode (M_Mo_init).cc 9 = .ok (.putfield 7, 3) := by decide +kernel
theorem d_Mo_init_12 : decode (M_Mo_init).cc 12 = .ok (.aload_n 0, 1) := by decide +kernel
theorem d_Mo_init_13 : decode (M_Mo_init).cc 13 = .ok (.iconst (-1), 1) := by decide +kernel
theorem d_Mo_init_14 : decode (M_Mo_init).cc 14 = .ok (.putfield 13, 3) := by decide +kernel
theorem d_Mo_init_17 : decode (M_Mo_init).cc 17 = .ok (.aload_n 0, 1) := by decide +kernel
theorem d_Mo_init_18 : decode (M_Mo_init).cc 18 = .ok (.bipush 6, 2) := by decide +kernel
theorem d_Mo_init_20 : decode (M_Mo_init).cc 20 = .ok (.newarray .int, 2) := by decide +kernel
theorem d_Mo_init_22 : decode (M_Mo_init).cc 22 = .ok (.putfield 17, 3) := by decide +kernel
theorem d_Mo_init_25 : decode (M_Mo_init).cc 25 = .ok (.aload_n 0, 1) := by decide +kernel
theorem d_Mo_init_26 : decode (M_Mo_init).cc 26 = .ok (.sipush 7500, 3) := by decide +kernel
theorem d_Mo_init_29 : decode (M_Mo_init).cc 29 = .ok (.newarray .int, 2) := by decide +kernel
theorem d_Mo_init_31 : decode (M_Mo_init).cc 31 = .ok (.putfield 21, 3) := by decide +kernel
theorem d_Mo_init_34 : decode (M_Mo_init).cc 34 = .ok (.aload_n 0, 1) := by decide +kernel
theorem d_Mo_init_35 : decode (M_Mo_init).cc 35 = .ok (.bipush 6, 2) := by decide +kernel
theorem d_Mo_init_37 : decode (M_Mo_init).cc 37 = .ok (.newarray .int, 2) := by decide +kernel
theorem d_Mo_init_39 : decode (M_Mo_init).cc 39 = .ok (.putfield 24, 3) := by decide +kernel
theorem d_Mo_init_42 : decode (M_Mo_init).cc 42 = .ok (.aload_n 0, 1) := by decide +kernel
theorem d_Mo_init_43 : decode (M_Mo_init).cc 43 = .ok (.bipush 15, 2) := by decide +kernel
theorem d_Mo_init_45 : decode (M_Mo_init).cc 45 = .ok (.newarray .int, 2) := by decide +kernel
theorem d_Mo_init_47 : decode (M_Mo_init).cc 47 = .ok (.putfield 27, 3) := by decide +kernel
theorem d_Mo_init_50 : decode (M_Mo_init).cc 50 = .ok (.aload_n 0, 1) := by decide +kernel
theorem d_Mo_init_51 : decode (M_Mo_init).cc 51 = .ok (.bipush 6, 2) := by decide +kernel
theorem d_Mo_init_53 : decode (M_Mo_init).cc 53 = .ok (.newarray .int, 2) := by decide +kernel
theorem d_Mo_init_55 : decode (M_Mo_init).cc 55 = .ok (.putfield 30, 3) := by decide +kernel
theorem d_Mo_init_58 : decode (M_Mo_init).cc 58 = .ok (.aload_n 0, 1) := by decide +kernel
theorem d_Mo_init_59 : decode (M_Mo_init).cc 59 = .ok (.bipush 16, 2) := by decide +kernel
theorem d_Mo_init_61 : decode (M_Mo_init).cc 61 = .ok (.newarray .int, 2) := by decide +kernel
theorem d_Mo_init_63 : decode (M_Mo_init).cc 63 = .ok (.putfield 33, 3) := by decide +kernel
theorem d_Mo_init_66 : decode (M_Mo_init).cc 66 = .ok (.aload_n 0, 1) := by decide +kernel
theorem d_Mo_init_67 : decode (M_Mo_init).cc 67 = .ok (.sipush 7515, 3) := by decide +kernel
theorem d_Mo_init_70 : decode (M_Mo_init).cc 70 = .ok (.newarray .int, 2) := by decide +kernel
theorem d_Mo_init_72 : decode (M_Mo_init).cc 72 = .ok (.putfield 36, 3) := by decide +kernel
theorem d_Mo_init_75 : decode (M_Mo_init).cc 75 = .ok (.aload_n 0, 1) := by decide +kernel
theorem d_Mo_init_76 : decode (M_Mo_init).cc 76 = .ok (.bipush 7, 2) := by decide +kernel
theorem d_Mo_init_78 : decode (M_Mo_init).cc 78 = .ok (.newarray .int, 2) := by decide +kernel
theorem d_Mo_init_80 : decode (M_Mo_init).cc 80 = .ok (.putfield 39, 3) := by decide +kernel
theorem d_Mo_init_83 : decode (M_Mo_init).cc 83 = .ok (.aload_n 0, 1) := by decide +kernel
theorem d_Mo_init_84 : decode (M_Mo_init).cc 84 = .ok (.bipush 6, 2) := by decide +kernel
theorem d_Mo_init_86 : decode (M_Mo_init).cc 86 = .ok (.newarray .boolean, 2) := by decide +kernel
theorem d_Mo_init_88 : decode (M_Mo_init).cc 88 = .ok (.putfield 42, 3) := by decide +kernel
theorem d_Mo_init_91 : decode (M_Mo_init).cc 91 = .ok (.aload_n 0, 1) := by decide +kernel
theorem d_Mo_init_92 : decode (M_Mo_init).cc 92 = .ok (.bipush 6, 2) := by decide +kernel
theorem d_Mo_init_94 : decode (M_Mo_init).cc 94 = .ok (.newarray .int, 2) := by decide +kernel
theorem d_Mo_init_96 : decode (M_Mo_init).cc 96 = .ok (.putfield 46, 3) := by decide +kernel
theorem d_Mo_init_99 : decode (M_Mo_init).cc 99 = .ok (.aload_n 0, 1) := by decide +kernel
theorem d_Mo_init_100 : decode (M_Mo_init).cc 100 = .ok (.bipush 36, 2) := by decide +kernel
theorem d_Mo_init_102 : decode (M_Mo_init).cc 102 = .ok (.newarray .int, 2) := by decide +kernel
theorem d_Mo_init_104 : decode (M_Mo_init).cc 104 = .ok (.putfield 49, 3) := by decide +kernel
theorem d_Mo_init_107 : decode (M_Mo_init).cc 107 = .ok (.aload_n 0, 1) := by decide +kernel
theorem d_Mo_init_108 : decode (M_Mo_init).cc 108 = .ok (.bipush 15, 2) := by decide +kernel
theorem d_Mo_init_110 : decode (M_Mo_init).cc 110 = .ok (.newarray .int, 2) := by decide +kernel
theorem d_Mo_init_112 : decode (M_Mo_init).cc 112 = .ok (.putfield 52, 3) := by decide +kernel
theorem d_Mo_init_115 : decode (M_Mo_init).cc 115 = .ok (.aload_n 0, 1) := by decide +kernel
theorem d_Mo_init_116 : decode (M_Mo_init).cc 116 = .ok (.bipush 10, 2) := by decide +kernel
theorem d_Mo_init_118 : decode (M_Mo_init).cc 118 = .ok (.newarray .int, 2) := by decide +kernel
theorem d_Mo_init_120 : decode (M_Mo_init).cc 120 = .ok (.putfield 55, 3) := by decide +kernel
theorem d_Mo_init_123 : decode (M_Mo_init).cc 123 = .ok (.aload_n 0, 1) := by decide +kernel
theorem d_Mo_init_124 : decode (M_Mo_init).cc 124 = .ok (.bipush 60, 2) := by decide +kernel
theorem d_Mo_init_126 : decode (M_Mo_init).cc 126 = .ok (.newarray .int, 2) := by decide +kernel
theorem d_Mo_init_128 : decode (M_Mo_init).cc 128 = .ok (.putfield 58, 3) := by decide +kernel
theorem d_Mo_init_131 : decode (M_Mo_init).cc 131 = .ok (.aload_n 0, 1) := by decide +kernel
theorem d_Mo_init_132 : decode (M_Mo_init).cc 132 = .ok (.bipush 10, 2) := by decide +kernel
theorem d_Mo_init_134 : decode (M_Mo_init).cc 134 = .ok (.newarray .int, 2) := by decide +kernel
theorem d_Mo_init_136 : decode (M_Mo_init).cc 136 = .ok (.putfield 61, 3) := by decide +kernel
theorem d_Mo_init_139 : decode (M_Mo_init).cc 139 = .ok (.aload_n 0, 1) := by decide +kernel
theorem d_Mo_init_140 : decode (M_Mo_init).cc 140 = .ok (.bipush 10, 2) := by decide +kernel
theorem d_Mo_init_142 : decode (M_Mo_init).cc 142 = .ok (.newarray .int, 2) := by decide +kernel
theorem d_Mo_init_144 : decode (M_Mo_init).cc 144 = .ok (.putfield 64, 3) := by decide +kernel
theorem d_Mo_init_147 : decode (M_Mo_init).cc 147 = .ok (.aload_n 0, 1) := by decide +kernel
theorem d_Mo_init_148 : decode (M_Mo_init).cc 148 = .ok (.bipush 6, 2) := by decide +kernel
theorem d_Mo_init_150 : decode (M_Mo_init).cc 150 = .ok (.newarray .int, 2) := by decide +kernel
theorem d_Mo_init_152 : decode (M_Mo_init).cc 152 = .ok (.putfield 67, 3) := by decide +kernel
theorem d_Mo_init_155 : decode (M_Mo_init).cc 155 = .ok (.aload_n 0, 1) := by decide +kernel
theorem d_Mo_init_156 : decode (M_Mo_init).cc 156 = .ok (.bipush 36, 2) := by decide +kernel
theorem d_Mo_init_158 : decode (M_Mo_init).cc 158 = .ok (.newarray .int, 2) := by decide +kernel
theorem d_Mo_init_160 : decode (M_Mo_init).cc 160 = .ok (.putfield 70, 3) := by decide +kernel
theorem d_Mo_init_163 : decode (M_Mo_init).cc 163 = .ok (.aload_n 0, 1) := by decide +kernel
theorem d_Mo_init_164 : decode (M_Mo_init).cc 164 = .ok (.bipush 6, 2) := by decide +kernel
theorem d_Mo_init_166 : decode (M_Mo_init).cc 166 = .ok (.newarray .int, 2) := by decide +kernel
theorem d_Mo_init_168 : decode (M_Mo_init).cc 168 = .ok (.putfield 73, 3) := by decide +kernel
theorem d_Mo_init_171 : decode (M_Mo_init).cc 171 = .ok (.aload_n 0, 1) := by decide +kernel
theorem d_Mo_init_172 : decode (M_Mo_init).cc 172 = .ok (.bipush 6, 2) := by decide +kernel
theorem d_Mo_init_174 : decode (M_Mo_init).cc 174 = .ok (.newarray .boolean, 2) := by decide +kernel
theorem d_Mo_init_176 : decode (M_Mo_init).cc 176 = .ok (.putfield 76, 3) := by decide +kernel
theorem d_Mo_init_179 : decode (M_Mo_init).cc 179 = .ok (.aload_n 0, 1) := by decide +kernel
theorem d_Mo_init_180 : decode (M_Mo_init).cc 180 = .ok (.bipush 6, 2) := by decide +kernel
theorem d_Mo_init_182 : decode (M_Mo_init).cc 182 = .ok (.newarray .boolean, 2) := by decide +kernel
theorem d_Mo_init_184 : decode (M_Mo_init).cc 184 = .ok (.putfield 79, 3) := by decide +kernel
theorem d_Mo_init_187 : decode (M_Mo_init).cc 187 = .ok (.aload_n 0, 1) := by decide +kernel
theorem d_Mo_init_188 : decode (M_Mo_init).cc 188 = .ok (.bipush 6, 2) := by decide +kernel
theorem d_Mo_init_190 : decode (M_Mo_init).cc 190 = .ok (.newarray .int, 2) := by decide +kernel
theorem d_Mo_init_192 : decode (M_Mo_init).cc 192 = .ok (.putfield 82, 3) := by decide +kernel
theorem d_Mo_init_195 : decode (M_Mo_init).cc 195 = .ok (.return_, 1) := by decide +kernel
theorem d_Mo_thrown_0 : decode (M_Mo_thrown).cc 0 = .ok (.aload_n 0, 1) := by decide +kernel
theorem d_Mo_thrown_1 : decode (M_Mo_thrown).cc 1 = .ok (.getfield 85, 3) := by decide +kernel
theorem d_Mo_thrown_4 : decode (M_Mo_thrown).cc 4 = .ok (.ireturn, 1) := by decide +kernel
theorem d_Mo_type_0 : decode (M_Mo_type).cc 0 = .ok (.aload_n 0, 1) := by decide +kernel
theorem d_Mo_type_1 : decode (M_Mo_type).cc 1 = .ok (.aload_n 0, 1) := by decide +kernel
theorem d_Mo_type_2 : decode (M_Mo_type).cc 2 = .ok (.getfield 88, 3) := by decide +kernel
theorem d_Mo_type_5 : decode (M_Mo_type).cc 5 = .ok (.bipush 60, 2) := by decide +kernel
theorem d_Mo_type_7 : decode (M_Mo_type).cc 7 = .ok (.if_icmp .ne 7, 3) := by decide +kernel
theorem d_Mo_type_10 : decode (M_Mo_type).cc 10 = .ok (.iconst 1, 1) := by decide +kernel
theorem d_Mo_type_11 : decode (M_Mo_type).cc 11 = .ok (.goto 4, 3) := by decide +kernel
theorem d_Mo_type_14 : decode (M_Mo_type).cc 14 = .ok (.iconst 0, 1) := by decide +kernel
theorem d_Mo_type_15 : decode (M_Mo_type).cc 15 = .ok (.invokevirtual 91, 3) := by decide +kernel
theorem d_Mo_type_18 : decode (M_Mo_type).cc 18 = .ok (.ifCond .eq 5, 3) := by decide +kernel
theorem d_Mo_type_21 : decode (M_Mo_type).cc 21 = .ok (.iconst 0, 1) := by decide +kernel
theorem d_Mo_type_22 : decode (M_Mo_type).cc 22 = .ok (.ireturn, 1) := by decide +kernel
theorem d_Mo_type_23 : decode (M_Mo_type).cc 23 = .ok (.aload_n 0, 1) := by decide +kernel
theorem d_Mo_type_24 : decode (M_Mo_type).cc 24 = .ok (.getfield 7, 3) := by decide +kernel
theorem d_Mo_type_27 : decode (M_Mo_type).cc 27 = .ok (.aload_n 0, 1) := by decide +kernel
theorem d_Mo_type_28 : decode (M_Mo_type).cc 28 = .ok (.getfield 88, 3) := by decide +kernel
theorem d_Mo_type_31 : decode (M_Mo_type).cc 31 = .ok (.iload_n 1, 1) := by decide +kernel
theorem d_Mo_type_32 : decode (M_Mo_type).cc 32 = .ok (.castore, 1) := by decide +kernel
theorem d_Mo_type_33 : decode (M_Mo_type).cc 33 = .ok (.aload_n 0, 1) := by decide +kernel
theorem d_Mo_type_34 : decode (M_Mo_type).cc 34 = .ok (.dup, 1) := by decide +kernel
theorem d_Mo_type_35 : decode (M_Mo_type).cc 35 = .ok (.getfield 88, 3) := by decide +kernel
theorem d_Mo_type_38 : decode (M_Mo_type).cc 38 = .ok (.iconst 1, 1) := by decide +kernel
theorem d_Mo_type_39 : decode (M_Mo_type).cc 39 = .ok (.iadd, 1) := by decide +kernel
theorem d_Mo_type_40 : decode (M_Mo_type).cc 40 = .ok (.putfield 88, 3) := by decide +kernel
theorem d_Mo_type_43 : decode (M_Mo_type).cc 43 = .ok (.aload_n 0, 1) := by decide +kernel
theorem d_Mo_type_44 : decode (M_Mo_type).cc 44 = .ok (.getfield 88, 3) := by decide +kernel
theorem d_Mo_type_47 : decode (M_Mo_type).cc 47 = .ok (.ireturn, 1) := by decide +kernel
theorem d_Mo_refused_0 : decode (M_Mo_refused).cc 0 = .ok (.aload_n 0, 1) := by decide +kernel
theorem d_Mo_refused_1 : decode (M_Mo_refused).cc 1 = .ok (.iload_n 1, 1) := by decide +kernel
theorem d_Mo_refused_2 : decode (M_Mo_refused).cc 2 = .ok (.putfield 85, 3) := by decide +kernel
theorem d_Mo_refused_5 : decode (M_Mo_refused).cc 5 = .ok (.iload_n 1, 1) := by decide +kernel
theorem d_Mo_refused_6 : decode (M_Mo_refused).cc 6 = .ok (.ifCond .le 7, 3) := by decide +kernel
theorem d_Mo_refused_9 : decode (M_Mo_refused).cc 9 = .ok (.iconst 1, 1) := by decide +kernel
theorem d_Mo_refused_10 : decode (M_Mo_refused).cc 10 = .ok (.goto 4, 3) := by decide +kernel
theorem d_Mo_refused_13 : decode (M_Mo_refused).cc 13 = .ok (.iconst 0, 1) := by decide +kernel
theorem d_Mo_refused_14 : decode (M_Mo_refused).cc 14 = .ok (.ireturn, 1) := by decide +kernel
theorem d_Mo_erase_0 : decode (M_Mo_erase).cc 0 = .ok (.aload_n 0, 1) := by decide +kernel
theorem d_Mo_erase_1 : decode (M_Mo_erase).cc 1 = .ok (.iconst 0, 1) := by decide +kernel
theorem d_Mo_erase_2 : decode (M_Mo_erase).cc 2 = .ok (.putfield 85, 3) := by decide +kernel
theorem d_Mo_erase_5 : decode (M_Mo_erase).cc 5 = .ok (.aload_n 0, 1) := by decide +kernel
theorem d_Mo_erase_6 : decode (M_Mo_erase).cc 6 = .ok (.getfield 88, 3) := by decide +kernel
theorem d_Mo_erase_9 : decode (M_Mo_erase).cc 9 = .ok (.istore_n 1, 1) := by decide +kernel
theorem d_Mo_erase_10 : decode (M_Mo_erase).cc 10 = .ok (.aload_n 0, 1) := by decide +kernel
theorem d_Mo_erase_11 : decode (M_Mo_erase).cc 11 = .ok (.iconst 0, 1) := by decide +kernel
theorem d_Mo_erase_12 : decode (M_Mo_erase).cc 12 = .ok (.putfield 88, 3) := by decide +kernel
theorem d_Mo_erase_15 : decode (M_Mo_erase).cc 15 = .ok (.iload_n 1, 1) := by decide +kernel
theorem d_Mo_erase_16 : decode (M_Mo_erase).cc 16 = .ok (.ireturn, 1) := by decide +kernel
theorem d_Mo_character_0 : decode (M_Mo_character).cc 0 = .ok (.aload_n 0, 1) := by decide +kernel
theorem d_Mo_character_1 : decode (M_Mo_character).cc 1 = .ok (.iconst 0, 1) := by decide +kernel
theorem d_Mo_character_2 : decode (M_Mo_character).cc 2 = .ok (.putfield 85, 3) := by decide +kernel
theorem d_Mo_character_5 : decode (M_Mo_character).cc 5 = .ok (.iload_n 1, 1) := by decide +kernel
theorem d_Mo_character_6 : decode (M_Mo_character).cc 6 = .ok (.ifCond .lt 20, 3) := by decide +kernel
theorem d_Mo_character_9 : decode (M_Mo_character).cc 9 = .ok (.iload_n 1, 1) := by decide +kernel
theorem d_Mo_character_10 : decode (M_Mo_character).cc 10 = .ok (.aload_n 0, 1) := by decide +kernel
theorem d_Mo_character_11 : decode (M_Mo_character).cc 11 = .ok (.getfield 88, 3) := by decide +kernel
theorem d_Mo_character_14 : decode (M_Mo_character).cc 14 = .ok (.if_icmp .ge 12, 3) := by decide +kernel
theorem d_Mo_character_17 : decode (M_Mo_character).cc 17 = .ok (.aload_n 0, 1) := by decide +kernel
theorem d_Mo_character_18 : decode (M_Mo_character).cc 18 = .ok (.getfield 7, 3) := by decide +kernel
theorem d_Mo_character_21 : decode (M_Mo_character).cc 21 = .ok (.iload_n 1, 1) := by decide +kernel
theorem d_Mo_character_22 : decode (M_Mo_character).cc 22 = .ok (.caload, 1) := by decide +kernel
theorem d_Mo_character_23 : decode (M_Mo_character).cc 23 = .ok (.goto 5, 3) := by decide +kernel
theorem d_Mo_character_26 : decode (M_Mo_character).cc 26 = .ok (.bipush 32, 2) := by decide +kernel
theorem d_Mo_character_28 : decode (M_Mo_character).cc 28 = .ok (.ireturn, 1) := by decide +kernel
theorem d_Mo_elementAt_0 : decode (M_Mo_elementAt).cc 0 = .ok (.aload_n 0, 1) := by decide +kernel
theorem d_Mo_elementAt_1 : decode (M_Mo_elementAt).cc 1 = .ok (.iload_n 1, 1) := by decide +kernel
theorem d_Mo_elementAt_2 : decode (M_Mo_elementAt).cc 2 = .ok (.invokevirtual 95, 3) := by decide +kernel
theorem d_Mo_elementAt_5 : decode (M_Mo_elementAt).cc 5 = .ok (.istore_n 2, 1) := by decide +kernel
theorem d_Mo_elementAt_6 : decode (M_Mo_elementAt).cc 6 = .ok (.aload_n 0, 1) := by decide +kernel
theorem d_Mo_elementAt_7 : decode (M_Mo_elementAt).cc 7 = .ok (.iload_n 1, 1) := by decide +kernel
theorem d_Mo_elementAt_8 : decode (M_Mo_elementAt).cc 8 = .ok (.iconst 1, 1) := by decide +kernel
theorem d_Mo_elementAt_9 : decode (M_Mo_elementAt).cc 9 = .ok (.iadd, 1) := by decide +kernel
theorem d_Mo_elementAt_10 : decode (M_Mo_elementAt).cc 10 = .ok (.invokevirtual 95, 3) := by decide +kernel
theorem d_Mo_elementAt_13 : decode (M_Mo_elementAt).cc 13 = .ok (.istore_n 3, 1) := by decide +kernel
theorem d_Mo_elementAt_14 : decode (M_Mo_elementAt).cc 14 = .ok (.iload_n 2, 1) := by decide +kernel
theorem d_Mo_elementAt_15 : decode (M_Mo_elementAt).cc 15 = .ok (.bipush 67, 2) := by decide +kernel
theorem d_Mo_elementAt_17 : decode (M_Mo_elementAt).cc 17 = .ok (.if_icmp .ne 12, 3) := by decide +kernel
theorem d_Mo_elementAt_20 : decode (M_Mo_elementAt).cc 20 = .ok (.iload_n 3, 1) := by decide +kernel
theorem d_Mo_elementAt_21 : decode (M_Mo_elementAt).cc 21 = .ok (.bipush 108, 2) := by decide +kernel
theorem d_Mo_elementAt_23 : decode (M_Mo_elementAt).cc 23 = .ok (.if_icmp .ne 6, 3) := by decide +kernel
theorem d_Mo_elementAt_26 : decode (M_Mo_elementAt).cc 26 = .ok (.bipush 6, 2) := by decide +kernel
theorem d_Mo_elementAt_28 : decode (M_Mo_elementAt).cc 28 = .ok (.ireturn, 1) := by decide +kernel
theorem d_Mo_elementAt_29 : decode (M_Mo_elementAt).cc 29 = .ok (.iload_n 2, 1) := by decide +kernel
theorem d_Mo_elementAt_30 : decode (M_Mo_elementAt).cc 30 = .ok (.bipush 66, 2) := by decide +kernel
theorem d_Mo_elementAt_32 : decode (M_Mo_elementAt).cc 32 = .ok (.if_icmp .ne 16, 3) := by decide +kernel
theorem d_Mo_elementAt_35 : decode (M_Mo_elementAt).cc 35 = .ok (.iload_n 3, 1) := by decide +kernel
theorem d_Mo_elementAt_36 : decode (M_Mo_elementAt).cc 36 = .ok (.bipush 114, 2) := by decide +kernel
theorem d_Mo_elementAt_38 : decode (M_Mo_elementAt).cc 38 = .ok (.if_icmp .ne 8, 3) := by decide +kernel
theorem d_Mo_elementAt_41 : decode (M_Mo_elementAt).cc 41 = .ok (.bipush 7, 2) := by decide +kernel
theorem d_Mo_elementAt_43 : decode (M_Mo_elementAt).cc 43 = .ok (.goto 4, 3) := by decide +kernel
theorem d_Mo_elementAt_46 : decode (M_Mo_elementAt).cc 46 = .ok (.iconst (-1), 1) := by decide +kernel
theorem d_Mo_elementAt_47 : decode (M_Mo_elementAt).cc 47 = .ok (.ireturn, 1) := by decide +kernel
theorem d_Mo_elementAt_48 : decode (M_Mo_elementAt).cc 48 = .ok (.iload_n 2, 1) := by decide +kernel
theorem d_Mo_elementAt_49 : decode (M_Mo_elementAt).cc 49 = .ok (.bipush 67, 2) := by decide +kernel
theorem d_Mo_elementAt_51 : decode (M_Mo_elementAt).cc 51 = .ok (.if_icmp .ne 7, 3) := by decide +kernel
theorem d_Mo_elementAt_54 : decode (M_Mo_elementAt).cc 54 = .ok (.iconst 0, 1) := by decide +kernel
theorem d_Mo_elementAt_55 : decode (M_Mo_elementAt).cc 55 = .ok (.goto 76, 3) := by decide +kernel
theorem d_Mo_elementAt_58 : decode (M_Mo_elementAt).cc 58 = .ok (.iload_n 2, 1) := by decide +kernel
theorem d_Mo_elementAt_59 : decode (M_Mo_elementAt).cc 59 = .ok (.bipush 78, 2) := by decide +kernel
theorem d_Mo_elementAt_61 : decode (M_Mo_elementAt).cc 61 = .ok (.if_icmp .ne 7, 3) := by decide +kernel
theorem d_Mo_elementAt_64 : decode (M_Mo_elementAt).cc 64 = .ok (.iconst 1, 1) := by decide +kernel
theorem d_Mo_elementAt_65 : decode (M_Mo_elementAt).cc 65 = .ok (.goto 66, 3) := by decide +kernel
theorem d_Mo_elementAt_68 : decode (M_Mo_elementAt).cc 68 = .ok (.iload_n 2, 1) := by decide +kernel
theorem d_Mo_elementAt_69 : decode (M_Mo_elementAt).cc 69 = .ok (.bipush 79, 2) := by decide +kernel
theorem d_Mo_elementAt_71 : decode (M_Mo_elementAt).cc 71 = .ok (.if_icmp .ne 7, 3) := by decide +kernel
theorem d_Mo_elementAt_74 : decode (M_Mo_elementAt).cc 74 = .ok (.iconst 2, 1) := by decide +kernel
theorem d_Mo_elementAt_75 : decode (M_Mo_elementAt).cc 75 = .ok (.goto 56, 3) := by decide +kernel
theorem d_Mo_elementAt_78 : decode (M_Mo_elementAt).cc 78 = .ok (.iload_n 2, 1) := by decide +kernel
theorem d_Mo_elementAt_79 : decode (M_Mo_elementAt).cc 79 = .ok (.bipush 83, 2) := by decide +kernel
theorem d_Mo_elementAt_81 : decode (M_Mo_elementAt).cc 81 = .ok (.if_icmp .ne 7, 3) := by decide +kernel
theorem d_Mo_elementAt_84 : decode (M_Mo_elementAt).cc 84 = .ok (.iconst 3, 1) := by decide +kernel
theorem d_Mo_elementAt_85 : decode (M_Mo_elementAt).cc 85 = .ok (.goto 46, 3) := by decide +kernel
theorem d_Mo_elementAt_88 : decode (M_Mo_elementAt).cc 88 = .ok (.iload_n 2, 1) := by decide +kernel
theorem d_Mo_elementAt_89 : decode (M_Mo_elementAt).cc 89 = .ok (.bipush 80, 2) := by decide +kernel
theorem d_Mo_elementAt_91 : decode (M_Mo_elementAt).cc 91 = .ok (.if_icmp .ne 7, 3) := by decide +kernel
theorem d_Mo_elementAt_94 : decode (M_Mo_elementAt).cc 94 = .ok (.iconst 4, 1) := by decide +kernel
theorem d_Mo_elementAt_95 : decode (M_Mo_elementAt).cc 95 = .ok (.goto 36, 3) := by decide +kernel
theorem d_Mo_elementAt_98 : decode (M_Mo_elementAt).cc 98 = .ok (.iload_n 2, 1) := by decide +kernel
theorem d_Mo_elementAt_99 : decode (M_Mo_elementAt).cc 99 = .ok (.bipush 70, 2) := by decide +kernel
theorem d_Mo_elementAt_101 : decode (M_Mo_elementAt).cc 101 = .ok (.if_icmp .ne 7, 3) := by decide +kernel
theorem d_Mo_elementAt_104 : decode (M_Mo_elementAt).cc 104 = .ok (.iconst 5, 1) := by decide +kernel
theorem d_Mo_elementAt_105 : decode (M_Mo_elementAt).cc 105 = .ok (.goto 26, 3) := by decide +kernel
theorem d_Mo_elementAt_108 : decode (M_Mo_elementAt).cc 108 = .ok (.iload_n 2, 1) := by decide +kernel
theorem d_Mo_elementAt_109 : decode (M_Mo_elementAt).cc 109 = .ok (.bipush 73, 2) := by decide +kernel
theorem d_Mo_elementAt_111 : decode (M_Mo_elementAt).cc 111 = .ok (.if_icmp .ne 8, 3) := by decide +kernel
theorem d_Mo_elementAt_114 : decode (M_Mo_elementAt).cc 114 = .ok (.bipush 8, 2) := by decide +kernel
theorem d_Mo_elementAt_116 : decode (M_Mo_elementAt).cc 116 = .ok (.goto 15, 3) := by decide +kernel
theorem d_Mo_elementAt_119 : decode (M_Mo_elementAt).cc 119 = .ok (.iload_n 2, 1) := by decide +kernel
theorem d_Mo_elementAt_120 : decode (M_Mo_elementAt).cc 120 = .ok (.bipush 72, 2) := by decide +kernel
theorem d_Mo_elementAt_122 : decode (M_Mo_elementAt).cc 122 = .ok (.if_icmp .ne 8, 3) := by decide +kernel
theorem d_Mo_elementAt_125 : decode (M_Mo_elementAt).cc 125 = .ok (.bipush 9, 2) := by decide +kernel
theorem d_Mo_elementAt_127 : decode (M_Mo_elementAt).cc 127 = .ok (.goto 4, 3) := by decide +kernel
theorem d_Mo_elementAt_130 : decode (M_Mo_elementAt).cc 130 = .ok (.iconst (-1), 1) := by decide +kernel
theorem d_Mo_elementAt_131 : decode (M_Mo_elementAt).cc 131 = .ok (.ireturn, 1) := by decide +kernel
theorem d_Mo_at_0 : decode (M_Mo_at).cc 0 = .ok (.iload_n 1, 1) := by decide +kernel
theorem d_Mo_at_1 : decode (M_Mo_at).cc 1 = .ok (.ifCond .lt 20, 3) := by decide +kernel
theorem d_Mo_at_4 : decode (M_Mo_at).cc 4 = .ok (.iload_n 1, 1) := by decide +kernel
theorem d_Mo_at_5 : decode (M_Mo_at).cc 5 = .ok (.aload_n 0, 1) := by decide +kernel
theorem d_Mo_at_6 : decode (M_Mo_at).cc 6 = .ok (.getfield 88, 3) := by decide +kernel
theorem d_Mo_at_9 : decode (M_Mo_at).cc 9 = .ok (.if_icmp .ge 12, 3) := by decide +kernel
theorem d_Mo_at_12 : decode (M_Mo_at).cc 12 = .ok (.aload_n 0, 1) := by decide +kernel
theorem d_Mo_at_13 : decode (M_Mo_at).cc 13 = .ok (.getfield 7, 3) := by decide +kernel
theorem d_Mo_at_16 : decode (M_Mo_at).cc 16 = .ok (.iload_n 1, 1) := by decide +kernel
theorem d_Mo_at_17 : decode (M_Mo_at).cc 17 = .ok (.caload, 1) := by decide +kernel
theorem d_Mo_at_18 : decode (M_Mo_at).cc 18 = .ok (.goto 4, 3) := by decide +kernel
theorem d_Mo_at_21 : decode (M_Mo_at).cc 21 = .ok (.iconst 0, 1) := by decide +kernel
theorem d_Mo_at_22 : decode (M_Mo_at).cc 22 = .ok (.ireturn, 1) := by decide +kernel
theorem d_Mo_fault_0 : decode (M_Mo_fault).cc 0 = .ok (.aload_n 0, 1) := by decide +kernel
theorem d_Mo_fault_1 : decode (M_Mo_fault).cc 1 = .ok (.iload_n 2, 1) := by decide +kernel
theorem d_Mo_fault_2 : decode (M_Mo_fault).cc 2 = .ok (.putfield 13, 3) := by decide +kernel
theorem d_Mo_fault_5 : decode (M_Mo_fault).cc 5 = .ok (.iload_n 1, 1) := by decide +kernel
theorem d_Mo_fault_6 : decode (M_Mo_fault).cc 6 = .ok (.ireturn, 1) := by decide +kernel
theorem d_Mo_signSize_0 : decode (M_Mo_signSize).cc 0 = .ok (.iload_n 0, 1) := by decide +kernel
theorem d_Mo_signSize_1 : decode (M_Mo_signSize).cc 1 = .ok (.bipush 6, 2) := by decide +kernel
theorem d_Mo_signSize_3 : decode (M_Mo_signSize).cc 3 = .ok (.if_icmp .eq 9, 3) := by decide +kernel
theorem d_Mo_signSize_6 : decode (M_Mo_signSize).cc 6 = .ok (.iload_n 0, 1) := by decide +kernel
theorem d_Mo_signSize_7 : decode (M_Mo_signSize).cc 7 = .ok (.bipush 7, 2) := by decide +kernel
theorem d_Mo_signSize_9 : decode (M_Mo_signSize).cc 9 = .ok (.if_icmp .ne 7, 3) := by decide +kernel
theorem d_Mo_signSize_12 : decode (M_Mo_signSize).cc 12 = .ok (.iconst 2, 1) := by decide +kernel
theorem d_Mo_signSize_13 : decode (M_Mo_signSize).cc 13 = .ok (.goto 4, 3) := by decide +kernel
theorem d_Mo_signSize_16 : decode (M_Mo_signSize).cc 16 = .ok (.iconst 1, 1) := by decide +kernel
theorem d_Mo_signSize_17 : decode (M_Mo_signSize).cc 17 = .ok (.ireturn, 1) := by decide +kernel
theorem d_Mo_isDigit_0 : decode (M_Mo_isDigit).cc 0 = .ok (.iload_n 0, 1) := by decide +kernel
theorem d_Mo_isDigit_1 : decode (M_Mo_isDigit).cc 1 = .ok (.bipush 48, 2) := by decide +kernel
theorem d_Mo_isDigit_3 : decode (M_Mo_isDigit).cc 3 = .ok (.if_icmp .lt 13, 3) := by decide +kernel
theorem d_Mo_isDigit_6 : decode (M_Mo_isDigit).cc 6 = .ok (.iload_n 0, 1) := by decide +kernel
theorem d_Mo_isDigit_7 : decode (M_Mo_isDigit).cc 7 = .ok (.bipush 57, 2) := by decide +kernel
theorem d_Mo_isDigit_9 : decode (M_Mo_isDigit).cc 9 = .ok (.if_icmp .gt 7, 3) := by decide +kernel
theorem d_Mo_isDigit_12 : decode (M_Mo_isDigit).cc 12 = .ok (.iconst 1, 1) := by decide +kernel
theorem d_Mo_isDigit_13 : decode (M_Mo_isDigit).cc 13 = .ok (.goto 4, 3) := by decide +kernel
theorem d_Mo_isDigit_16 : decode (M_Mo_isDigit).cc 16 = .ok (.iconst 0, 1) := by decide +kernel
theorem d_Mo_isDigit_17 : decode (M_Mo_isDigit).cc 17 = .ok (.ireturn, 1) := by decide +kernel
theorem d_Mo_valence_0 : decode (M_Mo_valence).cc 0 = .ok (.iload_n 0, 1) := by decide +kernel
theorem d_Mo_valence_1 : decode (M_Mo_valence).cc 1 = .ok (.ifCond .ne 7, 3) := by decide +kernel
theorem d_Mo_valence_4 : decode (M_Mo_valence).cc 4 = .ok (.iconst 4, 1) := by decide +kernel
theorem d_Mo_valence_5 : decode (M_Mo_valence).cc 5 = .ok (.goto 32, 3) := by decide +kernel
theorem d_Mo_valence_8 : decode (M_Mo_valence).cc 8 = .ok (.iload_n 0, 1) := by decide +kernel
theorem d_Mo_valence_9 : decode (M_Mo_valence).cc 9 = .ok (.iconst 1, 1) := by decide +kernel
theorem d_Mo_valence_10 : decode (M_Mo_valence).cc 10 = .ok (.if_icmp .eq 8, 3) := by decide +kernel
theorem d_Mo_valence_13 : decode (M_Mo_valence).cc 13 = .ok (.iload_n 0, 1) := by decide +kernel
theorem d_Mo_valence_14 : decode (M_Mo_valence).cc 14 = .ok (.iconst 4, 1) := by decide +kernel
theorem d_Mo_valence_15 : decode (M_Mo_valence).cc 15 = .ok (.if_icmp .ne 7, 3) := by decide +kernel
theorem d_Mo_valence_18 : decode (M_Mo_valence).cc 18 = .ok (.iconst 3, 1) := by decide +kernel
theorem d_Mo_valence_19 : decode (M_Mo_valence).cc 19 = .ok (.goto 18, 3) := by decide +kernel
theorem d_Mo_valence_22 : decode (M_Mo_valence).cc 22 = .ok (.iload_n 0, 1) := by decide +kernel
theorem d_Mo_valence_23 : decode (M_Mo_valence).cc 23 = .ok (.iconst 2, 1) := by decide +kernel
theorem d_Mo_valence_24 : decode (M_Mo_valence).cc 24 = .ok (.if_icmp .eq 8, 3) := by decide +kernel
theorem d_Mo_valence_27 : decode (M_Mo_valence).cc 27 = .ok (.iload_n 0, 1) := by decide +kernel
theorem d_Mo_valence_28 : decode (M_Mo_valence).cc 28 = .ok (.iconst 3, 1) := by decide +kernel
theorem d_Mo_valence_29 : decode (M_Mo_valence).cc 29 = .ok (.if_icmp .ne 7, 3) := by decide +kernel
theorem d_Mo_valence_32 : decode (M_Mo_valence).cc 32 = .ok (.iconst 2, 1) := by decide +kernel
theorem d_Mo_valence_33 : decode (M_Mo_valence).cc 33 = .ok (.goto 4, 3) := by decide +kernel
theorem d_Mo_valence_36 : decode (M_Mo_valence).cc 36 = .ok (.iconst 1, 1) := by decide +kernel
theorem d_Mo_valence_37 : decode (M_Mo_valence).cc 37 = .ok (.ireturn, 1) := by decide +kernel
theorem d_Mo_search_0 : decode (M_Mo_search).cc 0 = .ok (.aload_n 0, 1) := by decide +kernel
theorem d_Mo_search_1 : decode (M_Mo_search).cc 1 = .ok (.getfield 117, 3) := by decide +kernel
theorem d_Mo_search_4 : decode (M_Mo_search).cc 4 = .ok (.aload_n 0, 1) := by decide +kernel
theorem d_Mo_search_5 : decode (M_Mo_search).cc 5 = .ok (.getfield 117, 3) := by decide +kernel
theorem d_Mo_search_8 : decode (M_Mo_search).cc 8 = .ok (.iconst 1, 1) := by decide +kernel
theorem d_Mo_search_9 : decode (M_Mo_search).cc 9 = .ok (.isub, 1) := by decide +kernel
theorem d_Mo_search_10 : decode (M_Mo_search).cc 10 = .ok (.imul, 1) := by decide +kernel
theorem d_Mo_search_11 : decode (M_Mo_search).cc 11 = .ok (.iconst 2, 1) := by decide +kernel
theorem d_Mo_search_12 : decode (M_Mo_search).cc 12 = .ok (.idiv, 1) := by decide +kernel
theorem d_Mo_search_13 : decode (M_Mo_search).cc 13 = .ok (.istore_n 1, 1) := by decide +kernel
theorem d_Mo_search_14 : decode (M_Mo_search).cc 14 = .ok (.iconst 0, 1) := by decide +kernel
theorem d_Mo_search_15 : decode (M_Mo_search).cc 15 = .ok (.istore_n 2, 1) := by decide +kernel
theorem d_Mo_search_16 : decode (M_Mo_search).cc 16 = .ok (.aload_n 0, 1) := by decide +kernel
theorem d_Mo_search_17 : decode (M_Mo_search).cc 17 = .ok (.getfield 33, 3) := by decide +kernel
theorem d_Mo_search_20 : decode (M_Mo_search).cc 20 = .ok (.iconst 0, 1) := by decide +kernel
theorem d_Mo_search_21 : decode (M_Mo_search).cc 21 = .ok (.iconst 3, 1) := by decide +kernel
theorem d_Mo_search_22 : decode (M_Mo_search).cc 22 = .ok (.iastore, 1) := by decide +kernel
theorem d_Mo_search_23 : decode (M_Mo_search).cc 23 = .ok (.iload_n 2, 1) := by decide +kernel
theorem d_Mo_search_24 : decode (M_Mo_search).cc 24 = .ok (.ifCond .lt 180, 3) := by decide +kernel
theorem d_Mo_search_27 : decode (M_Mo_search).cc 27 = .ok (.aload_n 0, 1) := by decide +kernel
theorem d_Mo_search_28 : decode (M_Mo_search).cc 28 = .ok (.getfield 120, 3) := by decide +kernel
theorem d_Mo_search_31 : decode (M_Mo_search).cc 31 = .ok (.sipush 500, 3) := by decide +kernel
theorem d_Mo_search_34 : decode (M_Mo_search).cc 34 = .ok (.if_icmp .gt 170, 3) := by decide +kernel
theorem d_Mo_search_37 : decode (M_Mo_search).cc 37 = .ok (.iload_n 2, 1) := by decide +kernel
theorem d_Mo_search_38 : decode (M_Mo_search).cc 38 = .ok (.iload_n 1, 1) := by decide +kernel
theorem d_Mo_search_39 : decode (M_Mo_search).cc 39 = .ok (.if_icmp .ne 30, 3) := by decide +kernel
theorem d_Mo_search_42 : decode (M_Mo_search).cc 42 = .ok (.aload_n 0, 1) := by decide +kernel
theorem d_Mo_search_43 : decode (M_Mo_search).cc 43 = .ok (.iload_n 1, 1) := by decide +kernel
theorem d_Mo_search_44 : decode (M_Mo_search).cc 44 = .ok (.invokevirtual 144, 3) := by decide +kernel
theorem d_Mo_search_47 : decode (M_Mo_search).cc 47 = .ok (.iinc 2 (-1), 3) := by decide +kernel
theorem d_Mo_search_50 : decode (M_Mo_search).cc 50 = .ok (.iload_n 2, 1) := by decide +kernel
theorem d_Mo_search_51 : decode (M_Mo_search).cc 51 = .ok (.ifCond .lt (-28), 3) := by decide +kernel
theorem d_Mo_search_54 : decode (M_Mo_search).cc 54 = .ok (.aload_n 0, 1) := by decide +kernel
theorem d_Mo_search_55 : decode (M_Mo_search).cc 55 = .ok (.iload_n 2, 1) := by decide +kernel
theorem d_Mo_search_56 : decode (M_Mo_search).cc 56 = .ok (.aload_n 0, 1) := by decide +kernel
theorem d_Mo_search_57 : decode (M_Mo_search).cc 57 = .ok (.getfield 27, 3) := by decide +kernel
theorem d_Mo_search_60 : decode (M_Mo_search).cc 60 = .ok (.iload_n 2, 1) := by decide +kernel
theorem d_Mo_search_61 : decode (M_Mo_search).cc 61 = .ok (.iaload, 1) := by decide +kernel
theorem d_Mo_search_62 : decode (M_Mo_search).cc 62 = .ok (.ineg, 1) := by decide +kernel
theorem d_Mo_search_63 : decode (M_Mo_search).cc 63 = .ok (.invokevirtual 148, 3) := by decide +kernel
theorem d_Mo_search_66 : decode (M_Mo_search).cc 66 = .ok (.goto (-43), 3) := by decide +kernel
theorem d_Mo_search_69 : decode (M_Mo_search).cc 69 = .ok (.aload_n 0, 1) := by decide +kernel
theorem d_Mo_search_70 : decode (M_Mo_search).cc 70 = .ok (.getfield 33, 3) := by decide +kernel
theorem d_Mo_search_73 : decode (M_Mo_search).cc 73 = .ok (.iload_n 2, 1) := by decide +kernel
theorem d_Mo_search_74 : decode (M_Mo_search).cc 74 = .ok (.iaload, 1) := by decide +kernel
theorem d_Mo_search_75 : decode (M_Mo_search).cc 75 = .ok (.aload_n 0, 1) := by decide +kernel
theorem d_Mo_search_76 : decode (M_Mo_search).cc 76 = .ok (.getfield 123, 3) := by decide +kernel
theorem d_Mo_search_79 : decode (M_Mo_search).cc 79 = .ok (.invokestatic 152, 3) := by decide +kernel
theorem d_Mo_search_82 : decode (M_Mo_search).cc 82 = .ok (.aload_n 0, 1) := by decide +kernel
theorem d_Mo_search_83 : decode (M_Mo_search).cc 83 = .ok (.getfield 30, 3) := by decide +kernel
theorem d_Mo_search_86 : decode (M_Mo_search).cc 86 = .ok (.iload_n 2, 1) := by decide +kernel
theorem d_Mo_search_87 : decode (M_Mo_search).cc 87 = .ok (.invokestatic 138, 3) := by decide +kernel
theorem d_Mo_search_90 : decode (M_Mo_search).cc 90 = .ok (.iaload, 1) := by decide +kernel
theorem d_Mo_search_91 : decode (M_Mo_search).cc 91 = .ok (.aload_n 0, 1) := by decide +kernel
theorem d_Mo_search_92 : decode (M_Mo_search).cc 92 = .ok (.getfield 30, 3) := by decide +kernel
theorem d_Mo_search_95 : decode (M_Mo_search).cc 95 = .ok (.iload_n 2, 1) := by decide +kernel
theorem d_Mo_search_96 : decode (M_Mo_search).cc 96 = .ok (.invokestatic 141, 3) := by decide +kernel
theorem d_Mo_search_99 : decode (M_Mo_search).cc 99 = .ok (.iaload, 1) := by decide +kernel
theorem d_Mo_search_100 : decode (M_Mo_search).cc 100 = .ok (.invokestatic 152, 3) := by decide +kernel
theorem d_Mo_search_103 : decode (M_Mo_search).cc 103 = .ok (.invokestatic 152, 3) := by decide +kernel
theorem d_Mo_search_106 : decode (M_Mo_search).cc 106 = .ok (.istore_n 3, 1) := by decide +kernel
theorem d_Mo_search_107 : decode (M_Mo_search).cc 107 = .ok (.iload_n 3, 1) := by decide +kernel
theorem d_Mo_search_108 : decode (M_Mo_search).cc 108 = .ok (.ifCond .ge 25, 3) := by decide +kernel
theorem d_Mo_search_111 : decode (M_Mo_search).cc 111 = .ok (.iinc 2 (-1), 3) := by decide +kernel
theorem d_Mo_search_114 : decode (M_Mo_search).cc 114 = .ok (.iload_n 2, 1) := by decide +kernel
theorem d_Mo_search_115 : decode (M_Mo_search).cc 115 = .ok (.ifCond .lt 86, 3) := by decide +kernel
theorem d_Mo_search_118 : decode (M_Mo_search).cc 118 = .ok (.aload_n 0, 1) := by decide +kernel
theorem d_Mo_search_119 : decode (M_Mo_search).cc 119 = .ok (.iload_n 2, 1) := by decide +kernel
theorem d_Mo_search_120 : decode (M_Mo_search).cc 120 = .ok (.aload_n 0, 1) := by decide +kernel
theorem d_Mo_search_121 : decode (M_Mo_search).cc 121 = .ok (.getfield 27, 3) := by decide +kernel
theorem d_Mo_search_124 : decode (M_Mo_search).cc 124 = .ok (.iload_n 2, 1) := by decide +kernel
theorem d_Mo_search_125 : decode (M_Mo_search).cc 125 = .ok (.iaload, 1) := by decide +kernel
theorem d_Mo_search_126 : decode (M_Mo_search).cc 126 = .ok (.ineg, 1) := by decide +kernel
theorem d_Mo_search_127 : decode (M_Mo_search).cc 127 = .ok (.invokevirtual 148, 3) := by decide +kernel
theorem d_Mo_search_130 : decode (M_Mo_search).cc 130 = .ok (.goto 71, 3) := by decide +kernel
theorem d_Mo_search_133 : decode (M_Mo_search).cc 133 = .ok (.aload_n 0, 1) := by decide +kernel
theorem d_Mo_search_134 : decode (M_Mo_search).cc 134 = .ok (.getfield 33, 3) := by decide +kernel
theorem d_Mo_search_137 : decode (M_Mo_search).cc 137 = .ok (.iload_n 2, 1) := by decide +kernel
theorem d_Mo_search_138 : decode (M_Mo_search).cc 138 = .ok (.iload_n 3, 1) := by decide +kernel
theorem d_Mo_search_139 : decode (M_Mo_search).cc 139 = .ok (.iconst 1, 1) := by decide +kernel
theorem d_Mo_search_140 : decode (M_Mo_search).cc 140 = .ok (.isub, 1) := by decide +kernel
theorem d_Mo_search_141 : decode (M_Mo_search).cc 141 = .ok (.iastore, 1) := by decide +kernel
theorem d_Mo_search_142 : decode (M_Mo_search).cc 142 = .ok (.aload_n 0, 1) := by decide +kernel
theorem d_Mo_search_143 : decode (M_Mo_search).cc 143 = .ok (.getfield 27, 3) := by decide +kernel
theorem d_Mo_search_146 : decode (M_Mo_search).cc 146 = .ok (.iload_n 2, 1) := by decide +kernel
theorem d_Mo_search_147 : decode (M_Mo_search).cc 147 = .ok (.iload_n 3, 1) := by decide +kernel
theorem d_Mo_search_148 : decode (M_Mo_search).cc 148 = .ok (.iastore, 1) := by decide +kernel
theorem d_Mo_search_149 : decode (M_Mo_search).cc 149 = .ok (.aload_n 0, 1) := by decide +kernel
theorem d_Mo_search_150 : decode (M_Mo_search).cc 150 = .ok (.iload_n 2, 1) := by decide +kernel
theorem d_Mo_search_151 : decode (M_Mo_search).cc 151 = .ok (.iload_n 3, 1) := by decide +kernel
theorem d_Mo_search_152 : decode (M_Mo_search).cc 152 = .ok (.invokevirtual 148, 3) := by decide +kernel
theorem d_Mo_search_155 : decode (M_Mo_search).cc 155 = .ok (.iload_n 2, 1) := by decide +kernel
theorem d_Mo_search_156 : decode (M_Mo_search).cc 156 = .ok (.invokestatic 141, 3) := by decide +kernel
theorem d_Mo_search_159 : decode (M_Mo_search).cc 159 = .ok (.iload_n 2, 1) := by decide +kernel
theorem d_Mo_search_160 : decode (M_Mo_search).cc 160 = .ok (.invokestatic 138, 3) := by decide +kernel
theorem d_Mo_search_163 : decode (M_Mo_search).cc 163 = .ok (.iconst 1, 1) := by decide +kernel
theorem d_Mo_search_164 : decode (M_Mo_search).cc 164 = .ok (.isub, 1) := by decide +kernel
theorem d_Mo_search_165 : decode (M_Mo_search).cc 165 = .ok (.if_icmp .ne 26, 3) := by decide +kernel
theorem d_Mo_search_168 : decode (M_Mo_search).cc 168 = .ok (.aload_n 0, 1) := by decide +kernel
theorem d_Mo_search_169 : decode (M_Mo_search).cc 169 = .ok (.iload_n 2, 1) := by decide +kernel
theorem d_Mo_search_170 : decode (M_Mo_search).cc 170 = .ok (.invokestatic 138, 3) := by decide +kernel
theorem d_Mo_search_173 : decode (M_Mo_search).cc 173 = .ok (.iconst 1, 1) := by decide +kernel
theorem d_Mo_search_174 : decode (M_Mo_search).cc 174 = .ok (.iadd, 1) := by decide +kernel
theorem d_Mo_search_175 : decode (M_Mo_search).cc 175 = .ok (.invokevirtual 155, 3) := by decide +kernel
theorem d_Mo_search_178 : decode (M_Mo_search).cc 178 = .ok (.ifCond .ge 13, 3) := by decide +kernel
theorem d_Mo_search_181 : decode (M_Mo_search).cc 181 = .ok (.aload_n 0, 1) := by decide +kernel
theorem d_Mo_search_182 : decode (M_Mo_search).cc 182 = .ok (.iload_n 2, 1) := by decide +kernel
theorem d_Mo_search_183 : decode (M_Mo_search).cc 183 = .ok (.iload_n 3, 1) := by decide +kernel
theorem d_Mo_search_184 : decode (M_Mo_search).cc 184 = .ok (.ineg, 1) := by decide +kernel
theorem d_Mo_search_185 : decode (M_Mo_search).cc 185 = .ok (.invokevirtual 148, 3) := by decide +kernel
theorem d_Mo_search_188 : decode (M_Mo_search).cc 188 = .ok (.goto 13, 3) := by decide +kernel
theorem d_Mo_search_191 : decode (M_Mo_search).cc 191 = .ok (.iinc 2 1, 3) := by decide +kernel
theorem d_Mo_search_194 : decode (M_Mo_search).cc 194 = .ok (.aload_n 0, 1) := by decide +kernel
theorem d_Mo_search_195 : decode (M_Mo_search).cc 195 = .ok (.getfield 33, 3) := by decide +kernel
theorem d_Mo_search_198 : decode (M_Mo_search).cc 198 = .ok (.iload_n 2, 1) := by decide +kernel
theorem d_Mo_search_199 : decode (M_Mo_search).cc 199 = .ok (.iconst 3, 1) := by decide +kernel
theorem d_Mo_search_200 : decode (M_Mo_search).cc 200 = .ok (.iastore, 1) := by decide +kernel
theorem d_Mo_search_201 : decode (M_Mo_search).cc 201 = .ok (.goto (-178), 3) := by decide +kernel
theorem d_Mo_search_204 : decode (M_Mo_search).cc 204 = .ok (.return_, 1) := by decide +kernel
theorem d_Mo_keep_0 : decode (M_Mo_keep).cc 0 = .ok (.aload_n 0, 1) := by decide +kernel
theorem d_Mo_keep_1 : decode (M_Mo_keep).cc 1 = .ok (.getfield 123, 3) := by decide +kernel
theorem d_Mo_keep_4 : decode (M_Mo_keep).cc 4 = .ok (.ifCond .gt 11, 3) := by decide +kernel
theorem d_Mo_keep_7 : decode (M_Mo_keep).cc 7 = .ok (.aload_n 0, 1) := by decide +kernel
theorem d_Mo_keep_8 : decode (M_Mo_keep).cc 8 = .ok (.iload_n 1, 1) := by decide +kernel
theorem d_Mo_keep_9 : decode (M_Mo_keep).cc 9 = .ok (.invokevirtual 158, 3) := by decide +kernel
theorem d_Mo_keep_12 : decode (M_Mo_keep).cc 12 = .ok (.ifCond .ne 4, 3) := by decide +kernel
theorem d_Mo_keep_15 : decode (M_Mo_keep).cc 15 = .ok (.return_, 1) := by decide +kernel
theorem d_Mo_keep_16 : decode (M_Mo_keep).cc 16 = .ok (.iconst 0, 1) := by decide +kernel
theorem d_Mo_keep_17 : decode (M_Mo_keep).cc 17 = .ok (.istore_n 2, 1) := by decide +kernel
theorem d_Mo_keep_18 : decode (M_Mo_keep).cc 18 = .ok (.iload_n 2, 1) := by decide +kernel
theorem d_Mo_keep_19 : decode (M_Mo_keep).cc 19 = .ok (.bipush 15, 2) := by decide +kernel
theorem d_Mo_keep_21 : decode (M_Mo_keep).cc 21 = .ok (.if_icmp .ge 38, 3) := by decide +kernel
theorem d_Mo_keep_24 : decode (M_Mo_keep).cc 24 = .ok (.aload_n 0, 1) := by decide +kernel
theorem d_Mo_keep_25 : decode (M_Mo_keep).cc 25 = .ok (.getfield 36, 3) := by decide +kernel
theorem d_Mo_keep_28 : decode (M_Mo_keep).cc 28 = .ok (.bipush 15, 2) := by decide +kernel
theorem d_Mo_keep_30 : decode (M_Mo_keep).cc 30 = .ok (.aload_n 0, 1) := by decide +kernel
theorem d_Mo_keep_31 : decode (M_Mo_keep).cc 31 = .ok (.getfield 120, 3) := by decide +kernel
theorem d_Mo_keep_34 : decode (M_Mo_keep).cc 34 = .ok (.imul, 1) := by decide +kernel
theorem d_Mo_keep_35 : decode (M_Mo_keep).cc 35 = .ok (.iload_n 2, 1) := by decide +kernel
theorem d_Mo_keep_36 : decode (M_Mo_keep).cc 36 = .ok (.iadd, 1) := by decide +kernel
theorem d_Mo_keep_37 : decode (M_Mo_keep).cc 37 = .ok (.iload_n 2, 1) := by decide +kernel
theorem d_Mo_keep_38 : decode (M_Mo_keep).cc 38 = .ok (.iload_n 1, 1) := by decide +kernel
theorem d_Mo_keep_39 : decode (M_Mo_keep).cc 39 = .ok (.if_icmp .ge 12, 3) := by decide +kernel
theorem d_Mo_keep_42 : decode (M_Mo_keep).cc 42 = .ok (.aload_n 0, 1) := by decide +kernel
theorem d_Mo_keep_43 : decode (M_Mo_keep).cc 43 = .ok (.getfield 27, 3) := by decide +kernel
theorem d_Mo_keep_46 : decode (M_Mo_keep).cc 46 = .ok (.iload_n 2, 1) := by decide +kernel
theorem d_Mo_keep_47 : decode (M_Mo_keep).cc 47 = .ok (.iaload, 1) := by decide +kernel
theorem d_Mo_keep_48 : decode (M_Mo_keep).cc 48 = .ok (.goto 4, 3) := by decide +kernel
theorem d_Mo_keep_51 : decode (M_Mo_keep).cc 51 = .ok (.iconst 0, 1) := by decide +kernel
theorem d_Mo_keep_52 : decode (M_Mo_keep).cc 52 = .ok (.iastore, 1) := by decide +kernel
theorem d_Mo_keep_53 : decode (M_Mo_keep).cc 53 = .ok (.iinc 2 1, 3) := by decide +kernel
theorem d_Mo_keep_56 : decode (M_Mo_keep).cc 56 = .ok (.goto (-38), 3) := by decide +kernel
theorem d_Mo_keep_59 : decode (M_Mo_keep).cc 59 = .ok (.aload_n 0, 1) := by decide +kernel
theorem d_Mo_keep_60 : decode (M_Mo_keep).cc 60 = .ok (.dup, 1) := by decide +kernel
theorem d_Mo_keep_61 : decode (M_Mo_keep).cc 61 = .ok (.getfield 120, 3) := by decide +kernel
theorem d_Mo_keep_64 : decode (M_Mo_keep).cc 64 = .ok (.iconst 1, 1) := by decide +kernel
theorem d_Mo_keep_65 : decode (M_Mo_keep).cc 65 = .ok (.iadd, 1) := by decide +kernel
theorem d_Mo_keep_66 : decode (M_Mo_keep).cc 66 = .ok (.putfield 120, 3) := by decide +kernel
theorem d_Mo_keep_69 : decode (M_Mo_keep).cc 69 = .ok (.return_, 1) := by decide +kernel
theorem d_Mo_isOne_0 : decode (M_Mo_isOne).cc 0 = .ok (.iconst 1, 1) := by decide +kernel
theorem d_Mo_isOne_1 : decode (M_Mo_isOne).cc 1 = .ok (.istore_n 2, 1) := by decide +kernel
theorem d_Mo_isOne_2 : decode (M_Mo_isOne).cc 2 = .ok (.iconst 0, 1) := by decide +kernel
theorem d_Mo_isOne_3 : decode (M_Mo_isOne).cc 3 = .ok (.istore_n 3, 1) := by decide +kernel
theorem d_Mo_isOne_4 : decode (M_Mo_isOne).cc 4 = .ok (.iload_n 3, 1) := by decide +kernel
theorem d_Mo_isOne_5 : decode (M_Mo_isOne).cc 5 = .ok (.bipush 6, 2) := by decide +kernel
theorem d_Mo_isOne_7 : decode (M_Mo_isOne).cc 7 = .ok (.if_icmp .ge 67, 3) := by decide +kernel
theorem d_Mo_isOne_10 : decode (M_Mo_isOne).cc 10 = .ok (.iconst 0, 1) := by decide +kernel
theorem d_Mo_isOne_11 : decode (M_Mo_isOne).cc 11 = .ok (.istore 4, 2) := by decide +kernel
theorem d_Mo_isOne_13 : decode (M_Mo_isOne).cc 13 = .ok (.iload 4, 2) := by decide +kernel
theorem d_Mo_isOne_15 : decode (M_Mo_isOne).cc 15 = .ok (.iload_n 1, 1) := by decide +kernel
theorem d_Mo_isOne_16 : decode (M_Mo_isOne).cc 16 = .ok (.if_icmp .ge 52, 3) := by decide +kernel
theorem d_Mo_isOne_19 : decode (M_Mo_isOne).cc 19 = .ok (.iconst 1, 1) := by decide +kernel
theorem d_Mo_isOne_20 : decode (M_Mo_isOne).cc 20 = .ok (.iload 4, 2) := by decide +kernel
theorem d_Mo_isOne_22 : decode (M_Mo_isOne).cc 22 = .ok (.invokestatic 138, 3) := by decide +kernel
theorem d_Mo_isOne_25 : decode (M_Mo_isOne).cc 25 = .ok (.ishl, 1) := by decide +kernel
theorem d_Mo_isOne_26 : decode (M_Mo_isOne).cc 26 = .ok (.iconst 1, 1) := by decide +kernel
theorem d_Mo_isOne_27 : decode (M_Mo_isOne).cc 27 = .ok (.iload 4, 2) := by decide +kernel
theorem d_Mo_isOne_29 : decode (M_Mo_isOne).cc 29 = .ok (.invokestatic 141, 3) := by decide +kernel
theorem d_Mo_isOne_32 : decode (M_Mo_isOne).cc 32 = .ok (.ishl, 1) := by decide +kernel
theorem d_Mo_isOne_33 : decode (M_Mo_isOne).cc 33 = .ok (.ior, 1) := by decide +kernel
theorem d_Mo_isOne_34 : decode (M_Mo_isOne).cc 34 = .ok (.istore 5, 2) := by decide +kernel
theorem d_Mo_isOne_36 : decode (M_Mo_isOne).cc 36 = .ok (.aload_n 0, 1) := by decide +kernel
theorem d_Mo_isOne_37 : decode (M_Mo_isOne).cc 37 = .ok (.getfield 27, 3) := by decide +kernel
theorem d_Mo_isOne_40 : decode (M_Mo_isOne).cc 40 = .ok (.iload 4, 2) := by decide +kernel
theorem d_Mo_isOne_42 : decode (M_Mo_isOne).cc 42 = .ok (.iaload, 1) := by decide +kernel
theorem d_Mo_isOne_43 : decode (M_Mo_isOne).cc 43 = .ok (.ifCond .le 17, 3) := by decide +kernel
theorem d_Mo_isOne_46 : decode (M_Mo_isOne).cc 46 = .ok (.iload_n 2, 1) := by decide +kernel
theorem d_Mo_isOne_47 : decode (M_Mo_isOne).cc 47 = .ok (.iload 5, 2) := by decide +kernel
theorem d_Mo_isOne_49 : decode (M_Mo_isOne).cc 49 = .ok (.iand, 1) := by decide +kernel
theorem d_Mo_isOne_50 : decode (M_Mo_isOne).cc 50 = .ok (.ifCond .eq 10, 3) := by decide +kernel
theorem d_Mo_isOne_53 : decode (M_Mo_isOne).cc 53 = .ok (.iload_n 2, 1) := by decide +kernel
theorem d_Mo_isOne_54 : decode (M_Mo_isOne).cc 54 = .ok (.iload 5, 2) := by decide +kernel
theorem d_Mo_isOne_56 : decode (M_Mo_isOne).cc 56 = .ok (.ior, 1) := by decide +kernel
theorem d_Mo_isOne_57 : decode (M_Mo_isOne).cc 57 = .ok (.goto 4, 3) := by decide +kernel
theorem d_Mo_isOne_60 : decode (M_Mo_isOne).cc 60 = .ok (.iload_n 2, 1) := by decide +kernel
theorem d_Mo_isOne_61 : decode (M_Mo_isOne).cc 61 = .ok (.istore_n 2, 1) := by decide +kernel
theorem d_Mo_isOne_62 : decode (M_Mo_isOne).cc 62 = .ok (.iinc 4 1, 3) := by decide +kernel
theorem d_Mo_isOne_65 : decode (M_Mo_isOne).cc 65 = .ok (.goto (-52), 3) := by decide +kernel
theorem d_Mo_isOne_68 : decode (M_Mo_isOne).cc 68 = .ok (.iinc 3 1, 3) := by decide +kernel
theorem d_Mo_isOne_71 : decode (M_Mo_isOne).cc 71 = .ok (.goto (-67), 3) := by decide +kernel
theorem d_Mo_isOne_74 : decode (M_Mo_isOne).cc 74 = .ok (.iload_n 2, 1) := by decide +kernel
theorem d_Mo_isOne_75 : decode (M_Mo_isOne).cc 75 = .ok (.iconst 1, 1) := by decide +kernel
theorem d_Mo_isOne_76 : decode (M_Mo_isOne).cc 76 = .ok (.aload_n 0, 1) := by decide +kernel
theorem d_Mo_isOne_77 : decode (M_Mo_isOne).cc 77 = .ok (.getfield 117, 3) := by decide +kernel
theorem d_Mo_isOne_80 : decode (M_Mo_isOne).cc 80 = .ok (.ishl, 1) := by decide +kernel
theorem d_Mo_isOne_81 : decode (M_Mo_isOne).cc 81 = .ok (.iconst 1, 1) := by decide +kernel
theorem d_Mo_isOne_82 : decode (M_Mo_isOne).cc 82 = .ok (.isub, 1) := by decide +kernel
theorem d_Mo_isOne_83 : decode (M_Mo_isOne).cc 83 = .ok (.if_icmp .ne 7, 3) := by decide +kernel
theorem d_Mo_isOne_86 : decode (M_Mo_isOne).cc 86 = .ok (.iconst 1, 1) := by decide +kernel
theorem d_Mo_isOne_87 : decode (M_Mo_isOne).cc 87 = .ok (.goto 4, 3) := by decide +kernel
theorem d_Mo_isOne_90 : decode (M_Mo_isOne).cc 90 = .ok (.iconst 0, 1) := by decide +kernel
theorem d_Mo_isOne_91 : decode (M_Mo_isOne).cc 91 = .ok (.ireturn, 1) := by decide +kernel
theorem d_Mo_upper_0 : decode (M_Mo_upper).cc 0 = .ok (.iconst 1, 1) := by decide +kernel
theorem d_Mo_upper_1 : decode (M_Mo_upper).cc 1 = .ok (.istore_n 1, 1) := by decide +kernel
theorem d_Mo_upper_2 : decode (M_Mo_upper).cc 2 = .ok (.iload_n 1, 1) := by decide +kernel
theorem d_Mo_upper_3 : decode (M_Mo_upper).cc 3 = .ok (.iload_n 1, 1) := by decide +kernel
theorem d_Mo_upper_4 : decode (M_Mo_upper).cc 4 = .ok (.iconst 1, 1) := by decide +kernel
theorem d_Mo_upper_5 : decode (M_Mo_upper).cc 5 = .ok (.iadd, 1) := by decide +kernel
theorem d_Mo_upper_6 : decode (M_Mo_upper).cc 6 = .ok (.imul, 1) := by decide +kernel
theorem d_Mo_upper_7 : decode (M_Mo_upper).cc 7 = .ok (.iconst 2, 1) := by decide +kernel
theorem d_Mo_upper_8 : decode (M_Mo_upper).cc 8 = .ok (.idiv, 1) := by decide +kernel
theorem d_Mo_upper_9 : decode (M_Mo_upper).cc 9 = .ok (.iload_n 0, 1) := by decide +kernel
theorem d_Mo_upper_10 : decode (M_Mo_upper).cc 10 = .ok (.if_icmp .gt 9, 3) := by decide +kernel
theorem d_Mo_upper_13 : decode (M_Mo_upper).cc 13 = .ok (.iinc 1 1, 3) := by decide +kernel
theorem d_Mo_upper_16 : decode (M_Mo_upper).cc 16 = .ok (.goto (-14), 3) := by decide +kernel
theorem d_Mo_upper_19 : decode (M_Mo_upper).cc 19 = .ok (.iload_n 1, 1) := by decide +kernel
theorem d_Mo_upper_20 : decode (M_Mo_upper).cc 20 = .ok (.ireturn, 1) := by decide +kernel
theorem d_Mo_lower_0 : decode (M_Mo_lower).cc 0 = .ok (.iload_n 0, 1) := by decide +kernel
theorem d_Mo_lower_1 : decode (M_Mo_lower).cc 1 = .ok (.iload_n 0, 1) := by decide +kernel
theorem d_Mo_lower_2 : decode (M_Mo_lower).cc 2 = .ok (.invokestatic 138, 3) := by decide +kernel
theorem d_Mo_lower_5 : decode (M_Mo_lower).cc 5 = .ok (.iload_n 0, 1) := by decide +kernel
theorem d_Mo_lower_6 : decode (M_Mo_lower).cc 6 = .ok (.invokestatic 138, 3) := by decide +kernel
theorem d_Mo_lower_9 : decode (M_Mo_lower).cc 9 = .ok (.iconst 1, 1) := by decide +kernel
theorem d_Mo_lower_10 : decode (M_Mo_lower).cc 10 = .ok (.isub, 1) := by decide +kernel
theorem d_Mo_lower_11 : decode (M_Mo_lower).cc 11 = .ok (.imul, 1) := by decide +kernel
theorem d_Mo_lower_12 : decode (M_Mo_lower).cc 12 = .ok (.iconst 2, 1) := by decide +kernel
theorem d_Mo_lower_13 : decode (M_Mo_lower).cc 13 = .ok (.idiv, 1) := by decide +kernel
theorem d_Mo_lower_14 : decode (M_Mo_lower).cc 14 = .ok (.isub, 1) := by decide +kernel
theorem d_Mo_lower_15 : decode (M_Mo_lower).cc 15 = .ok (.ireturn, 1) := by decide +kernel
theorem d_Mo_change_0 : decode (M_Mo_change).cc 0 = .ok (.aload_n 0, 1) := by decide +kernel
theorem d_Mo_change_1 : decode (M_Mo_change).cc 1 = .ok (.getfield 30, 3) := by decide +kernel
theorem d_Mo_change_4 : decode (M_Mo_change).cc 4 = .ok (.iload_n 1, 1) := by decide +kernel
theorem d_Mo_change_5 : decode (M_Mo_change).cc 5 = .ok (.invokestatic 138, 3) := by decide +kernel
theorem d_Mo_change_8 : decode (M_Mo_change).cc 8 = .ok (.aload_n 0, 1) := by decide +kernel
theorem d_Mo_change_9 : decode (M_Mo_change).cc 9 = .ok (.getfield 30, 3) := by decide +kernel
theorem d_Mo_change_12 : decode (M_Mo_change).cc 12 = .ok (.iload_n 1, 1) := by decide +kernel
theorem d_Mo_change_13 : decode (M_Mo_change).cc 13 = .ok (.invokestatic 138, 3) := by decide +kernel
theorem d_Mo_change_16 : decode (M_Mo_change).cc 16 = .ok (.iaload, 1) := by decide +kernel
theorem d_Mo_change_17 : decode (M_Mo_change).cc 17 = .ok (.iload_n 2, 1) := by decide +kernel
theorem d_Mo_change_18 : decode (M_Mo_change).cc 18 = .ok (.isub, 1) := by decide +kernel
theorem d_Mo_change_19 : decode (M_Mo_change).cc 19 = .ok (.iastore, 1) := by decide +kernel
theorem d_Mo_change_20 : decode (M_Mo_change).cc 20 = .ok (.aload_n 0, 1) := by decide +kernel
theorem d_Mo_change_21 : decode (M_Mo_change).cc 21 = .ok (.getfield 30, 3) := by decide +kernel
theorem d_Mo_change_24 : decode (M_Mo_change).cc 24 = .ok (.iload_n 1, 1) := by decide +kernel
theorem d_Mo_change_25 : decode (M_Mo_change).cc 25 = .ok (.invokestatic 141, 3) := by decide +kernel
theorem d_Mo_change_28 : decode (M_Mo_change).cc 28 = .ok (.aload_n 0, 1) := by decide +kernel
theorem d_Mo_change_29 : decode (M_Mo_change).cc 29 = .ok (.getfield 30, 3) := by decide +kernel
theorem d_Mo_change_32 : decode (M_Mo_change).cc 32 = .ok (.iload_n 1, 1) := by decide +kernel
theorem d_Mo_change_33 : decode (M_Mo_change).cc 33 = .ok (.invokestatic 141, 3) := by decide +kernel
theorem d_Mo_change_36 : decode (M_Mo_change).cc 36 = .ok (.iaload, 1) := by decide +kernel
theorem d_Mo_change_37 : decode (M_Mo_change).cc 37 = .ok (.iload_n 2, 1) := by decide +kernel
theorem d_Mo_change_38 : decode (M_Mo_change).cc 38 = .ok (.isub, 1) := by decide +kernel
theorem d_Mo_change_39 : decode (M_Mo_change).cc 39 = .ok (.iastore, 1) := by decide +kernel
theorem d_Mo_change_40 : decode (M_Mo_change).cc 40 = .ok (.aload_n 0, 1) := by decide +kernel
theorem d_Mo_change_41 : decode (M_Mo_change).cc 41 = .ok (.aload_n 0, 1) := by decide +kernel
theorem d_Mo_change_42 : decode (M_Mo_change).cc 42 = .ok (.getfield 123, 3) := by decide +kernel
theorem d_Mo_change_45 : decode (M_Mo_change).cc 45 = .ok (.iload_n 2, 1) := by decide +kernel
theorem d_Mo_change_46 : decode (M_Mo_change).cc 46 = .ok (.isub, 1) := by decide +kernel
theorem d_Mo_change_47 : decode (M_Mo_change).cc 47 = .ok (.putfield 123, 3) := by decide +kernel
theorem d_Mo_change_50 : decode (M_Mo_change).cc 50 = .ok (.return_, 1) := by decide +kernel
theorem d_Mo_least_0 : decode (M_Mo_least).cc 0 = .ok (.iload_n 0, 1) := by decide +kernel
theorem d_Mo_least_1 : decode (M_Mo_least).cc 1 = .ok (.iload_n 1, 1) := by decide +kernel
theorem d_Mo_least_2 : decode (M_Mo_least).cc 2 = .ok (.if_icmp .ge 7, 3) := by decide +kernel
theorem d_Mo_least_5 : decode (M_Mo_least).cc 5 = .ok (.iload_n 0, 1) := by decide +kernel
theorem d_Mo_least_6 : decode (M_Mo_least).cc 6 = .ok (.goto 4, 3) := by decide +kernel
theorem d_Mo_least_9 : decode (M_Mo_least).cc 9 = .ok (.iload_n 1, 1) := by decide +kernel
theorem d_Mo_least_10 : decode (M_Mo_least).cc 10 = .ok (.ireturn, 1) := by decide +kernel
theorem d_Mo_numberings_0 : decode (M_Mo_numberings).cc 0 = .ok (.iconst 0, 1) := by decide +kernel
theorem d_Mo_numberings_1 : decode (M_Mo_numberings).cc 1 = .ok (.istore_n 2, 1) := by decide +kernel
theorem d_Mo_numberings_2 : decode (M_Mo_numberings).cc 2 = .ok (.iconst 0, 1) := by decide +kernel
theorem d_Mo_numberings_3 : decode (M_Mo_numberings).cc 3 = .ok (.istore_n 3, 1) := by decide +kernel
theorem d_Mo_numberings_4 : decode (M_Mo_numberings).cc 4 = .ok (.aload_n 0, 1) := by decide +kernel
theorem d_Mo_numberings_5 : decode (M_Mo_numberings).cc 5 = .ok (.getfield 39, 3) := by decide +kernel
theorem d_Mo_numberings_8 : decode (M_Mo_numberings).cc 8 = .ok (.iconst 0, 1) := by decide +kernel
theorem d_Mo_numberings_9 : decode (M_Mo_numberings).cc 9 = .ok (.iconst (-1), 1) := by decide +kernel
theorem d_Mo_numberings_10 : decode (M_Mo_numberings).cc 10 = .ok (.iastore, 1) := by decide +kernel
theorem d_Mo_numberings_11 : decode (M_Mo_numberings).cc 11 = .ok (.iconst 0, 1) := by decide +kernel
theorem d_Mo_numberings_12 : decode (M_Mo_numberings).cc 12 = .ok (.istore 4, 2) := by decide +kernel
theorem d_Mo_numberings_14 : decode (M_Mo_numberings).cc 14 = .ok (.iload 4, 2) := by decide +kernel
theorem d_Mo_numberings_16 : decode (M_Mo_numberings).cc 16 = .ok (.bipush 6, 2) := by decide +kernel
theorem d_Mo_numberings_18 : decode (M_Mo_numberings).cc 18 = .ok (.if_icmp .ge 17, 3) := by decide +kernel
theorem d_Mo_numberings_21 : decode (M_Mo_numberings).cc 21 = .ok (.aload_n 0, 1) := by decide +kernel
theorem d_Mo_numberings_22 : decode (M_Mo_numberings).cc 22 = .ok (.getfield 42, 3) := by decide +kernel
theorem d_Mo_numberings_25 : decode (M_Mo_numberings).cc 25 = .ok (.iload 4, 2) := by decide +kernel
theorem d_Mo_numberings_27 : decode (M_Mo_numberings).cc 27 = .ok (.iconst 0, 1) := by decide +kernel
theorem d_Mo_numberings_28 : decode (M_Mo_numberings).cc 28 = .ok (.bastore, 1) := by decide +kernel
theorem d_Mo_numberings_29 : decode (M_Mo_numberings).cc 29 = .ok (.iinc 4 1, 3) := by decide +kernel
theorem d_Mo_numberings_32 : decode (M_Mo_numberings).cc 32 = .ok (.goto (-18), 3) := by decide +kernel
theorem d_Mo_numberings_35 : decode (M_Mo_numberings).cc 35 = .ok (.iload_n 3, 1) := by decide +kernel
theorem d_Mo_numberings_36 : decode (M_Mo_numberings).cc 36 = .ok (.ifCond .lt 146, 3) := by decide +kernel
theorem d_Mo_numberings_39 : decode (M_Mo_numberings).cc 39 = .ok (.iload_n 3, 1) := by decide +kernel
theorem d_Mo_numberings_40 : decode (M_Mo_numberings).cc 40 = .ok (.iload_n 1, 1) := by decide +kernel
theorem d_Mo_numberings_41 : decode (M_Mo_numberings).cc 41 = .ok (.if_icmp .ne 12, 3) := by decide +kernel
theorem d_Mo_numberings_44 : decode (M_Mo_numberings).cc 44 = .ok (.iinc 2 1, 3) := by decide +kernel
theorem d_Mo_numberings_47 : decode (M_Mo_numberings).cc 47 = .ok (.iinc 3 (-1), 3) := by decide +kernel
theorem d_Mo_numberings_50 : decode (M_Mo_numberings).cc 50 = .ok (.goto (-15), 3) := by decide +kernel
theorem d_Mo_numberings_53 : decode (M_Mo_numberings).cc 53 = .ok (.aload_n 0, 1) := by decide +kernel
theorem d_Mo_numberings_54 : decode (M_Mo_numberings).cc 54 = .ok (.getfield 39, 3) := by decide +kernel
theorem d_Mo_numberings_57 : decode (M_Mo_numberings).cc 57 = .ok (.iload_n 3, 1) := by decide +kernel
theorem d_Mo_numberings_58 : decode (M_Mo_numberings).cc 58 = .ok (.iaload, 1) := by decide +kernel
theorem d_Mo_numberings_59 : decode (M_Mo_numberings).cc 59 = .ok (.ifCond .lt 15, 3) := by decide +kernel
theorem d_Mo_numberings_62 : decode (M_Mo_numberings).cc 62 = .ok (.aload_n 0, 1) := by decide +kernel
theorem d_Mo_numberings_63 : decode (M_Mo_numberings).cc 63 = .ok (.getfield 42, 3) := by decide +kernel
theorem d_Mo_numberings_66 : decode (M_Mo_numberings).cc 66 = .ok (.aload_n 0, 1) := by decide +kernel
theorem d_Mo_numberings_67 : decode (M_Mo_numberings).cc 67 = .ok (.getfield 39, 3) := by decide +kernel
theorem d_Mo_numberings_70 : decode (M_Mo_numberings).cc 70 = .ok (.iload_n 3, 1) := by decide +kernel
theorem d_Mo_numberings_71 : decode (M_Mo_numberings).cc 71 = .ok (.iaload, 1) := by decide +kernel
theorem d_Mo_numberings_72 : decode (M_Mo_numberings).cc 72 = .ok (.iconst 0, 1) := by decide +kernel
theorem d_Mo_numberings_73 : decode (M_Mo_numberings).cc 73 = .ok (.bastore, 1) := by decide +kernel
theorem d_Mo_numberings_74 : decode (M_Mo_numberings).cc 74 = .ok (.aload_n 0, 1) := by decide +kernel
theorem d_Mo_numberings_75 : decode (M_Mo_numberings).cc 75 = .ok (.getfield 39, 3) := by decide +kernel
theorem d_Mo_numberings_78 : decode (M_Mo_numberings).cc 78 = .ok (.iload_n 3, 1) := by decide +kernel
theorem d_Mo_numberings_79 : decode (M_Mo_numberings).cc 79 = .ok (.iaload, 1) := by decide +kernel
theorem d_Mo_numberings_80 : decode (M_Mo_numberings).cc 80 = .ok (.iconst 1, 1) := by decide +kernel
theorem d_Mo_numberings_81 : decode (M_Mo_numberings).cc 81 = .ok (.iadd, 1) := by decide +kernel
theorem d_Mo_numberings_82 : decode (M_Mo_numberings).cc 82 = .ok (.istore 4, 2) := by decide +kernel
theorem d_Mo_numberings_84 : decode (M_Mo_numberings).cc 84 = .ok (.iload 4, 2) := by decide +kernel
theorem d_Mo_numberings_86 : decode (M_Mo_numberings).cc 86 = .ok (.iload_n 1, 1) := by decide +kernel
theorem d_Mo_numberings_87 : decode (M_Mo_numberings).cc 87 = .ok (.if_icmp .ge 35, 3) := by decide +kernel
theorem d_Mo_numberings_90 : decode (M_Mo_numberings).cc 90 = .ok (.aload_n 0, 1) := by decide +kernel
theorem d_Mo_numberings_91 : decode (M_Mo_numberings).cc 91 = .ok (.getfield 42, 3) := by decide +kernel
theorem d_Mo_numberings_94 : decode (M_Mo_numberings).cc 94 = .ok (.iload 4, 2) := by decide +kernel
theorem d_Mo_numberings_96 : decode (M_Mo_numberings).cc 96 = .ok (.baload, 1) := by decide +kernel
theorem d_Mo_numberings_97 : decode (M_Mo_numberings).cc 97 = .ok (.ifCond .ne 19, 3) := by decide +kernel
theorem d_Mo_numberings_100 : decode (M_Mo_numberings).cc 100 = .ok (.aload_n 0, 1) := by decide +kernel
theorem d_Mo_numberings_101 : decode (M_Mo_numberings).cc 101 = .ok (.getfield 24, 3) := by decide +kernel
theorem d_Mo_numberings_104 : decode (M_Mo_numberings).cc 104 = .ok (.iload 4, 2) := by decide +kernel
theorem d_Mo_numberings_106 : decode (M_Mo_numberings).cc 106 = .ok (.iaload, 1) := by decide +kernel
theorem d_Mo_numberings_107 : decode (M_Mo_numberings).cc 107 = .ok (.aload_n 0, 1) := by decide +kernel
theorem d_Mo_numberings_108 : decode (M_Mo_numberings).cc 108 = .ok (.getfield 24, 3) := by decide +kernel
theorem d_Mo_numberings_111 : decode (M_Mo_numberings).cc 111 = .ok (.iload_n 3, 1) := by decide +kernel
theorem d_Mo_numberings_112 : decode (M_Mo_numberings).cc 112 = .ok (.iaload, 1) := by decide +kernel
theorem d_Mo_numberings_113 : decode (M_Mo_numberings).cc 113 = .ok (.if_icmp .eq 9, 3) := by decide +kernel
theorem d_Mo_numberings_116 : decode (M_Mo_numberings).cc 116 = .ok (.iinc 4 1, 3) := by decide +kernel
theorem d_Mo_numberings_119 : decode (M_Mo_numberings).cc 119 = .ok (.goto (-35), 3) := by decide +kernel
theorem d_Mo_numberings_122 : decode (M_Mo_numberings).cc 122 = .ok (.iload 4, 2) := by decide +kernel
theorem d_Mo_numberings_124 : decode (M_Mo_numberings).cc 124 = .ok (.iload_n 1, 1) := by decide +kernel
theorem d_Mo_numberings_125 : decode (M_Mo_numberings).cc 125 = .ok (.if_icmp .ne 9, 3) := by decide +kernel
theorem d_Mo_numberings_128 : decode (M_Mo_numberings).cc 128 = .ok (.iinc 3 (-1), 3) := by decide +kernel
theorem d_Mo_numberings_131 : decode (M_Mo_numberings).cc 131 = .ok (.goto 48, 3) := by decide +kernel
theorem d_Mo_numberings_134 : decode (M_Mo_numberings).cc 134 = .ok (.aload_n 0, 1) := by decide +kernel
theorem d_Mo_numberings_135 : decode (M_Mo_numberings).cc 135 = .ok (.getfield 39, 3) := by decide +kernel
theorem d_Mo_numberings_138 : decode (M_Mo_numberings).cc 138 = .ok (.iload_n 3, 1) := by decide +kernel
theorem d_Mo_numberings_139 : decode (M_Mo_numberings).cc 139 = .ok (.iload 4, 2) := by decide +kernel
theorem d_Mo_numberings_141 : decode (M_Mo_numberings).cc 141 = .ok (.iastore, 1) := by decide +kernel
theorem d_Mo_numberings_142 : decode (M_Mo_numberings).cc 142 = .ok (.aload_n 0, 1) := by decide +kernel
theorem d_Mo_numberings_143 : decode (M_Mo_numberings).cc 143 = .ok (.getfield 42, 3) := by decide +kernel
theorem d_Mo_numberings_146 : decode (M_Mo_numberings).cc 146 = .ok (.iload 4, 2) := by decide +kernel
theorem d_Mo_numberings_148 : decode (M_Mo_numberings).cc 148 = .ok (.iconst 1, 1) := by decide +kernel
theorem d_Mo_numberings_149 : decode (M_Mo_numberings).cc 149 = .ok (.bastore, 1) := by decide +kernel
theorem d_Mo_numberings_150 : decode (M_Mo_numberings).cc 150 = .ok (.aload_n 0, 1) := by decide +kernel
theorem d_Mo_numberings_151 : decode (M_Mo_numberings).cc 151 = .ok (.iload_n 3, 1) := by decide +kernel
theorem d_Mo_numberings_152 : decode (M_Mo_numberings).cc 152 = .ok (.invokevirtual 161, 3) := by decide +kernel
theorem d_Mo_numberings_155 : decode (M_Mo_numberings).cc 155 = .ok (.istore 5, 2) := by decide +kernel
theorem d_Mo_numberings_157 : decode (M_Mo_numberings).cc 157 = .ok (.iload 5, 2) := by decide +kernel
theorem d_Mo_numberings_159 : decode (M_Mo_numberings).cc 159 = .ok (.ifCond .le 5, 3) := by decide +kernel
theorem d_Mo_numberings_162 : decode (M_Mo_numberings).cc 162 = .ok (.iconst (-1), 1) := by decide +kernel
theorem d_Mo_numberings_163 : decode (M_Mo_numberings).cc 163 = .ok (.ireturn, 1) := by decide +kernel
theorem d_Mo_numberings_164 : decode (M_Mo_numberings).cc 164 = .ok (.iload 5, 2) := by decide +kernel
theorem d_Mo_numberings_166 : decode (M_Mo_numberings).cc 166 = .ok (.ifCond .ne 13, 3) := by decide +kernel
theorem d_Mo_numberings_169 : decode (M_Mo_numberings).cc 169 = .ok (.iinc 3 1, 3) := by decide +kernel
theorem d_Mo_numberings_172 : decode (M_Mo_numberings).cc 172 = .ok (.aload_n 0, 1) := by decide +kernel
theorem d_Mo_numberings_173 : decode (M_Mo_numberings).cc 173 = .ok (.getfield 39, 3) := by decide +kernel
theorem d_Mo_numberings_176 : decode (M_Mo_numberings).cc 176 = .ok (.iload_n 3, 1) := by decide +kernel
theorem d_Mo_numberings_177 : decode (M_Mo_numberings).cc 177 = .ok (.iconst (-1), 1) := by decide +kernel
theorem d_Mo_numberings_178 : decode (M_Mo_numberings).cc 178 = .ok (.iastore, 1) := by decide +kernel
theorem d_Mo_numberings_179 : decode (M_Mo_numberings).cc 179 = .ok (.goto (-144), 3) := by decide +kernel
theorem d_Mo_numberings_182 : decode (M_Mo_numberings).cc 182 = .ok (.iload_n 2, 1) := by decide +kernel
theorem d_Mo_numberings_183 : decode (M_Mo_numberings).cc 183 = .ok (.ireturn, 1) := by decide +kernel
theorem d_Mo_row_0 : decode (M_Mo_row).cc 0 = .ok (.iconst 0, 1) := by decide +kernel
theorem d_Mo_row_1 : decode (M_Mo_row).cc 1 = .ok (.istore_n 2, 1) := by decide +kernel
theorem d_Mo_row_2 : decode (M_Mo_row).cc 2 = .ok (.iload_n 2, 1) := by decide +kernel
theorem d_Mo_row_3 : decode (M_Mo_row).cc 3 = .ok (.iload_n 1, 1) := by decide +kernel
theorem d_Mo_row_4 : decode (M_Mo_row).cc 4 = .ok (.if_icmp .ge 60, 3) := by decide +kernel
theorem d_Mo_row_7 : decode (M_Mo_row).cc 7 = .ok (.aload_n 0, 1) := by decide +kernel
theorem d_Mo_row_8 : decode (M_Mo_row).cc 8 = .ok (.getfield 27, 3) := by decide +kernel
theorem d_Mo_row_11 : decode (M_Mo_row).cc 11 = .ok (.aload_n 0, 1) := by decide +kernel
theorem d_Mo_row_12 : decode (M_Mo_row).cc 12 = .ok (.getfield 39, 3) := by decide +kernel
theorem d_Mo_row_15 : decode (M_Mo_row).cc 15 = .ok (.iload_n 1, 1) := by decide +kernel
theorem d_Mo_row_16 : decode (M_Mo_row).cc 16 = .ok (.iaload, 1) := by decide +kernel
theorem d_Mo_row_17 : decode (M_Mo_row).cc 17 = .ok (.aload_n 0, 1) := by decide +kernel
theorem d_Mo_row_18 : decode (M_Mo_row).cc 18 = .ok (.getfield 39, 3) := by decide +kernel
theorem d_Mo_row_21 : decode (M_Mo_row).cc 21 = .ok (.iload_n 2, 1) := by decide +kernel
theorem d_Mo_row_22 : decode (M_Mo_row).cc 22 = .ok (.iaload, 1) := by decide +kernel
theorem d_Mo_row_23 : decode (M_Mo_row).cc 23 = .ok (.invokestatic 164, 3) := by decide +kernel
theorem d_Mo_row_26 : decode (M_Mo_row).cc 26 = .ok (.iaload, 1) := by decide +kernel
theorem d_Mo_row_27 : decode (M_Mo_row).cc 27 = .ok (.istore_n 3, 1) := by decide +kernel
theorem d_Mo_row_28 : decode (M_Mo_row).cc 28 = .ok (.aload_n 0, 1) := by decide +kernel
theorem d_Mo_row_29 : decode (M_Mo_row).cc 29 = .ok (.getfield 27, 3) := by decide +kernel
theorem d_Mo_row_32 : decode (M_Mo_row).cc 32 = .ok (.iload_n 1, 1) := by decide +kernel
theorem d_Mo_row_33 : decode (M_Mo_row).cc 33 = .ok (.iload_n 2, 1) := by decide +kernel
theorem d_Mo_row_34 : decode (M_Mo_row).cc 34 = .ok (.invokestatic 164, 3) := by decide +kernel
theorem d_Mo_row_37 : decode (M_Mo_row).cc 37 = .ok (.iaload, 1) := by decide +kernel
theorem d_Mo_row_38 : decode (M_Mo_row).cc 38 = .ok (.istore 4, 2) := by decide +kernel
theorem d_Mo_row_40 : decode (M_Mo_row).cc 40 = .ok (.iload_n 3, 1) := by decide +kernel
theorem d_Mo_row_41 : decode (M_Mo_row).cc 41 = .ok (.iload 4, 2) := by decide +kernel
theorem d_Mo_row_43 : decode (M_Mo_row).cc 43 = .ok (.if_icmp .eq 15, 3) := by decide +kernel
theorem d_Mo_row_46 : decode (M_Mo_row).cc 46 = .ok (.iload_n 3, 1) := by decide +kernel
theorem d_Mo_row_47 : decode (M_Mo_row).cc 47 = .ok (.iload 4, 2) := by decide +kernel
theorem d_Mo_row_49 : decode (M_Mo_row).cc 49 = .ok (.if_icmp .le 7, 3) := by decide +kernel
theorem d_Mo_row_52 : decode (M_Mo_row).cc 52 = .ok (.iconst 1, 1) := by decide +kernel
theorem d_Mo_row_53 : decode (M_Mo_row).cc 53 = .ok (.goto 4, 3) := by decide +kernel
theorem d_Mo_row_56 : decode (M_Mo_row).cc 56 = .ok (.iconst (-1), 1) := by decide +kernel
theorem d_Mo_row_57 : decode (M_Mo_row).cc 57 = .ok (.ireturn, 1) := by decide +kernel
theorem d_Mo_row_58 : decode (M_Mo_row).cc 58 = .ok (.iinc 2 1, 3) := by decide +kernel
theorem d_Mo_row_61 : decode (M_Mo_row).cc 61 = .ok (.goto (-59), 3) := by decide +kernel
theorem d_Mo_row_64 : decode (M_Mo_row).cc 64 = .ok (.iconst 0, 1) := by decide +kernel
theorem d_Mo_row_65 : decode (M_Mo_row).cc 65 = .ok (.ireturn, 1) := by decide +kernel
theorem d_Mo_pair_0 : decode (M_Mo_pair).cc 0 = .ok (.iload_n 0, 1) := by decide +kernel
theorem d_Mo_pair_1 : decode (M_Mo_pair).cc 1 = .ok (.iload_n 1, 1) := by decide +kernel
theorem d_Mo_pair_2 : decode (M_Mo_pair).cc 2 = .ok (.if_icmp .le 15, 3) := by decide +kernel
theorem d_Mo_pair_5 : decode (M_Mo_pair).cc 5 = .ok (.iload_n 0, 1) := by decide +kernel
theorem d_Mo_pair_6 : decode (M_Mo_pair).cc 6 = .ok (.iload_n 0, 1) := by decide +kernel
theorem d_Mo_pair_7 : decode (M_Mo_pair).cc 7 = .ok (.iconst 1, 1) := by decide +kernel
theorem d_Mo_pair_8 : decode (M_Mo_pair).cc 8 = .ok (.isub, 1) := by decide +kernel
theorem d_Mo_pair_9 : decode (M_Mo_pair).cc 9 = .ok (.imul, 1) := by decide +kernel
theorem d_Mo_pair_10 : decode (M_Mo_pair).cc 10 = .ok (.iconst 2, 1) := by decide +kernel
theorem d_Mo_pair_11 : decode (M_Mo_pair).cc 11 = .ok (.idiv, 1) := by decide +kernel
theorem d_Mo_pair_12 : decode (M_Mo_pair).cc 12 = .ok (.iload_n 1, 1) := by decide +kernel
theorem d_Mo_pair_13 : decode (M_Mo_pair).cc 13 = .ok (.iadd, 1) := by decide +kernel
theorem d_Mo_pair_14 : decode (M_Mo_pair).cc 14 = .ok (.goto 12, 3) := by decide +kernel
theorem d_Mo_pair_17 : decode (M_Mo_pair).cc 17 = .ok (.iload_n 1, 1) := by decide +kernel
theorem d_Mo_pair_18 : decode (M_Mo_pair).cc 18 = .ok (.iload_n 1, 1) := by decide +kernel
theorem d_Mo_pair_19 : decode (M_Mo_pair).cc 19 = .ok (.iconst 1, 1) := by decide +kernel
theorem d_Mo_pair_20 : decode (M_Mo_pair).cc 20 = .ok (.isub, 1) := by decide +kernel
theorem d_Mo_pair_21 : decode (M_Mo_pair).cc 21 = .ok (.imul, 1) := by decide +kernel
theorem d_Mo_pair_22 : decode (M_Mo_pair).cc 22 = .ok (.iconst 2, 1) := by decide +kernel
theorem d_Mo_pair_23 : decode (M_Mo_pair).cc 23 = .ok (.idiv, 1) := by decide +kernel
theorem d_Mo_pair_24 : decode (M_Mo_pair).cc 24 = .ok (.iload_n 0, 1) := by decide +kernel
theorem d_Mo_pair_25 : decode (M_Mo_pair).cc 25 = .ok (.iadd, 1) := by decide +kernel
theorem d_Mo_pair_26 : decode (M_Mo_pair).cc 26 = .ok (.ireturn, 1) := by decide +kernel
theorem d_Mo_read_0 : decode (M_Mo_read).cc 0 = .ok (.aload_n 0, 1) := by decide +kernel
theorem d_Mo_read_1 : decode (M_Mo_read).cc 1 = .ok (.iconst 0, 1) := by decide +kernel
theorem d_Mo_read_2 : decode (M_Mo_read).cc 2 = .ok (.putfield 85, 3) := by decide +kernel
theorem d_Mo_read_5 : decode (M_Mo_read).cc 5 = .ok (.aload_n 0, 1) := by decide +kernel
theorem d_Mo_read_6 : decode (M_Mo_read).cc 6 = .ok (.iconst 0, 1) := by decide +kernel
theorem d_Mo_read_7 : decode (M_Mo_read).cc 7 = .ok (.putfield 167, 3) := by decide +kernel
theorem d_Mo_read_10 : decode (M_Mo_read).cc 10 = .ok (.iconst 0, 1) := by decide +kernel
theorem d_Mo_read_11 : decode (M_Mo_read).cc 11 = .ok (.istore_n 1, 1) := by decide +kernel
theorem d_Mo_read_12 : decode (M_Mo_read).cc 12 = .ok (.iload_n 1, 1) := by decide +kernel
theorem d_Mo_read_13 : decode (M_Mo_read).cc 13 = .ok (.bipush 36, 2) := by decide +kernel
theorem d_Mo_read_15 : decode (M_Mo_read).cc 15 = .ok (.if_icmp .ge 16, 3) := by decide +kernel
theorem d_Mo_read_18 : decode (M_Mo_read).cc 18 = .ok (.aload_n 0, 1) := by decide +kernel
theorem d_Mo_read_19 : decode (M_Mo_read).cc 19 = .ok (.getfield 49, 3) := by decide +kernel
theorem d_Mo_read_22 : decode (M_Mo_read).cc 22 = .ok (.iload_n 1, 1) := by decide +kernel
theorem d_Mo_read_23 : decode (M_Mo_read).cc 23 = .ok (.iconst 0, 1) := by decide +kernel
theorem d_Mo_read_24 : decode (M_Mo_read).cc 24 = .ok (.iastore, 1) := by decide +kernel
theorem d_Mo_read_25 : decode (M_Mo_read).cc 25 = .ok (.iinc 1 1, 3) := by decide +kernel
theorem d_Mo_read_28 : decode (M_Mo_read).cc 28 = .ok (.goto (-16), 3) := by decide +kernel
theorem d_Mo_read_31 : decode (M_Mo_read).cc 31 = .ok (.aload_n 0, 1) := by decide +kernel
theorem d_Mo_read_32 : decode (M_Mo_read).cc 32 = .ok (.invokevirtual 170, 3) := by decide +kernel
theorem d_Mo_read_35 : decode (M_Mo_read).cc 35 = .ok (.istore_n 1, 1) := by decide +kernel
theorem d_Mo_read_36 : decode (M_Mo_read).cc 36 = .ok (.iload_n 1, 1) := by decide +kernel
theorem d_Mo_read_37 : decode (M_Mo_read).cc 37 = .ok (.ifCond .eq 5, 3) := by decide +kernel
theorem d_Mo_read_40 : decode (M_Mo_read).cc 40 = .ok (.iload_n 1, 1) := by decide +kernel
theorem d_Mo_read_41 : decode (M_Mo_read).cc 41 = .ok (.ireturn, 1) := by decide +kernel
theorem d_Mo_read_42 : decode (M_Mo_read).cc 42 = .ok (.aload_n 0, 1) := by decide +kernel
theorem d_Mo_read_43 : decode (M_Mo_read).cc 43 = .ok (.iconst (-1), 1) := by decide +kernel
theorem d_Mo_read_44 : decode (M_Mo_read).cc 44 = .ok (.putfield 13, 3) := by decide +kernel
theorem d_Mo_read_47 : decode (M_Mo_read).cc 47 = .ok (.aload_n 0, 1) := by decide +kernel
theorem d_Mo_read_48 : decode (M_Mo_read).cc 48 = .ok (.invokevirtual 174, 3) := by decide +kernel
theorem d_Mo_read_51 : decode (M_Mo_read).cc 51 = .ok (.ireturn, 1) := by decide +kernel
theorem d_Mo_atEnd_0 : decode (M_Mo_atEnd).cc 0 = .ok (.iconst 1, 1) := by decide +kernel
theorem d_Mo_atEnd_1 : decode (M_Mo_atEnd).cc 1 = .ok (.istore_n 1, 1) := by decide +kernel
theorem d_Mo_atEnd_2 : decode (M_Mo_atEnd).cc 2 = .ok (.iload_n 1, 1) := by decide +kernel
theorem d_Mo_atEnd_3 : decode (M_Mo_atEnd).cc 3 = .ok (.bipush 10, 2) := by decide +kernel
theorem d_Mo_atEnd_5 : decode (M_Mo_atEnd).cc 5 = .ok (.if_icmp .ge 29, 3) := by decide +kernel
theorem d_Mo_atEnd_8 : decode (M_Mo_atEnd).cc 8 = .ok (.aload_n 0, 1) := by decide +kernel
theorem d_Mo_atEnd_9 : decode (M_Mo_atEnd).cc 9 = .ok (.getfield 61, 3) := by decide +kernel
theorem d_Mo_atEnd_12 : decode (M_Mo_atEnd).cc 12 = .ok (.iload_n 1, 1) := by decide +kernel
theorem d_Mo_atEnd_13 : decode (M_Mo_atEnd).cc 13 = .ok (.iaload, 1) := by decide +kernel
theorem d_Mo_atEnd_14 : decode (M_Mo_atEnd).cc 14 = .ok (.ifCond .lt 14, 3) := by decide +kernel
theorem d_Mo_atEnd_17 : decode (M_Mo_atEnd).cc 17 = .ok (.aload_n 0, 1) := by decide +kernel
theorem d_Mo_atEnd_18 : decode (M_Mo_atEnd).cc 18 = .ok (.bipush (-7), 2) := by decide +kernel
theorem d_Mo_atEnd_20 : decode (M_Mo_atEnd).cc 20 = .ok (.aload_n 0, 1) := by decide +kernel
theorem d_Mo_atEnd_21 : decode (M_Mo_atEnd).cc 21 = .ok (.getfield 88, 3) := by decide +kernel
theorem d_Mo_atEnd_24 : decode (M_Mo_atEnd).cc 24 = .ok (.invokevirtual 103, 3) := by decide +kernel
theorem d_Mo_atEnd_27 : decode (M_Mo_atEnd).cc 27 = .ok (.ireturn, 1) := by decide +kernel
theorem d_Mo_atEnd_28 : decode (M_Mo_atEnd).cc 28 = .ok (.iinc 1 1, 3) := by decide +kernel
theorem d_Mo_atEnd_31 : decode (M_Mo_atEnd).cc 31 = .ok (.goto (-29), 3) := by decide +kernel
theorem d_Mo_atEnd_34 : decode (M_Mo_atEnd).cc 34 = .ok (.iconst 0, 1) := by decide +kernel
theorem d_Mo_atEnd_35 : decode (M_Mo_atEnd).cc 35 = .ok (.istore_n 1, 1) := by decide +kernel
theorem d_Mo_atEnd_36 : decode (M_Mo_atEnd).cc 36 = .ok (.iload_n 1, 1) := by decide +kernel
theorem d_Mo_atEnd_37 : decode (M_Mo_atEnd).cc 37 = .ok (.aload_n 0, 1) := by decide +kernel
theorem d_Mo_atEnd_38 : decode (M_Mo_atEnd).cc 38 = .ok (.getfield 167, 3) := by decide +kernel
theorem d_Mo_atEnd_41 : decode (M_Mo_atEnd).cc 41 = .ok (.if_icmp .ge 37, 3) := by decide +kernel
theorem d_Mo_atEnd_44 : decode (M_Mo_atEnd).cc 44 = .ok (.aload_n 0, 1) := by decide +kernel
theorem d_Mo_atEnd_45 : decode (M_Mo_atEnd).cc 45 = .ok (.iload_n 1, 1) := by decide +kernel
theorem d_Mo_atEnd_46 : decode (M_Mo_atEnd).cc 46 = .ok (.invokevirtual 180, 3) := by decide +kernel
theorem d_Mo_atEnd_49 : decode (M_Mo_atEnd).cc 49 = .ok (.aload_n 0, 1) := by decide +kernel
theorem d_Mo_atEnd_50 : decode (M_Mo_atEnd).cc 50 = .ok (.getfield 46, 3) := by decide +kernel
theorem d_Mo_atEnd_53 : decode (M_Mo_atEnd).cc 53 = .ok (.iload_n 1, 1) := by decide +kernel
theorem d_Mo_atEnd_54 : decode (M_Mo_atEnd).cc 54 = .ok (.iaload, 1) := by decide +kernel
theorem d_Mo_atEnd_55 : decode (M_Mo_atEnd).cc 55 = .ok (.invokestatic 114, 3) := by decide +kernel
theorem d_Mo_atEnd_58 : decode (M_Mo_atEnd).cc 58 = .ok (.if_icmp .le 14, 3) := by decide +kernel
theorem d_Mo_atEnd_61 : decode (M_Mo_atEnd).cc 61 = .ok (.aload_n 0, 1) := by decide +kernel
theorem d_Mo_atEnd_62 : decode (M_Mo_atEnd).cc 62 = .ok (.bipush (-8), 2) := by decide +kernel
theorem d_Mo_atEnd_64 : decode (M_Mo_atEnd).cc 64 = .ok (.aload_n 0, 1) := by decide +kernel
theorem d_Mo_atEnd_65 : decode (M_Mo_atEnd).cc 65 = .ok (.getfield 88, 3) := by decide +kernel
theorem d_Mo_atEnd_68 : decode (M_Mo_atEnd).cc 68 = .ok (.invokevirtual 103, 3) := by decide +kernel
theorem d_Mo_atEnd_71 : decode (M_Mo_atEnd).cc 71 = .ok (.ireturn, 1) := by decide +kernel
theorem d_Mo_atEnd_72 : decode (M_Mo_atEnd).cc 72 = .ok (.iinc 1 1, 3) := by decide +kernel
theorem d_Mo_atEnd_75 : decode (M_Mo_atEnd).cc 75 = .ok (.goto (-39), 3) := by decide +kernel
theorem d_Mo_atEnd_78 : decode (M_Mo_atEnd).cc 78 = .ok (.iconst 0, 1) := by decide +kernel
theorem d_Mo_atEnd_79 : decode (M_Mo_atEnd).cc 79 = .ok (.ireturn, 1) := by decide +kernel
theorem d_Mo_sumOf_0 : decode (M_Mo_sumOf).cc 0 = .ok (.iconst 0, 1) := by decide +kernel
theorem d_Mo_sumOf_1 : decode (M_Mo_sumOf).cc 1 = .ok (.istore_n 2, 1) := by decide +kernel
theorem d_Mo_sumOf_2 : decode (M_Mo_sumOf).cc 2 = .ok (.iconst 0, 1) := by decide +kernel
theorem d_Mo_sumOf_3 : decode (M_Mo_sumOf).cc 3 = .ok (.istore_n 3, 1) := by decide +kernel
theorem d_Mo_sumOf_4 : decode (M_Mo_sumOf).cc 4 = .ok (.iload_n 3, 1) := by decide +kernel
theorem d_Mo_sumOf_5 : decode (M_Mo_sumOf).cc 5 = .ok (.aload_n 0, 1) := by decide +kernel
theorem d_Mo_sumOf_6 : decode (M_Mo_sumOf).cc 6 = .ok (.getfield 167, 3) := by decide +kernel
theorem d_Mo_sumOf_9 : decode (M_Mo_sumOf).cc 9 = .ok (.if_icmp .ge 23, 3) := by decide +kernel
theorem d_Mo_sumOf_12 : decode (M_Mo_sumOf).cc 12 = .ok (.iload_n 2, 1) := by decide +kernel
theorem d_Mo_sumOf_13 : decode (M_Mo_sumOf).cc 13 = .ok (.aload_n 0, 1) := by decide +kernel
theorem d_Mo_sumOf_14 : decode (M_Mo_sumOf).cc 14 = .ok (.getfield 49, 3) := by decide +kernel
theorem d_Mo_sumOf_17 : decode (M_Mo_sumOf).cc 17 = .ok (.bipush 6, 2) := by decide +kernel
theorem d_Mo_sumOf_19 : decode (M_Mo_sumOf).cc 19 = .ok (.iload_n 1, 1) := by decide +kernel
theorem d_Mo_sumOf_20 : decode (M_Mo_sumOf).cc 20 = .ok (.imul, 1) := by decide +kernel
theorem d_Mo_sumOf_21 : decode (M_Mo_sumOf).cc 21 = .ok (.iload_n 3, 1) := by decide +kernel
theorem d_Mo_sumOf_22 : decode (M_Mo_sumOf).cc 22 = .ok (.iadd, 1) := by decide +kernel
theorem d_Mo_sumOf_23 : decode (M_Mo_sumOf).cc 23 = .ok (.iaload, 1) := by decide +kernel
theorem d_Mo_sumOf_24 : decode (M_Mo_sumOf).cc 24 = .ok (.iadd, 1) := by decide +kernel
theorem d_Mo_sumOf_25 : decode (M_Mo_sumOf).cc 25 = .ok (.istore_n 2, 1) := by decide +kernel
theorem d_Mo_sumOf_26 : decode (M_Mo_sumOf).cc 26 = .ok (.iinc 3 1, 3) := by decide +kernel
theorem d_Mo_sumOf_29 : decode (M_Mo_sumOf).cc 29 = .ok (.goto (-25), 3) := by decide +kernel
theorem d_Mo_sumOf_32 : decode (M_Mo_sumOf).cc 32 = .ok (.iload_n 2, 1) := by decide +kernel
theorem d_Mo_sumOf_33 : decode (M_Mo_sumOf).cc 33 = .ok (.ireturn, 1) := by decide +kernel
theorem d_Mo_numberInList_0 : decode (M_Mo_numberInList).cc 0 = .ok (.aload_n 0, 1) := by decide +kernel
theorem d_Mo_numberInList_1 : decode (M_Mo_numberInList).cc 1 = .ok (.getfield 167, 3) := by decide +kernel
theorem d_Mo_numberInList_4 : decode (M_Mo_numberInList).cc 4 = .ok (.aload_n 0, 1) := by decide +kernel
theorem d_Mo_numberInList_5 : decode (M_Mo_numberInList).cc 5 = .ok (.getfield 129, 3) := by decide +kernel
theorem d_Mo_numberInList_8 : decode (M_Mo_numberInList).cc 8 = .ok (.if_icmp .eq 5, 3) := by decide +kernel
theorem d_Mo_numberInList_11 : decode (M_Mo_numberInList).cc 11 = .ok (.iconst (-1), 1) := by decide +kernel
theorem d_Mo_numberInList_12 : decode (M_Mo_numberInList).cc 12 = .ok (.ireturn, 1) := by decide +kernel
theorem d_Mo_numberInList_13 : decode (M_Mo_numberInList).cc 13 = .ok (.iconst 0, 1) := by decide +kernel
theorem d_Mo_numberInList_14 : decode (M_Mo_numberInList).cc 14 = .ok (.istore_n 1, 1) := by decide +kernel
theorem d_Mo_numberInList_15 : decode (M_Mo_numberInList).cc 15 = .ok (.iconst 0, 1) := by decide +kernel
theorem d_Mo_numberInList_16 : decode (M_Mo_numberInList).cc 16 = .ok (.istore_n 2, 1) := by decide +kernel
theorem d_Mo_numberInList_17 : decode (M_Mo_numberInList).cc 17 = .ok (.iload_n 2, 1) := by decide +kernel
theorem d_Mo_numberInList_18 : decode (M_Mo_numberInList).cc 18 = .ok (.aload_n 0, 1) := by decide +kernel
theorem d_Mo_numberInList_19 : decode (M_Mo_numberInList).cc 19 = .ok (.getfield 167, 3) := by decide +kernel
theorem d_Mo_numberInList_22 : decode (M_Mo_numberInList).cc 22 = .ok (.if_icmp .ge 27, 3) := by decide +kernel
theorem d_Mo_numberInList_25 : decode (M_Mo_numberInList).cc 25 = .ok (.iload_n 1, 1) := by decide +kernel
theorem d_Mo_numberInList_26 : decode (M_Mo_numberInList).cc 26 = .ok (.aload_n 0, 1) := by decide +kernel
theorem d_Mo_numberInList_27 : decode (M_Mo_numberInList).cc 27 = .ok (.getfield 46, 3) := by decide +kernel
theorem d_Mo_numberInList_30 : decode (M_Mo_numberInList).cc 30 = .ok (.iload_n 2, 1) := by decide +kernel
theorem d_Mo_numberInList_31 : decode (M_Mo_numberInList).cc 31 = .ok (.iaload, 1) := by decide +kernel
theorem d_Mo_numberInList_32 : decode (M_Mo_numberInList).cc 32 = .ok (.invokestatic 114, 3) := by decide +kernel
theorem d_Mo_numberInList_35 : decode (M_Mo_numberInList).cc 35 = .ok (.iadd, 1) := by decide +kernel
theorem d_Mo_numberInList_36 : decode (M_Mo_numberInList).cc 36 = .ok (.aload_n 0, 1) := by decide +kernel
theorem d_Mo_numberInList_37 : decode (M_Mo_numberInList).cc 37 = .ok (.iload_n 2, 1) := by decide +kernel
theorem d_Mo_numberInList_38 : decode (M_Mo_numberInList).cc 38 = .ok (.invokevirtual 180, 3) := by decide +kernel
theorem d_Mo_numberInList_41 : decode (M_Mo_numberInList).cc 41 = .ok (.isub, 1) := by decide +kernel
theorem d_Mo_numberInList_42 : decode (M_Mo_numberInList).cc 42 = .ok (.istore_n 1, 1) := by decide +kernel
theorem d_Mo_numberInList_43 : decode (M_Mo_numberInList).cc 43 = .ok (.iinc 2 1, 3) := by decide +kernel
theorem d_Mo_numberInList_46 : decode (M_Mo_numberInList).cc 46 = .ok (.goto (-29), 3) := by decide +kernel
theorem d_Mo_numberInList_49 : decode (M_Mo_numberInList).cc 49 = .ok (.iconst 0, 1) := by decide +kernel
theorem d_Mo_numberInList_50 : decode (M_Mo_numberInList).cc 50 = .ok (.istore_n 2, 1) := by decide +kernel
theorem d_Mo_numberInList_51 : decode (M_Mo_numberInList).cc 51 = .ok (.iload_n 2, 1) := by decide +kernel
theorem d_Mo_numberInList_52 : decode (M_Mo_numberInList).cc 52 = .ok (.bipush 15, 2) := by decide +kernel
theorem d_Mo_numberInList_54 : decode (M_Mo_numberInList).cc 54 = .ok (.if_icmp .ge 16, 3) := by decide +kernel
theorem d_Mo_numberInList_57 : decode (M_Mo_numberInList).cc 57 = .ok (.aload_n 0, 1) := by decide +kernel
theorem d_Mo_numberInList_58 : decode (M_Mo_numberInList).cc 58 = .ok (.getfield 52, 3) := by decide +kernel
theorem d_Mo_numberInList_61 : decode (M_Mo_numberInList).cc 61 = .ok (.iload_n 2, 1) := by decide +kernel
theorem d_Mo_numberInList_62 : decode (M_Mo_numberInList).cc 62 = .ok (.iconst (-1), 1) := by decide +kernel
theorem d_Mo_numberInList_63 : decode (M_Mo_numberInList).cc 63 = .ok (.iastore, 1) := by decide +kernel
theorem d_Mo_numberInList_64 : decode (M_Mo_numberInList).cc 64 = .ok (.iinc 2 1, 3) := by decide +kernel
theorem d_Mo_numberInList_67 : decode (M_Mo_numberInList).cc 67 = .ok (.goto (-16), 3) := by decide +kernel
theorem d_Mo_numberInList_70 : decode (M_Mo_numberInList).cc 70 = .ok (.iload_n 1, 1) := by decide +kernel
theorem d_Mo_numberInList_71 : decode (M_Mo_numberInList).cc 71 = .ok (.aload_n 0, 1) := by decide +kernel
theorem d_Mo_numberInList_72 : decode (M_Mo_numberInList).cc 72 = .ok (.getfield 132, 3) := by decide +kernel
theorem d_Mo_numberInList_75 : decode (M_Mo_numberInList).cc 75 = .ok (.if_icmp .ne 10, 3) := by decide +kernel
theorem d_Mo_numberInList_78 : decode (M_Mo_numberInList).cc 78 = .ok (.aload_n 0, 1) := by decide +kernel
theorem d_Mo_numberInList_79 : decode (M_Mo_numberInList).cc 79 = .ok (.invokevirtual 183, 3) := by decide +kernel
theorem d_Mo_numberInList_82 : decode (M_Mo_numberInList).cc 82 = .ok (.ifCond .ne 5, 3) := by decide +kernel
theorem d_Mo_numberInList_85 : decode (M_Mo_numberInList).cc 85 = .ok (.iconst (-1), 1) := by decide +kernel
theorem d_Mo_numberInList_86 : decode (M_Mo_numberInList).cc 86 = .ok (.ireturn, 1) := by decide +kernel
theorem d_Mo_numberInList_87 : decode (M_Mo_numberInList).cc 87 = .ok (.aload_n 0, 1) := by decide +kernel
theorem d_Mo_numberInList_88 : decode (M_Mo_numberInList).cc 88 = .ok (.getfield 129, 3) := by decide +kernel
theorem d_Mo_numberInList_91 : decode (M_Mo_numberInList).cc 91 = .ok (.aload_n 0, 1) := by decide +kernel
theorem d_Mo_numberInList_92 : decode (M_Mo_numberInList).cc 92 = .ok (.getfield 129, 3) := by decide +kernel
theorem d_Mo_numberInList_95 : decode (M_Mo_numberInList).cc 95 = .ok (.iconst 1, 1) := by decide +kernel
theorem d_Mo_numberInList_96 : decode (M_Mo_numberInList).cc 96 = .ok (.isub, 1) := by decide +kernel
theorem d_Mo_numberInList_97 : decode (M_Mo_numberInList).cc 97 = .ok (.imul, 1) := by decide +kernel
theorem d_Mo_numberInList_98 : decode (M_Mo_numberInList).cc 98 = .ok (.iconst 2, 1) := by decide +kernel
theorem d_Mo_numberInList_99 : decode (M_Mo_numberInList).cc 99 = .ok (.idiv, 1) := by decide +kernel
theorem d_Mo_numberInList_100 : decode (M_Mo_numberInList).cc 100 = .ok (.istore_n 2, 1) := by decide +kernel
theorem d_Mo_numberInList_101 : decode (M_Mo_numberInList).cc 101 = .ok (.iconst 0, 1) := by decide +kernel
theorem d_Mo_numberInList_102 : decode (M_Mo_numberInList).cc 102 = .ok (.istore_n 3, 1) := by decide +kernel
theorem d_Mo_numberInList_103 : decode (M_Mo_numberInList).cc 103 = .ok (.iload_n 3, 1) := by decide +kernel
theorem d_Mo_numberInList_104 : decode (M_Mo_numberInList).cc 104 = .ok (.aload_n 0, 1) := by decide +kernel
theorem d_Mo_numberInList_105 : decode (M_Mo_numberInList).cc 105 = .ok (.getfield 135, 3) := by decide +kernel
theorem d_Mo_numberInList_108 : decode (M_Mo_numberInList).cc 108 = .ok (.if_icmp .ge 68, 3) := by decide +kernel
theorem d_Mo_numberInList_111 : decode (M_Mo_numberInList).cc 111 = .ok (.iconst 1, 1) := by decide +kernel
theorem d_Mo_numberInList_112 : decode (M_Mo_numberInList).cc 112 = .ok (.istore 4, 2) := by decide +kernel
theorem d_Mo_numberInList_114 : decode (M_Mo_numberInList).cc 114 = .ok (.iconst 0, 1) := by decide +kernel
theorem d_Mo_numberInList_115 : decode (M_Mo_numberInList).cc 115 = .ok (.istore 5, 2) := by decide +kernel
theorem d_Mo_numberInList_117 : decode (M_Mo_numberInList).cc 117 = .ok (.iload 5, 2) := by decide +kernel
theorem d_Mo_numberInList_119 : decode (M_Mo_numberInList).cc 119 = .ok (.iload_n 2, 1) := by decide +kernel
theorem d_Mo_numberInList_120 : decode (M_Mo_numberInList).cc 120 = .ok (.if_icmp .ge 43, 3) := by decide +kernel
theorem d_Mo_numberInList_123 : decode (M_Mo_numberInList).cc 123 = .ok (.iload 4, 2) := by decide +kernel
theorem d_Mo_numberInList_125 : decode (M_Mo_numberInList).cc 125 = .ok (.ifCond .eq 29, 3) := by decide +kernel
theorem d_Mo_numberInList_128 : decode (M_Mo_numberInList).cc 128 = .ok (.aload_n 0, 1) := by decide +kernel
theorem d_Mo_numberInList_129 : decode (M_Mo_numberInList).cc 129 = .ok (.getfield 21, 3) := by decide +kernel
theorem d_Mo_numberInList_132 : decode (M_Mo_numberInList).cc 132 = .ok (.bipush 15, 2) := by decide +kernel
theorem d_Mo_numberInList_134 : decode (M_Mo_numberInList).cc 134 = .ok (.iload_n 3, 1) := by decide +kernel
theorem d_Mo_numberInList_135 : decode (M_Mo_numberInList).cc 135 = .ok (.imul, 1) := by decide +kernel
theorem d_Mo_numberInList_136 : decode (M_Mo_numberInList).cc 136 = .ok (.iload 5, 2) := by decide +kernel
theorem d_Mo_numberInList_138 : decode (M_Mo_numberInList).cc 138 = .ok (.iadd, 1) := by decide +kernel
theorem d_Mo_numberInList_139 : decode (M_Mo_numberInList).cc 139 = .ok (.iaload, 1) := by decide +kernel
theorem d_Mo_numberInList_140 : decode (M_Mo_numberInList).cc 140 = .ok (.aload_n 0, 1) := by decide +kernel
theorem d_Mo_numberInList_141 : decode (M_Mo_numberInList).cc 141 = .ok (.getfield 52, 3) := by decide +kernel
theorem d_Mo_numberInList_144 : decode (M_Mo_numberInList).cc 144 = .ok (.iload 5, 2) := by decide +kernel
theorem d_Mo_numberInList_146 : decode (M_Mo_numberInList).cc 146 = .ok (.iaload, 1) := by decide +kernel
theorem d_Mo_numberInList_147 : decode (M_Mo_numberInList).cc 147 = .ok (.if_icmp .ne 7, 3) := by decide +kernel
theorem d_Mo_numberInList_150 : decode (M_Mo_numberInList).cc 150 = .ok (.iconst 1, 1) := by decide +kernel
theorem d_Mo_numberInList_151 : decode (M_Mo_numberInList).cc 151 = .ok (.goto 4, 3) := by decide +kernel
theorem d_Mo_numberInList_154 : decode (M_Mo_numberInList).cc 154 = .ok (.iconst 0, 1) := by decide +kernel
theorem d_Mo_numberInList_155 : decode (M_Mo_numberInList).cc 155 = .ok (.istore 4, 2) := by decide +kernel
theorem d_Mo_numberInList_157 : decode (M_Mo_numberInList).cc 157 = .ok (.iinc 5 1, 3) := by decide +kernel
theorem d_Mo_numberInList_160 : decode (M_Mo_numberInList).cc 160 = .ok (.goto (-43), 3) := by decide +kernel
theorem d_Mo_numberInList_163 : decode (M_Mo_numberInList).cc 163 = .ok (.iload 4, 2) := by decide +kernel
theorem d_Mo_numberInList_165 : decode (M_Mo_numberInList).cc 165 = .ok (.ifCond .eq 5, 3) := by decide +kernel
theorem d_Mo_numberInList_168 : decode (M_Mo_numberInList).cc 168 = .ok (.iload_n 3, 1) := by decide +kernel
theorem d_Mo_numberInList_169 : decode (M_Mo_numberInList).cc 169 = .ok (.ireturn, 1) := by decide +kernel
theorem d_Mo_numberInList_170 : decode (M_Mo_numberInList).cc 170 = .ok (.iinc 3 1, 3) := by decide +kernel
theorem d_Mo_numberInList_173 : decode (M_Mo_numberInList).cc 173 = .ok (.goto (-70), 3) := by decide +kernel
theorem d_Mo_numberInList_176 : decode (M_Mo_numberInList).cc 176 = .ok (.iconst (-1), 1) := by decide +kernel
theorem d_Mo_numberInList_177 : decode (M_Mo_numberInList).cc 177 = .ok (.ireturn, 1) := by decide +kernel
theorem d_Mo_greatest_0 : decode (M_Mo_greatest).cc 0 = .ok (.iconst 0, 1) := by decide +kernel
theorem d_Mo_greatest_1 : decode (M_Mo_greatest).cc 1 = .ok (.istore_n 1, 1) := by decide +kernel
theorem d_Mo_greatest_2 : decode (M_Mo_greatest).cc 2 = .ok (.iconst 0, 1) := by decide +kernel
theorem d_Mo_greatest_3 : decode (M_Mo_greatest).cc 3 = .ok (.istore_n 2, 1) := by decide +kernel
theorem d_Mo_greatest_4 : decode (M_Mo_greatest).cc 4 = .ok (.aload_n 0, 1) := by decide +kernel
theorem d_Mo_greatest_5 : decode (M_Mo_greatest).cc 5 = .ok (.getfield 39, 3) := by decide +kernel
theorem d_Mo_greatest_8 : decode (M_Mo_greatest).cc 8 = .ok (.iconst 0, 1) := by decide +kernel
theorem d_Mo_greatest_9 : decode (M_Mo_greatest).cc 9 = .ok (.iconst (-1), 1) := by decide +kernel
theorem d_Mo_greatest_10 : decode (M_Mo_greatest).cc 10 = .ok (.iastore, 1) := by decide +kernel
theorem d_Mo_greatest_11 : decode (M_Mo_greatest).cc 11 = .ok (.iconst 0, 1) := by decide +kernel
theorem d_Mo_greatest_12 : decode (M_Mo_greatest).cc 12 = .ok (.istore_n 3, 1) := by decide +kernel
theorem d_Mo_greatest_13 : decode (M_Mo_greatest).cc 13 = .ok (.iload_n 3, 1) := by decide +kernel
theorem d_Mo_greatest_14 : decode (M_Mo_greatest).cc 14 = .ok (.bipush 6, 2) := by decide +kernel
theorem d_Mo_greatest_16 : decode (M_Mo_greatest).cc 16 = .ok (.if_icmp .ge 16, 3) := by decide +kernel
theorem d_Mo_greatest_19 : decode (M_Mo_greatest).cc 19 = .ok (.aload_n 0, 1) := by decide +kernel
theorem d_Mo_greatest_20 : decode (M_Mo_greatest).cc 20 = .ok (.getfield 42, 3) := by decide +kernel
theorem d_Mo_greatest_23 : decode (M_Mo_greatest).cc 23 = .ok (.iload_n 3, 1) := by decide +kernel
theorem d_Mo_greatest_24 : decode (M_Mo_greatest).cc 24 = .ok (.iconst 0, 1) := by decide +kernel
theorem d_Mo_greatest_25 : decode (M_Mo_greatest).cc 25 = .ok (.bastore, 1) := by decide +kernel
theorem d_Mo_greatest_26 : decode (M_Mo_greatest).cc 26 = .ok (.iinc 3 1, 3) := by decide +kernel
theorem d_Mo_greatest_29 : decode (M_Mo_greatest).cc 29 = .ok (.goto (-16), 3) := by decide +kernel
theorem d_Mo_greatest_32 : decode (M_Mo_greatest).cc 32 = .ok (.iload_n 2, 1) := by decide +kernel
theorem d_Mo_greatest_33 : decode (M_Mo_greatest).cc 33 = .ok (.ifCond .lt 132, 3) := by decide +kernel
theorem d_Mo_greatest_36 : decode (M_Mo_greatest).cc 36 = .ok (.iload_n 2, 1) := by decide +kernel
theorem d_Mo_greatest_37 : decode (M_Mo_greatest).cc 37 = .ok (.aload_n 0, 1) := by decide +kernel
theorem d_Mo_greatest_38 : decode (M_Mo_greatest).cc 38 = .ok (.getfield 129, 3) := by decide +kernel
theorem d_Mo_greatest_41 : decode (M_Mo_greatest).cc 41 = .ok (.if_icmp .ne 15, 3) := by decide +kernel
theorem d_Mo_greatest_44 : decode (M_Mo_greatest).cc 44 = .ok (.iconst 1, 1) := by decide +kernel
theorem d_Mo_greatest_45 : decode (M_Mo_greatest).cc 45 = .ok (.istore_n 1, 1) := by decide +kernel
theorem d_Mo_greatest_46 : decode (M_Mo_greatest).cc 46 = .ok (.aload_n 0, 1) := by decide +kernel
theorem d_Mo_greatest_47 : decode (M_Mo_greatest).cc 47 = .ok (.invokevirtual 187, 3) := by decide +kernel
theorem d_Mo_greatest_50 : decode (M_Mo_greatest).cc 50 = .ok (.iinc 2 (-1), 3) := by decide +kernel
theorem d_Mo_greatest_53 : decode (M_Mo_greatest).cc 53 = .ok (.goto (-21), 3) := by decide +kernel
theorem d_Mo_greatest_56 : decode (M_Mo_greatest).cc 56 = .ok (.aload_n 0, 1) := by decide +kernel
theorem d_Mo_greatest_57 : decode (M_Mo_greatest).cc 57 = .ok (.getfield 39, 3) := by decide +kernel
theorem d_Mo_greatest_60 : decode (M_Mo_greatest).cc 60 = .ok (.iload_n 2, 1) := by decide +kernel
theorem d_Mo_greatest_61 : decode (M_Mo_greatest).cc 61 = .ok (.iaload, 1) := by decide +kernel
theorem d_Mo_greatest_62 : decode (M_Mo_greatest).cc 62 = .ok (.ifCond .lt 15, 3) := by decide +kernel
theorem d_Mo_greatest_65 : decode (M_Mo_greatest).cc 65 = .ok (.aload_n 0, 1) := by decide +kernel
theorem d_Mo_greatest_66 : decode (M_Mo_greatest).cc 66 = .ok (.getfield 42, 3) := by decide +kernel
theorem d_Mo_greatest_69 : decode (M_Mo_greatest).cc 69 = .ok (.aload_n 0, 1) := by decide +kernel
theorem d_Mo_greatest_70 : decode (M_Mo_greatest).cc 70 = .ok (.getfield 39, 3) := by decide +kernel
theorem d_Mo_greatest_73 : decode (M_Mo_greatest).cc 73 = .ok (.iload_n 2, 1) := by decide +kernel
theorem d_Mo_greatest_74 : decode (M_Mo_greatest).cc 74 = .ok (.iaload, 1) := by decide +kernel
theorem d_Mo_greatest_75 : decode (M_Mo_greatest).cc 75 = .ok (.iconst 0, 1) := by decide +kernel
theorem d_Mo_greatest_76 : decode (M_Mo_greatest).cc 76 = .ok (.bastore, 1) := by decide +kernel
theorem d_Mo_greatest_77 : decode (M_Mo_greatest).cc 77 = .ok (.aload_n 0, 1) := by decide +kernel
theorem d_Mo_greatest_78 : decode (M_Mo_greatest).cc 78 = .ok (.getfield 39, 3) := by decide +kernel
theorem d_Mo_greatest_81 : decode (M_Mo_greatest).cc 81 = .ok (.iload_n 2, 1) := by decide +kernel
theorem d_Mo_greatest_82 : decode (M_Mo_greatest).cc 82 = .ok (.iaload, 1) := by decide +kernel
theorem d_Mo_greatest_83 : decode (M_Mo_greatest).cc 83 = .ok (.iconst 1, 1) := by decide +kernel
theorem d_Mo_greatest_84 : decode (M_Mo_greatest).cc 84 = .ok (.iadd, 1) := by decide +kernel
theorem d_Mo_greatest_85 : decode (M_Mo_greatest).cc 85 = .ok (.istore_n 3, 1) := by decide +kernel
theorem d_Mo_greatest_86 : decode (M_Mo_greatest).cc 86 = .ok (.iload_n 3, 1) := by decide +kernel
theorem d_Mo_greatest_87 : decode (M_Mo_greatest).cc 87 = .ok (.aload_n 0, 1) := by decide +kernel
theorem d_Mo_greatest_88 : decode (M_Mo_greatest).cc 88 = .ok (.getfield 129, 3) := by decide +kernel
theorem d_Mo_greatest_91 : decode (M_Mo_greatest).cc 91 = .ok (.if_icmp .ge 33, 3) := by decide +kernel
theorem d_Mo_greatest_94 : decode (M_Mo_greatest).cc 94 = .ok (.aload_n 0, 1) := by decide +kernel
theorem d_Mo_greatest_95 : decode (M_Mo_greatest).cc 95 = .ok (.getfield 42, 3) := by decide +kernel
theorem d_Mo_greatest_98 : decode (M_Mo_greatest).cc 98 = .ok (.iload_n 3, 1) := by decide +kernel
theorem d_Mo_greatest_99 : decode (M_Mo_greatest).cc 99 = .ok (.baload, 1) := by decide +kernel
theorem d_Mo_greatest_100 : decode (M_Mo_greatest).cc 100 = .ok (.ifCond .ne 18, 3) := by decide +kernel
theorem d_Mo_greatest_103 : decode (M_Mo_greatest).cc 103 = .ok (.aload_n 0, 1) := by decide +kernel
theorem d_Mo_greatest_104 : decode (M_Mo_greatest).cc 104 = .ok (.getfield 46, 3) := by decide +kernel
theorem d_Mo_greatest_107 : decode (M_Mo_greatest).cc 107 = .ok (.iload_n 3, 1) := by decide +kernel
theorem d_Mo_greatest_108 : decode (M_Mo_greatest).cc 108 = .ok (.iaload, 1) := by decide +kernel
theorem d_Mo_greatest_109 : decode (M_Mo_greatest).cc 109 = .ok (.aload_n 0, 1) := by decide +kernel
theorem d_Mo_greatest_110 : decode (M_Mo_greatest).cc 110 = .ok (.getfield 17, 3) := by decide +kernel
theorem d_Mo_greatest_113 : decode (M_Mo_greatest).cc 113 = .ok (.iload_n 2, 1) := by decide +kernel
theorem d_Mo_greatest_114 : decode (M_Mo_greatest).cc 114 = .ok (.iaload, 1) := by decide +kernel
theorem d_Mo_greatest_115 : decode (M_Mo_greatest).cc 115 = .ok (.if_icmp .eq 9, 3) := by decide +kernel
theorem d_Mo_greatest_118 : decode (M_Mo_greatest).cc 118 = .ok (.iinc 3 1, 3) := by decide +kernel
theorem d_Mo_greatest_121 : decode (M_Mo_greatest).cc 121 = .ok (.goto (-35), 3) := by decide +kernel
theorem d_Mo_greatest_124 : decode (M_Mo_greatest).cc 124 = .ok (.iload_n 3, 1) := by decide +kernel
theorem d_Mo_greatest_125 : decode (M_Mo_greatest).cc 125 = .ok (.aload_n 0, 1) := by decide +kernel
theorem d_Mo_greatest_126 : decode (M_Mo_greatest).cc 126 = .ok (.getfield 129, 3) := by decide +kernel
theorem d_Mo_greatest_129 : decode (M_Mo_greatest).cc 129 = .ok (.if_icmp .ne 9, 3) := by decide +kernel
theorem d_Mo_greatest_132 : decode (M_Mo_greatest).cc 132 = .ok (.iinc 2 (-1), 3) := by decide +kernel
theorem d_Mo_greatest_135 : decode (M_Mo_greatest).cc 135 = .ok (.goto 27, 3) := by decide +kernel
theorem d_Mo_greatest_138 : decode (M_Mo_greatest).cc 138 = .ok (.aload_n 0, 1) := by decide +kernel
theorem d_Mo_greatest_139 : decode (M_Mo_greatest).cc 139 = .ok (.getfield 39, 3) := by decide +kernel
theorem d_Mo_greatest_142 : decode (M_Mo_greatest).cc 142 = .ok (.iload_n 2, 1) := by decide +kernel
theorem d_Mo_greatest_143 : decode (M_Mo_greatest).cc 143 = .ok (.iload_n 3, 1) := by decide +kernel
theorem d_Mo_greatest_144 : decode (M_Mo_greatest).cc 144 = .ok (.iastore, 1) := by decide +kernel
theorem d_Mo_greatest_145 : decode (M_Mo_greatest).cc 145 = .ok (.aload_n 0, 1) := by decide +kernel
theorem d_Mo_greatest_146 : decode (M_Mo_greatest).cc 146 = .ok (.getfield 42, 3) := by decide +kernel
theorem d_Mo_greatest_149 : decode (M_Mo_greatest).cc 149 = .ok (.iload_n 3, 1) := by decide +kernel
theorem d_Mo_greatest_150 : decode (M_Mo_greatest).cc 150 = .ok (.iconst 1, 1) := by decide +kernel
theorem d_Mo_greatest_151 : decode (M_Mo_greatest).cc 151 = .ok (.bastore, 1) := by decide +kernel
theorem d_Mo_greatest_152 : decode (M_Mo_greatest).cc 152 = .ok (.iinc 2 1, 3) := by decide +kernel
theorem d_Mo_greatest_155 : decode (M_Mo_greatest).cc 155 = .ok (.aload_n 0, 1) := by decide +kernel
theorem d_Mo_greatest_156 : decode (M_Mo_greatest).cc 156 = .ok (.getfield 39, 3) := by decide +kernel
theorem d_Mo_greatest_159 : decode (M_Mo_greatest).cc 159 = .ok (.iload_n 2, 1) := by decide +kernel
theorem d_Mo_greatest_160 : decode (M_Mo_greatest).cc 160 = .ok (.iconst (-1), 1) := by decide +kernel
theorem d_Mo_greatest_161 : decode (M_Mo_greatest).cc 161 = .ok (.iastore, 1) := by decide +kernel
theorem d_Mo_greatest_162 : decode (M_Mo_greatest).cc 162 = .ok (.goto (-130), 3) := by decide +kernel
theorem d_Mo_greatest_165 : decode (M_Mo_greatest).cc 165 = .ok (.iload_n 1, 1) := by decide +kernel
theorem d_Mo_greatest_166 : decode (M_Mo_greatest).cc 166 = .ok (.ireturn, 1) := by decide +kernel
theorem d_Mo_take_0 : decode (M_Mo_take).cc 0 = .ok (.iconst 0, 1) := by decide +kernel
theorem d_Mo_take_1 : decode (M_Mo_take).cc 1 = .ok (.istore_n 1, 1) := by decide +kernel
theorem d_Mo_take_2 : decode (M_Mo_take).cc 2 = .ok (.iconst 1, 1) := by decide +kernel
theorem d_Mo_take_3 : decode (M_Mo_take).cc 3 = .ok (.istore_n 2, 1) := by decide +kernel
theorem d_Mo_take_4 : decode (M_Mo_take).cc 4 = .ok (.iload_n 2, 1) := by decide +kernel
theorem d_Mo_take_5 : decode (M_Mo_take).cc 5 = .ok (.aload_n 0, 1) := by decide +kernel
theorem d_Mo_take_6 : decode (M_Mo_take).cc 6 = .ok (.getfield 129, 3) := by decide +kernel
theorem d_Mo_take_9 : decode (M_Mo_take).cc 9 = .ok (.if_icmp .ge 107, 3) := by decide +kernel
theorem d_Mo_take_12 : decode (M_Mo_take).cc 12 = .ok (.iconst 0, 1) := by decide +kernel
theorem d_Mo_take_13 : decode (M_Mo_take).cc 13 = .ok (.istore_n 3, 1) := by decide +kernel
theorem d_Mo_take_14 : decode (M_Mo_take).cc 14 = .ok (.iload_n 3, 1) := by decide +kernel
theorem d_Mo_take_15 : decode (M_Mo_take).cc 15 = .ok (.iload_n 2, 1) := by decide +kernel
theorem d_Mo_take_16 : decode (M_Mo_take).cc 16 = .ok (.if_icmp .ge 94, 3) := by decide +kernel
theorem d_Mo_take_19 : decode (M_Mo_take).cc 19 = .ok (.aload_n 0, 1) := by decide +kernel
theorem d_Mo_take_20 : decode (M_Mo_take).cc 20 = .ok (.getfield 49, 3) := by decide +kernel
theorem d_Mo_take_23 : decode (M_Mo_take).cc 23 = .ok (.bipush 6, 2) := by decide +kernel
theorem d_Mo_take_25 : decode (M_Mo_take).cc 25 = .ok (.aload_n 0, 1) := by decide +kernel
theorem d_Mo_take_26 : decode (M_Mo_take).cc 26 = .ok (.getfield 39, 3) := by decide +kernel
theorem d_Mo_take_29 : decode (M_Mo_take).cc 29 = .ok (.iload_n 2, 1) := by decide +kernel
theorem d_Mo_take_30 : decode (M_Mo_take).cc 30 = .ok (.iaload, 1) := by decide +kernel
theorem d_Mo_take_31 : decode (M_Mo_take).cc 31 = .ok (.imul, 1) := by decide +kernel
theorem d_Mo_take_32 : decode (M_Mo_take).cc 32 = .ok (.aload_n 0, 1) := by decide +kernel
theorem d_Mo_take_33 : decode (M_Mo_take).cc 33 = .ok (.getfield 39, 3) := by decide +kernel
theorem d_Mo_take_36 : decode (M_Mo_take).cc 36 = .ok (.iload_n 3, 1) := by decide +kernel
theorem d_Mo_take_37 : decode (M_Mo_take).cc 37 = .ok (.iaload, 1) := by decide +kernel
theorem d_Mo_take_38 : decode (M_Mo_take).cc 38 = .ok (.iadd, 1) := by decide +kernel
theorem d_Mo_take_39 : decode (M_Mo_take).cc 39 = .ok (.iaload, 1) := by decide +kernel
theorem d_Mo_take_40 : decode (M_Mo_take).cc 40 = .ok (.istore 4, 2) := by decide +kernel
theorem d_Mo_take_42 : decode (M_Mo_take).cc 42 = .ok (.iload_n 2, 1) := by decide +kernel
theorem d_Mo_take_43 : decode (M_Mo_take).cc 43 = .ok (.iload_n 3, 1) := by decide +kernel
theorem d_Mo_take_44 : decode (M_Mo_take).cc 44 = .ok (.invokestatic 164, 3) := by decide +kernel
theorem d_Mo_take_47 : decode (M_Mo_take).cc 47 = .ok (.istore 5, 2) := by decide +kernel
theorem d_Mo_take_49 : decode (M_Mo_take).cc 49 = .ok (.iload_n 1, 1) := by decide +kernel
theorem d_Mo_take_50 : decode (M_Mo_take).cc 50 = .ok (.ifCond .ne 39, 3) := by decide +kernel
theorem d_Mo_take_53 : decode (M_Mo_take).cc 53 = .ok (.iload 4, 2) := by decide +kernel
theorem d_Mo_take_55 : decode (M_Mo_take).cc 55 = .ok (.aload_n 0, 1) := by decide +kernel
theorem d_Mo_take_56 : decode (M_Mo_take).cc 56 = .ok (.getfield 52, 3) := by decide +kernel
theorem d_Mo_take_59 : decode (M_Mo_take).cc 59 = .ok (.iload 5, 2) := by decide +kernel
theorem d_Mo_take_61 : decode (M_Mo_take).cc 61 = .ok (.iaload, 1) := by decide +kernel
theorem d_Mo_take_62 : decode (M_Mo_take).cc 62 = .ok (.if_icmp .le 7, 3) := by decide +kernel
theorem d_Mo_take_65 : decode (M_Mo_take).cc 65 = .ok (.iconst 1, 1) := by decide +kernel
theorem d_Mo_take_66 : decode (M_Mo_take).cc 66 = .ok (.goto 24, 3) := by decide +kernel
theorem d_Mo_take_69 : decode (M_Mo_take).cc 69 = .ok (.iload 4, 2) := by decide +kernel
theorem d_Mo_take_71 : decode (M_Mo_take).cc 71 = .ok (.aload_n 0, 1) := by decide +kernel
theorem d_Mo_take_72 : decode (M_Mo_take).cc 72 = .ok (.getfield 52, 3) := by decide +kernel
theorem d_Mo_take_75 : decode (M_Mo_take).cc 75 = .ok (.iload 5, 2) := by decide +kernel
theorem d_Mo_take_77 : decode (M_Mo_take).cc 77 = .ok (.iaload, 1) := by decide +kernel
theorem d_Mo_take_78 : decode (M_Mo_take).cc 78 = .ok (.if_icmp .ge 7, 3) := by decide +kernel
theorem d_Mo_take_81 : decode (M_Mo_take).cc 81 = .ok (.iconst (-1), 1) := by decide +kernel
theorem d_Mo_take_82 : decode (M_Mo_take).cc 82 = .ok (.goto 8, 3) := by decide +kernel
theorem d_Mo_take_85 : decode (M_Mo_take).cc 85 = .ok (.iconst 0, 1) := by decide +kernel
theorem d_Mo_take_86 : decode (M_Mo_take).cc 86 = .ok (.goto 4, 3) := by decide +kernel
theorem d_Mo_take_89 : decode (M_Mo_take).cc 89 = .ok (.iload_n 1, 1) := by decide +kernel
theorem d_Mo_take_90 : decode (M_Mo_take).cc 90 = .ok (.istore_n 1, 1) := by decide +kernel
theorem d_Mo_take_91 : decode (M_Mo_take).cc 91 = .ok (.iload_n 1, 1) := by decide +kernel
theorem d_Mo_take_92 : decode (M_Mo_take).cc 92 = .ok (.ifCond .le 12, 3) := by decide +kernel
theorem d_Mo_take_95 : decode (M_Mo_take).cc 95 = .ok (.aload_n 0, 1) := by decide +kernel
theorem d_Mo_take_96 : decode (M_Mo_take).cc 96 = .ok (.getfield 52, 3) := by decide +kernel
theorem d_Mo_take_99 : decode (M_Mo_take).cc 99 = .ok (.iload 5, 2) := by decide +kernel
theorem d_Mo_take_101 : decode (M_Mo_take).cc 101 = .ok (.iload 4, 2) := by decide +kernel
theorem d_Mo_take_103 : decode (M_Mo_take).cc 103 = .ok (.iastore, 1) := by decide +kernel
theorem d_Mo_take_104 : decode (M_Mo_take).cc 104 = .ok (.iinc 3 1, 3) := by decide +kernel
theorem d_Mo_take_107 : decode (M_Mo_take).cc 107 = .ok (.goto (-93), 3) := by decide +kernel
theorem d_Mo_take_110 : decode (M_Mo_take).cc 110 = .ok (.iinc 2 1, 3) := by decide +kernel
theorem d_Mo_take_113 : decode (M_Mo_take).cc 113 = .ok (.goto (-109), 3) := by decide +kernel
theorem d_Mo_take_116 : decode (M_Mo_take).cc 116 = .ok (.return_, 1) := by decide +kernel
theorem d_Mo_place_0 : decode (M_Mo_place).cc 0 = .ok (.aload_n 0, 1) := by decide +kernel
theorem d_Mo_place_1 : decode (M_Mo_place).cc 1 = .ok (.iconst 0, 1) := by decide +kernel
theorem d_Mo_place_2 : decode (M_Mo_place).cc 2 = .ok (.putfield 85, 3) := by decide +kernel
theorem d_Mo_place_5 : decode (M_Mo_place).cc 5 = .ok (.aload_n 0, 1) := by decide +kernel
theorem d_Mo_place_6 : decode (M_Mo_place).cc 6 = .ok (.getfield 13, 3) := by decide +kernel
theorem d_Mo_place_9 : decode (M_Mo_place).cc 9 = .ok (.ireturn, 1) := by decide +kernel
theorem d_Mo_count_0 : decode (M_Mo_count).cc 0 = .ok (.aload_n 0, 1) := by decide +kernel
theorem d_Mo_count_1 : decode (M_Mo_count).cc 1 = .ok (.iconst 0, 1) := by decide +kernel
theorem d_Mo_count_2 : decode (M_Mo_count).cc 2 = .ok (.putfield 85, 3) := by decide +kernel
theorem d_Mo_count_5 : decode (M_Mo_count).cc 5 = .ok (.iload_n 1, 1) := by decide +kernel
theorem d_Mo_count_6 : decode (M_Mo_count).cc 6 = .ok (.ifCond .ne 10, 3) := by decide +kernel
theorem d_Mo_count_9 : decode (M_Mo_count).cc 9 = .ok (.aload_n 0, 1) := by decide +kernel
theorem d_Mo_count_10 : decode (M_Mo_count).cc 10 = .ok (.getfield 135, 3) := by decide +kernel
theorem d_Mo_count_13 : decode (M_Mo_count).cc 13 = .ok (.goto 28, 3) := by decide +kernel
theorem d_Mo_count_16 : decode (M_Mo_count).cc 16 = .ok (.iload_n 1, 1) := by decide +kernel
theorem d_Mo_count_17 : decode (M_Mo_count).cc 17 = .ok (.iconst 1, 1) := by decide +kernel
theorem d_Mo_count_18 : decode (M_Mo_count).cc 18 = .ok (.if_icmp .ne 10, 3) := by decide +kernel
theorem d_Mo_count_21 : decode (M_Mo_count).cc 21 = .ok (.aload_n 0, 1) := by decide +kernel
theorem d_Mo_count_22 : decode (M_Mo_count).cc 22 = .ok (.getfield 129, 3) := by decide +kernel
theorem d_Mo_count_25 : decode (M_Mo_count).cc 25 = .ok (.goto 16, 3) := by decide +kernel
theorem d_Mo_count_28 : decode (M_Mo_count).cc 28 = .ok (.iload_n 1, 1) := by decide +kernel
theorem d_Mo_count_29 : decode (M_Mo_count).cc 29 = .ok (.iconst 2, 1) := by decide +kernel
theorem d_Mo_count_30 : decode (M_Mo_count).cc 30 = .ok (.if_icmp .ne 10, 3) := by decide +kernel
theorem d_Mo_count_33 : decode (M_Mo_count).cc 33 = .ok (.aload_n 0, 1) := by decide +kernel
theorem d_Mo_count_34 : decode (M_Mo_count).cc 34 = .ok (.getfield 132, 3) := by decide +kernel
theorem d_Mo_count_37 : decode (M_Mo_count).cc 37 = .ok (.goto 4, 3) := by decide +kernel
theorem d_Mo_count_40 : decode (M_Mo_count).cc 40 = .ok (.iconst (-1), 1) := by decide +kernel
theorem d_Mo_count_41 : decode (M_Mo_count).cc 41 = .ok (.ireturn, 1) := by decide +kernel
theorem d_Mo_element_0 : decode (M_Mo_element).cc 0 = .ok (.aload_n 0, 1) := by decide +kernel
theorem d_Mo_element_1 : decode (M_Mo_element).cc 1 = .ok (.aload_n 0, 1) := by decide +kernel
theorem d_Mo_element_2 : decode (M_Mo_element).cc 2 = .ok (.iload_n 1, 1) := by decide +kernel
theorem d_Mo_element_3 : decode (M_Mo_element).cc 3 = .ok (.invokevirtual 190, 3) := by decide +kernel
theorem d_Mo_element_6 : decode (M_Mo_element).cc 6 = .ok (.ifCond .eq 7, 3) := by decide +kernel
theorem d_Mo_element_9 : decode (M_Mo_element).cc 9 = .ok (.iconst 0, 1) := by decide +kernel
theorem d_Mo_element_10 : decode (M_Mo_element).cc 10 = .ok (.goto 4, 3) := by decide +kernel
theorem d_Mo_element_13 : decode (M_Mo_element).cc 13 = .ok (.iconst 1, 1) := by decide +kernel
theorem d_Mo_element_14 : decode (M_Mo_element).cc 14 = .ok (.invokevirtual 91, 3) := by decide +kernel
theorem d_Mo_element_17 : decode (M_Mo_element).cc 17 = .ok (.ifCond .eq 7, 3) := by decide +kernel
theorem d_Mo_element_20 : decode (M_Mo_element).cc 20 = .ok (.iconst 0, 1) := by decide +kernel
theorem d_Mo_element_21 : decode (M_Mo_element).cc 21 = .ok (.goto 9, 3) := by decide +kernel
theorem d_Mo_element_24 : decode (M_Mo_element).cc 24 = .ok (.aload_n 0, 1) := by decide +kernel
theorem d_Mo_element_25 : decode (M_Mo_element).cc 25 = .ok (.getfield 17, 3) := by decide +kernel
theorem d_Mo_element_28 : decode (M_Mo_element).cc 28 = .ok (.iload_n 1, 1) := by decide +kernel
theorem d_Mo_element_29 : decode (M_Mo_element).cc 29 = .ok (.iaload, 1) := by decide +kernel
theorem d_Mo_element_30 : decode (M_Mo_element).cc 30 = .ok (.ireturn, 1) := by decide +kernel
theorem d_Mo_isAtom_0 : decode (M_Mo_isAtom).cc 0 = .ok (.iload_n 1, 1) := by decide +kernel
theorem d_Mo_isAtom_1 : decode (M_Mo_isAtom).cc 1 = .ok (.ifCond .lt 15, 3) := by decide +kernel
theorem d_Mo_isAtom_4 : decode (M_Mo_isAtom).cc 4 = .ok (.iload_n 1, 1) := by decide +kernel
theorem d_Mo_isAtom_5 : decode (M_Mo_isAtom).cc 5 = .ok (.aload_n 0, 1) := by decide +kernel
theorem d_Mo_isAtom_6 : decode (M_Mo_isAtom).cc 6 = .ok (.getfield 129, 3) := by decide +kernel
theorem d_Mo_isAtom_9 : decode (M_Mo_isAtom).cc 9 = .ok (.if_icmp .ge 7, 3) := by decide +kernel
theorem d_Mo_isAtom_12 : decode (M_Mo_isAtom).cc 12 = .ok (.iconst 1, 1) := by decide +kernel
theorem d_Mo_isAtom_13 : decode (M_Mo_isAtom).cc 13 = .ok (.goto 4, 3) := by decide +kernel
theorem d_Mo_isAtom_16 : decode (M_Mo_isAtom).cc 16 = .ok (.iconst 0, 1) := by decide +kernel
theorem d_Mo_isAtom_17 : decode (M_Mo_isAtom).cc 17 = .ok (.ireturn, 1) := by decide +kernel
theorem d_Mo_bond_0 : decode (M_Mo_bond).cc 0 = .ok (.aload_n 0, 1) := by decide +kernel
theorem d_Mo_bond_1 : decode (M_Mo_bond).cc 1 = .ok (.aload_n 0, 1) := by decide +kernel
theorem d_Mo_bond_2 : decode (M_Mo_bond).cc 2 = .ok (.iload_n 1, 1) := by decide +kernel
theorem d_Mo_bond_3 : decode (M_Mo_bond).cc 3 = .ok (.invokevirtual 193, 3) := by decide +kernel
theorem d_Mo_bond_6 : decode (M_Mo_bond).cc 6 = .ok (.ifCond .eq 23, 3) := by decide +kernel
theorem d_Mo_bond_9 : decode (M_Mo_bond).cc 9 = .ok (.aload_n 0, 1) := by decide +kernel
theorem d_Mo_bond_10 : decode (M_Mo_bond).cc 10 = .ok (.iload_n 2, 1) := by decide +kernel
theorem d_Mo_bond_11 : decode (M_Mo_bond).cc 11 = .ok (.invokevirtual 190, 3) := by decide +kernel
theorem d_Mo_bond_14 : decode (M_Mo_bond).cc 14 = .ok (.ifCond .eq 15, 3) := by decide +kernel
theorem d_Mo_bond_17 : decode (M_Mo_bond).cc 17 = .ok (.aload_n 0, 1) := by decide +kernel
theorem d_Mo_bond_18 : decode (M_Mo_bond).cc 18 = .ok (.iload_n 3, 1) := by decide +kernel
theorem d_Mo_bond_19 : decode (M_Mo_bond).cc 19 = .ok (.invokevirtual 190, 3) := by decide +kernel
theorem d_Mo_bond_22 : decode (M_Mo_bond).cc 22 = .ok (.ifCond .eq 7, 3) := by decide +kernel
theorem d_Mo_bond_25 : decode (M_Mo_bond).cc 25 = .ok (.iconst 0, 1) := by decide +kernel
theorem d_Mo_bond_26 : decode (M_Mo_bond).cc 26 = .ok (.goto 4, 3) := by decide +kernel
theorem d_Mo_bond_29 : decode (M_Mo_bond).cc 29 = .ok (.iconst 1, 1) := by decide +kernel
theorem d_Mo_bond_30 : decode (M_Mo_bond).cc 30 = .ok (.invokevirtual 91, 3) := by decide +kernel
theorem d_Mo_bond_33 : decode (M_Mo_bond).cc 33 = .ok (.ifCond .eq 7, 3) := by decide +kernel
theorem d_Mo_bond_36 : decode (M_Mo_bond).cc 36 = .ok (.iconst 0, 1) := by decide +kernel
theorem d_Mo_bond_37 : decode (M_Mo_bond).cc 37 = .ok (.goto 10, 3) := by decide +kernel
theorem d_Mo_bond_40 : decode (M_Mo_bond).cc 40 = .ok (.aload_n 0, 1) := by decide +kernel
theorem d_Mo_bond_41 : decode (M_Mo_bond).cc 41 = .ok (.iload_n 1, 1) := by decide +kernel
theorem d_Mo_bond_42 : decode (M_Mo_bond).cc 42 = .ok (.iload_n 2, 1) := by decide +kernel
theorem d_Mo_bond_43 : decode (M_Mo_bond).cc 43 = .ok (.iload_n 3, 1) := by decide +kernel
theorem d_Mo_bond_44 : decode (M_Mo_bond).cc 44 = .ok (.invokevirtual 196, 3) := by decide +kernel
theorem d_Mo_bond_47 : decode (M_Mo_bond).cc 47 = .ok (.ireturn, 1) := by decide +kernel
theorem d_Mo_isStructure_0 : decode (M_Mo_isStructure).cc 0 = .ok (.iload_n 1, 1) := by decide +kernel
theorem d_Mo_isStructure_1 : decode (M_Mo_isStructure).cc 1 = .ok (.ifCond .lt 15, 3) := by decide +kernel
theorem d_Mo_isStructure_4 : decode (M_Mo_isStructure).cc 4 = .ok (.iload_n 1, 1) := by decide +kernel
theorem d_Mo_isStructure_5 : decode (M_Mo_isStructure).cc 5 = .ok (.aload_n 0, 1) := by decide +kernel
theorem d_Mo_isStructure_6 : decode (M_Mo_isStructure).cc 6 = .ok (.getfield 135, 3) := by decide +kernel
theorem d_Mo_isStructure_9 : decode (M_Mo_isStructure).cc 9 = .ok (.if_icmp .ge 7, 3) := by decide +kernel
theorem d_Mo_isStructure_12 : decode (M_Mo_isStructure).cc 12 = .ok (.iconst 1, 1) := by decide +kernel
theorem d_Mo_isStructure_13 : decode (M_Mo_isStructure).cc 13 = .ok (.goto 4, 3) := by decide +kernel
theorem d_Mo_isStructure_16 : decode (M_Mo_isStructure).cc 16 = .ok (.iconst 0, 1) := by decide +kernel
theorem d_Mo_isStructure_17 : decode (M_Mo_isStructure).cc 17 = .ok (.ireturn, 1) := by decide +kernel
theorem d_Mo_bondOf_0 : decode (M_Mo_bondOf).cc 0 = .ok (.iload_n 2, 1) := by decide +kernel
theorem d_Mo_bondOf_1 : decode (M_Mo_bondOf).cc 1 = .ok (.iload_n 3, 1) := by decide +kernel
theorem d_Mo_bondOf_2 : decode (M_Mo_bondOf).cc 2 = .ok (.if_icmp .ne 7, 3) := by decide +kernel
theorem d_Mo_bondOf_5 : decode (M_Mo_bondOf).cc 5 = .ok (.iconst 0, 1) := by decide +kernel
theorem d_Mo_bondOf_6 : decode (M_Mo_bondOf).cc 6 = .ok (.goto 18, 3) := by decide +kernel
theorem d_Mo_bondOf_9 : decode (M_Mo_bondOf).cc 9 = .ok (.aload_n 0, 1) := by decide +kernel
theorem d_Mo_bondOf_10 : decode (M_Mo_bondOf).cc 10 = .ok (.getfield 21, 3) := by decide +kernel
theorem d_Mo_bondOf_13 : decode (M_Mo_bondOf).cc 13 = .ok (.bipush 15, 2) := by decide +kernel
theorem d_Mo_bondOf_15 : decode (M_Mo_bondOf).cc 15 = .ok (.iload_n 1, 1) := by decide +kernel
theorem d_Mo_bondOf_16 : decode (M_Mo_bondOf).cc 16 = .ok (.imul, 1) := by decide +kernel
theorem d_Mo_bondOf_17 : decode (M_Mo_bondOf).cc 17 = .ok (.iload_n 2, 1) := by decide +kernel
theorem d_Mo_bondOf_18 : decode (M_Mo_bondOf).cc 18 = .ok (.iload_n 3, 1) := by decide +kernel
theorem d_Mo_bondOf_19 : decode (M_Mo_bondOf).cc 19 = .ok (.invokestatic 164, 3) := by decide +kernel
theorem d_Mo_bondOf_22 : decode (M_Mo_bondOf).cc 22 = .ok (.iadd, 1) := by decide +kernel
theorem d_Mo_bondOf_23 : decode (M_Mo_bondOf).cc 23 = .ok (.iaload, 1) := by decide +kernel
theorem d_Mo_bondOf_24 : decode (M_Mo_bondOf).cc 24 = .ok (.ireturn, 1) := by decide +kernel
theorem d_Mo_hydrogens_0 : decode (M_Mo_hydrogens).cc 0 = .ok (.aload_n 0, 1) := by decide +kernel
theorem d_Mo_hydrogens_1 : decode (M_Mo_hydrogens).cc 1 = .ok (.aload_n 0, 1) := by decide +kernel
theorem d_Mo_hydrogens_2 : decode (M_Mo_hydrogens).cc 2 = .ok (.iload_n 1, 1) := by decide +kernel
theorem d_Mo_hydrogens_3 : decode (M_Mo_hydrogens).cc 3 = .ok (.invokevirtual 193, 3) := by decide +kernel
theorem d_Mo_hydrogens_6 : decode (M_Mo_hydrogens).cc 6 = .ok (.ifCond .eq 15, 3) := by decide +kernel
theorem d_Mo_hydrogens_9 : decode (M_Mo_hydrogens).cc 9 = .ok (.aload_n 0, 1) := by decide +kernel
theorem d_Mo_hydrogens_10 : decode (M_Mo_hydrogens).cc 10 = .ok (.iload_n 2, 1) := by decide +kernel
theorem d_Mo_hydrogens_11 : decode (M_Mo_hydrogens).cc 11 = .ok (.invokevirtual 190, 3) := by decide +kernel
theorem d_Mo_hydrogens_14 : decode (M_Mo_hydrogens).cc 14 = .ok (.ifCond .eq 7, 3) := by decide +kernel
theorem d_Mo_hydrogens_17 : decode (M_Mo_hydrogens).cc 17 = .ok (.iconst 0, 1) := by decide +kernel
theorem d_Mo_hydrogens_18 : decode (M_Mo_hydrogens).cc 18 = .ok (.goto 4, 3) := by decide +kernel
theorem d_Mo_hydrogens_21 : decode (M_Mo_hydrogens).cc 21 = .ok (.iconst 1, 1) := by decide +kernel
theorem d_Mo_hydrogens_22 : decode (M_Mo_hydrogens).cc 22 = .ok (.invokevirtual 91, 3) := by decide +kernel
theorem d_Mo_hydrogens_25 : decode (M_Mo_hydrogens).cc 25 = .ok (.ifCond .eq 5, 3) := by decide +kernel
theorem d_Mo_hydrogens_28 : decode (M_Mo_hydrogens).cc 28 = .ok (.iconst 0, 1) := by decide +kernel
theorem d_Mo_hydrogens_29 : decode (M_Mo_hydrogens).cc 29 = .ok (.ireturn, 1) := by decide +kernel
theorem d_Mo_hydrogens_30 : decode (M_Mo_hydrogens).cc 30 = .ok (.aload_n 0, 1) := by decide +kernel
theorem d_Mo_hydrogens_31 : decode (M_Mo_hydrogens).cc 31 = .ok (.getfield 17, 3) := by decide +kernel
theorem d_Mo_hydrogens_34 : decode (M_Mo_hydrogens).cc 34 = .ok (.iload_n 2, 1) := by decide +kernel
theorem d_Mo_hydrogens_35 : decode (M_Mo_hydrogens).cc 35 = .ok (.iaload, 1) := by decide +kernel
theorem d_Mo_hydrogens_36 : decode (M_Mo_hydrogens).cc 36 = .ok (.invokestatic 114, 3) := by decide +kernel
theorem d_Mo_hydrogens_39 : decode (M_Mo_hydrogens).cc 39 = .ok (.istore_n 3, 1) := by decide +kernel
theorem d_Mo_hydrogens_40 : decode (M_Mo_hydrogens).cc 40 = .ok (.iconst 0, 1) := by decide +kernel
theorem d_Mo_hydrogens_41 : decode (M_Mo_hydrogens).cc 41 = .ok (.istore 4, 2) := by decide +kernel
theorem d_Mo_hydrogens_43 : decode (M_Mo_hydrogens).cc 43 = .ok (.iload 4, 2) := by decide +kernel
theorem d_Mo_hydrogens_45 : decode (M_Mo_hydrogens).cc 45 = .ok (.aload_n 0, 1) := by decide +kernel
theorem d_Mo_hydrogens_46 : decode (M_Mo_hydrogens).cc 46 = .ok (.getfield 129, 3) := by decide +kernel
theorem d_Mo_hydrogens_49 : decode (M_Mo_hydrogens).cc 49 = .ok (.if_icmp .ge 20, 3) := by decide +kernel
theorem d_Mo_hydrogens_52 : decode (M_Mo_hydrogens).cc 52 = .ok (.iload_n 3, 1) := by decide +kernel
theorem d_Mo_hydrogens_53 : decode (M_Mo_hydrogens).cc 53 = .ok (.aload_n 0, 1) := by decide +kernel
theorem d_Mo_hydrogens_54 : decode (M_Mo_hydrogens).cc 54 = .ok (.iload_n 1, 1) := by decide +kernel
theorem d_Mo_hydrogens_55 : decode (M_Mo_hydrogens).cc 55 = .ok (.iload_n 2, 1) := by decide +kernel
theorem d_Mo_hydrogens_56 : decode (M_Mo_hydrogens).cc 56 = .ok (.iload 4, 2) := by decide +kernel
theorem d_Mo_hydrogens_58 : decode (M_Mo_hydrogens).cc 58 = .ok (.invokevirtual 196, 3) := by decide +kernel
theorem d_Mo_hydrogens_61 : decode (M_Mo_hydrogens).cc 61 = .ok (.isub, 1) := by decide +kernel
theorem d_Mo_hydrogens_62 : decode (M_Mo_hydrogens).cc 62 = .ok (.istore_n 3, 1) := by decide +kernel
theorem d_Mo_hydrogens_63 : decode (M_Mo_hydrogens).cc 63 = .ok (.iinc 4 1, 3) := by decide +kernel
theorem d_Mo_hydrogens_66 : decode (M_Mo_hydrogens).cc 66 = .ok (.goto (-23), 3) := by decide +kernel
theorem d_Mo_hydrogens_69 : decode (M_Mo_hydrogens).cc 69 = .ok (.iload_n 3, 1) := by decide +kernel
theorem d_Mo_hydrogens_70 : decode (M_Mo_hydrogens).cc 70 = .ok (.ireturn, 1) := by decide +kernel
theorem d_Mo_ways_0 : decode (M_Mo_ways).cc 0 = .ok (.aload_n 0, 1) := by decide +kernel
theorem d_Mo_ways_1 : decode (M_Mo_ways).cc 1 = .ok (.aload_n 0, 1) := by decide +kernel
theorem d_Mo_ways_2 : decode (M_Mo_ways).cc 2 = .ok (.iload_n 1, 1) := by decide +kernel
theorem d_Mo_ways_3 : decode (M_Mo_ways).cc 3 = .ok (.invokevirtual 193, 3) := by decide +kernel
theorem d_Mo_ways_6 : decode (M_Mo_ways).cc 6 = .ok (.ifCond .eq 7, 3) := by decide +kernel
theorem d_Mo_ways_9 : decode (M_Mo_ways).cc 9 = .ok (.iconst 0, 1) := by decide +kernel
theorem d_Mo_ways_10 : decode (M_Mo_ways).cc 10 = .ok (.goto 4, 3) := by decide +kernel
theorem d_Mo_ways_13 : decode (M_Mo_ways).cc 13 = .ok (.iconst 1, 1) := by decide +kernel
theorem d_Mo_ways_14 : decode (M_Mo_ways).cc 14 = .ok (.invokevirtual 91, 3) := by decide +kernel
theorem d_Mo_ways_17 : decode (M_Mo_ways).cc 17 = .ok (.ifCond .eq 5, 3) := by decide +kernel
theorem d_Mo_ways_20 : decode (M_Mo_ways).cc 20 = .ok (.iconst 0, 1) := by decide +kernel
theorem d_Mo_ways_21 : decode (M_Mo_ways).cc 21 = .ok (.ireturn, 1) := by decide +kernel
theorem d_Mo_ways_22 : decode (M_Mo_ways).cc 22 = .ok (.iconst 0, 1) := by decide +kernel
theorem d_Mo_ways_23 : decode (M_Mo_ways).cc 23 = .ok (.istore_n 2, 1) := by decide +kernel
theorem d_Mo_ways_24 : decode (M_Mo_ways).cc 24 = .ok (.iload_n 2, 1) := by decide +kernel
theorem d_Mo_ways_25 : decode (M_Mo_ways).cc 25 = .ok (.aload_n 0, 1) := by decide +kernel
theorem d_Mo_ways_26 : decode (M_Mo_ways).cc 26 = .ok (.getfield 129, 3) := by decide +kernel
theorem d_Mo_ways_29 : decode (M_Mo_ways).cc 29 = .ok (.if_icmp .ge 21, 3) := by decide +kernel
theorem d_Mo_ways_32 : decode (M_Mo_ways).cc 32 = .ok (.aload_n 0, 1) := by decide +kernel
theorem d_Mo_ways_33 : decode (M_Mo_ways).cc 33 = .ok (.getfield 24, 3) := by decide +kernel
theorem d_Mo_ways_36 : decode (M_Mo_ways).cc 36 = .ok (.iload_n 2, 1) := by decide +kernel
theorem d_Mo_ways_37 : decode (M_Mo_ways).cc 37 = .ok (.aload_n 0, 1) := by decide +kernel
theorem d_Mo_ways_38 : decode (M_Mo_ways).cc 38 = .ok (.getfield 17, 3) := by decide +kernel
theorem d_Mo_ways_41 : decode (M_Mo_ways).cc 41 = .ok (.iload_n 2, 1) := by decide +kernel
theorem d_Mo_ways_42 : decode (M_Mo_ways).cc 42 = .ok (.iaload, 1) := by decide +kernel
theorem d_Mo_ways_43 : decode (M_Mo_ways).cc 43 = .ok (.iastore, 1) := by decide +kernel
theorem d_Mo_ways_44 : decode (M_Mo_ways).cc 44 = .ok (.iinc 2 1, 3) := by decide +kernel
theorem d_Mo_ways_47 : decode (M_Mo_ways).cc 47 = .ok (.goto (-23), 3) := by decide +kernel
theorem d_Mo_ways_50 : decode (M_Mo_ways).cc 50 = .ok (.iconst 0, 1) := by decide +kernel
theorem d_Mo_ways_51 : decode (M_Mo_ways).cc 51 = .ok (.istore_n 2, 1) := by decide +kernel
theorem d_Mo_ways_52 : decode (M_Mo_ways).cc 52 = .ok (.iload_n 2, 1) := by decide +kernel
theorem d_Mo_ways_53 : decode (M_Mo_ways).cc 53 = .ok (.bipush 15, 2) := by decide +kernel
theorem d_Mo_ways_55 : decode (M_Mo_ways).cc 55 = .ok (.if_icmp .ge 26, 3) := by decide +kernel
theorem d_Mo_ways_58 : decode (M_Mo_ways).cc 58 = .ok (.aload_n 0, 1) := by decide +kernel
theorem d_Mo_ways_59 : decode (M_Mo_ways).cc 59 = .ok (.getfield 27, 3) := by decide +kernel
theorem d_Mo_ways_62 : decode (M_Mo_ways).cc 62 = .ok (.iload_n 2, 1) := by decide +kernel
theorem d_Mo_ways_63 : decode (M_Mo_ways).cc 63 = .ok (.aload_n 0, 1) := by decide +kernel
theorem d_Mo_ways_64 : decode (M_Mo_ways).cc 64 = .ok (.getfield 21, 3) := by decide +kernel
theorem d_Mo_ways_67 : decode (M_Mo_ways).cc 67 = .ok (.bipush 15, 2) := by decide +kernel
theorem d_Mo_ways_69 : decode (M_Mo_ways).cc 69 = .ok (.iload_n 1, 1) := by decide +kernel
theorem d_Mo_ways_70 : decode (M_Mo_ways).cc 70 = .ok (.imul, 1) := by decide +kernel
theorem d_Mo_ways_71 : decode (M_Mo_ways).cc 71 = .ok (.iload_n 2, 1) := by decide +kernel
theorem d_Mo_ways_72 : decode (M_Mo_ways).cc 72 = .ok (.iadd, 1) := by decide +kernel
theorem d_Mo_ways_73 : decode (M_Mo_ways).cc 73 = .ok (.iaload, 1) := by decide +kernel
theorem d_Mo_ways_74 : decode (M_Mo_ways).cc 74 = .ok (.iastore, 1) := by decide +kernel
theorem d_Mo_ways_75 : decode (M_Mo_ways).cc 75 = .ok (.iinc 2 1, 3) := by decide +kernel
theorem d_Mo_ways_78 : decode (M_Mo_ways).cc 78 = .ok (.goto (-26), 3) := by decide +kernel
theorem d_Mo_ways_81 : decode (M_Mo_ways).cc 81 = .ok (.aload_n 0, 1) := by decide +kernel
theorem d_Mo_ways_82 : decode (M_Mo_ways).cc 82 = .ok (.aload_n 0, 1) := by decide +kernel
theorem d_Mo_ways_83 : decode (M_Mo_ways).cc 83 = .ok (.getfield 129, 3) := by decide +kernel
theorem d_Mo_ways_86 : decode (M_Mo_ways).cc 86 = .ok (.invokevirtual 155, 3) := by decide +kernel
theorem d_Mo_ways_89 : decode (M_Mo_ways).cc 89 = .ok (.ireturn, 1) := by decide +kernel
theorem d_Mo_write_0 : decode (M_Mo_write).cc 0 = .ok (.aload_n 0, 1) := by decide +kernel
theorem d_Mo_write_1 : decode (M_Mo_write).cc 1 = .ok (.aload_n 0, 1) := by decide +kernel
theorem d_Mo_write_2 : decode (M_Mo_write).cc 2 = .ok (.iload_n 1, 1) := by decide +kernel
theorem d_Mo_write_3 : decode (M_Mo_write).cc 3 = .ok (.invokevirtual 193, 3) := by decide +kernel
theorem d_Mo_write_6 : decode (M_Mo_write).cc 6 = .ok (.ifCond .eq 7, 3) := by decide +kernel
theorem d_Mo_write_9 : decode (M_Mo_write).cc 9 = .ok (.iconst 0, 1) := by decide +kernel
theorem d_Mo_write_10 : decode (M_Mo_write).cc 10 = .ok (.goto 4, 3) := by decide +kernel
theorem d_Mo_write_13 : decode (M_Mo_write).cc 13 = .ok (.iconst 1, 1) := by decide +kernel
theorem d_Mo_write_14 : decode (M_Mo_write).cc 14 = .ok (.invokevirtual 91, 3) := by decide +kernel
theorem d_Mo_write_17 : decode (M_Mo_write).cc 17 = .ok (.ifCond .eq 5, 3) := by decide +kernel
theorem d_Mo_write_20 : decode (M_Mo_write).cc 20 = .ok (.iconst 0, 1) := by decide +kernel
theorem d_Mo_write_21 : decode (M_Mo_write).cc 21 = .ok (.ireturn, 1) := by decide +kernel
theorem d_Mo_write_22 : decode (M_Mo_write).cc 22 = .ok (.aload_n 0, 1) := by decide +kernel
theorem d_Mo_write_23 : decode (M_Mo_write).cc 23 = .ok (.iload_n 1, 1) := by decide +kernel
theorem d_Mo_write_24 : decode (M_Mo_write).cc 24 = .ok (.invokevirtual 204, 3) := by decide +kernel
theorem d_Mo_write_27 : decode (M_Mo_write).cc 27 = .ok (.aload_n 0, 1) := by decide +kernel
theorem d_Mo_write_28 : decode (M_Mo_write).cc 28 = .ok (.iconst 0, 1) := by decide +kernel
theorem d_Mo_write_29 : decode (M_Mo_write).cc 29 = .ok (.putfield 88, 3) := by decide +kernel
theorem d_Mo_write_32 : decode (M_Mo_write).cc 32 = .ok (.iconst 0, 1) := by decide +kernel
theorem d_Mo_write_33 : decode (M_Mo_write).cc 33 = .ok (.istore_n 2, 1) := by decide +kernel
theorem d_Mo_write_34 : decode (M_Mo_write).cc 34 = .ok (.iload_n 2, 1) := by decide +kernel
theorem d_Mo_write_35 : decode (M_Mo_write).cc 35 = .ok (.bipush 6, 2) := by decide +kernel
theorem d_Mo_write_37 : decode (M_Mo_write).cc 37 = .ok (.if_icmp .ge 23, 3) := by decide +kernel
theorem d_Mo_write_40 : decode (M_Mo_write).cc 40 = .ok (.aload_n 0, 1) := by decide +kernel
theorem d_Mo_write_41 : decode (M_Mo_write).cc 41 = .ok (.getfield 73, 3) := by decide +kernel
theorem d_Mo_write_44 : decode (M_Mo_write).cc 44 = .ok (.iload_n 2, 1) := by decide +kernel
theorem d_Mo_write_45 : decode (M_Mo_write).cc 45 = .ok (.iconst (-1), 1) := by decide +kernel
theorem d_Mo_write_46 : decode (M_Mo_write).cc 46 = .ok (.iastore, 1) := by decide +kernel
theorem d_Mo_write_47 : decode (M_Mo_write).cc 47 = .ok (.aload_n 0, 1) := by decide +kernel
theorem d_Mo_write_48 : decode (M_Mo_write).cc 48 = .ok (.getfield 76, 3) := by decide +kernel
theorem d_Mo_write_51 : decode (M_Mo_write).cc 51 = .ok (.iload_n 2, 1) := by decide +kernel
theorem d_Mo_write_52 : decode (M_Mo_write).cc 52 = .ok (.iconst 0, 1) := by decide +kernel
theorem d_Mo_write_53 : decode (M_Mo_write).cc 53 = .ok (.bastore, 1) := by decide +kernel
theorem d_Mo_write_54 : decode (M_Mo_write).cc 54 = .ok (.iinc 2 1, 3) := by decide +kernel
theorem d_Mo_write_57 : decode (M_Mo_write).cc 57 = .ok (.goto (-23), 3) := by decide +kernel
theorem d_Mo_write_60 : decode (M_Mo_write).cc 60 = .ok (.aload_n 0, 1) := by decide +kernel
theorem d_Mo_write_61 : decode (M_Mo_write).cc 61 = .ok (.getfield 58, 3) := by decide +kernel
theorem d_Mo_write_64 : decode (M_Mo_write).cc 64 = .ok (.iconst 0, 1) := by decide +kernel
theorem d_Mo_write_65 : decode (M_Mo_write).cc 65 = .ok (.iconst 0, 1) := by decide +kernel
theorem d_Mo_write_66 : decode (M_Mo_write).cc 66 = .ok (.iastore, 1) := by decide +kernel
theorem d_Mo_write_67 : decode (M_Mo_write).cc 67 = .ok (.iconst 1, 1) := by decide +kernel
theorem d_Mo_write_68 : decode (M_Mo_write).cc 68 = .ok (.istore_n 2, 1) := by decide +kernel
theorem d_Mo_write_69 : decode (M_Mo_write).cc 69 = .ok (.aload_n 0, 1) := by decide +kernel
theorem d_Mo_write_70 : decode (M_Mo_write).cc 70 = .ok (.iload_n 1, 1) := by decide +kernel
theorem d_Mo_write_71 : decode (M_Mo_write).cc 71 = .ok (.iconst 0, 1) := by decide +kernel
theorem d_Mo_write_72 : decode (M_Mo_write).cc 72 = .ok (.invokevirtual 207, 3) := by decide +kernel
theorem d_Mo_write_75 : decode (M_Mo_write).cc 75 = .ok (.iload_n 2, 1) := by decide +kernel
theorem d_Mo_write_76 : decode (M_Mo_write).cc 76 = .ok (.ifCond .le 130, 3) := by decide +kernel
theorem d_Mo_write_79 : decode (M_Mo_write).cc 79 = .ok (.aload_n 0, 1) := by decide +kernel
theorem d_Mo_write_80 : decode (M_Mo_write).cc 80 = .ok (.getfield 58, 3) := by decide +kernel
theorem d_Mo_write_83 : decode (M_Mo_write).cc 83 = .ok (.iload_n 2, 1) := by decide +kernel
theorem d_Mo_write_84 : decode (M_Mo_write).cc 84 = .ok (.iconst 1, 1) := by decide +kernel
theorem d_Mo_write_85 : decode (M_Mo_write).cc 85 = .ok (.isub, 1) := by decide +kernel
theorem d_Mo_write_86 : decode (M_Mo_write).cc 86 = .ok (.iaload, 1) := by decide +kernel
theorem d_Mo_write_87 : decode (M_Mo_write).cc 87 = .ok (.istore_n 3, 1) := by decide +kernel
theorem d_Mo_write_88 : decode (M_Mo_write).cc 88 = .ok (.aload_n 0, 1) := by decide +kernel
theorem d_Mo_write_89 : decode (M_Mo_write).cc 89 = .ok (.iload_n 3, 1) := by decide +kernel
theorem d_Mo_write_90 : decode (M_Mo_write).cc 90 = .ok (.aload_n 0, 1) := by decide +kernel
theorem d_Mo_write_91 : decode (M_Mo_write).cc 91 = .ok (.getfield 73, 3) := by decide +kernel
theorem d_Mo_write_94 : decode (M_Mo_write).cc 94 = .ok (.iload_n 3, 1) := by decide +kernel
theorem d_Mo_write_95 : decode (M_Mo_write).cc 95 = .ok (.iaload, 1) := by decide +kernel
theorem d_Mo_write_96 : decode (M_Mo_write).cc 96 = .ok (.invokevirtual 210, 3) := by decide +kernel
theorem d_Mo_write_99 : decode (M_Mo_write).cc 99 = .ok (.istore 4, 2) := by decide +kernel
theorem d_Mo_write_101 : decode (M_Mo_write).cc 101 = .ok (.iload 4, 2) := by decide +kernel
theorem d_Mo_write_103 : decode (M_Mo_write).cc 103 = .ok (.ifCond .ge 24, 3) := by decide +kernel
theorem d_Mo_write_106 : decode (M_Mo_write).cc 106 = .ok (.aload_n 0, 1) := by decide +kernel
theorem d_Mo_write_107 : decode (M_Mo_write).cc 107 = .ok (.getfield 76, 3) := by decide +kernel
theorem d_Mo_write_110 : decode (M_Mo_write).cc 110 = .ok (.iload_n 3, 1) := by decide +kernel
theorem d_Mo_write_111 : decode (M_Mo_write).cc 111 = .ok (.baload, 1) := by decide +kernel
theorem d_Mo_write_112 : decode (M_Mo_write).cc 112 = .ok (.ifCond .eq 9, 3) := by decide +kernel
theorem d_Mo_write_115 : decode (M_Mo_write).cc 115 = .ok (.aload_n 0, 1) := by decide +kernel
theorem d_Mo_write_116 : decode (M_Mo_write).cc 116 = .ok (.bipush 41, 2) := by decide +kernel
theorem d_Mo_write_118 : decode (M_Mo_write).cc 118 = .ok (.invokevirtual 200, 3) := by decide +kernel
theorem d_Mo_write_121 : decode (M_Mo_write).cc 121 = .ok (.iinc 2 (-1), 3) := by decide +kernel
theorem d_Mo_write_124 : decode (M_Mo_write).cc 124 = .ok (.goto 79, 3) := by decide +kernel
theorem d_Mo_write_127 : decode (M_Mo_write).cc 127 = .ok (.aload_n 0, 1) := by decide +kernel
theorem d_Mo_write_128 : decode (M_Mo_write).cc 128 = .ok (.getfield 73, 3) := by decide +kernel
theorem d_Mo_write_131 : decode (M_Mo_write).cc 131 = .ok (.iload_n 3, 1) := by decide +kernel
theorem d_Mo_write_132 : decode (M_Mo_write).cc 132 = .ok (.iload 4, 2) := by decide +kernel
theorem d_Mo_write_134 : decode (M_Mo_write).cc 134 = .ok (.iastore, 1) := by decide +kernel
theorem d_Mo_write_135 : decode (M_Mo_write).cc 135 = .ok (.aload_n 0, 1) := by decide +kernel
theorem d_Mo_write_136 : decode (M_Mo_write).cc 136 = .ok (.getfield 76, 3) := by decide +kernel
theorem d_Mo_write_139 : decode (M_Mo_write).cc 139 = .ok (.iload 4, 2) := by decide +kernel
theorem d_Mo_write_141 : decode (M_Mo_write).cc 141 = .ok (.aload_n 0, 1) := by decide +kernel
theorem d_Mo_write_142 : decode (M_Mo_write).cc 142 = .ok (.iload_n 3, 1) := by decide +kernel
theorem d_Mo_write_143 : decode (M_Mo_write).cc 143 = .ok (.iload 4, 2) := by decide +kernel
theorem d_Mo_write_145 : decode (M_Mo_write).cc 145 = .ok (.invokevirtual 210, 3) := by decide +kernel
theorem d_Mo_write_148 : decode (M_Mo_write).cc 148 = .ok (.ifCond .lt 7, 3) := by decide +kernel
theorem d_Mo_write_151 : decode (M_Mo_write).cc 151 = .ok (.iconst 1, 1) := by decide +kernel
theorem d_Mo_write_152 : decode (M_Mo_write).cc 152 = .ok (.goto 4, 3) := by decide +kernel
theorem d_Mo_write_155 : decode (M_Mo_write).cc 155 = .ok (.iconst 0, 1) := by decide +kernel
theorem d_Mo_write_156 : decode (M_Mo_write).cc 156 = .ok (.bastore, 1) := by decide +kernel
theorem d_Mo_write_157 : decode (M_Mo_write).cc 157 = .ok (.aload_n 0, 1) := by decide +kernel
theorem d_Mo_write_158 : decode (M_Mo_write).cc 158 = .ok (.getfield 76, 3) := by decide +kernel
theorem d_Mo_write_161 : decode (M_Mo_write).cc 161 = .ok (.iload 4, 2) := by decide +kernel
theorem d_Mo_write_163 : decode (M_Mo_write).cc 163 = .ok (.baload, 1) := by decide +kernel
theorem d_Mo_write_164 : decode (M_Mo_write).cc 164 = .ok (.ifCond .eq 9, 3) := by decide +kernel
theorem d_Mo_write_167 : decode (M_Mo_write).cc 167 = .ok (.aload_n 0, 1) := by decide +kernel
theorem d_Mo_write_168 : decode (M_Mo_write).cc 168 = .ok (.bipush 40, 2) := by decide +kernel
theorem d_Mo_write_170 : decode (M_Mo_write).cc 170 = .ok (.invokevirtual 200, 3) := by decide +kernel
theorem d_Mo_write_173 : decode (M_Mo_write).cc 173 = .ok (.aload_n 0, 1) := by decide +kernel
theorem d_Mo_write_174 : decode (M_Mo_write).cc 174 = .ok (.aload_n 0, 1) := by decide +kernel
theorem d_Mo_write_175 : decode (M_Mo_write).cc 175 = .ok (.iload_n 1, 1) := by decide +kernel
theorem d_Mo_write_176 : decode (M_Mo_write).cc 176 = .ok (.iload_n 3, 1) := by decide +kernel
theorem d_Mo_write_177 : decode (M_Mo_write).cc 177 = .ok (.iload 4, 2) := by decide +kernel
theorem d_Mo_write_179 : decode (M_Mo_write).cc 179 = .ok (.invokevirtual 196, 3) := by decide +kernel
theorem d_Mo_write_182 : decode (M_Mo_write).cc 182 = .ok (.invokevirtual 213, 3) := by decide +kernel
theorem d_Mo_write_185 : decode (M_Mo_write).cc 185 = .ok (.aload_n 0, 1) := by decide +kernel
theorem d_Mo_write_186 : decode (M_Mo_write).cc 186 = .ok (.iload_n 1, 1) := by decide +kernel
theorem d_Mo_write_187 : decode (M_Mo_write).cc 187 = .ok (.iload 4, 2) := by decide +kernel
theorem d_Mo_write_189 : decode (M_Mo_write).cc 189 = .ok (.invokevirtual 207, 3) := by decide +kernel
theorem d_Mo_write_192 : decode (M_Mo_write).cc 192 = .ok (.aload_n 0, 1) := by decide +kernel
theorem d_Mo_write_193 : decode (M_Mo_write).cc 193 = .ok (.getfield 58, 3) := by decide +kernel
theorem d_Mo_write_196 : decode (M_Mo_write).cc 196 = .ok (.iload_n 2, 1) := by decide +kernel
theorem d_Mo_write_197 : decode (M_Mo_write).cc 197 = .ok (.iload 4, 2) := by decide +kernel
theorem d_Mo_write_199 : decode (M_Mo_write).cc 199 = .ok (.iastore, 1) := by decide +kernel
theorem d_Mo_write_200 : decode (M_Mo_write).cc 200 = .ok (.iinc 2 1, 3) := by decide +kernel
theorem d_Mo_write_203 : decode (M_Mo_write).cc 203 = .ok (.goto (-128), 3) := by decide +kernel
theorem d_Mo_write_206 : decode (M_Mo_write).cc 206 = .ok (.aload_n 0, 1) := by decide +kernel
theorem d_Mo_write_207 : decode (M_Mo_write).cc 207 = .ok (.getfield 88, 3) := by decide +kernel
theorem d_Mo_write_210 : decode (M_Mo_write).cc 210 = .ok (.ireturn, 1) := by decide +kernel
theorem d_Mo_go_0 : decode (M_Mo_go).cc 0 = .ok (.iconst 0, 1) := by decide +kernel
theorem d_Mo_go_1 : decode (M_Mo_go).cc 1 = .ok (.istore_n 2, 1) := by decide +kernel
theorem d_Mo_go_2 : decode (M_Mo_go).cc 2 = .ok (.iload_n 2, 1) := by decide +kernel
theorem d_Mo_go_3 : decode (M_Mo_go).cc 3 = .ok (.bipush 36, 2) := by decide +kernel
theorem d_Mo_go_5 : decode (M_Mo_go).cc 5 = .ok (.if_icmp .ge 16, 3) := by decide +kernel
theorem d_Mo_go_8 : decode (M_Mo_go).cc 8 = .ok (.aload_n 0, 1) := by decide +kernel
theorem d_Mo_go_9 : decode (M_Mo_go).cc 9 = .ok (.getfield 70, 3) := by decide +kernel
theorem d_Mo_go_12 : decode (M_Mo_go).cc 12 = .ok (.iload_n 2, 1) := by decide +kernel
theorem d_Mo_go_13 : decode (M_Mo_go).cc 13 = .ok (.iconst 0, 1) := by decide +kernel
theorem d_Mo_go_14 : decode (M_Mo_go).cc 14 = .ok (.iastore, 1) := by decide +kernel
theorem d_Mo_go_15 : decode (M_Mo_go).cc 15 = .ok (.iinc 2 1, 3) := by decide +kernel
theorem d_Mo_go_18 : decode (M_Mo_go).cc 18 = .ok (.goto (-16), 3) := by decide +kernel
theorem d_Mo_go_21 : decode (M_Mo_go).cc 21 = .ok (.iconst 0, 1) := by decide +kernel
theorem d_Mo_go_22 : decode (M_Mo_go).cc 22 = .ok (.istore_n 2, 1) := by decide +kernel
theorem d_Mo_go_23 : decode (M_Mo_go).cc 23 = .ok (.iload_n 2, 1) := by decide +kernel
theorem d_Mo_go_24 : decode (M_Mo_go).cc 24 = .ok (.bipush 6, 2) := by decide +kernel
theorem d_Mo_go_26 : decode (M_Mo_go).cc 26 = .ok (.if_icmp .ge 30, 3) := by decide +kernel
theorem d_Mo_go_29 : decode (M_Mo_go).cc 29 = .ok (.aload_n 0, 1) := by decide +kernel
theorem d_Mo_go_30 : decode (M_Mo_go).cc 30 = .ok (.getfield 67, 3) := by decide +kernel
theorem d_Mo_go_33 : decode (M_Mo_go).cc 33 = .ok (.iload_n 2, 1) := by decide +kernel
theorem d_Mo_go_34 : decode (M_Mo_go).cc 34 = .ok (.iconst (-1), 1) := by decide +kernel
theorem d_Mo_go_35 : decode (M_Mo_go).cc 35 = .ok (.iastore, 1) := by decide +kernel
theorem d_Mo_go_36 : decode (M_Mo_go).cc 36 = .ok (.aload_n 0, 1) := by decide +kernel
theorem d_Mo_go_37 : decode (M_Mo_go).cc 37 = .ok (.getfield 82, 3) := by decide +kernel
theorem d_Mo_go_40 : decode (M_Mo_go).cc 40 = .ok (.iload_n 2, 1) := by decide +kernel
theorem d_Mo_go_41 : decode (M_Mo_go).cc 41 = .ok (.iconst (-1), 1) := by decide +kernel
theorem d_Mo_go_42 : decode (M_Mo_go).cc 42 = .ok (.iastore, 1) := by decide +kernel
theorem d_Mo_go_43 : decode (M_Mo_go).cc 43 = .ok (.aload_n 0, 1) := by decide +kernel
theorem d_Mo_go_44 : decode (M_Mo_go).cc 44 = .ok (.getfield 79, 3) := by decide +kernel
theorem d_Mo_go_47 : decode (M_Mo_go).cc 47 = .ok (.iload_n 2, 1) := by decide +kernel
theorem d_Mo_go_48 : decode (M_Mo_go).cc 48 = .ok (.iconst 0, 1) := by decide +kernel
theorem d_Mo_go_49 : decode (M_Mo_go).cc 49 = .ok (.bastore, 1) := by decide +kernel
theorem d_Mo_go_50 : decode (M_Mo_go).cc 50 = .ok (.iinc 2 1, 3) := by decide +kernel
theorem d_Mo_go_53 : decode (M_Mo_go).cc 53 = .ok (.goto (-30), 3) := by decide +kernel
theorem d_Mo_go_56 : decode (M_Mo_go).cc 56 = .ok (.iconst 0, 1) := by decide +kernel
theorem d_Mo_go_57 : decode (M_Mo_go).cc 57 = .ok (.istore_n 2, 1) := by decide +kernel
theorem d_Mo_go_58 : decode (M_Mo_go).cc 58 = .ok (.iconst 0, 1) := by decide +kernel
theorem d_Mo_go_59 : decode (M_Mo_go).cc 59 = .ok (.istore_n 3, 1) := by decide +kernel
theorem d_Mo_go_60 : decode (M_Mo_go).cc 60 = .ok (.aload_n 0, 1) := by decide +kernel
theorem d_Mo_go_61 : decode (M_Mo_go).cc 61 = .ok (.getfield 79, 3) := by decide +kernel
theorem d_Mo_go_64 : decode (M_Mo_go).cc 64 = .ok (.iconst 0, 1) := by decide +kernel
theorem d_Mo_go_65 : decode (M_Mo_go).cc 65 = .ok (.iconst 1, 1) := by decide +kernel
theorem d_Mo_go_66 : decode (M_Mo_go).cc 66 = .ok (.bastore, 1) := by decide +kernel
theorem d_Mo_go_67 : decode (M_Mo_go).cc 67 = .ok (.iload_n 3, 1) := by decide +kernel
theorem d_Mo_go_68 : decode (M_Mo_go).cc 68 = .ok (.ifCond .lt 152, 3) := by decide +kernel
theorem d_Mo_go_71 : decode (M_Mo_go).cc 71 = .ok (.aload_n 0, 1) := by decide +kernel
theorem d_Mo_go_72 : decode (M_Mo_go).cc 72 = .ok (.getfield 82, 3) := by decide +kernel
theorem d_Mo_go_75 : decode (M_Mo_go).cc 75 = .ok (.iload_n 3, 1) := by decide +kernel
theorem d_Mo_go_76 : decode (M_Mo_go).cc 76 = .ok (.dup2, 1) := by decide +kernel
theorem d_Mo_go_77 : decode (M_Mo_go).cc 77 = .ok (.iaload, 1) := by decide +kernel
theorem d_Mo_go_78 : decode (M_Mo_go).cc 78 = .ok (.iconst 1, 1) := by decide +kernel
theorem d_Mo_go_79 : decode (M_Mo_go).cc 79 = .ok (.iadd, 1) := by decide +kernel
theorem d_Mo_go_80 : decode (M_Mo_go).cc 80 = .ok (.iastore, 1) := by decide +kernel
theorem d_Mo_go_81 : decode (M_Mo_go).cc 81 = .ok (.aload_n 0, 1) := by decide +kernel
theorem d_Mo_go_82 : decode (M_Mo_go).cc 82 = .ok (.getfield 82, 3) := by decide +kernel
theorem d_Mo_go_85 : decode (M_Mo_go).cc 85 = .ok (.iload_n 3, 1) := by decide +kernel
theorem d_Mo_go_86 : decode (M_Mo_go).cc 86 = .ok (.iaload, 1) := by decide +kernel
theorem d_Mo_go_87 : decode (M_Mo_go).cc 87 = .ok (.istore 4, 2) := by decide +kernel
theorem d_Mo_go_89 : decode (M_Mo_go).cc 89 = .ok (.iload 4, 2) := by decide +kernel
theorem d_Mo_go_91 : decode (M_Mo_go).cc 91 = .ok (.aload_n 0, 1) := by decide +kernel
theorem d_Mo_go_92 : decode (M_Mo_go).cc 92 = .ok (.getfield 129, 3) := by decide +kernel
theorem d_Mo_go_95 : decode (M_Mo_go).cc 95 = .ok (.if_icmp .lt 13, 3) := by decide +kernel
theorem d_Mo_go_98 : decode (M_Mo_go).cc 98 = .ok (.aload_n 0, 1) := by decide +kernel
theorem d_Mo_go_99 : decode (M_Mo_go).cc 99 = .ok (.getfield 67, 3) := by decide +kernel
theorem d_Mo_go_102 : decode (M_Mo_go).cc 102 = .ok (.iload_n 3, 1) := by decide +kernel
theorem d_Mo_go_103 : decode (M_Mo_go).cc 103 = .ok (.iaload, 1) := by decide +kernel
theorem d_Mo_go_104 : decode (M_Mo_go).cc 104 = .ok (.istore_n 3, 1) := by decide +kernel
theorem d_Mo_go_105 : decode (M_Mo_go).cc 105 = .ok (.goto 112, 3) := by decide +kernel
theorem d_Mo_go_108 : decode (M_Mo_go).cc 108 = .ok (.aload_n 0, 1) := by decide +kernel
theorem d_Mo_go_109 : decode (M_Mo_go).cc 109 = .ok (.iload_n 1, 1) := by decide +kernel
theorem d_Mo_go_110 : decode (M_Mo_go).cc 110 = .ok (.iload_n 3, 1) := by decide +kernel
theorem d_Mo_go_111 : decode (M_Mo_go).cc 111 = .ok (.iload 4, 2) := by decide +kernel
theorem d_Mo_go_113 : decode (M_Mo_go).cc 113 = .ok (.invokevirtual 196, 3) := by decide +kernel
theorem d_Mo_go_116 : decode (M_Mo_go).cc 116 = .ok (.ifCond .le 101, 3) := by decide +kernel
theorem d_Mo_go_119 : decode (M_Mo_go).cc 119 = .ok (.aload_n 0, 1) := by decide +kernel
theorem d_Mo_go_120 : decode (M_Mo_go).cc 120 = .ok (.getfield 79, 3) := by decide +kernel
theorem d_Mo_go_123 : decode (M_Mo_go).cc 123 = .ok (.iload 4, 2) := by decide +kernel
theorem d_Mo_go_125 : decode (M_Mo_go).cc 125 = .ok (.baload, 1) := by decide +kernel
theorem d_Mo_go_126 : decode (M_Mo_go).cc 126 = .ok (.ifCond .ne 25, 3) := by decide +kernel
theorem d_Mo_go_129 : decode (M_Mo_go).cc 129 = .ok (.aload_n 0, 1) := by decide +kernel
theorem d_Mo_go_130 : decode (M_Mo_go).cc 130 = .ok (.getfield 79, 3) := by decide +kernel
theorem d_Mo_go_133 : decode (M_Mo_go).cc 133 = .ok (.iload 4, 2) := by decide +kernel
theorem d_Mo_go_135 : decode (M_Mo_go).cc 135 = .ok (.iconst 1, 1) := by decide +kernel
theorem d_Mo_go_136 : decode (M_Mo_go).cc 136 = .ok (.bastore, 1) := by decide +kernel
theorem d_Mo_go_137 : decode (M_Mo_go).cc 137 = .ok (.aload_n 0, 1) := by decide +kernel
theorem d_Mo_go_138 : decode (M_Mo_go).cc 138 = .ok (.getfield 67, 3) := by decide +kernel
theorem d_Mo_go_141 : decode (M_Mo_go).cc 141 = .ok (.iload 4, 2) := by decide +kernel
theorem d_Mo_go_143 : decode (M_Mo_go).cc 143 = .ok (.iload_n 3, 1) := by decide +kernel
theorem d_Mo_go_144 : decode (M_Mo_go).cc 144 = .ok (.iastore, 1) := by decide +kernel
theorem d_Mo_go_145 : decode (M_Mo_go).cc 145 = .ok (.iload 4, 2) := by decide +kernel
theorem d_Mo_go_147 : decode (M_Mo_go).cc 147 = .ok (.istore_n 3, 1) := by decide +kernel
theorem d_Mo_go_148 : decode (M_Mo_go).cc 148 = .ok (.goto 69, 3) := by decide +kernel
theorem d_Mo_go_151 : decode (M_Mo_go).cc 151 = .ok (.aload_n 0, 1) := by decide +kernel
theorem d_Mo_go_152 : decode (M_Mo_go).cc 152 = .ok (.getfield 67, 3) := by decide +kernel
theorem d_Mo_go_155 : decode (M_Mo_go).cc 155 = .ok (.iload_n 3, 1) := by decide +kernel
theorem d_Mo_go_156 : decode (M_Mo_go).cc 156 = .ok (.iaload, 1) := by decide +kernel
theorem d_Mo_go_157 : decode (M_Mo_go).cc 157 = .ok (.iload 4, 2) := by decide +kernel
theorem d_Mo_go_159 : decode (M_Mo_go).cc 159 = .ok (.if_icmp .eq 58, 3) := by decide +kernel
theorem d_Mo_go_162 : decode (M_Mo_go).cc 162 = .ok (.aload_n 0, 1) := by decide +kernel
theorem d_Mo_go_163 : decode (M_Mo_go).cc 163 = .ok (.getfield 67, 3) := by decide +kernel
theorem d_Mo_go_166 : decode (M_Mo_go).cc 166 = .ok (.iload 4, 2) := by decide +kernel
theorem d_Mo_go_168 : decode (M_Mo_go).cc 168 = .ok (.iaload, 1) := by decide +kernel
theorem d_Mo_go_169 : decode (M_Mo_go).cc 169 = .ok (.iload_n 3, 1) := by decide +kernel
theorem d_Mo_go_170 : decode (M_Mo_go).cc 170 = .ok (.if_icmp .eq 47, 3) := by decide +kernel
theorem d_Mo_go_173 : decode (M_Mo_go).cc 173 = .ok (.aload_n 0, 1) := by decide +kernel
theorem d_Mo_go_174 : decode (M_Mo_go).cc 174 = .ok (.getfield 70, 3) := by decide +kernel
theorem d_Mo_go_177 : decode (M_Mo_go).cc 177 = .ok (.bipush 6, 2) := by decide +kernel
theorem d_Mo_go_179 : decode (M_Mo_go).cc 179 = .ok (.iload_n 3, 1) := by decide +kernel
theorem d_Mo_go_180 : decode (M_Mo_go).cc 180 = .ok (.imul, 1) := by decide +kernel
theorem d_Mo_go_181 : decode (M_Mo_go).cc 181 = .ok (.iload 4, 2) := by decide +kernel
theorem d_Mo_go_183 : decode (M_Mo_go).cc 183 = .ok (.iadd, 1) := by decide +kernel
theorem d_Mo_go_184 : decode (M_Mo_go).cc 184 = .ok (.iaload, 1) := by decide +kernel
theorem d_Mo_go_185 : decode (M_Mo_go).cc 185 = .ok (.ifCond .ne 32, 3) := by decide +kernel
theorem d_Mo_go_188 : decode (M_Mo_go).cc 188 = .ok (.iinc 2 1, 3) := by decide +kernel
theorem d_Mo_go_191 : decode (M_Mo_go).cc 191 = .ok (.aload_n 0, 1) := by decide +kernel
theorem d_Mo_go_192 : decode (M_Mo_go).cc 192 = .ok (.getfield 70, 3) := by decide +kernel
theorem d_Mo_go_195 : decode (M_Mo_go).cc 195 = .ok (.bipush 6, 2) := by decide +kernel
theorem d_Mo_go_197 : decode (M_Mo_go).cc 197 = .ok (.iload_n 3, 1) := by decide +kernel
theorem d_Mo_go_198 : decode (M_Mo_go).cc 198 = .ok (.imul, 1) := by decide +kernel
theorem d_Mo_go_199 : decode (M_Mo_go).cc 199 = .ok (.iload 4, 2) := by decide +kernel
theorem d_Mo_go_201 : decode (M_Mo_go).cc 201 = .ok (.iadd, 1) := by decide +kernel
theorem d_Mo_go_202 : decode (M_Mo_go).cc 202 = .ok (.iload_n 2, 1) := by decide +kernel
theorem d_Mo_go_203 : decode (M_Mo_go).cc 203 = .ok (.iastore, 1) := by decide +kernel
theorem d_Mo_go_204 : decode (M_Mo_go).cc 204 = .ok (.aload_n 0, 1) := by decide +kernel
theorem d_Mo_go_205 : decode (M_Mo_go).cc 205 = .ok (.getfield 70, 3) := by decide +kernel
theorem d_Mo_go_208 : decode (M_Mo_go).cc 208 = .ok (.bipush 6, 2) := by decide +kernel
theorem d_Mo_go_210 : decode (M_Mo_go).cc 210 = .ok (.iload 4, 2) := by decide +kernel
theorem d_Mo_go_212 : decode (M_Mo_go).cc 212 = .ok (.imul, 1) := by decide +kernel
theorem d_Mo_go_213 : decode (M_Mo_go).cc 213 = .ok (.iload_n 3, 1) := by decide +kernel
theorem d_Mo_go_214 : decode (M_Mo_go).cc 214 = .ok (.iadd, 1) := by decide +kernel
theorem d_Mo_go_215 : decode (M_Mo_go).cc 215 = .ok (.iload_n 2, 1) := by decide +kernel
theorem d_Mo_go_216 : decode (M_Mo_go).cc 216 = .ok (.iastore, 1) := by decide +kernel
theorem d_Mo_go_217 : decode (M_Mo_go).cc 217 = .ok (.goto (-150), 3) := by decide +kernel
theorem d_Mo_go_220 : decode (M_Mo_go).cc 220 = .ok (.return_, 1) := by decide +kernel
theorem d_Mo_putAtom_0 : decode (M_Mo_putAtom).cc 0 = .ok (.aload_n 0, 1) := by decide +kernel
theorem d_Mo_putAtom_1 : decode (M_Mo_putAtom).cc 1 = .ok (.aload_n 0, 1) := by decide +kernel
theorem d_Mo_putAtom_2 : decode (M_Mo_putAtom).cc 2 = .ok (.getfield 17, 3) := by decide +kernel
theorem d_Mo_putAtom_5 : decode (M_Mo_putAtom).cc 5 = .ok (.iload_n 2, 1) := by decide +kernel
theorem d_Mo_putAtom_6 : decode (M_Mo_putAtom).cc 6 = .ok (.iaload, 1) := by decide +kernel
theorem d_Mo_putAtom_7 : decode (M_Mo_putAtom).cc 7 = .ok (.invokevirtual 216, 3) := by decide +kernel
theorem d_Mo_putAtom_10 : decode (M_Mo_putAtom).cc 10 = .ok (.iconst 1, 1) := by decide +kernel
theorem d_Mo_putAtom_11 : decode (M_Mo_putAtom).cc 11 = .ok (.istore_n 3, 1) := by decide +kernel
theorem d_Mo_putAtom_12 : decode (M_Mo_putAtom).cc 12 = .ok (.iload_n 3, 1) := by decide +kernel
theorem d_Mo_putAtom_13 : decode (M_Mo_putAtom).cc 13 = .ok (.bipush 10, 2) := by decide +kernel
theorem d_Mo_putAtom_15 : decode (M_Mo_putAtom).cc 15 = .ok (.if_icmp .ge 64, 3) := by decide +kernel
theorem d_Mo_putAtom_18 : decode (M_Mo_putAtom).cc 18 = .ok (.iconst 0, 1) := by decide +kernel
theorem d_Mo_putAtom_19 : decode (M_Mo_putAtom).cc 19 = .ok (.istore 4, 2) := by decide +kernel
theorem d_Mo_putAtom_21 : decode (M_Mo_putAtom).cc 21 = .ok (.iload 4, 2) := by decide +kernel
theorem d_Mo_putAtom_23 : decode (M_Mo_putAtom).cc 23 = .ok (.aload_n 0, 1) := by decide +kernel
theorem d_Mo_putAtom_24 : decode (M_Mo_putAtom).cc 24 = .ok (.getfield 129, 3) := by decide +kernel
theorem d_Mo_putAtom_27 : decode (M_Mo_putAtom).cc 27 = .ok (.if_icmp .ge 46, 3) := by decide +kernel
theorem d_Mo_putAtom_30 : decode (M_Mo_putAtom).cc 30 = .ok (.aload_n 0, 1) := by decide +kernel
theorem d_Mo_putAtom_31 : decode (M_Mo_putAtom).cc 31 = .ok (.getfield 70, 3) := by decide +kernel
theorem d_Mo_putAtom_34 : decode (M_Mo_putAtom).cc 34 = .ok (.bipush 6, 2) := by decide +kernel
theorem d_Mo_putAtom_36 : decode (M_Mo_putAtom).cc 36 = .ok (.iload_n 2, 1) := by decide +kernel
theorem d_Mo_putAtom_37 : decode (M_Mo_putAtom).cc 37 = .ok (.imul, 1) := by decide +kernel
theorem d_Mo_putAtom_38 : decode (M_Mo_putAtom).cc 38 = .ok (.iload 4, 2) := by decide +kernel
theorem d_Mo_putAtom_40 : decode (M_Mo_putAtom).cc 40 = .ok (.iadd, 1) := by decide +kernel
theorem d_Mo_putAtom_41 : decode (M_Mo_putAtom).cc 41 = .ok (.iaload, 1) := by decide +kernel
theorem d_Mo_putAtom_42 : decode (M_Mo_putAtom).cc 42 = .ok (.iload_n 3, 1) := by decide +kernel
theorem d_Mo_putAtom_43 : decode (M_Mo_putAtom).cc 43 = .ok (.if_icmp .ne 24, 3) := by decide +kernel
theorem d_Mo_putAtom_46 : decode (M_Mo_putAtom).cc 46 = .ok (.aload_n 0, 1) := by decide +kernel
theorem d_Mo_putAtom_47 : decode (M_Mo_putAtom).cc 47 = .ok (.aload_n 0, 1) := by decide +kernel
theorem d_Mo_putAtom_48 : decode (M_Mo_putAtom).cc 48 = .ok (.iload_n 1, 1) := by decide +kernel
theorem d_Mo_putAtom_49 : decode (M_Mo_putAtom).cc 49 = .ok (.iload_n 2, 1) := by decide +kernel
theorem d_Mo_putAtom_50 : decode (M_Mo_putAtom).cc 50 = .ok (.iload 4, 2) := by decide +kernel
theorem d_Mo_putAtom_52 : decode (M_Mo_putAtom).cc 52 = .ok (.invokevirtual 196, 3) := by decide +kernel
theorem d_Mo_putAtom_55 : decode (M_Mo_putAtom).cc 55 = .ok (.invokevirtual 213, 3) := by decide +kernel
theorem d_Mo_putAtom_58 : decode (M_Mo_putAtom).cc 58 = .ok (.aload_n 0, 1) := by decide +kernel
theorem d_Mo_putAtom_59 : decode (M_Mo_putAtom).cc 59 = .ok (.bipush 48, 2) := by decide +kernel
theorem d_Mo_putAtom_61 : decode (M_Mo_putAtom).cc 61 = .ok (.iload_n 3, 1) := by decide +kernel
theorem d_Mo_putAtom_62 : decode (M_Mo_putAtom).cc 62 = .ok (.iadd, 1) := by decide +kernel
theorem d_Mo_putAtom_63 : decode (M_Mo_putAtom).cc 63 = .ok (.i2c, 1) := by decide +kernel
theorem d_Mo_putAtom_64 : decode (M_Mo_putAtom).cc 64 = .ok (.invokevirtual 200, 3) := by decide +kernel
theorem d_Mo_putAtom_67 : decode (M_Mo_putAtom).cc 67 = .ok (.iinc 4 1, 3) := by decide +kernel
theorem d_Mo_putAtom_70 : decode (M_Mo_putAtom).cc 70 = .ok (.goto (-49), 3) := by decide +kernel
theorem d_Mo_putAtom_73 : decode (M_Mo_putAtom).cc 73 = .ok (.iinc 3 1, 3) := by decide +kernel
theorem d_Mo_putAtom_76 : decode (M_Mo_putAtom).cc 76 = .ok (.goto (-64), 3) := by decide +kernel
theorem d_Mo_putAtom_79 : decode (M_Mo_putAtom).cc 79 = .ok (.return_, 1) := by decide +kernel
theorem d_Mo_putSign_0 : decode (M_Mo_putSign).cc 0 = .ok (.aload_n 0, 1) := by decide +kernel
theorem d_Mo_putSign_1 : decode (M_Mo_putSign).cc 1 = .ok (.iload_n 1, 1) := by decide +kernel
theorem d_Mo_putSign_2 : decode (M_Mo_putSign).cc 2 = .ok (.ifCond .eq 9, 3) := by decide +kernel
theorem d_Mo_putSign_5 : decode (M_Mo_putSign).cc 5 = .ok (.iload_n 1, 1) := by decide +kernel
theorem d_Mo_putSign_6 : decode (M_Mo_putSign).cc 6 = .ok (.bipush 6, 2) := by decide +kernel
theorem d_Mo_putSign_8 : decode (M_Mo_putSign).cc 8 = .ok (.if_icmp .ne 8, 3) := by decide +kernel
theorem d_Mo_putSign_11 : decode (M_Mo_putSign).cc 11 = .ok (.bipush 67, 2) := by decide +kernel
theorem d_Mo_putSign_13 : decode (M_Mo_putSign).cc 13 = .ok (.goto 66, 3) := by decide +kernel
theorem d_Mo_putSign_16 : decode (M_Mo_putSign).cc 16 = .ok (.iload_n 1, 1) := by decide +kernel
theorem d_Mo_putSign_17 : decode (M_Mo_putSign).cc 17 = .ok (.iconst 1, 1) := by decide +kernel
theorem d_Mo_putSign_18 : decode (M_Mo_putSign).cc 18 = .ok (.if_icmp .ne 8, 3) := by decide +kernel
theorem d_Mo_putSign_21 : decode (M_Mo_putSign).cc 21 = .ok (.bipush 78, 2) := by decide +kernel
theorem d_Mo_putSign_23 : decode (M_Mo_putSign).cc 23 = .ok (.goto 56, 3) := by decide +kernel
theorem d_Mo_putSign_26 : decode (M_Mo_putSign).cc 26 = .ok (.iload_n 1, 1) := by decide +kernel
theorem d_Mo_putSign_27 : decode (M_Mo_putSign).cc 27 = .ok (.iconst 2, 1) := by decide +kernel
theorem d_Mo_putSign_28 : decode (M_Mo_putSign).cc 28 = .ok (.if_icmp .ne 8, 3) := by decide +kernel
theorem d_Mo_putSign_31 : decode (M_Mo_putSign).cc 31 = .ok (.bipush 79, 2) := by decide +kernel
theorem d_Mo_putSign_33 : decode (M_Mo_putSign).cc 33 = .ok (.goto 46, 3) := by decide +kernel
theorem d_Mo_putSign_36 : decode (M_Mo_putSign).cc 36 = .ok (.iload_n 1, 1) := by decide +kernel
theorem d_Mo_putSign_37 : decode (M_Mo_putSign).cc 37 = .ok (.iconst 3, 1) := by decide +kernel
theorem d_Mo_putSign_38 : decode (M_Mo_putSign).cc 38 = .ok (.if_icmp .ne 8, 3) := by decide +kernel
theorem d_Mo_putSign_41 : decode (M_Mo_putSign).cc 41 = .ok (.bipush 83, 2) := by decide +kernel
theorem d_Mo_putSign_43 : decode (M_Mo_putSign).cc 43 = .ok (.goto 36, 3) := by decide +kernel
theorem d_Mo_putSign_46 : decode (M_Mo_putSign).cc 46 = .ok (.iload_n 1, 1) := by decide +kernel
theorem d_Mo_putSign_47 : decode (M_Mo_putSign).cc 47 = .ok (.iconst 4, 1) := by decide +kernel
theorem d_Mo_putSign_48 : decode (M_Mo_putSign).cc 48 = .ok (.if_icmp .ne 8, 3) := by decide +kernel
theorem d_Mo_putSign_51 : decode (M_Mo_putSign).cc 51 = .ok (.bipush 80, 2) := by decide +kernel
theorem d_Mo_putSign_53 : decode (M_Mo_putSign).cc 53 = .ok (.goto 26, 3) := by decide +kernel
theorem d_Mo_putSign_56 : decode (M_Mo_putSign).cc 56 = .ok (.iload_n 1, 1) := by decide +kernel
theorem d_Mo_putSign_57 : decode (M_Mo_putSign).cc 57 = .ok (.iconst 5, 1) := by decide +kernel
theorem d_Mo_putSign_58 : decode (M_Mo_putSign).cc 58 = .ok (.if_icmp .ne 8, 3) := by decide +kernel
theorem d_Mo_putSign_61 : decode (M_Mo_putSign).cc 61 = .ok (.bipush 70, 2) := by decide +kernel
theorem d_Mo_putSign_63 : decode (M_Mo_putSign).cc 63 = .ok (.goto 16, 3) := by decide +kernel
theorem d_Mo_putSign_66 : decode (M_Mo_putSign).cc 66 = .ok (.iload_n 1, 1) := by decide +kernel
theorem d_Mo_putSign_67 : decode (M_Mo_putSign).cc 67 = .ok (.bipush 7, 2) := by decide +kernel
theorem d_Mo_putSign_69 : decode (M_Mo_putSign).cc 69 = .ok (.if_icmp .ne 8, 3) := by decide +kernel
theorem d_Mo_putSign_72 : decode (M_Mo_putSign).cc 72 = .ok (.bipush 66, 2) := by decide +kernel
theorem d_Mo_putSign_74 : decode (M_Mo_putSign).cc 74 = .ok (.goto 5, 3) := by decide +kernel
theorem d_Mo_putSign_77 : decode (M_Mo_putSign).cc 77 = .ok (.bipush 73, 2) := by decide +kernel
theorem d_Mo_putSign_79 : decode (M_Mo_putSign).cc 79 = .ok (.invokevirtual 200, 3) := by decide +kernel
theorem d_Mo_putSign_82 : decode (M_Mo_putSign).cc 82 = .ok (.iload_n 1, 1) := by decide +kernel
theorem d_Mo_putSign_83 : decode (M_Mo_putSign).cc 83 = .ok (.bipush 6, 2) := by decide +kernel
theorem d_Mo_putSign_85 : decode (M_Mo_putSign).cc 85 = .ok (.if_icmp .eq 9, 3) := by decide +kernel
theorem d_Mo_putSign_88 : decode (M_Mo_putSign).cc 88 = .ok (.iload_n 1, 1) := by decide +kernel
theorem d_Mo_putSign_89 : decode (M_Mo_putSign).cc 89 = .ok (.bipush 7, 2) := by decide +kernel
theorem d_Mo_putSign_91 : decode (M_Mo_putSign).cc 91 = .ok (.if_icmp .ne 20, 3) := by decide +kernel
theorem d_Mo_putSign_94 : decode (M_Mo_putSign).cc 94 = .ok (.aload_n 0, 1) := by decide +kernel
theorem d_Mo_putSign_95 : decode (M_Mo_putSign).cc 95 = .ok (.iload_n 1, 1) := by decide +kernel
theorem d_Mo_putSign_96 : decode (M_Mo_putSign).cc 96 = .ok (.bipush 6, 2) := by decide +kernel
theorem d_Mo_putSign_98 : decode (M_Mo_putSign).cc 98 = .ok (.if_icmp .ne 8, 3) := by decide +kernel
theorem d_Mo_putSign_101 : decode (M_Mo_putSign).cc 101 = .ok (.bipush 108, 2) := by decide +kernel
theorem d_Mo_putSign_103 : decode (M_Mo_putSign).cc 103 = .ok (.goto 5, 3) := by decide +kernel
theorem d_Mo_putSign_106 : decode (M_Mo_putSign).cc 106 = .ok (.bipush 114, 2) := by decide +kernel
theorem d_Mo_putSign_108 : decode (M_Mo_putSign).cc 108 = .ok (.invokevirtual 200, 3) := by decide +kernel
theorem d_Mo_putSign_111 : decode (M_Mo_putSign).cc 111 = .ok (.return_, 1) := by decide +kernel
theorem d_Mo_put_0 : decode (M_Mo_put).cc 0 = .ok (.aload_n 0, 1) := by decide +kernel
theorem d_Mo_put_1 : decode (M_Mo_put).cc 1 = .ok (.getfield 7, 3) := by decide +kernel
theorem d_Mo_put_4 : decode (M_Mo_put).cc 4 = .ok (.aload_n 0, 1) := by decide +kernel
theorem d_Mo_put_5 : decode (M_Mo_put).cc 5 = .ok (.getfield 88, 3) := by decide +kernel
theorem d_Mo_put_8 : decode (M_Mo_put).cc 8 = .ok (.iload_n 1, 1) := by decide +kernel
theorem d_Mo_put_9 : decode (M_Mo_put).cc 9 = .ok (.castore, 1) := by decide +kernel
theorem d_Mo_put_10 : decode (M_Mo_put).cc 10 = .ok (.aload_n 0, 1) := by decide +kernel
theorem d_Mo_put_11 : decode (M_Mo_put).cc 11 = .ok (.dup, 1) := by decide +kernel
theorem d_Mo_put_12 : decode (M_Mo_put).cc 12 = .ok (.getfield 88, 3) := by decide +kernel
theorem d_Mo_put_15 : decode (M_Mo_put).cc 15 = .ok (.iconst 1, 1) := by decide +kernel
theorem d_Mo_put_16 : decode (M_Mo_put).cc 16 = .ok (.iadd, 1) := by decide +kernel
theorem d_Mo_put_17 : decode (M_Mo_put).cc 17 = .ok (.putfield 88, 3) := by decide +kernel
theorem d_Mo_put_20 : decode (M_Mo_put).cc 20 = .ok (.return_, 1) := by decide +kernel
theorem d_Mo_putBond_0 : decode (M_Mo_putBond).cc 0 = .ok (.iload_n 1, 1) := by decide +kernel
theorem d_Mo_putBond_1 : decode (M_Mo_putBond).cc 1 = .ok (.iconst 1, 1) := by decide +kernel
theorem d_Mo_putBond_2 : decode (M_Mo_putBond).cc 2 = .ok (.if_icmp .le 19, 3) := by decide +kernel
theorem d_Mo_putBond_5 : decode (M_Mo_putBond).cc 5 = .ok (.aload_n 0, 1) := by decide +kernel
theorem d_Mo_putBond_6 : decode (M_Mo_putBond).cc 6 = .ok (.iload_n 1, 1) := by decide +kernel
theorem d_Mo_putBond_7 : decode (M_Mo_putBond).cc 7 = .ok (.iconst 2, 1) := by decide +kernel
theorem d_Mo_putBond_8 : decode (M_Mo_putBond).cc 8 = .ok (.if_icmp .ne 8, 3) := by decide +kernel
theorem d_Mo_putBond_11 : decode (M_Mo_putBond).cc 11 = .ok (.bipush 61, 2) := by decide +kernel
theorem d_Mo_putBond_13 : decode (M_Mo_putBond).cc 13 = .ok (.goto 5, 3) := by decide +kernel
theorem d_Mo_putBond_16 : decode (M_Mo_putBond).cc 16 = .ok (.bipush 35, 2) := by decide +kernel
theorem d_Mo_putBond_18 : decode (M_Mo_putBond).cc 18 = .ok (.invokevirtual 200, 3) := by decide +kernel
theorem d_Mo_putBond_21 : decode (M_Mo_putBond).cc 21 = .ok (.return_, 1) := by decide +kernel
theorem d_Mo_further_0 : decode (M_Mo_further).cc 0 = .ok (.iload_n 2, 1) := by decide +kernel
theorem d_Mo_further_1 : decode (M_Mo_further).cc 1 = .ok (.iconst 1, 1) := by decide +kernel
theorem d_Mo_further_2 : decode (M_Mo_further).cc 2 = .ok (.iadd, 1) := by decide +kernel
theorem d_Mo_further_3 : decode (M_Mo_further).cc 3 = .ok (.istore_n 3, 1) := by decide +kernel
theorem d_Mo_further_4 : decode (M_Mo_further).cc 4 = .ok (.iload_n 3, 1) := by decide +kernel
theorem d_Mo_further_5 : decode (M_Mo_further).cc 5 = .ok (.aload_n 0, 1) := by decide +kernel
theorem d_Mo_further_6 : decode (M_Mo_further).cc 6 = .ok (.getfield 129, 3) := by decide +kernel
theorem d_Mo_further_9 : decode (M_Mo_further).cc 9 = .ok (.if_icmp .ge 21, 3) := by decide +kernel
theorem d_Mo_further_12 : decode (M_Mo_further).cc 12 = .ok (.aload_n 0, 1) := by decide +kernel
theorem d_Mo_further_13 : decode (M_Mo_further).cc 13 = .ok (.getfield 67, 3) := by decide +kernel
theorem d_Mo_further_16 : decode (M_Mo_further).cc 16 = .ok (.iload_n 3, 1) := by decide +kernel
theorem d_Mo_further_17 : decode (M_Mo_further).cc 17 = .ok (.iaload, 1) := by decide +kernel
theorem d_Mo_further_18 : decode (M_Mo_further).cc 18 = .ok (.iload_n 1, 1) := by decide +kernel
theorem d_Mo_further_19 : decode (M_Mo_further).cc 19 = .ok (.if_icmp .ne 5, 3) := by decide +kernel
theorem d_Mo_further_22 : decode (M_Mo_further).cc 22 = .ok (.iload_n 3, 1) := by decide +kernel
theorem d_Mo_further_23 : decode (M_Mo_further).cc 23 = .ok (.ireturn, 1) := by decide +kernel
theorem d_Mo_further_24 : decode (M_Mo_further).cc 24 = .ok (.iinc 3 1, 3) := by decide +kernel
theorem d_Mo_further_27 : decode (M_Mo_further).cc 27 = .ok (.goto (-23), 3) := by decide +kernel
theorem d_Mo_further_30 : decode (M_Mo_further).cc 30 = .ok (.iconst (-1), 1) := by decide +kernel
theorem d_Mo_further_31 : decode (M_Mo_further).cc 31 = .ok (.ireturn, 1) := by decide +kernel
end
section
/-! what each instruction is (by names.py) -/
theorem d_Mo_formula_0 : decode (M_Mo_formula).cc 0 = .ok (.aload_n 0, 1) := by decide +kernel
theorem d_Mo_formula_1 : decode (M_Mo_formula).cc 1 = .ok (.iconst 0, 1) := by decide +kernel
theorem d_Mo_formula_2 : decode (M_Mo_formula).cc 2 = .ok (.putfield 85, 3) := by decide +kernel
theorem d_Mo_formula_5 : decode (M_Mo_formula).cc 5 = .ok (.iconst 0, 1) := by decide +kernel
theorem d_Mo_formula_6 : decode (M_Mo_formula).cc 6 = .ok (.istore_n 1, 1) := by decide +kernel
theorem d_Mo_formula_7 : decode (M_Mo_formula).cc 7 = .ok (.iload_n 1, 1) := by decide +kernel
theorem d_Mo_formula_8 : decode (M_Mo_formula).cc 8 = .ok (.bipush 10, 2) := by decide +kernel
theorem d_Mo_formula_10 : decode (M_Mo_formula).cc 10 = .ok (.if_icmp .ge 16, 3) := by decide +kernel
theorem d_Mo_formula_13 : decode (M_Mo_formula).cc 13 = .ok (.aload_n 0, 1) := by decide +kernel
theorem d_Mo_formula_14 : decode (M_Mo_formula).cc 14 = .ok (.getfield 55, 3) := by decide +kernel
theorem d_Mo_formula_17 : decode (M_Mo_formula).cc 17 = .ok (.iload_n 1, 1) := by decide +kernel
theorem d_Mo_formula_18 : decode (M_Mo_formula).cc 18 = .ok (.iconst 0, 1) := by decide +kernel
theorem d_Mo_formula_19 : decode (M_Mo_formula).cc 19 = .ok (.iastore, 1) := by decide +kernel
theorem d_Mo_formula_20 : decode (M_Mo_formula).cc 20 = .ok (.iinc 1 1, 3) := by decide +kernel
theorem d_Mo_formula_23 : decode (M_Mo_formula).cc 23 = .ok (.goto (-16), 3) := by decide +kernel
theorem d_Mo_formula_26 : decode (M_Mo_formula).cc 26 = .ok (.iconst 0, 1) := by decide +kernel
theorem d_Mo_formula_27 : decode (M_Mo_formula).cc 27 = .ok (.istore_n 1, 1) := by decide +kernel
theorem d_Mo_formula_28 : decode (M_Mo_formula).cc 28 = .ok (.iload_n 1, 1) := by decide +kernel
theorem d_Mo_formula_29 : decode (M_Mo_formula).cc 29 = .ok (.aload_n 0, 1) := by decide +kernel
theorem d_Mo_formula_30 : decode (M_Mo_formula).cc 30 = .ok (.getfield 88, 3) := by decide +kernel
theorem d_Mo_formula_33 : decode (M_Mo_formula).cc 33 = .ok (.if_icmp .lt 10, 3) := by decide +kernel
theorem d_Mo_formula_36 : decode (M_Mo_formula).cc 36 = .ok (.aload_n 0, 1) := by decide +kernel
theorem d_Mo_formula_37 : decode (M_Mo_formula).cc 37 = .ok (.getfield 88, 3) := by decide +kernel
theorem d_Mo_formula_40 : decode (M_Mo_formula).cc 40 = .ok (.ifCond .ne 152, 3) := by decide +kernel
theorem d_Mo_formula_43 : decode (M_Mo_formula).cc 43 = .ok (.aload_n 0, 1) := by decide +kernel
theorem d_Mo_formula_44 : decode (M_Mo_formula).cc 44 = .ok (.iload_n 1, 1) := by decide +kernel
theorem d_Mo_formula_45 : decode (M_Mo_formula).cc 45 = .ok (.invokevirtual 99, 3) := by decide +kernel
theorem d_Mo_formula_48 : decode (M_Mo_formula).cc 48 = .ok (.istore_n 2, 1) := by decide +kernel
theorem d_Mo_formula_49 : decode (M_Mo_formula).cc 49 = .ok (.iload_n 2, 1) := by decide +kernel
theorem d_Mo_formula_50 : decode (M_Mo_formula).cc 50 = .ok (.ifCond .ge 11, 3) := by decide +kernel
theorem d_Mo_formula_53 : decode (M_Mo_formula).cc 53 = .ok (.aload_n 0, 1) := by decide +kernel
theorem d_Mo_formula_54 : decode (M_Mo_formula).cc 54 = .ok (.bipush (-2), 2) := by decide +kernel
theorem d_Mo_formula_56 : decode (M_Mo_formula).cc 56 = .ok (.iload_n 1, 1) := by decide +kernel
theorem d_Mo_formula_57 : decode (M_Mo_formula).cc 57 = .ok (.invokevirtual 103, 3) := by decide +kernel
theorem d_Mo_formula_60 : decode (M_Mo_formula).cc 60 = .ok (.ireturn, 1) := by decide +kernel
theorem d_Mo_formula_61 : decode (M_Mo_formula).cc 61 = .ok (.aload_n 0, 1) := by decide +kernel
theorem d_Mo_formula_62 : decode (M_Mo_formula).cc 62 = .ok (.getfield 55, 3) := by decide +kernel
theorem d_Mo_formula_65 : decode (M_Mo_formula).cc 65 = .ok (.iload_n 2, 1) := by decide +kernel
theorem d_Mo_formula_66 : decode (M_Mo_formula).cc 66 = .ok (.iaload, 1) := by decide +kernel
theorem d_Mo_formula_67 : decode (M_Mo_formula).cc 67 = .ok (.ifCond .le 11, 3) := by decide +kernel
theorem d_Mo_formula_70 : decode (M_Mo_formula).cc 70 = .ok (.aload_n 0, 1) := by decide +kernel
theorem d_Mo_formula_71 : decode (M_Mo_formula).cc 71 = .ok (.bipush (-3), 2) := by decide +kernel
theorem d_Mo_formula_73 : decode (M_Mo_formula).cc 73 = .ok (.iload_n 1, 1) := by decide +kernel
theorem d_Mo_formula_74 : decode (M_Mo_formula).cc 74 = .ok (.invokevirtual 103, 3) := by decide +kernel
theorem d_Mo_formula_77 : decode (M_Mo_formula).cc 77 = .ok (.ireturn, 1) := by decide +kernel
theorem d_Mo_formula_78 : decode (M_Mo_formula).cc 78 = .ok (.iload_n 1, 1) := by decide +kernel
theorem d_Mo_formula_79 : decode (M_Mo_formula).cc 79 = .ok (.iload_n 2, 1) := by decide +kernel
theorem d_Mo_formula_80 : decode (M_Mo_formula).cc 80 = .ok (.invokestatic 107, 3) := by decide +kernel
theorem d_Mo_formula_83 : decode (M_Mo_formula).cc 83 = .ok (.iadd, 1) := by decide +kernel
theorem d_Mo_formula_84 : decode (M_Mo_formula).cc 84 = .ok (.istore_n 1, 1) := by decide +kernel
theorem d_Mo_formula_85 : decode (M_Mo_formula).cc 85 = .ok (.iload_n 1, 1) := by decide +kernel
theorem d_Mo_formula_86 : decode (M_Mo_formula).cc 86 = .ok (.istore_n 3, 1) := by decide +kernel
theorem d_Mo_formula_87 : decode (M_Mo_formula).cc 87 = .ok (.iconst 0, 1) := by decide +kernel
theorem d_Mo_formula_88 : decode (M_Mo_formula).cc 88 = .ok (.istore 4, 2) := by decide +kernel
theorem d_Mo_formula_90 : decode (M_Mo_formula).cc 90 = .ok (.aload_n 0, 1) := by decide +kernel
theorem d_Mo_formula_91 : decode (M_Mo_formula).cc 91 = .ok (.iload_n 1, 1) := by decide +kernel
theorem d_Mo_formula_92 : decode (M_Mo_formula).cc 92 = .ok (.invokevirtual 95, 3) := by decide +kernel
theorem d_Mo_formula_95 : decode (M_Mo_formula).cc 95 = .ok (.invokestatic 110, 3) := by decide +kernel
theorem d_Mo_formula_98 : decode (M_Mo_formula).cc 98 = .ok (.ifCond .eq 38, 3) := by decide +kernel
theorem d_Mo_formula_101 : decode (M_Mo_formula).cc 101 = .ok (.iload 4, 2) := by decide +kernel
theorem d_Mo_formula_103 : decode (M_Mo_formula).cc 103 = .ok (.sipush 1000, 3) := by decide +kernel
theorem d_Mo_formula_106 : decode (M_Mo_formula).cc 106 = .ok (.if_icmp .ge 20, 3) := by decide +kernel
theorem d_Mo_formula_109 : decode (M_Mo_formula).cc 109 = .ok (.bipush 10, 2) := by decide +kernel
theorem d_Mo_formula_111 : decode (M_Mo_formula).cc 111 = .ok (.iload 4, 2) := by decide +kernel
theorem d_Mo_formula_113 : decode (M_Mo_formula).cc 113 = .ok (.imul, 1) := by decide +kernel
theorem d_Mo_formula_114 : decode (M_Mo_formula).cc 114 = .ok (.aload_n 0, 1) := by decide +kernel
theorem d_Mo_formula_115 : decode (M_Mo_formula).cc 115 = .ok (.iload_n 1, 1) := by decide +kernel
theorem d_Mo_formula_116 : decode (M_Mo_formula).cc 116 = .ok (.invokevirtual 95, 3) := by decide +kernel
theorem d_Mo_formula_119 : decode (M_Mo_formula).cc 119 = .ok (.iadd, 1) := by decide +kernel
theorem d_Mo_formula_120 : decode (M_Mo_formula).cc 120 = .ok (.bipush 48, 2) := by decide +kernel
theorem d_Mo_formula_122 : decode (M_Mo_formula).cc 122 = .ok (.isub, 1) := by decide +kernel
theorem d_Mo_formula_123 : decode (M_Mo_formula).cc 123 = .ok (.goto 5, 3) := by decide +kernel
theorem d_Mo_formula_126 : decode (M_Mo_formula).cc 126 = .ok (.iload 4, 2) := by decide +kernel
theorem d_Mo_formula_128 : decode (M_Mo_formula).cc 128 = .ok (.istore 4, 2) := by decide +kernel
theorem d_Mo_formula_130 : decode (M_Mo_formula).cc 130 = .ok (.iinc 1 1, 3) := by decide +kernel
theorem d_Mo_formula_133 : decode (M_Mo_formula).cc 133 = .ok (.goto (-43), 3) := by decide +kernel
theorem d_Mo_formula_136 : decode (M_Mo_formula).cc 136 = .ok (.iload_n 1, 1) := by decide +kernel
theorem d_Mo_formula_137 : decode (M_Mo_formula).cc 137 = .ok (.iload_n 3, 1) := by decide +kernel
theorem d_Mo_formula_138 : decode (M_Mo_formula).cc 138 = .ok (.if_icmp .le 34, 3) := by decide +kernel
theorem d_Mo_formula_141 : decode (M_Mo_formula).cc 141 = .ok (.aload_n 0, 1) := by decide +kernel
theorem d_Mo_formula_142 : decode (M_Mo_formula).cc 142 = .ok (.iload_n 3, 1) := by decide +kernel
theorem d_Mo_formula_143 : decode (M_Mo_formula).cc 143 = .ok (.invokevirtual 95, 3) := by decide +kernel
theorem d_Mo_formula_146 : decode (M_Mo_formula).cc 146 = .ok (.bipush 48, 2) := by decide +kernel
theorem d_Mo_formula_148 : decode (M_Mo_formula).cc 148 = .ok (.if_icmp .eq 16, 3) := by decide +kernel
theorem d_Mo_formula_151 : decode (M_Mo_formula).cc 151 = .ok (.iload 4, 2) := by decide +kernel
theorem d_Mo_formula_153 : decode (M_Mo_formula).cc 153 = .ok (.iconst 2, 1) := by decide +kernel
theorem d_Mo_formula_154 : decode (M_Mo_formula).cc 154 = .ok (.if_icmp .lt 10, 3) := by decide +kernel
theorem d_Mo_formula_157 : decode (M_Mo_formula).cc 157 = .ok (.iload 4, 2) := by decide +kernel
theorem d_Mo_formula_159 : decode (M_Mo_formula).cc 159 = .ok (.bipush 99, 2) := by decide +kernel
theorem d_Mo_formula_161 : decode (M_Mo_formula).cc 161 = .ok (.if_icmp .le 11, 3) := by decide +kernel
theorem d_Mo_formula_164 : decode (M_Mo_formula).cc 164 = .ok (.aload_n 0, 1) := by decide +kernel
theorem d_Mo_formula_165 : decode (M_Mo_formula).cc 165 = .ok (.bipush (-4), 2) := by decide +kernel
theorem d_Mo_formula_167 : decode (M_Mo_formula).cc 167 = .ok (.iload_n 3, 1) := by decide +kernel
theorem d_Mo_formula_168 : decode (M_Mo_formula).cc 168 = .ok (.invokevirtual 103, 3) := by decide +kernel
theorem d_Mo_formula_171 : decode (M_Mo_formula).cc 171 = .ok (.ireturn, 1) := by decide +kernel
theorem d_Mo_formula_172 : decode (M_Mo_formula).cc 172 = .ok (.aload_n 0, 1) := by decide +kernel
theorem d_Mo_formula_173 : decode (M_Mo_formula).cc 173 = .ok (.getfield 55, 3) := by decide +kernel
theorem d_Mo_formula_176 : decode (M_Mo_formula).cc 176 = .ok (.iload_n 2, 1) := by decide +kernel
theorem d_Mo_formula_177 : decode (M_Mo_formula).cc 177 = .ok (.iload_n 1, 1) := by decide +kernel
theorem d_Mo_formula_178 : decode (M_Mo_formula).cc 178 = .ok (.iload_n 3, 1) := by decide +kernel
theorem d_Mo_formula_179 : decode (M_Mo_formula).cc 179 = .ok (.if_icmp .le 8, 3) := by decide +kernel
theorem d_Mo_formula_182 : decode (M_Mo_formula).cc 182 = .ok (.iload 4, 2) := by decide +kernel
theorem d_Mo_formula_184 : decode (M_Mo_formula).cc 184 = .ok (.goto 4, 3) := by decide +kernel
theorem d_Mo_formula_187 : decode (M_Mo_formula).cc 187 = .ok (.iconst 1, 1) := by decide +kernel
theorem d_Mo_formula_188 : decode (M_Mo_formula).cc 188 = .ok (.iastore, 1) := by decide +kernel
theorem d_Mo_formula_189 : decode (M_Mo_formula).cc 189 = .ok (.goto (-161), 3) := by decide +kernel
theorem d_Mo_formula_192 : decode (M_Mo_formula).cc 192 = .ok (.iconst 0, 1) := by decide +kernel
theorem d_Mo_formula_193 : decode (M_Mo_formula).cc 193 = .ok (.istore_n 2, 1) := by decide +kernel
theorem d_Mo_formula_194 : decode (M_Mo_formula).cc 194 = .ok (.iconst 0, 1) := by decide +kernel
theorem d_Mo_formula_195 : decode (M_Mo_formula).cc 195 = .ok (.istore_n 3, 1) := by decide +kernel
theorem d_Mo_formula_196 : decode (M_Mo_formula).cc 196 = .ok (.iconst 0, 1) := by decide +kernel
theorem d_Mo_formula_197 : decode (M_Mo_formula).cc 197 = .ok (.istore 4, 2) := by decide +kernel
theorem d_Mo_formula_199 : decode (M_Mo_formula).cc 199 = .ok (.iload 4, 2) := by decide +kernel
theorem d_Mo_formula_201 : decode (M_Mo_formula).cc 201 = .ok (.bipush 9, 2) := by decide +kernel
theorem d_Mo_formula_203 : decode (M_Mo_formula).cc 203 = .ok (.if_icmp .ge 35, 3) := by decide +kernel
theorem d_Mo_formula_206 : decode (M_Mo_formula).cc 206 = .ok (.iload_n 2, 1) := by decide +kernel
theorem d_Mo_formula_207 : decode (M_Mo_formula).cc 207 = .ok (.aload_n 0, 1) := by decide +kernel
theorem d_Mo_formula_208 : decode (M_Mo_formula).cc 208 = .ok (.getfield 55, 3) := by decide +kernel
theorem d_Mo_formula_211 : decode (M_Mo_formula).cc 211 = .ok (.iload 4, 2) := by decide +kernel
theorem d_Mo_formula_213 : decode (M_Mo_formula).cc 213 = .ok (.iaload, 1) := by decide +kernel
theorem d_Mo_formula_214 : decode (M_Mo_formula).cc 214 = .ok (.iadd, 1) := by decide +kernel
theorem d_Mo_formula_215 : decode (M_Mo_formula).cc 215 = .ok (.istore_n 2, 1) := by decide +kernel
theorem d_Mo_formula_216 : decode (M_Mo_formula).cc 216 = .ok (.iload_n 3, 1) := by decide +kernel
theorem d_Mo_formula_217 : decode (M_Mo_formula).cc 217 = .ok (.aload_n 0, 1) := by decide +kernel
theorem d_Mo_formula_218 : decode (M_Mo_formula).cc 218 = .ok (.getfield 55, 3) := by decide +kernel
theorem d_Mo_formula_221 : decode (M_Mo_formula).cc 221 = .ok (.iload 4, 2) := by decide +kernel
theorem d_Mo_formula_223 : decode (M_Mo_formula).cc 223 = .ok (.iaload, 1) := by decide +kernel
theorem d_Mo_formula_224 : decode (M_Mo_formula).cc 224 = .ok (.iload 4, 2) := by decide +kernel
theorem d_Mo_formula_226 : decode (M_Mo_formula).cc 226 = .ok (.invokestatic 114, 3) := by decide +kernel
theorem d_Mo_formula_229 : decode (M_Mo_formula).cc 229 = .ok (.imul, 1) := by decide +kernel
theorem d_Mo_formula_230 : decode (M_Mo_formula).cc 230 = .ok (.iadd, 1) := by decide +kernel
theorem d_Mo_formula_231 : decode (M_Mo_formula).cc 231 = .ok (.istore_n 3, 1) := by decide +kernel
theorem d_Mo_formula_232 : decode (M_Mo_formula).cc 232 = .ok (.iinc 4 1, 3) := by decide +kernel
theorem d_Mo_formula_235 : decode (M_Mo_formula).cc 235 = .ok (.goto (-36), 3) := by decide +kernel
theorem d_Mo_formula_238 : decode (M_Mo_formula).cc 238 = .ok (.iload_n 2, 1) := by decide +kernel
theorem d_Mo_formula_239 : decode (M_Mo_formula).cc 239 = .ok (.ifCond .eq 9, 3) := by decide +kernel
theorem d_Mo_formula_242 : decode (M_Mo_formula).cc 242 = .ok (.iload_n 2, 1) := by decide +kernel
theorem d_Mo_formula_243 : decode (M_Mo_formula).cc 243 = .ok (.bipush 6, 2) := by decide +kernel
theorem d_Mo_formula_245 : decode (M_Mo_formula).cc 245 = .ok (.if_icmp .le 14, 3) := by decide +kernel
theorem d_Mo_formula_248 : decode (M_Mo_formula).cc 248 = .ok (.aload_n 0, 1) := by decide +kernel
theorem d_Mo_formula_249 : decode (M_Mo_formula).cc 249 = .ok (.bipush (-5), 2) := by decide +kernel
theorem d_Mo_formula_251 : decode (M_Mo_formula).cc 251 = .ok (.aload_n 0, 1) := by decide +kernel
theorem d_Mo_formula_252 : decode (M_Mo_formula).cc 252 = .ok (.getfield 88, 3) := by decide +kernel
theorem d_Mo_formula_255 : decode (M_Mo_formula).cc 255 = .ok (.invokevirtual 103, 3) := by decide +kernel
theorem d_Mo_formula_258 : decode (M_Mo_formula).cc 258 = .ok (.ireturn, 1) := by decide +kernel
theorem d_Mo_formula_259 : decode (M_Mo_formula).cc 259 = .ok (.aload_n 0, 1) := by decide +kernel
theorem d_Mo_formula_260 : decode (M_Mo_formula).cc 260 = .ok (.iconst 0, 1) := by decide +kernel
theorem d_Mo_formula_261 : decode (M_Mo_formula).cc 261 = .ok (.putfield 117, 3) := by decide +kernel
theorem d_Mo_formula_264 : decode (M_Mo_formula).cc 264 = .ok (.iconst 0, 1) := by decide +kernel
theorem d_Mo_formula_265 : decode (M_Mo_formula).cc 265 = .ok (.istore 4, 2) := by decide +kernel
theorem d_Mo_formula_267 : decode (M_Mo_formula).cc 267 = .ok (.iload 4, 2) := by decide +kernel
theorem d_Mo_formula_269 : decode (M_Mo_formula).cc 269 = .ok (.bipush 9, 2) := by decide +kernel
theorem d_Mo_formula_271 : decode (M_Mo_formula).cc 271 = .ok (.if_icmp .ge 65, 3) := by decide +kernel
theorem d_Mo_formula_274 : decode (M_Mo_formula).cc 274 = .ok (.iconst 0, 1) := by decide +kernel
theorem d_Mo_formula_275 : decode (M_Mo_formula).cc 275 = .ok (.istore 5, 2) := by decide +kernel
theorem d_Mo_formula_277 : decode (M_Mo_formula).cc 277 = .ok (.iload 5, 2) := by decide +kernel
theorem d_Mo_formula_279 : decode (M_Mo_formula).cc 279 = .ok (.aload_n 0, 1) := by decide +kernel
theorem d_Mo_formula_280 : decode (M_Mo_formula).cc 280 = .ok (.getfield 55, 3) := by decide +kernel
theorem d_Mo_formula_283 : decode (M_Mo_formula).cc 283 = .ok (.iload 4, 2) := by decide +kernel
theorem d_Mo_formula_285 : decode (M_Mo_formula).cc 285 = .ok (.iaload, 1) := by decide +kernel
theorem d_Mo_formula_286 : decode (M_Mo_formula).cc 286 = .ok (.if_icmp .ge 44, 3) := by decide +kernel
theorem d_Mo_formula_289 : decode (M_Mo_formula).cc 289 = .ok (.aload_n 0, 1) := by decide +kernel
theorem d_Mo_formula_290 : decode (M_Mo_formula).cc 290 = .ok (.getfield 24, 3) := by decide +kernel
theorem d_Mo_formula_293 : decode (M_Mo_formula).cc 293 = .ok (.aload_n 0, 1) := by decide +kernel
theorem d_Mo_formula_294 : decode (M_Mo_formula).cc 294 = .ok (.getfield 117, 3) := by decide +kernel
theorem d_Mo_formula_297 : decode (M_Mo_formula).cc 297 = .ok (.iload 4, 2) := by decide +kernel
theorem d_Mo_formula_299 : decode (M_Mo_formula).cc 299 = .ok (.iastore, 1) := by decide +kernel
theorem d_Mo_formula_300 : decode (M_Mo_formula).cc 300 = .ok (.aload_n 0, 1) := by decide +kernel
theorem d_Mo_formula_301 : decode (M_Mo_formula).cc 301 = .ok (.getfield 30, 3) := by decide +kernel
theorem d_Mo_formula_304 : decode (M_Mo_formula).cc 304 = .ok (.aload_n 0, 1) := by decide +kernel
theorem d_Mo_formula_305 : decode (M_Mo_formula).cc 305 = .ok (.getfield 117, 3) := by decide +kernel
theorem d_Mo_formula_308 : decode (M_Mo_formula).cc 308 = .ok (.iload 4, 2) := by decide +kernel
theorem d_Mo_formula_310 : decode (M_Mo_formula).cc 310 = .ok (.invokestatic 114, 3) := by decide +kernel
theorem d_Mo_formula_313 : decode (M_Mo_formula).cc 313 = .ok (.iastore, 1) := by decide +kernel
theorem d_Mo_formula_314 : decode (M_Mo_formula).cc 314 = .ok (.aload_n 0, 1) := by decide +kernel
theorem d_Mo_formula_315 : decode (M_Mo_formula).cc 315 = .ok (.dup, 1) := by decide +kernel
theorem d_Mo_formula_316 : decode (M_Mo_formula).cc 316 = .ok (.getfield 117, 3) := by decide +kernel
theorem d_Mo_formula_319 : decode (M_Mo_formula).cc 319 = .ok (.iconst 1, 1) := by decide +kernel
theorem d_Mo_formula_320 : decode (M_Mo_formula).cc 320 = .ok (.iadd, 1) := by decide +kernel
theorem d_Mo_formula_321 : decode (M_Mo_formula).cc 321 = .ok (.putfield 117, 3) := by decide +kernel
theorem d_Mo_formula_324 : decode (M_Mo_formula).cc 324 = .ok (.iinc 5 1, 3) := by decide +kernel
theorem d_Mo_formula_327 : decode (M_Mo_formula).cc 327 = .ok (.goto (-50), 3) := by decide +kernel
theorem d_Mo_formula_330 : decode (M_Mo_formula).cc 330 = .ok (.iinc 4 1, 3) := by decide +kernel
theorem d_Mo_formula_333 : decode (M_Mo_formula).cc 333 = .ok (.goto (-66), 3) := by decide +kernel
theorem d_Mo_formula_336 : decode (M_Mo_formula).cc 336 = .ok (.iload_n 3, 1) := by decide +kernel
theorem d_Mo_formula_337 : decode (M_Mo_formula).cc 337 = .ok (.aload_n 0, 1) := by decide +kernel
theorem d_Mo_formula_338 : decode (M_Mo_formula).cc 338 = .ok (.getfield 55, 3) := by decide +kernel
theorem d_Mo_formula_341 : decode (M_Mo_formula).cc 341 = .ok (.bipush 9, 2) := by decide +kernel
theorem d_Mo_formula_343 : decode (M_Mo_formula).cc 343 = .ok (.iaload, 1) := by decide +kernel
theorem d_Mo_formula_344 : decode (M_Mo_formula).cc 344 = .ok (.isub, 1) := by decide +kernel
theorem d_Mo_formula_345 : decode (M_Mo_formula).cc 345 = .ok (.istore 4, 2) := by decide +kernel
theorem d_Mo_formula_347 : decode (M_Mo_formula).cc 347 = .ok (.aload_n 0, 1) := by decide +kernel
theorem d_Mo_formula_348 : decode (M_Mo_formula).cc 348 = .ok (.iconst 0, 1) := by decide +kernel
theorem d_Mo_formula_349 : decode (M_Mo_formula).cc 349 = .ok (.putfield 120, 3) := by decide +kernel
theorem d_Mo_formula_352 : decode (M_Mo_formula).cc 352 = .ok (.iload 4, 2) := by decide +kernel
theorem d_Mo_formula_354 : decode (M_Mo_formula).cc 354 = .ok (.ifCond .lt 22, 3) := by decide +kernel
theorem d_Mo_formula_357 : decode (M_Mo_formula).cc 357 = .ok (.iload 4, 2) := by decide +kernel
theorem d_Mo_formula_359 : decode (M_Mo_formula).cc 359 = .ok (.iconst 2, 1) := by decide +kernel
theorem d_Mo_formula_360 : decode (M_Mo_formula).cc 360 = .ok (.irem, 1) := by decide +kernel
theorem d_Mo_formula_361 : decode (M_Mo_formula).cc 361 = .ok (.ifCond .ne 15, 3) := by decide +kernel
theorem d_Mo_formula_364 : decode (M_Mo_formula).cc 364 = .ok (.aload_n 0, 1) := by decide +kernel
theorem d_Mo_formula_365 : decode (M_Mo_formula).cc 365 = .ok (.iload 4, 2) := by decide +kernel
theorem d_Mo_formula_367 : decode (M_Mo_formula).cc 367 = .ok (.iconst 2, 1) := by decide +kernel
theorem d_Mo_formula_368 : decode (M_Mo_formula).cc 368 = .ok (.idiv, 1) := by decide +kernel
theorem d_Mo_formula_369 : decode (M_Mo_formula).cc 369 = .ok (.putfield 123, 3) := by decide +kernel
theorem d_Mo_formula_372 : decode (M_Mo_formula).cc 372 = .ok (.aload_n 0, 1) := by decide +kernel
theorem d_Mo_formula_373 : decode (M_Mo_formula).cc 373 = .ok (.invokevirtual 126, 3) := by decide +kernel
theorem d_Mo_formula_376 : decode (M_Mo_formula).cc 376 = .ok (.aload_n 0, 1) := by decide +kernel
theorem d_Mo_formula_377 : decode (M_Mo_formula).cc 377 = .ok (.getfield 120, 3) := by decide +kernel
theorem d_Mo_formula_380 : decode (M_Mo_formula).cc 380 = .ok (.sipush 500, 3) := by decide +kernel
theorem d_Mo_formula_383 : decode (M_Mo_formula).cc 383 = .ok (.if_icmp .le 14, 3) := by decide +kernel
theorem d_Mo_formula_386 : decode (M_Mo_formula).cc 386 = .ok (.aload_n 0, 1) := by decide +kernel
theorem d_Mo_formula_387 : decode (M_Mo_formula).cc 387 = .ok (.bipush (-6), 2) := by decide +kernel
theorem d_Mo_formula_389 : decode (M_Mo_formula).cc 389 = .ok (.aload_n 0, 1) := by decide +kernel
theorem d_Mo_formula_390 : decode (M_Mo_formula).cc 390 = .ok (.getfield 88, 3) := by decide +kernel
theorem d_Mo_formula_393 : decode (M_Mo_formula).cc 393 = .ok (.invokevirtual 103, 3) := by decide +kernel
theorem d_Mo_formula_396 : decode (M_Mo_formula).cc 396 = .ok (.ireturn, 1) := by decide +kernel
theorem d_Mo_formula_397 : decode (M_Mo_formula).cc 397 = .ok (.aload_n 0, 1) := by decide +kernel
theorem d_Mo_formula_398 : decode (M_Mo_formula).cc 398 = .ok (.iconst (-1), 1) := by decide +kernel
theorem d_Mo_formula_399 : decode (M_Mo_formula).cc 399 = .ok (.putfield 13, 3) := by decide +kernel
theorem d_Mo_formula_402 : decode (M_Mo_formula).cc 402 = .ok (.aload_n 0, 1) := by decide +kernel
theorem d_Mo_formula_403 : decode (M_Mo_formula).cc 403 = .ok (.aload_n 0, 1) := by decide +kernel
theorem d_Mo_formula_404 : decode (M_Mo_formula).cc 404 = .ok (.getfield 117, 3) := by decide +kernel
theorem d_Mo_formula_407 : decode (M_Mo_formula).cc 407 = .ok (.putfield 129, 3) := by decide +kernel
theorem d_Mo_formula_410 : decode (M_Mo_formula).cc 410 = .ok (.aload_n 0, 1) := by decide +kernel
theorem d_Mo_formula_411 : decode (M_Mo_formula).cc 411 = .ok (.aload_n 0, 1) := by decide +kernel
theorem d_Mo_formula_412 : decode (M_Mo_formula).cc 412 = .ok (.getfield 55, 3) := by decide +kernel
theorem d_Mo_formula_415 : decode (M_Mo_formula).cc 415 = .ok (.bipush 9, 2) := by decide +kernel
theorem d_Mo_formula_417 : decode (M_Mo_formula).cc 417 = .ok (.iaload, 1) := by decide +kernel
theorem d_Mo_formula_418 : decode (M_Mo_formula).cc 418 = .ok (.putfield 132, 3) := by decide +kernel
theorem d_Mo_formula_421 : decode (M_Mo_formula).cc 421 = .ok (.iconst 0, 1) := by decide +kernel
theorem d_Mo_formula_422 : decode (M_Mo_formula).cc 422 = .ok (.istore 5, 2) := by decide +kernel
theorem d_Mo_formula_424 : decode (M_Mo_formula).cc 424 = .ok (.iload 5, 2) := by decide +kernel
theorem d_Mo_formula_426 : decode (M_Mo_formula).cc 426 = .ok (.aload_n 0, 1) := by decide +kernel
theorem d_Mo_formula_427 : decode (M_Mo_formula).cc 427 = .ok (.getfield 129, 3) := by decide +kernel
theorem d_Mo_formula_430 : decode (M_Mo_formula).cc 430 = .ok (.if_icmp .ge 23, 3) := by decide +kernel
theorem d_Mo_formula_433 : decode (M_Mo_formula).cc 433 = .ok (.aload_n 0, 1) := by decide +kernel
theorem d_Mo_formula_434 : decode (M_Mo_formula).cc 434 = .ok (.getfield 17, 3) := by decide +kernel
theorem d_Mo_formula_437 : decode (M_Mo_formula).cc 437 = .ok (.iload 5, 2) := by decide +kernel
theorem d_Mo_formula_439 : decode (M_Mo_formula).cc 439 = .ok (.aload_n 0, 1) := by decide +kernel
theorem d_Mo_formula_440 : decode (M_Mo_formula).cc 440 = .ok (.getfield 24, 3) := by decide +kernel
theorem d_Mo_formula_443 : decode (M_Mo_formula).cc 443 = .ok (.iload 5, 2) := by decide +kernel
theorem d_Mo_formula_445 : decode (M_Mo_formula).cc 445 = .ok (.iaload, 1) := by decide +kernel
theorem d_Mo_formula_446 : decode (M_Mo_formula).cc 446 = .ok (.iastore, 1) := by decide +kernel
theorem d_Mo_formula_447 : decode (M_Mo_formula).cc 447 = .ok (.iinc 5 1, 3) := by decide +kernel
theorem d_Mo_formula_450 : decode (M_Mo_formula).cc 450 = .ok (.goto (-26), 3) := by decide +kernel
theorem d_Mo_formula_453 : decode (M_Mo_formula).cc 453 = .ok (.aload_n 0, 1) := by decide +kernel
theorem d_Mo_formula_454 : decode (M_Mo_formula).cc 454 = .ok (.aload_n 0, 1) := by decide +kernel
theorem d_Mo_formula_455 : decode (M_Mo_formula).cc 455 = .ok (.getfield 120, 3) := by decide +kernel
theorem d_Mo_formula_458 : decode (M_Mo_formula).cc 458 = .ok (.putfield 135, 3) := by decide +kernel
theorem d_Mo_formula_461 : decode (M_Mo_formula).cc 461 = .ok (.iconst 0, 1) := by decide +kernel
theorem d_Mo_formula_462 : decode (M_Mo_formula).cc 462 = .ok (.istore 5, 2) := by decide +kernel
theorem d_Mo_formula_464 : decode (M_Mo_formula).cc 464 = .ok (.iload 5, 2) := by decide +kernel
theorem d_Mo_formula_466 : decode (M_Mo_formula).cc 466 = .ok (.bipush 15, 2) := by decide +kernel
theorem d_Mo_formula_468 : decode (M_Mo_formula).cc 468 = .ok (.aload_n 0, 1) := by decide +kernel
theorem d_Mo_formula_469 : decode (M_Mo_formula).cc 469 = .ok (.getfield 120, 3) := by decide +kernel
theorem d_Mo_formula_472 : decode (M_Mo_formula).cc 472 = .ok (.imul, 1) := by decide +kernel
theorem d_Mo_formula_473 : decode (M_Mo_formula).cc 473 = .ok (.if_icmp .ge 23, 3) := by decide +kernel
theorem d_Mo_formula_476 : decode (M_Mo_formula).cc 476 = .ok (.aload_n 0, 1) := by decide +kernel
theorem d_Mo_formula_477 : decode (M_Mo_formula).cc 477 = .ok (.getfield 21, 3) := by decide +kernel
theorem d_Mo_formula_480 : decode (M_Mo_formula).cc 480 = .ok (.iload 5, 2) := by decide +kernel
theorem d_Mo_formula_482 : decode (M_Mo_formula).cc 482 = .ok (.aload_n 0, 1) := by decide +kernel
theorem d_Mo_formula_483 : decode (M_Mo_formula).cc 483 = .ok (.getfield 36, 3) := by decide +kernel
theorem d_Mo_formula_486 : decode (M_Mo_formula).cc 486 = .ok (.iload 5, 2) := by decide +kernel
theorem d_Mo_formula_488 : decode (M_Mo_formula).cc 488 = .ok (.iaload, 1) := by decide +kernel
theorem d_Mo_formula_489 : decode (M_Mo_formula).cc 489 = .ok (.iastore, 1) := by decide +kernel
theorem d_Mo_formula_490 : decode (M_Mo_formula).cc 490 = .ok (.iinc 5 1, 3) := by decide +kernel
theorem d_Mo_formula_493 : decode (M_Mo_formula).cc 493 = .ok (.goto (-29), 3) := by decide +kernel
theorem d_Mo_formula_496 : decode (M_Mo_formula).cc 496 = .ok (.aload_n 0, 1) := by decide +kernel
theorem d_Mo_formula_497 : decode (M_Mo_formula).cc 497 = .ok (.getfield 135, 3) := by decide +kernel
theorem d_Mo_formula_500 : decode (M_Mo_formula).cc 500 = .ok (.ireturn, 1) := by decide +kernel
theorem d_Mo_parse_0 : decode (M_Mo_parse).cc 0 = .ok (.iconst 0, 1) := by decide +kernel
theorem d_Mo_parse_1 : decode (M_Mo_parse).cc 1 = .ok (.istore_n 1, 1) := by decide +kernel
theorem d_Mo_parse_2 : decode (M_Mo_parse).cc 2 = .ok (.iconst 0, 1) := by decide +kernel
theorem d_Mo_parse_3 : decode (M_Mo_parse).cc 3 = .ok (.istore_n 2, 1) := by decide +kernel
theorem d_Mo_parse_4 : decode (M_Mo_parse).cc 4 = .ok (.iload_n 2, 1) := by decide +kernel
theorem d_Mo_parse_5 : decode (M_Mo_parse).cc 5 = .ok (.bipush 10, 2) := by decide +kernel
theorem d_Mo_parse_7 : decode (M_Mo_parse).cc 7 = .ok (.if_icmp .ge 16, 3) := by decide +kernel
theorem d_Mo_parse_10 : decode (M_Mo_parse).cc 10 = .ok (.aload_n 0, 1) := by decide +kernel
theorem d_Mo_parse_11 : decode (M_Mo_parse).cc 11 = .ok (.getfield 61, 3) := by decide +kernel
theorem d_Mo_parse_14 : decode (M_Mo_parse).cc 14 = .ok (.iload_n 2, 1) := by decide +kernel
theorem d_Mo_parse_15 : decode (M_Mo_parse).cc 15 = .ok (.iconst (-1), 1) := by decide +kernel
theorem d_Mo_parse_16 : decode (M_Mo_parse).cc 16 = .ok (.iastore, 1) := by decide +kernel
theorem d_Mo_parse_17 : decode (M_Mo_parse).cc 17 = .ok (.iinc 2 1, 3) := by decide +kernel
theorem d_Mo_parse_20 : decode (M_Mo_parse).cc 20 = .ok (.goto (-16), 3) := by decide +kernel
theorem d_Mo_parse_23 : decode (M_Mo_parse).cc 23 = .ok (.iconst 0, 1) := by decide +kernel
theorem d_Mo_parse_24 : decode (M_Mo_parse).cc 24 = .ok (.istore_n 2, 1) := by decide +kernel
theorem d_Mo_parse_25 : decode (M_Mo_parse).cc 25 = .ok (.iconst (-1), 1) := by decide +kernel
theorem d_Mo_parse_26 : decode (M_Mo_parse).cc 26 = .ok (.istore_n 3, 1) := by decide +kernel
theorem d_Mo_parse_27 : decode (M_Mo_parse).cc 27 = .ok (.iconst 0, 1) := by decide +kernel
theorem d_Mo_parse_28 : decode (M_Mo_parse).cc 28 = .ok (.istore 4, 2) := by decide +kernel
theorem d_Mo_parse_30 : decode (M_Mo_parse).cc 30 = .ok (.iconst 0, 1) := by decide +kernel
theorem d_Mo_parse_31 : decode (M_Mo_parse).cc 31 = .ok (.istore 5, 2) := by decide +kernel
theorem d_Mo_parse_33 : decode (M_Mo_parse).cc 33 = .ok (.iload 5, 2) := by decide +kernel
theorem d_Mo_parse_35 : decode (M_Mo_parse).cc 35 = .ok (.aload_n 0, 1) := by decide +kernel
theorem d_Mo_parse_36 : decode (M_Mo_parse).cc 36 = .ok (.getfield 88, 3) := by decide +kernel
theorem d_Mo_parse_39 : decode (M_Mo_parse).cc 39 = .ok (.if_icmp .ge 516, 3) := by decide +kernel
theorem d_Mo_parse_42 : decode (M_Mo_parse).cc 42 = .ok (.aload_n 0, 1) := by decide +kernel
theorem d_Mo_parse_43 : decode (M_Mo_parse).cc 43 = .ok (.getfield 7, 3) := by decide +kernel
theorem d_Mo_parse_46 : decode (M_Mo_parse).cc 46 = .ok (.iload 5, 2) := by decide +kernel
theorem d_Mo_parse_48 : decode (M_Mo_parse).cc 48 = .ok (.caload, 1) := by decide +kernel
theorem d_Mo_parse_49 : decode (M_Mo_parse).cc 49 = .ok (.istore 6, 2) := by decide +kernel
theorem d_Mo_parse_51 : decode (M_Mo_parse).cc 51 = .ok (.aload_n 0, 1) := by decide +kernel
theorem d_Mo_parse_52 : decode (M_Mo_parse).cc 52 = .ok (.iload 5, 2) := by decide +kernel
theorem d_Mo_parse_54 : decode (M_Mo_parse).cc 54 = .ok (.invokevirtual 99, 3) := by decide +kernel
theorem d_Mo_parse_57 : decode (M_Mo_parse).cc 57 = .ok (.istore 7, 2) := by decide +kernel
theorem d_Mo_parse_59 : decode (M_Mo_parse).cc 59 = .ok (.iload 6, 2) := by decide +kernel
theorem d_Mo_parse_61 : decode (M_Mo_parse).cc 61 = .ok (.bipush 45, 2) := by decide +kernel
theorem d_Mo_parse_63 : decode (M_Mo_parse).cc 63 = .ok (.if_icmp .ne 7, 3) := by decide +kernel
theorem d_Mo_parse_66 : decode (M_Mo_parse).cc 66 = .ok (.iconst 1, 1) := by decide +kernel
theorem d_Mo_parse_67 : decode (M_Mo_parse).cc 67 = .ok (.goto 26, 3) := by decide +kernel
theorem d_Mo_parse_70 : decode (M_Mo_parse).cc 70 = .ok (.iload 6, 2) := by decide +kernel
theorem d_Mo_parse_72 : decode (M_Mo_parse).cc 72 = .ok (.bipush 61, 2) := by decide +kernel
theorem d_Mo_parse_74 : decode (M_Mo_parse).cc 74 = .ok (.if_icmp .ne 7, 3) := by decide +kernel
theorem d_Mo_parse_77 : decode (M_Mo_parse).cc 77 = .ok (.iconst 2, 1) := by decide +kernel
theorem d_Mo_parse_78 : decode (M_Mo_parse).cc 78 = .ok (.goto 15, 3) := by decide +kernel
theorem d_Mo_parse_81 : decode (M_Mo_parse).cc 81 = .ok (.iload 6, 2) := by decide +kernel
theorem d_Mo_parse_83 : decode (M_Mo_parse).cc 83 = .ok (.bipush 35, 2) := by decide +kernel
theorem d_Mo_parse_85 : decode (M_Mo_parse).cc 85 = .ok (.if_icmp .ne 7, 3) := by decide +kernel
theorem d_Mo_parse_88 : decode (M_Mo_parse).cc 88 = .ok (.iconst 3, 1) := by decide +kernel
theorem d_Mo_parse_89 : decode (M_Mo_parse).cc 89 = .ok (.goto 4, 3) := by decide +kernel
theorem d_Mo_parse_92 : decode (M_Mo_parse).cc 92 = .ok (.iconst 0, 1) := by decide +kernel
theorem d_Mo_parse_93 : decode (M_Mo_parse).cc 93 = .ok (.istore 8, 2) := by decide +kernel
theorem d_Mo_parse_95 : decode (M_Mo_parse).cc 95 = .ok (.iload 7, 2) := by decide +kernel
theorem d_Mo_parse_97 : decode (M_Mo_parse).cc 97 = .ok (.ifCond .lt 126, 3) := by decide +kernel
theorem d_Mo_parse_100 : decode (M_Mo_parse).cc 100 = .ok (.iload 7, 2) := by decide +kernel
theorem d_Mo_parse_102 : decode (M_Mo_parse).cc 102 = .ok (.bipush 9, 2) := by decide +kernel
theorem d_Mo_parse_104 : decode (M_Mo_parse).cc 104 = .ok (.if_icmp .eq 119, 3) := by decide +kernel
theorem d_Mo_parse_107 : decode (M_Mo_parse).cc 107 = .ok (.aload_n 0, 1) := by decide +kernel
theorem d_Mo_parse_108 : decode (M_Mo_parse).cc 108 = .ok (.getfield 167, 3) := by decide +kernel
theorem d_Mo_parse_111 : decode (M_Mo_parse).cc 111 = .ok (.bipush 6, 2) := by decide +kernel
theorem d_Mo_parse_113 : decode (M_Mo_parse).cc 113 = .ok (.if_icmp .ne 12, 3) := by decide +kernel
theorem d_Mo_parse_116 : decode (M_Mo_parse).cc 116 = .ok (.aload_n 0, 1) := by decide +kernel
theorem d_Mo_parse_117 : decode (M_Mo_parse).cc 117 = .ok (.bipush (-5), 2) := by decide +kernel
theorem d_Mo_parse_119 : decode (M_Mo_parse).cc 119 = .ok (.iload 5, 2) := by decide +kernel
theorem d_Mo_parse_121 : decode (M_Mo_parse).cc 121 = .ok (.invokevirtual 103, 3) := by decide +kernel
theorem d_Mo_parse_124 : decode (M_Mo_parse).cc 124 = .ok (.ireturn, 1) := by decide +kernel
theorem d_Mo_parse_125 : decode (M_Mo_parse).cc 125 = .ok (.aload_n 0, 1) := by decide +kernel
theorem d_Mo_parse_126 : decode (M_Mo_parse).cc 126 = .ok (.getfield 46, 3) := by decide +kernel
theorem d_Mo_parse_129 : decode (M_Mo_parse).cc 129 = .ok (.aload_n 0, 1) := by decide +kernel
theorem d_Mo_parse_130 : decode (M_Mo_parse).cc 130 = .ok (.getfield 167, 3) := by decide +kernel
theorem d_Mo_parse_133 : decode (M_Mo_parse).cc 133 = .ok (.iload 7, 2) := by decide +kernel
theorem d_Mo_parse_135 : decode (M_Mo_parse).cc 135 = .ok (.iastore, 1) := by decide +kernel
theorem d_Mo_parse_136 : decode (M_Mo_parse).cc 136 = .ok (.iload_n 3, 1) := by decide +kernel
theorem d_Mo_parse_137 : decode (M_Mo_parse).cc 137 = .ok (.ifCond .lt 53, 3) := by decide +kernel
theorem d_Mo_parse_140 : decode (M_Mo_parse).cc 140 = .ok (.aload_n 0, 1) := by decide +kernel
theorem d_Mo_parse_141 : decode (M_Mo_parse).cc 141 = .ok (.getfield 49, 3) := by decide +kernel
theorem d_Mo_parse_144 : decode (M_Mo_parse).cc 144 = .ok (.bipush 6, 2) := by decide +kernel
theorem d_Mo_parse_146 : decode (M_Mo_parse).cc 146 = .ok (.iload_n 3, 1) := by decide +kernel
theorem d_Mo_parse_147 : decode (M_Mo_parse).cc 147 = .ok (.imul, 1) := by decide +kernel
theorem d_Mo_parse_148 : decode (M_Mo_parse).cc 148 = .ok (.aload_n 0, 1) := by decide +kernel
theorem d_Mo_parse_149 : decode (M_Mo_parse).cc 149 = .ok (.getfield 167, 3) := by decide +kernel
theorem d_Mo_parse_152 : decode (M_Mo_parse).cc 152 = .ok (.iadd, 1) := by decide +kernel
theorem d_Mo_parse_153 : decode (M_Mo_parse).cc 153 = .ok (.iload 4, 2) := by decide +kernel
theorem d_Mo_parse_155 : decode (M_Mo_parse).cc 155 = .ok (.ifCond .ne 7, 3) := by decide +kernel
theorem d_Mo_parse_158 : decode (M_Mo_parse).cc 158 = .ok (.iconst 1, 1) := by decide +kernel
theorem d_Mo_parse_159 : decode (M_Mo_parse).cc 159 = .ok (.goto 5, 3) := by decide +kernel
theorem d_Mo_parse_162 : decode (M_Mo_parse).cc 162 = .ok (.iload 4, 2) := by decide +kernel
theorem d_Mo_parse_164 : decode (M_Mo_parse).cc 164 = .ok (.iastore, 1) := by decide +kernel
theorem d_Mo_parse_165 : decode (M_Mo_parse).cc 165 = .ok (.aload_n 0, 1) := by decide +kernel
theorem d_Mo_parse_166 : decode (M_Mo_parse).cc 166 = .ok (.getfield 49, 3) := by decide +kernel
theorem d_Mo_parse_169 : decode (M_Mo_parse).cc 169 = .ok (.bipush 6, 2) := by decide +kernel
theorem d_Mo_parse_171 : decode (M_Mo_parse).cc 171 = .ok (.aload_n 0, 1) := by decide +kernel
theorem d_Mo_parse_172 : decode (M_Mo_parse).cc 172 = .ok (.getfield 167, 3) := by decide +kernel
theorem d_Mo_parse_175 : decode (M_Mo_parse).cc 175 = .ok (.imul, 1) := by decide +kernel
theorem d_Mo_parse_176 : decode (M_Mo_parse).cc 176 = .ok (.iload_n 3, 1) := by decide +kernel
theorem d_Mo_parse_177 : decode (M_Mo_parse).cc 177 = .ok (.iadd, 1) := by decide +kernel
theorem d_Mo_parse_178 : decode (M_Mo_parse).cc 178 = .ok (.iload 4, 2) := by decide +kernel
theorem d_Mo_parse_180 : decode (M_Mo_parse).cc 180 = .ok (.ifCond .ne 7, 3) := by decide +kernel
theorem d_Mo_parse_183 : decode (M_Mo_parse).cc 183 = .ok (.iconst 1, 1) := by decide +kernel
theorem d_Mo_parse_184 : decode (M_Mo_parse).cc 184 = .ok (.goto 5, 3) := by decide +kernel
theorem d_Mo_parse_187 : decode (M_Mo_parse).cc 187 = .ok (.iload 4, 2) := by decide +kernel
theorem d_Mo_parse_189 : decode (M_Mo_parse).cc 189 = .ok (.iastore, 1) := by decide +kernel
theorem d_Mo_parse_190 : decode (M_Mo_parse).cc 190 = .ok (.aload_n 0, 1) := by decide +kernel
theorem d_Mo_parse_191 : decode (M_Mo_parse).cc 191 = .ok (.getfield 167, 3) := by decide +kernel
theorem d_Mo_parse_194 : decode (M_Mo_parse).cc 194 = .ok (.istore_n 3, 1) := by decide +kernel
theorem d_Mo_parse_195 : decode (M_Mo_parse).cc 195 = .ok (.aload_n 0, 1) := by decide +kernel
theorem d_Mo_parse_196 : decode (M_Mo_parse).cc 196 = .ok (.dup, 1) := by decide +kernel
theorem d_Mo_parse_197 : decode (M_Mo_parse).cc 197 = .ok (.getfield 167, 3) := by decide +kernel
theorem d_Mo_parse_200 : decode (M_Mo_parse).cc 200 = .ok (.iconst 1, 1) := by decide +kernel
theorem d_Mo_parse_201 : decode (M_Mo_parse).cc 201 = .ok (.iadd, 1) := by decide +kernel
theorem d_Mo_parse_202 : decode (M_Mo_parse).cc 202 = .ok (.putfield 167, 3) := by decide +kernel
theorem d_Mo_parse_205 : decode (M_Mo_parse).cc 205 = .ok (.iconst 0, 1) := by decide +kernel
theorem d_Mo_parse_206 : decode (M_Mo_parse).cc 206 = .ok (.istore 4, 2) := by decide +kernel
theorem d_Mo_parse_208 : decode (M_Mo_parse).cc 208 = .ok (.iconst 1, 1) := by decide +kernel
theorem d_Mo_parse_209 : decode (M_Mo_parse).cc 209 = .ok (.istore_n 2, 1) := by decide +kernel
theorem d_Mo_parse_210 : decode (M_Mo_parse).cc 210 = .ok (.iload 5, 2) := by decide +kernel
theorem d_Mo_parse_212 : decode (M_Mo_parse).cc 212 = .ok (.iload 7, 2) := by decide +kernel
theorem d_Mo_parse_214 : decode (M_Mo_parse).cc 214 = .ok (.invokestatic 107, 3) := by decide +kernel
theorem d_Mo_parse_217 : decode (M_Mo_parse).cc 217 = .ok (.iadd, 1) := by decide +kernel
theorem d_Mo_parse_218 : decode (M_Mo_parse).cc 218 = .ok (.istore 5, 2) := by decide +kernel
theorem d_Mo_parse_220 : decode (M_Mo_parse).cc 220 = .ok (.goto 332, 3) := by decide +kernel
theorem d_Mo_parse_223 : decode (M_Mo_parse).cc 223 = .ok (.iload 8, 2) := by decide +kernel
theorem d_Mo_parse_225 : decode (M_Mo_parse).cc 225 = .ok (.ifCond .le 22, 3) := by decide +kernel
theorem d_Mo_parse_228 : decode (M_Mo_parse).cc 228 = .ok (.iload 4, 2) := by decide +kernel
theorem d_Mo_parse_230 : decode (M_Mo_parse).cc 230 = .ok (.ifCond .ne 17, 3) := by decide +kernel
theorem d_Mo_parse_233 : decode (M_Mo_parse).cc 233 = .ok (.iload_n 2, 1) := by decide +kernel
theorem d_Mo_parse_234 : decode (M_Mo_parse).cc 234 = .ok (.ifCond .le 13, 3) := by decide +kernel
theorem d_Mo_parse_237 : decode (M_Mo_parse).cc 237 = .ok (.iload 8, 2) := by decide +kernel
theorem d_Mo_parse_239 : decode (M_Mo_parse).cc 239 = .ok (.istore 4, 2) := by decide +kernel
theorem d_Mo_parse_241 : decode (M_Mo_parse).cc 241 = .ok (.iinc 5 1, 3) := by decide +kernel
theorem d_Mo_parse_244 : decode (M_Mo_parse).cc 244 = .ok (.goto 308, 3) := by decide +kernel
theorem d_Mo_parse_247 : decode (M_Mo_parse).cc 247 = .ok (.iload 6, 2) := by decide +kernel
theorem d_Mo_parse_249 : decode (M_Mo_parse).cc 249 = .ok (.bipush 49, 2) := by decide +kernel
theorem d_Mo_parse_251 : decode (M_Mo_parse).cc 251 = .ok (.if_icmp .lt 208, 3) := by decide +kernel
theorem d_Mo_parse_254 : decode (M_Mo_parse).cc 254 = .ok (.iload 6, 2) := by decide +kernel
theorem d_Mo_parse_256 : decode (M_Mo_parse).cc 256 = .ok (.bipush 57, 2) := by decide +kernel
theorem d_Mo_parse_258 : decode (M_Mo_parse).cc 258 = .ok (.if_icmp .gt 201, 3) := by decide +kernel
theorem d_Mo_parse_261 : decode (M_Mo_parse).cc 261 = .ok (.iload_n 2, 1) := by decide +kernel
theorem d_Mo_parse_262 : decode (M_Mo_parse).cc 262 = .ok (.iconst 1, 1) := by decide +kernel
theorem d_Mo_parse_263 : decode (M_Mo_parse).cc 263 = .ok (.if_icmp .ne 196, 3) := by decide +kernel
theorem d_Mo_parse_266 : decode (M_Mo_parse).cc 266 = .ok (.iload 6, 2) := by decide +kernel
theorem d_Mo_parse_268 : decode (M_Mo_parse).cc 268 = .ok (.bipush 48, 2) := by decide +kernel
theorem d_Mo_parse_270 : decode (M_Mo_parse).cc 270 = .ok (.isub, 1) := by decide +kernel
theorem d_Mo_parse_271 : decode (M_Mo_parse).cc 271 = .ok (.istore 9, 2) := by decide +kernel
theorem d_Mo_parse_273 : decode (M_Mo_parse).cc 273 = .ok (.aload_n 0, 1) := by decide +kernel
theorem d_Mo_parse_274 : decode (M_Mo_parse).cc 274 = .ok (.getfield 61, 3) := by decide +kernel
theorem d_Mo_parse_277 : decode (M_Mo_parse).cc 277 = .ok (.iload 9, 2) := by decide +kernel
theorem d_Mo_parse_279 : decode (M_Mo_parse).cc 279 = .ok (.iaload, 1) := by decide +kernel
theorem d_Mo_parse_280 : decode (M_Mo_parse).cc 280 = .ok (.ifCond .ge 23, 3) := by decide +kernel
theorem d_Mo_parse_283 : decode (M_Mo_parse).cc 283 = .ok (.aload_n 0, 1) := by decide +kernel
theorem d_Mo_parse_284 : decode (M_Mo_parse).cc 284 = .ok (.getfield 61, 3) := by decide +kernel
theorem d_Mo_parse_287 : decode (M_Mo_parse).cc 287 = .ok (.iload 9, 2) := by decide +kernel
theorem d_Mo_parse_289 : decode (M_Mo_parse).cc 289 = .ok (.iload_n 3, 1) := by decide +kernel
theorem d_Mo_parse_290 : decode (M_Mo_parse).cc 290 = .ok (.iastore, 1) := by decide +kernel
theorem d_Mo_parse_291 : decode (M_Mo_parse).cc 291 = .ok (.aload_n 0, 1) := by decide +kernel
theorem d_Mo_parse_292 : decode (M_Mo_parse).cc 292 = .ok (.getfield 64, 3) := by decide +kernel
theorem d_Mo_parse_295 : decode (M_Mo_parse).cc 295 = .ok (.iload 9, 2) := by decide +kernel
theorem d_Mo_parse_297 : decode (M_Mo_parse).cc 297 = .ok (.iload 4, 2) := by decide +kernel
theorem d_Mo_parse_299 : decode (M_Mo_parse).cc 299 = .ok (.iastore, 1) := by decide +kernel
theorem d_Mo_parse_300 : decode (M_Mo_parse).cc 300 = .ok (.goto 150, 3) := by decide +kernel
theorem d_Mo_parse_303 : decode (M_Mo_parse).cc 303 = .ok (.aload_n 0, 1) := by decide +kernel
theorem d_Mo_parse_304 : decode (M_Mo_parse).cc 304 = .ok (.getfield 61, 3) := by decide +kernel
theorem d_Mo_parse_307 : decode (M_Mo_parse).cc 307 = .ok (.iload 9, 2) := by decide +kernel
theorem d_Mo_parse_309 : decode (M_Mo_parse).cc 309 = .ok (.iaload, 1) := by decide +kernel
theorem d_Mo_parse_310 : decode (M_Mo_parse).cc 310 = .ok (.istore 10, 2) := by decide +kernel
theorem d_Mo_parse_312 : decode (M_Mo_parse).cc 312 = .ok (.iload 4, 2) := by decide +kernel
theorem d_Mo_parse_314 : decode (M_Mo_parse).cc 314 = .ok (.ifCond .le 29, 3) := by decide +kernel
theorem d_Mo_parse_317 : decode (M_Mo_parse).cc 317 = .ok (.aload_n 0, 1) := by decide +kernel
theorem d_Mo_parse_318 : decode (M_Mo_parse).cc 318 = .ok (.getfield 64, 3) := by decide +kernel
theorem d_Mo_parse_321 : decode (M_Mo_parse).cc 321 = .ok (.iload 9, 2) := by decide +kernel
theorem d_Mo_parse_323 : decode (M_Mo_parse).cc 323 = .ok (.iaload, 1) := by decide +kernel
theorem d_Mo_parse_324 : decode (M_Mo_parse).cc 324 = .ok (.ifCond .le 19, 3) := by decide +kernel
theorem d_Mo_parse_327 : decode (M_Mo_parse).cc 327 = .ok (.iload 4, 2) := by decide +kernel
theorem d_Mo_parse_329 : decode (M_Mo_parse).cc 329 = .ok (.aload_n 0, 1) := by decide +kernel
theorem d_Mo_parse_330 : decode (M_Mo_parse).cc 330 = .ok (.getfield 64, 3) := by decide +kernel
theorem d_Mo_parse_333 : decode (M_Mo_parse).cc 333 = .ok (.iload 9, 2) := by decide +kernel
theorem d_Mo_parse_335 : decode (M_Mo_parse).cc 335 = .ok (.iaload, 1) := by decide +kernel
theorem d_Mo_parse_336 : decode (M_Mo_parse).cc 336 = .ok (.if_icmp .eq 7, 3) := by decide +kernel
theorem d_Mo_parse_339 : decode (M_Mo_parse).cc 339 = .ok (.iconst 1, 1) := by decide +kernel
theorem d_Mo_parse_340 : decode (M_Mo_parse).cc 340 = .ok (.goto 4, 3) := by decide +kernel
theorem d_Mo_parse_343 : decode (M_Mo_parse).cc 343 = .ok (.iconst 0, 1) := by decide +kernel
theorem d_Mo_parse_344 : decode (M_Mo_parse).cc 344 = .ok (.istore 11, 2) := by decide +kernel
theorem d_Mo_parse_346 : decode (M_Mo_parse).cc 346 = .ok (.iload 10, 2) := by decide +kernel
theorem d_Mo_parse_348 : decode (M_Mo_parse).cc 348 = .ok (.iload_n 3, 1) := by decide +kernel
theorem d_Mo_parse_349 : decode (M_Mo_parse).cc 349 = .ok (.if_icmp .eq 23, 3) := by decide +kernel
theorem d_Mo_parse_352 : decode (M_Mo_parse).cc 352 = .ok (.aload_n 0, 1) := by decide +kernel
theorem d_Mo_parse_353 : decode (M_Mo_parse).cc 353 = .ok (.getfield 49, 3) := by decide +kernel
theorem d_Mo_parse_356 : decode (M_Mo_parse).cc 356 = .ok (.bipush 6, 2) := by decide +kernel
theorem d_Mo_parse_358 : decode (M_Mo_parse).cc 358 = .ok (.iload 10, 2) := by decide +kernel
theorem d_Mo_parse_360 : decode (M_Mo_parse).cc 360 = .ok (.imul, 1) := by decide +kernel
theorem d_Mo_parse_361 : decode (M_Mo_parse).cc 361 = .ok (.iload_n 3, 1) := by decide +kernel
theorem d_Mo_parse_362 : decode (M_Mo_parse).cc 362 = .ok (.iadd, 1) := by decide +kernel
theorem d_Mo_parse_363 : decode (M_Mo_parse).cc 363 = .ok (.iaload, 1) := by decide +kernel
theorem d_Mo_parse_364 : decode (M_Mo_parse).cc 364 = .ok (.ifCond .gt 8, 3) := by decide +kernel
theorem d_Mo_parse_367 : decode (M_Mo_parse).cc 367 = .ok (.iload 11, 2) := by decide +kernel
theorem d_Mo_parse_369 : decode (M_Mo_parse).cc 369 = .ok (.ifCond .eq 12, 3) := by decide +kernel
theorem d_Mo_parse_372 : decode (M_Mo_parse).cc 372 = .ok (.aload_n 0, 1) := by decide +kernel
theorem d_Mo_parse_373 : decode (M_Mo_parse).cc 373 = .ok (.bipush (-7), 2) := by decide +kernel
theorem d_Mo_parse_375 : decode (M_Mo_parse).cc 375 = .ok (.iload 5, 2) := by decide +kernel
theorem d_Mo_parse_377 : decode (M_Mo_parse).cc 377 = .ok (.invokevirtual 103, 3) := by decide +kernel
theorem d_Mo_parse_380 : decode (M_Mo_parse).cc 380 = .ok (.ireturn, 1) := by decide +kernel
theorem d_Mo_parse_381 : decode (M_Mo_parse).cc 381 = .ok (.iload 4, 2) := by decide +kernel
theorem d_Mo_parse_383 : decode (M_Mo_parse).cc 383 = .ok (.ifCond .le 8, 3) := by decide +kernel
theorem d_Mo_parse_386 : decode (M_Mo_parse).cc 386 = .ok (.iload 4, 2) := by decide +kernel
theorem d_Mo_parse_388 : decode (M_Mo_parse).cc 388 = .ok (.goto 24, 3) := by decide +kernel
theorem d_Mo_parse_391 : decode (M_Mo_parse).cc 391 = .ok (.aload_n 0, 1) := by decide +kernel
theorem d_Mo_parse_392 : decode (M_Mo_parse).cc 392 = .ok (.getfield 64, 3) := by decide +kernel
theorem d_Mo_parse_395 : decode (M_Mo_parse).cc 395 = .ok (.iload 9, 2) := by decide +kernel
theorem d_Mo_parse_397 : decode (M_Mo_parse).cc 397 = .ok (.iaload, 1) := by decide +kernel
theorem d_Mo_parse_398 : decode (M_Mo_parse).cc 398 = .ok (.ifCond .le 13, 3) := by decide +kernel
theorem d_Mo_parse_401 : decode (M_Mo_parse).cc 401 = .ok (.aload_n 0, 1) := by decide +kernel
theorem d_Mo_parse_402 : decode (M_Mo_parse).cc 402 = .ok (.getfield 64, 3) := by decide +kernel
theorem d_Mo_parse_405 : decode (M_Mo_parse).cc 405 = .ok (.iload 9, 2) := by decide +kernel
theorem d_Mo_parse_407 : decode (M_Mo_parse).cc 407 = .ok (.iaload, 1) := by decide +kernel
theorem d_Mo_parse_408 : decode (M_Mo_parse).cc 408 = .ok (.goto 4, 3) := by decide +kernel
theorem d_Mo_parse_411 : decode (M_Mo_parse).cc 411 = .ok (.iconst 1, 1) := by decide +kernel
theorem d_Mo_parse_412 : decode (M_Mo_parse).cc 412 = .ok (.istore 12, 2) := by decide +kernel
theorem d_Mo_parse_414 : decode (M_Mo_parse).cc 414 = .ok (.aload_n 0, 1) := by decide +kernel
theorem d_Mo_parse_415 : decode (M_Mo_parse).cc 415 = .ok (.getfield 49, 3) := by decide +kernel
theorem d_Mo_parse_418 : decode (M_Mo_parse).cc 418 = .ok (.bipush 6, 2) := by decide +kernel
theorem d_Mo_parse_420 : decode (M_Mo_parse).cc 420 = .ok (.iload 10, 2) := by decide +kernel
theorem d_Mo_parse_422 : decode (M_Mo_parse).cc 422 = .ok (.imul, 1) := by decide +kernel
theorem d_Mo_parse_423 : decode (M_Mo_parse).cc 423 = .ok (.iload_n 3, 1) := by decide +kernel
theorem d_Mo_parse_424 : decode (M_Mo_parse).cc 424 = .ok (.iadd, 1) := by decide +kernel
theorem d_Mo_parse_425 : decode (M_Mo_parse).cc 425 = .ok (.iload 12, 2) := by decide +kernel
theorem d_Mo_parse_427 : decode (M_Mo_parse).cc 427 = .ok (.iastore, 1) := by decide +kernel
theorem d_Mo_parse_428 : decode (M_Mo_parse).cc 428 = .ok (.aload_n 0, 1) := by decide +kernel
theorem d_Mo_parse_429 : decode (M_Mo_parse).cc 429 = .ok (.getfield 49, 3) := by decide +kernel
theorem d_Mo_parse_432 : decode (M_Mo_parse).cc 432 = .ok (.bipush 6, 2) := by decide +kernel
theorem d_Mo_parse_434 : decode (M_Mo_parse).cc 434 = .ok (.iload_n 3, 1) := by decide +kernel
theorem d_Mo_parse_435 : decode (M_Mo_parse).cc 435 = .ok (.imul, 1) := by decide +kernel
theorem d_Mo_parse_436 : decode (M_Mo_parse).cc 436 = .ok (.iload 10, 2) := by decide +kernel
theorem d_Mo_parse_438 : decode (M_Mo_parse).cc 438 = .ok (.iadd, 1) := by decide +kernel
theorem d_Mo_parse_439 : decode (M_Mo_parse).cc 439 = .ok (.iload 12, 2) := by decide +kernel
theorem d_Mo_parse_441 : decode (M_Mo_parse).cc 441 = .ok (.iastore, 1) := by decide +kernel
theorem d_Mo_parse_442 : decode (M_Mo_parse).cc 442 = .ok (.aload_n 0, 1) := by decide +kernel
theorem d_Mo_parse_443 : decode (M_Mo_parse).cc 443 = .ok (.getfield 61, 3) := by decide +kernel
theorem d_Mo_parse_446 : decode (M_Mo_parse).cc 446 = .ok (.iload 9, 2) := by decide +kernel
theorem d_Mo_parse_448 : decode (M_Mo_parse).cc 448 = .ok (.iconst (-1), 1) := by decide +kernel
theorem d_Mo_parse_449 : decode (M_Mo_parse).cc 449 = .ok (.iastore, 1) := by decide +kernel
theorem d_Mo_parse_450 : decode (M_Mo_parse).cc 450 = .ok (.iconst 0, 1) := by decide +kernel
theorem d_Mo_parse_451 : decode (M_Mo_parse).cc 451 = .ok (.istore 4, 2) := by decide +kernel
theorem d_Mo_parse_453 : decode (M_Mo_parse).cc 453 = .ok (.iinc 5 1, 3) := by decide +kernel
theorem d_Mo_parse_456 : decode (M_Mo_parse).cc 456 = .ok (.goto 96, 3) := by decide +kernel
theorem d_Mo_parse_459 : decode (M_Mo_parse).cc 459 = .ok (.iload 6, 2) := by decide +kernel
theorem d_Mo_parse_461 : decode (M_Mo_parse).cc 461 = .ok (.bipush 40, 2) := by decide +kernel
theorem d_Mo_parse_463 : decode (M_Mo_parse).cc 463 = .ok (.if_icmp .ne 36, 3) := by decide +kernel
theorem d_Mo_parse_466 : decode (M_Mo_parse).cc 466 = .ok (.iload 4, 2) := by decide +kernel
theorem d_Mo_parse_468 : decode (M_Mo_parse).cc 468 = .ok (.ifCond .ne 31, 3) := by decide +kernel
theorem d_Mo_parse_471 : decode (M_Mo_parse).cc 471 = .ok (.iload_n 2, 1) := by decide +kernel
theorem d_Mo_parse_472 : decode (M_Mo_parse).cc 472 = .ok (.iconst 1, 1) := by decide +kernel
theorem d_Mo_parse_473 : decode (M_Mo_parse).cc 473 = .ok (.if_icmp .eq 8, 3) := by decide +kernel
theorem d_Mo_parse_476 : decode (M_Mo_parse).cc 476 = .ok (.iload_n 2, 1) := by decide +kernel
theorem d_Mo_parse_477 : decode (M_Mo_parse).cc 477 = .ok (.iconst 2, 1) := by decide +kernel
theorem d_Mo_parse_478 : decode (M_Mo_parse).cc 478 = .ok (.if_icmp .ne 21, 3) := by decide +kernel
theorem d_Mo_parse_481 : decode (M_Mo_parse).cc 481 = .ok (.aload_n 0, 1) := by decide +kernel
theorem d_Mo_parse_482 : decode (M_Mo_parse).cc 482 = .ok (.getfield 58, 3) := by decide +kernel
theorem d_Mo_parse_485 : decode (M_Mo_parse).cc 485 = .ok (.iload_n 1, 1) := by decide +kernel
theorem d_Mo_parse_486 : decode (M_Mo_parse).cc 486 = .ok (.iload_n 3, 1) := by decide +kernel
theorem d_Mo_parse_487 : decode (M_Mo_parse).cc 487 = .ok (.iastore, 1) := by decide +kernel
theorem d_Mo_parse_488 : decode (M_Mo_parse).cc 488 = .ok (.iinc 1 1, 3) := by decide +kernel
theorem d_Mo_parse_491 : decode (M_Mo_parse).cc 491 = .ok (.iconst 3, 1) := by decide +kernel
theorem d_Mo_parse_492 : decode (M_Mo_parse).cc 492 = .ok (.istore_n 2, 1) := by decide +kernel
theorem d_Mo_parse_493 : decode (M_Mo_parse).cc 493 = .ok (.iinc 5 1, 3) := by decide +kernel
theorem d_Mo_parse_496 : decode (M_Mo_parse).cc 496 = .ok (.goto 56, 3) := by decide +kernel
theorem d_Mo_parse_499 : decode (M_Mo_parse).cc 499 = .ok (.iload 6, 2) := by decide +kernel
theorem d_Mo_parse_501 : decode (M_Mo_parse).cc 501 = .ok (.bipush 41, 2) := by decide +kernel
theorem d_Mo_parse_503 : decode (M_Mo_parse).cc 503 = .ok (.if_icmp .ne 40, 3) := by decide +kernel
theorem d_Mo_parse_506 : decode (M_Mo_parse).cc 506 = .ok (.iload 4, 2) := by decide +kernel
theorem d_Mo_parse_508 : decode (M_Mo_parse).cc 508 = .ok (.ifCond .ne 35, 3) := by decide +kernel
theorem d_Mo_parse_511 : decode (M_Mo_parse).cc 511 = .ok (.iload_n 1, 1) := by decide +kernel
theorem d_Mo_parse_512 : decode (M_Mo_parse).cc 512 = .ok (.ifCond .le 31, 3) := by decide +kernel
theorem d_Mo_parse_515 : decode (M_Mo_parse).cc 515 = .ok (.iload_n 2, 1) := by decide +kernel
theorem d_Mo_parse_516 : decode (M_Mo_parse).cc 516 = .ok (.iconst 1, 1) := by decide +kernel
theorem d_Mo_parse_517 : decode (M_Mo_parse).cc 517 = .ok (.if_icmp .eq 8, 3) := by decide +kernel
theorem d_Mo_parse_520 : decode (M_Mo_parse).cc 520 = .ok (.iload_n 2, 1) := by decide +kernel
theorem d_Mo_parse_521 : decode (M_Mo_parse).cc 521 = .ok (.iconst 2, 1) := by decide +kernel
theorem d_Mo_parse_522 : decode (M_Mo_parse).cc 522 = .ok (.if_icmp .ne 21, 3) := by decide +kernel
theorem d_Mo_parse_525 : decode (M_Mo_parse).cc 525 = .ok (.iinc 1 (-1), 3) := by decide +kernel
theorem d_Mo_parse_528 : decode (M_Mo_parse).cc 528 = .ok (.aload_n 0, 1) := by decide +kernel
theorem d_Mo_parse_529 : decode (M_Mo_parse).cc 529 = .ok (.getfield 58, 3) := by decide +kernel
theorem d_Mo_parse_532 : decode (M_Mo_parse).cc 532 = .ok (.iload_n 1, 1) := by decide +kernel
theorem d_Mo_parse_533 : decode (M_Mo_parse).cc 533 = .ok (.iaload, 1) := by decide +kernel
theorem d_Mo_parse_534 : decode (M_Mo_parse).cc 534 = .ok (.istore_n 3, 1) := by decide +kernel
theorem d_Mo_parse_535 : decode (M_Mo_parse).cc 535 = .ok (.iconst 2, 1) := by decide +kernel
theorem d_Mo_parse_536 : decode (M_Mo_parse).cc 536 = .ok (.istore_n 2, 1) := by decide +kernel
theorem d_Mo_parse_537 : decode (M_Mo_parse).cc 537 = .ok (.iinc 5 1, 3) := by decide +kernel
theorem d_Mo_parse_540 : decode (M_Mo_parse).cc 540 = .ok (.goto 12, 3) := by decide +kernel
theorem d_Mo_parse_543 : decode (M_Mo_parse).cc 543 = .ok (.aload_n 0, 1) := by decide +kernel
theorem d_Mo_parse_544 : decode (M_Mo_parse).cc 544 = .ok (.bipush (-2), 2) := by decide +kernel
theorem d_Mo_parse_546 : decode (M_Mo_parse).cc 546 = .ok (.iload 5, 2) := by decide +kernel
theorem d_Mo_parse_548 : decode (M_Mo_parse).cc 548 = .ok (.invokevirtual 103, 3) := by decide +kernel
theorem d_Mo_parse_551 : decode (M_Mo_parse).cc 551 = .ok (.ireturn, 1) := by decide +kernel
theorem d_Mo_parse_552 : decode (M_Mo_parse).cc 552 = .ok (.goto (-519), 3) := by decide +kernel
theorem d_Mo_parse_555 : decode (M_Mo_parse).cc 555 = .ok (.iload 4, 2) := by decide +kernel
theorem d_Mo_parse_557 : decode (M_Mo_parse).cc 557 = .ok (.ifCond .gt 16, 3) := by decide +kernel
theorem d_Mo_parse_560 : decode (M_Mo_parse).cc 560 = .ok (.iload_n 1, 1) := by decide +kernel
theorem d_Mo_parse_561 : decode (M_Mo_parse).cc 561 = .ok (.ifCond .gt 12, 3) := by decide +kernel
theorem d_Mo_parse_564 : decode (M_Mo_parse).cc 564 = .ok (.iload_n 2, 1) := by decide +kernel
theorem d_Mo_parse_565 : decode (M_Mo_parse).cc 565 = .ok (.ifCond .eq 8, 3) := by decide +kernel
theorem d_Mo_parse_568 : decode (M_Mo_parse).cc 568 = .ok (.iload_n 2, 1) := by decide +kernel
theorem d_Mo_parse_569 : decode (M_Mo_parse).cc 569 = .ok (.iconst 3, 1) := by decide +kernel
theorem d_Mo_parse_570 : decode (M_Mo_parse).cc 570 = .ok (.if_icmp .ne 14, 3) := by decide +kernel
theorem d_Mo_parse_573 : decode (M_Mo_parse).cc 573 = .ok (.aload_n 0, 1) := by decide +kernel
theorem d_Mo_parse_574 : decode (M_Mo_parse).cc 574 = .ok (.bipush (-2), 2) := by decide +kernel
theorem d_Mo_parse_576 : decode (M_Mo_parse).cc 576 = .ok (.aload_n 0, 1) := by decide +kernel
theorem d_Mo_parse_577 : decode (M_Mo_parse).cc 577 = .ok (.getfield 88, 3) := by decide +kernel
theorem d_Mo_parse_580 : decode (M_Mo_parse).cc 580 = .ok (.invokevirtual 103, 3) := by decide +kernel
theorem d_Mo_parse_583 : decode (M_Mo_parse).cc 583 = .ok (.ireturn, 1) := by decide +kernel
theorem d_Mo_parse_584 : decode (M_Mo_parse).cc 584 = .ok (.aload_n 0, 1) := by decide +kernel
theorem d_Mo_parse_585 : decode (M_Mo_parse).cc 585 = .ok (.invokevirtual 177, 3) := by decide +kernel
theorem d_Mo_parse_588 : decode (M_Mo_parse).cc 588 = .ok (.ireturn, 1) := by decide +kernel
theorem d_Lw_type_0 : decode (M_Lw_type).cc 0 = .ok (.aload_n 2, 1) := by decide +kernel
theorem d_Lw_type_1 : decode (M_Lw_type).cc 1 = .ok (.iconst 0, 1) := by decide +kernel
theorem d_Lw_type_2 : decode (M_Lw_type).cc 2 = .ok (.aload_n 0, 1) := by decide +kernel
theorem d_Lw_type_3 : decode (M_Lw_type).cc 3 = .ok (.iload_n 1, 1) := by decide +kernel
theorem d_Lw_type_4 : decode (M_Lw_type).cc 4 = .ok (.invokevirtual 7, 3) := by decide +kernel
theorem d_Lw_type_7 : decode (M_Lw_type).cc 7 = .ok (.i2l, 1) := by decide +kernel
theorem d_Lw_type_8 : decode (M_Lw_type).cc 8 = .ok (.lastore, 1) := by decide +kernel
theorem d_Lw_type_9 : decode (M_Lw_type).cc 9 = .ok (.goto 6, 3) := by decide +kernel
theorem d_Lw_type_12 : decode (M_Lw_type).cc 12 = .ok (.astore_n 3, 1) := by decide +kernel
theorem d_Lw_type_13 : decode (M_Lw_type).cc 13 = .ok (.iconst 1, 1) := by decide +kernel
theorem d_Lw_type_14 : decode (M_Lw_type).cc 14 = .ok (.ireturn, 1) := by decide +kernel
theorem d_Lw_type_15 : decode (M_Lw_type).cc 15 = .ok (.iconst 0, 1) := by decide +kernel
theorem d_Lw_type_16 : decode (M_Lw_type).cc 16 = .ok (.ireturn, 1) := by decide +kernel
theorem d_Lw_element_0 : decode (M_Lw_element).cc 0 = .ok (.aload_n 2, 1) := by decide +kernel
theorem d_Lw_element_1 : decode (M_Lw_element).cc 1 = .ok (.iconst 0, 1) := by decide +kernel
theorem d_Lw_element_2 : decode (M_Lw_element).cc 2 = .ok (.aload_n 0, 1) := by decide +kernel
theorem d_Lw_element_3 : decode (M_Lw_element).cc 3 = .ok (.iload_n 1, 1) := by decide +kernel
theorem d_Lw_element_4 : decode (M_Lw_element).cc 4 = .ok (.invokevirtual 15, 3) := by decide +kernel
theorem d_Lw_element_7 : decode (M_Lw_element).cc 7 = .ok (.i2l, 1) := by decide +kernel
theorem d_Lw_element_8 : decode (M_Lw_element).cc 8 = .ok (.lastore, 1) := by decide +kernel
theorem d_Lw_element_9 : decode (M_Lw_element).cc 9 = .ok (.goto 6, 3) := by decide +kernel
theorem d_Lw_element_12 : decode (M_Lw_element).cc 12 = .ok (.astore_n 3, 1) := by decide +kernel
theorem d_Lw_element_13 : decode (M_Lw_element).cc 13 = .ok (.iconst 1, 1) := by decide +kernel
theorem d_Lw_element_14 : decode (M_Lw_element).cc 14 = .ok (.ireturn, 1) := by decide +kernel
theorem d_Lw_element_15 : decode (M_Lw_element).cc 15 = .ok (.iconst 0, 1) := by decide +kernel
theorem d_Lw_element_16 : decode (M_Lw_element).cc 16 = .ok (.ireturn, 1) := by decide +kernel
theorem d_Lw_bond_0 : decode (M_Lw_bond).cc 0 = .ok (.aload 4, 2) := by decide +kernel
theorem d_Lw_bond_2 : decode (M_Lw_bond).cc 2 = .ok (.iconst 0, 1) := by decide +kernel
theorem d_Lw_bond_3 : decode (M_Lw_bond).cc 3 = .ok (.aload_n 0, 1) := by decide +kernel
theorem d_Lw_bond_4 : decode (M_Lw_bond).cc 4 = .ok (.iload_n 1, 1) := by decide +kernel
theorem d_Lw_bond_5 : decode (M_Lw_bond).cc 5 = .ok (.iload_n 2, 1) := by decide +kernel
theorem d_Lw_bond_6 : decode (M_Lw_bond).cc 6 = .ok (.iload_n 3, 1) := by decide +kernel
theorem d_Lw_bond_7 : decode (M_Lw_bond).cc 7 = .ok (.invokevirtual 21, 3) := by decide +kernel
theorem d_Lw_bond_10 : decode (M_Lw_bond).cc 10 = .ok (.i2l, 1) := by decide +kernel
theorem d_Lw_bond_11 : decode (M_Lw_bond).cc 11 = .ok (.lastore, 1) := by decide +kernel
theorem d_Lw_bond_12 : decode (M_Lw_bond).cc 12 = .ok (.goto 7, 3) := by decide +kernel
theorem d_Lw_bond_15 : decode (M_Lw_bond).cc 15 = .ok (.astore 5, 2) := by decide +kernel
theorem d_Lw_bond_17 : decode (M_Lw_bond).cc 17 = .ok (.iconst 1, 1) := by decide +kernel
theorem d_Lw_bond_18 : decode (M_Lw_bond).cc 18 = .ok (.ireturn, 1) := by decide +kernel
theorem d_Lw_bond_19 : decode (M_Lw_bond).cc 19 = .ok (.iconst 0, 1) := by decide +kernel
theorem d_Lw_bond_20 : decode (M_Lw_bond).cc 20 = .ok (.ireturn, 1) := by decide +kernel
theorem d_Lw_hydrogens_0 : decode (M_Lw_hydrogens).cc 0 = .ok (.aload_n 3, 1) := by decide +kernel
theorem d_Lw_hydrogens_1 : decode (M_Lw_hydrogens).cc 1 = .ok (.iconst 0, 1) := by decide +kernel
theorem d_Lw_hydrogens_2 : decode (M_Lw_hydrogens).cc 2 = .ok (.aload_n 0, 1) := by decide +kernel
theorem d_Lw_hydrogens_3 : decode (M_Lw_hydrogens).cc 3 = .ok (.iload_n 1, 1) := by decide +kernel
theorem d_Lw_hydrogens_4 : decode (M_Lw_hydrogens).cc 4 = .ok (.iload_n 2, 1) := by decide +kernel
theorem d_Lw_hydrogens_5 : decode (M_Lw_hydrogens).cc 5 = .ok (.invokevirtual 25, 3) := by decide +kernel
theorem d_Lw_hydrogens_8 : decode (M_Lw_hydrogens).cc 8 = .ok (.i2l, 1) := by decide +kernel
theorem d_Lw_hydrogens_9 : decode (M_Lw_hydrogens).cc 9 = .ok (.lastore, 1) := by decide +kernel
theorem d_Lw_hydrogens_10 : decode (M_Lw_hydrogens).cc 10 = .ok (.goto 7, 3) := by decide +kernel
theorem d_Lw_hydrogens_13 : decode (M_Lw_hydrogens).cc 13 = .ok (.astore 4, 2) := by decide +kernel
theorem d_Lw_hydrogens_15 : decode (M_Lw_hydrogens).cc 15 = .ok (.iconst 1, 1) := by decide +kernel
theorem d_Lw_hydrogens_16 : decode (M_Lw_hydrogens).cc 16 = .ok (.ireturn, 1) := by decide +kernel
theorem d_Lw_hydrogens_17 : decode (M_Lw_hydrogens).cc 17 = .ok (.iconst 0, 1) := by decide +kernel
theorem d_Lw_hydrogens_18 : decode (M_Lw_hydrogens).cc 18 = .ok (.ireturn, 1) := by decide +kernel
theorem d_Lw_ways_0 : decode (M_Lw_ways).cc 0 = .ok (.aload_n 2, 1) := by decide +kernel
theorem d_Lw_ways_1 : decode (M_Lw_ways).cc 1 = .ok (.iconst 0, 1) := by decide +kernel
theorem d_Lw_ways_2 : decode (M_Lw_ways).cc 2 = .ok (.aload_n 0, 1) := by decide +kernel
theorem d_Lw_ways_3 : decode (M_Lw_ways).cc 3 = .ok (.iload_n 1, 1) := by decide +kernel
theorem d_Lw_ways_4 : decode (M_Lw_ways).cc 4 = .ok (.invokevirtual 29, 3) := by decide +kernel
theorem d_Lw_ways_7 : decode (M_Lw_ways).cc 7 = .ok (.i2l, 1) := by decide +kernel
theorem d_Lw_ways_8 : decode (M_Lw_ways).cc 8 = .ok (.lastore, 1) := by decide +kernel
theorem d_Lw_ways_9 : decode (M_Lw_ways).cc 9 = .ok (.goto 6, 3) := by decide +kernel
theorem d_Lw_ways_12 : decode (M_Lw_ways).cc 12 = .ok (.astore_n 3, 1) := by decide +kernel
theorem d_Lw_ways_13 : decode (M_Lw_ways).cc 13 = .ok (.iconst 1, 1) := by decide +kernel
theorem d_Lw_ways_14 : decode (M_Lw_ways).cc 14 = .ok (.ireturn, 1) := by decide +kernel
theorem d_Lw_ways_15 : decode (M_Lw_ways).cc 15 = .ok (.iconst 0, 1) := by decide +kernel
theorem d_Lw_ways_16 : decode (M_Lw_ways).cc 16 = .ok (.ireturn, 1) := by decide +kernel
theorem d_Lw_write_0 : decode (M_Lw_write).cc 0 = .ok (.aload_n 2, 1) := by decide +kernel
theorem d_Lw_write_1 : decode (M_Lw_write).cc 1 = .ok (.iconst 0, 1) := by decide +kernel
theorem d_Lw_write_2 : decode (M_Lw_write).cc 2 = .ok (.aload_n 0, 1) := by decide +kernel
theorem d_Lw_write_3 : decode (M_Lw_write).cc 3 = .ok (.iload_n 1, 1) := by decide +kernel
theorem d_Lw_write_4 : decode (M_Lw_write).cc 4 = .ok (.invokevirtual 32, 3) := by decide +kernel
theorem d_Lw_write_7 : decode (M_Lw_write).cc 7 = .ok (.i2l, 1) := by decide +kernel
theorem d_Lw_write_8 : decode (M_Lw_write).cc 8 = .ok (.lastore, 1) := by decide +kernel
theorem d_Lw_write_9 : decode (M_Lw_write).cc 9 = .ok (.goto 6, 3) := by decide +kernel
theorem d_Lw_write_12 : decode (M_Lw_write).cc 12 = .ok (.astore_n 3, 1) := by decide +kernel
theorem d_Lw_write_13 : decode (M_Lw_write).cc 13 = .ok (.iconst 1, 1) := by decide +kernel
theorem d_Lw_write_14 : decode (M_Lw_write).cc 14 = .ok (.ireturn, 1) := by decide +kernel
theorem d_Lw_write_15 : decode (M_Lw_write).cc 15 = .ok (.iconst 0, 1) := by decide +kernel
theorem d_Lw_write_16 : decode (M_Lw_write).cc 16 = .ok (.ireturn, 1) := by decide +kernel
theorem d_Lw_law_0 : decode (M_Lw_law).cc 0 = .ok (.new 8, 3) := by decide +kernel
theorem d_Lw_law_3 : decode (M_Lw_law).cc 3 = .ok (.dup, 1) := by decide +kernel
theorem d_Lw_law_4 : decode (M_Lw_law).cc 4 = .ok (.invokespecial 35, 3) := by decide +kernel
theorem d_Lw_law_7 : decode (M_Lw_law).cc 7 = .ok (.astore_n 1, 1) := by decide +kernel
theorem d_Lw_law_8 : decode (M_Lw_law).cc 8 = .ok (.new 36, 3) := by decide +kernel
theorem d_Lw_law_11 : decode (M_Lw_law).cc 11 = .ok (.dup, 1) := by decide +kernel
theorem d_Lw_law_12 : decode (M_Lw_law).cc 12 = .ok (.invokespecial 38, 3) := by decide +kernel
theorem d_Lw_law_15 : decode (M_Lw_law).cc 15 = .ok (.astore_n 2, 1) := by decide +kernel
theorem d_Lw_law_16 : decode (M_Lw_law).cc 16 = .ok (.iconst 1, 1) := by decide +kernel
theorem d_Lw_law_17 : decode (M_Lw_law).cc 17 = .ok (.newarray .long, 2) := by decide +kernel
theorem d_Lw_law_19 : decode (M_Lw_law).cc 19 = .ok (.astore_n 3, 1) := by decide +kernel
theorem d_Lw_law_20 : decode (M_Lw_law).cc 20 = .ok (.iconst 0, 1) := by decide +kernel
theorem d_Lw_law_21 : decode (M_Lw_law).cc 21 = .ok (.istore 4, 2) := by decide +kernel
theorem d_Lw_law_23 : decode (M_Lw_law).cc 23 = .ok (.iload 4, 2) := by decide +kernel
theorem d_Lw_law_25 : decode (M_Lw_law).cc 25 = .ok (.aload_n 0, 1) := by decide +kernel
theorem d_Lw_law_26 : decode (M_Lw_law).cc 26 = .ok (.arraylength, 1) := by decide +kernel
theorem d_Lw_law_27 : decode (M_Lw_law).cc 27 = .ok (.iconst 4, 1) := by decide +kernel
theorem d_Lw_law_28 : decode (M_Lw_law).cc 28 = .ok (.isub, 1) := by decide +kernel
theorem d_Lw_law_29 : decode (M_Lw_law).cc 29 = .ok (.if_icmp .gt 553, 3) := by decide +kernel
theorem d_Lw_law_32 : decode (M_Lw_law).cc 32 = .ok (.aload_n 0, 1) := by decide +kernel
theorem d_Lw_law_33 : decode (M_Lw_law).cc 33 = .ok (.iload 4, 2) := by decide +kernel
theorem d_Lw_law_35 : decode (M_Lw_law).cc 35 = .ok (.iaload, 1) := by decide +kernel
theorem d_Lw_law_36 : decode (M_Lw_law).cc 36 = .ok (.bipush 15, 2) := by decide +kernel
theorem d_Lw_law_38 : decode (M_Lw_law).cc 38 = .ok (.iand, 1) := by decide +kernel
theorem d_Lw_law_39 : decode (M_Lw_law).cc 39 = .ok (.tableswitch 537 0 11 #[61, 119, 132, 145, 158, 171, 196, 252, 332, 400, 456, 512], 61) := by decide +kernel
theorem d_Lw_law_100 : decode (M_Lw_law).cc 100 = .ok (.aload_n 1, 1) := by decide +kernel
theorem d_Lw_law_101 : decode (M_Lw_law).cc 101 = .ok (.aload_n 0, 1) := by decide +kernel
theorem d_Lw_law_102 : decode (M_Lw_law).cc 102 = .ok (.iload 4, 2) := by decide +kernel
theorem d_Lw_law_104 : decode (M_Lw_law).cc 104 = .ok (.iconst 1, 1) := by decide +kernel
theorem d_Lw_law_105 : decode (M_Lw_law).cc 105 = .ok (.iadd, 1) := by decide +kernel
theorem d_Lw_law_106 : decode (M_Lw_law).cc 106 = .ok (.iaload, 1) := by decide +kernel
theorem d_Lw_law_107 : decode (M_Lw_law).cc 107 = .ok (.i2c, 1) := by decide +kernel
theorem d_Lw_law_108 : decode (M_Lw_law).cc 108 = .ok (.aload_n 3, 1) := by decide +kernel
theorem d_Lw_law_109 : decode (M_Lw_law).cc 109 = .ok (.invokestatic 39, 3) := by decide +kernel
theorem d_Lw_law_112 : decode (M_Lw_law).cc 112 = .ok (.istore 5, 2) := by decide +kernel
theorem d_Lw_law_114 : decode (M_Lw_law).cc 114 = .ok (.aload_n 2, 1) := by decide +kernel
theorem d_Lw_law_115 : decode (M_Lw_law).cc 115 = .ok (.aload_n 0, 1) := by decide +kernel
theorem d_Lw_law_116 : decode (M_Lw_law).cc 116 = .ok (.iload 4, 2) := by decide +kernel
theorem d_Lw_law_118 : decode (M_Lw_law).cc 118 = .ok (.iconst 1, 1) := by decide +kernel
theorem d_Lw_law_119 : decode (M_Lw_law).cc 119 = .ok (.iadd, 1) := by decide +kernel
theorem d_Lw_law_120 : decode (M_Lw_law).cc 120 = .ok (.iaload, 1) := by decide +kernel
theorem d_Lw_law_121 : decode (M_Lw_law).cc 121 = .ok (.i2c, 1) := by decide +kernel
theorem d_Lw_law_122 : decode (M_Lw_law).cc 122 = .ok (.invokevirtual 44, 3) := by decide +kernel
theorem d_Lw_law_125 : decode (M_Lw_law).cc 125 = .ok (.istore 6, 2) := by decide +kernel
theorem d_Lw_law_127 : decode (M_Lw_law).cc 127 = .ok (.aload_n 2, 1) := by decide +kernel
theorem d_Lw_law_128 : decode (M_Lw_law).cc 128 = .ok (.invokevirtual 45, 3) := by decide +kernel
theorem d_Lw_law_131 : decode (M_Lw_law).cc 131 = .ok (.iload 5, 2) := by decide +kernel
theorem d_Lw_law_133 : decode (M_Lw_law).cc 133 = .ok (.if_icmp .eq 5, 3) := by decide +kernel
theorem d_Lw_law_136 : decode (M_Lw_law).cc 136 = .ok (.iconst 0, 1) := by decide +kernel
theorem d_Lw_law_137 : decode (M_Lw_law).cc 137 = .ok (.ireturn, 1) := by decide +kernel
theorem d_Lw_law_138 : decode (M_Lw_law).cc 138 = .ok (.iload 5, 2) := by decide +kernel
theorem d_Lw_law_140 : decode (M_Lw_law).cc 140 = .ok (.ifCond .ne 15, 3) := by decide +kernel
theorem d_Lw_law_143 : decode (M_Lw_law).cc 143 = .ok (.aload_n 3, 1) := by decide +kernel
theorem d_Lw_law_144 : decode (M_Lw_law).cc 144 = .ok (.iconst 0, 1) := by decide +kernel
theorem d_Lw_law_145 : decode (M_Lw_law).cc 145 = .ok (.laload, 1) := by decide +kernel
theorem d_Lw_law_146 : decode (M_Lw_law).cc 146 = .ok (.iload 6, 2) := by decide +kernel
theorem d_Lw_law_148 : decode (M_Lw_law).cc 148 = .ok (.i2l, 1) := by decide +kernel
theorem d_Lw_law_149 : decode (M_Lw_law).cc 149 = .ok (.lcmp, 1) := by decide +kernel
theorem d_Lw_law_150 : decode (M_Lw_law).cc 150 = .ok (.ifCond .eq 5, 3) := by decide +kernel
theorem d_Lw_law_153 : decode (M_Lw_law).cc 153 = .ok (.iconst 0, 1) := by decide +kernel
theorem d_Lw_law_154 : decode (M_Lw_law).cc 154 = .ok (.ireturn, 1) := by decide +kernel
theorem d_Lw_law_155 : decode (M_Lw_law).cc 155 = .ok (.goto 421, 3) := by decide +kernel
theorem d_Lw_law_158 : decode (M_Lw_law).cc 158 = .ok (.aload_n 1, 1) := by decide +kernel
theorem d_Lw_law_159 : decode (M_Lw_law).cc 159 = .ok (.invokevirtual 49, 3) := by decide +kernel
theorem d_Lw_law_162 : decode (M_Lw_law).cc 162 = .ok (.aload_n 2, 1) := by decide +kernel
theorem d_Lw_law_163 : decode (M_Lw_law).cc 163 = .ok (.invokevirtual 52, 3) := by decide +kernel
theorem d_Lw_law_166 : decode (M_Lw_law).cc 166 = .ok (.if_icmp .eq 410, 3) := by decide +kernel
theorem d_Lw_law_169 : decode (M_Lw_law).cc 169 = .ok (.iconst 0, 1) := by decide +kernel
theorem d_Lw_law_170 : decode (M_Lw_law).cc 170 = .ok (.ireturn, 1) := by decide +kernel
theorem d_Lw_law_171 : decode (M_Lw_law).cc 171 = .ok (.aload_n 1, 1) := by decide +kernel
theorem d_Lw_law_172 : decode (M_Lw_law).cc 172 = .ok (.invokevirtual 53, 3) := by decide +kernel
theorem d_Lw_law_175 : decode (M_Lw_law).cc 175 = .ok (.aload_n 2, 1) := by decide +kernel
theorem d_Lw_law_176 : decode (M_Lw_law).cc 176 = .ok (.invokevirtual 56, 3) := by decide +kernel
theorem d_Lw_law_179 : decode (M_Lw_law).cc 179 = .ok (.if_icmp .eq 397, 3) := by decide +kernel
theorem d_Lw_law_182 : decode (M_Lw_law).cc 182 = .ok (.iconst 0, 1) := by decide +kernel
theorem d_Lw_law_183 : decode (M_Lw_law).cc 183 = .ok (.ireturn, 1) := by decide +kernel
theorem d_Lw_law_184 : decode (M_Lw_law).cc 184 = .ok (.aload_n 1, 1) := by decide +kernel
theorem d_Lw_law_185 : decode (M_Lw_law).cc 185 = .ok (.invokevirtual 57, 3) := by decide +kernel
theorem d_Lw_law_188 : decode (M_Lw_law).cc 188 = .ok (.aload_n 2, 1) := by decide +kernel
theorem d_Lw_law_189 : decode (M_Lw_law).cc 189 = .ok (.invokevirtual 60, 3) := by decide +kernel
theorem d_Lw_law_192 : decode (M_Lw_law).cc 192 = .ok (.if_icmp .eq 384, 3) := by decide +kernel
theorem d_Lw_law_195 : decode (M_Lw_law).cc 195 = .ok (.iconst 0, 1) := by decide +kernel
theorem d_Lw_law_196 : decode (M_Lw_law).cc 196 = .ok (.ireturn, 1) := by decide +kernel
theorem d_Lw_law_197 : decode (M_Lw_law).cc 197 = .ok (.aload_n 1, 1) := by decide +kernel
theorem d_Lw_law_198 : decode (M_Lw_law).cc 198 = .ok (.invokevirtual 61, 3) := by decide +kernel
theorem d_Lw_law_201 : decode (M_Lw_law).cc 201 = .ok (.aload_n 2, 1) := by decide +kernel
theorem d_Lw_law_202 : decode (M_Lw_law).cc 202 = .ok (.invokevirtual 64, 3) := by decide +kernel
theorem d_Lw_law_205 : decode (M_Lw_law).cc 205 = .ok (.if_icmp .eq 371, 3) := by decide +kernel
theorem d_Lw_law_208 : decode (M_Lw_law).cc 208 = .ok (.iconst 0, 1) := by decide +kernel
theorem d_Lw_law_209 : decode (M_Lw_law).cc 209 = .ok (.ireturn, 1) := by decide +kernel
theorem d_Lw_law_210 : decode (M_Lw_law).cc 210 = .ok (.aload_n 1, 1) := by decide +kernel
theorem d_Lw_law_211 : decode (M_Lw_law).cc 211 = .ok (.aload_n 0, 1) := by decide +kernel
theorem d_Lw_law_212 : decode (M_Lw_law).cc 212 = .ok (.iload 4, 2) := by decide +kernel
theorem d_Lw_law_214 : decode (M_Lw_law).cc 214 = .ok (.iconst 1, 1) := by decide +kernel
theorem d_Lw_law_215 : decode (M_Lw_law).cc 215 = .ok (.iadd, 1) := by decide +kernel
theorem d_Lw_law_216 : decode (M_Lw_law).cc 216 = .ok (.iaload, 1) := by decide +kernel
theorem d_Lw_law_217 : decode (M_Lw_law).cc 217 = .ok (.invokevirtual 65, 3) := by decide +kernel
theorem d_Lw_law_220 : decode (M_Lw_law).cc 220 = .ok (.aload_n 2, 1) := by decide +kernel
theorem d_Lw_law_221 : decode (M_Lw_law).cc 221 = .ok (.aload_n 0, 1) := by decide +kernel
theorem d_Lw_law_222 : decode (M_Lw_law).cc 222 = .ok (.iload 4, 2) := by decide +kernel
theorem d_Lw_law_224 : decode (M_Lw_law).cc 224 = .ok (.iconst 1, 1) := by decide +kernel
theorem d_Lw_law_225 : decode (M_Lw_law).cc 225 = .ok (.iadd, 1) := by decide +kernel
theorem d_Lw_law_226 : decode (M_Lw_law).cc 226 = .ok (.iaload, 1) := by decide +kernel
theorem d_Lw_law_227 : decode (M_Lw_law).cc 227 = .ok (.invokevirtual 68, 3) := by decide +kernel
theorem d_Lw_law_230 : decode (M_Lw_law).cc 230 = .ok (.if_icmp .eq 346, 3) := by decide +kernel
theorem d_Lw_law_233 : decode (M_Lw_law).cc 233 = .ok (.iconst 0, 1) := by decide +kernel
theorem d_Lw_law_234 : decode (M_Lw_law).cc 234 = .ok (.ireturn, 1) := by decide +kernel
theorem d_Lw_law_235 : decode (M_Lw_law).cc 235 = .ok (.aload_n 1, 1) := by decide +kernel
theorem d_Lw_law_236 : decode (M_Lw_law).cc 236 = .ok (.aload_n 0, 1) := by decide +kernel
theorem d_Lw_law_237 : decode (M_Lw_law).cc 237 = .ok (.iload 4, 2) := by decide +kernel
theorem d_Lw_law_239 : decode (M_Lw_law).cc 239 = .ok (.iconst 1, 1) := by decide +kernel
theorem d_Lw_law_240 : decode (M_Lw_law).cc 240 = .ok (.iadd, 1) := by decide +kernel
theorem d_Lw_law_241 : decode (M_Lw_law).cc 241 = .ok (.iaload, 1) := by decide +kernel
theorem d_Lw_law_242 : decode (M_Lw_law).cc 242 = .ok (.aload_n 3, 1) := by decide +kernel
theorem d_Lw_law_243 : decode (M_Lw_law).cc 243 = .ok (.invokestatic 69, 3) := by decide +kernel
theorem d_Lw_law_246 : decode (M_Lw_law).cc 246 = .ok (.istore 5, 2) := by decide +kernel
theorem d_Lw_law_248 : decode (M_Lw_law).cc 248 = .ok (.aload_n 2, 1) := by decide +kernel
theorem d_Lw_law_249 : decode (M_Lw_law).cc 249 = .ok (.aload_n 0, 1) := by decide +kernel
theorem d_Lw_law_250 : decode (M_Lw_law).cc 250 = .ok (.iload 4, 2) := by decide +kernel
theorem d_Lw_law_252 : decode (M_Lw_law).cc 252 = .ok (.iconst 1, 1) := by decide +kernel
theorem d_Lw_law_253 : decode (M_Lw_law).cc 253 = .ok (.iadd, 1) := by decide +kernel
theorem d_Lw_law_254 : decode (M_Lw_law).cc 254 = .ok (.iaload, 1) := by decide +kernel
theorem d_Lw_law_255 : decode (M_Lw_law).cc 255 = .ok (.invokevirtual 72, 3) := by decide +kernel
theorem d_Lw_law_258 : decode (M_Lw_law).cc 258 = .ok (.istore 6, 2) := by decide +kernel
theorem d_Lw_law_260 : decode (M_Lw_law).cc 260 = .ok (.aload_n 2, 1) := by decide +kernel
theorem d_Lw_law_261 : decode (M_Lw_law).cc 261 = .ok (.invokevirtual 45, 3) := by decide +kernel
theorem d_Lw_law_264 : decode (M_Lw_law).cc 264 = .ok (.iload 5, 2) := by decide +kernel
theorem d_Lw_law_266 : decode (M_Lw_law).cc 266 = .ok (.if_icmp .eq 5, 3) := by decide +kernel
theorem d_Lw_law_269 : decode (M_Lw_law).cc 269 = .ok (.iconst 0, 1) := by decide +kernel
theorem d_Lw_law_270 : decode (M_Lw_law).cc 270 = .ok (.ireturn, 1) := by decide +kernel
theorem d_Lw_law_271 : decode (M_Lw_law).cc 271 = .ok (.iload 5, 2) := by decide +kernel
theorem d_Lw_law_273 : decode (M_Lw_law).cc 273 = .ok (.ifCond .ne 15, 3) := by decide +kernel
theorem d_Lw_law_276 : decode (M_Lw_law).cc 276 = .ok (.aload_n 3, 1) := by decide +kernel
theorem d_Lw_law_277 : decode (M_Lw_law).cc 277 = .ok (.iconst 0, 1) := by decide +kernel
theorem d_Lw_law_278 : decode (M_Lw_law).cc 278 = .ok (.laload, 1) := by decide +kernel
theorem d_Lw_law_279 : decode (M_Lw_law).cc 279 = .ok (.iload 6, 2) := by decide +kernel
theorem d_Lw_law_281 : decode (M_Lw_law).cc 281 = .ok (.i2l, 1) := by decide +kernel
theorem d_Lw_law_282 : decode (M_Lw_law).cc 282 = .ok (.lcmp, 1) := by decide +kernel
theorem d_Lw_law_283 : decode (M_Lw_law).cc 283 = .ok (.ifCond .eq 5, 3) := by decide +kernel
theorem d_Lw_law_286 : decode (M_Lw_law).cc 286 = .ok (.iconst 0, 1) := by decide +kernel
theorem d_Lw_law_287 : decode (M_Lw_law).cc 287 = .ok (.ireturn, 1) := by decide +kernel
theorem d_Lw_law_288 : decode (M_Lw_law).cc 288 = .ok (.goto 288, 3) := by decide +kernel
theorem d_Lw_law_291 : decode (M_Lw_law).cc 291 = .ok (.aload_n 1, 1) := by decide +kernel
theorem d_Lw_law_292 : decode (M_Lw_law).cc 292 = .ok (.aload_n 0, 1) := by decide +kernel
theorem d_Lw_law_293 : decode (M_Lw_law).cc 293 = .ok (.iload 4, 2) := by decide +kernel
theorem d_Lw_law_295 : decode (M_Lw_law).cc 295 = .ok (.iconst 1, 1) := by decide +kernel
theorem d_Lw_law_296 : decode (M_Lw_law).cc 296 = .ok (.iadd, 1) := by decide +kernel
theorem d_Lw_law_297 : decode (M_Lw_law).cc 297 = .ok (.iaload, 1) := by decide +kernel
theorem d_Lw_law_298 : decode (M_Lw_law).cc 298 = .ok (.aload_n 0, 1) := by decide +kernel
theorem d_Lw_law_299 : decode (M_Lw_law).cc 299 = .ok (.iload 4, 2) := by decide +kernel
theorem d_Lw_law_301 : decode (M_Lw_law).cc 301 = .ok (.iconst 2, 1) := by decide +kernel
theorem d_Lw_law_302 : decode (M_Lw_law).cc 302 = .ok (.iadd, 1) := by decide +kernel
theorem d_Lw_law_303 : decode (M_Lw_law).cc 303 = .ok (.iaload, 1) := by decide +kernel
theorem d_Lw_law_304 : decode (M_Lw_law).cc 304 = .ok (.aload_n 0, 1) := by decide +kernel
theorem d_Lw_law_305 : decode (M_Lw_law).cc 305 = .ok (.iload 4, 2) := by decide +kernel
theorem d_Lw_law_307 : decode (M_Lw_law).cc 307 = .ok (.iconst 3, 1) := by decide +kernel
theorem d_Lw_law_308 : decode (M_Lw_law).cc 308 = .ok (.iadd, 1) := by decide +kernel
theorem d_Lw_law_309 : decode (M_Lw_law).cc 309 = .ok (.iaload, 1) := by decide +kernel
theorem d_Lw_law_310 : decode (M_Lw_law).cc 310 = .ok (.aload_n 3, 1) := by decide +kernel
theorem d_Lw_law_311 : decode (M_Lw_law).cc 311 = .ok (.invokestatic 73, 3) := by decide +kernel
theorem d_Lw_law_314 : decode (M_Lw_law).cc 314 = .ok (.istore 5, 2) := by decide +kernel
theorem d_Lw_law_316 : decode (M_Lw_law).cc 316 = .ok (.aload_n 2, 1) := by decide +kernel
theorem d_Lw_law_317 : decode (M_Lw_law).cc 317 = .ok (.aload_n 0, 1) := by decide +kernel
theorem d_Lw_law_318 : decode (M_Lw_law).cc 318 = .ok (.iload 4, 2) := by decide +kernel
theorem d_Lw_law_320 : decode (M_Lw_law).cc 320 = .ok (.iconst 1, 1) := by decide +kernel
theorem d_Lw_law_321 : decode (M_Lw_law).cc 321 = .ok (.iadd, 1) := by decide +kernel
theorem d_Lw_law_322 : decode (M_Lw_law).cc 322 = .ok (.iaload, 1) := by decide +kernel
theorem d_Lw_law_323 : decode (M_Lw_law).cc 323 = .ok (.aload_n 0, 1) := by decide +kernel
theorem d_Lw_law_324 : decode (M_Lw_law).cc 324 = .ok (.iload 4, 2) := by decide +kernel
theorem d_Lw_law_326 : decode (M_Lw_law).cc 326 = .ok (.iconst 2, 1) := by decide +kernel
theorem d_Lw_law_327 : decode (M_Lw_law).cc 327 = .ok (.iadd, 1) := by decide +kernel
theorem d_Lw_law_328 : decode (M_Lw_law).cc 328 = .ok (.iaload, 1) := by decide +kernel
theorem d_Lw_law_329 : decode (M_Lw_law).cc 329 = .ok (.aload_n 0, 1) := by decide +kernel
theorem d_Lw_law_330 : decode (M_Lw_law).cc 330 = .ok (.iload 4, 2) := by decide +kernel
theorem d_Lw_law_332 : decode (M_Lw_law).cc 332 = .ok (.iconst 3, 1) := by decide +kernel
theorem d_Lw_law_333 : decode (M_Lw_law).cc 333 = .ok (.iadd, 1) := by decide +kernel
theorem d_Lw_law_334 : decode (M_Lw_law).cc 334 = .ok (.iaload, 1) := by decide +kernel
theorem d_Lw_law_335 : decode (M_Lw_law).cc 335 = .ok (.invokevirtual 76, 3) := by decide +kernel
theorem d_Lw_law_338 : decode (M_Lw_law).cc 338 = .ok (.istore 6, 2) := by decide +kernel
theorem d_Lw_law_340 : decode (M_Lw_law).cc 340 = .ok (.aload_n 2, 1) := by decide +kernel
theorem d_Lw_law_341 : decode (M_Lw_law).cc 341 = .ok (.invokevirtual 45, 3) := by decide +kernel
theorem d_Lw_law_344 : decode (M_Lw_law).cc 344 = .ok (.iload 5, 2) := by decide +kernel
theorem d_Lw_law_346 : decode (M_Lw_law).cc 346 = .ok (.if_icmp .eq 5, 3) := by decide +kernel
theorem d_Lw_law_349 : decode (M_Lw_law).cc 349 = .ok (.iconst 0, 1) := by decide +kernel
theorem d_Lw_law_350 : decode (M_Lw_law).cc 350 = .ok (.ireturn, 1) := by decide +kernel
theorem d_Lw_law_351 : decode (M_Lw_law).cc 351 = .ok (.iload 5, 2) := by decide +kernel
theorem d_Lw_law_353 : decode (M_Lw_law).cc 353 = .ok (.ifCond .ne 15, 3) := by decide +kernel
theorem d_Lw_law_356 : decode (M_Lw_law).cc 356 = .ok (.aload_n 3, 1) := by decide +kernel
theorem d_Lw_law_357 : decode (M_Lw_law).cc 357 = .ok (.iconst 0, 1) := by decide +kernel
theorem d_Lw_law_358 : decode (M_Lw_law).cc 358 = .ok (.laload, 1) := by decide +kernel
theorem d_Lw_law_359 : decode (M_Lw_law).cc 359 = .ok (.iload 6, 2) := by decide +kernel
theorem d_Lw_law_361 : decode (M_Lw_law).cc 361 = .ok (.i2l, 1) := by decide +kernel
theorem d_Lw_law_362 : decode (M_Lw_law).cc 362 = .ok (.lcmp, 1) := by decide +kernel
theorem d_Lw_law_363 : decode (M_Lw_law).cc 363 = .ok (.ifCond .eq 5, 3) := by decide +kernel
theorem d_Lw_law_366 : decode (M_Lw_law).cc 366 = .ok (.iconst 0, 1) := by decide +kernel
theorem d_Lw_law_367 : decode (M_Lw_law).cc 367 = .ok (.ireturn, 1) := by decide +kernel
theorem d_Lw_law_368 : decode (M_Lw_law).cc 368 = .ok (.goto 208, 3) := by decide +kernel
theorem d_Lw_law_371 : decode (M_Lw_law).cc 371 = .ok (.aload_n 1, 1) := by decide +kernel
theorem d_Lw_law_372 : decode (M_Lw_law).cc 372 = .ok (.aload_n 0, 1) := by decide +kernel
theorem d_Lw_law_373 : decode (M_Lw_law).cc 373 = .ok (.iload 4, 2) := by decide +kernel
theorem d_Lw_law_375 : decode (M_Lw_law).cc 375 = .ok (.iconst 1, 1) := by decide +kernel
theorem d_Lw_law_376 : decode (M_Lw_law).cc 376 = .ok (.iadd, 1) := by decide +kernel
theorem d_Lw_law_377 : decode (M_Lw_law).cc 377 = .ok (.iaload, 1) := by decide +kernel
theorem d_Lw_law_378 : decode (M_Lw_law).cc 378 = .ok (.aload_n 0, 1) := by decide +kernel
theorem d_Lw_law_379 : decode (M_Lw_law).cc 379 = .ok (.iload 4, 2) := by decide +kernel
theorem d_Lw_law_381 : decode (M_Lw_law).cc 381 = .ok (.iconst 2, 1) := by decide +kernel
theorem d_Lw_law_382 : decode (M_Lw_law).cc 382 = .ok (.iadd, 1) := by decide +kernel
theorem d_Lw_law_383 : decode (M_Lw_law).cc 383 = .ok (.iaload, 1) := by decide +kernel
theorem d_Lw_law_384 : decode (M_Lw_law).cc 384 = .ok (.aload_n 3, 1) := by decide +kernel
theorem d_Lw_law_385 : decode (M_Lw_law).cc 385 = .ok (.invokestatic 77, 3) := by decide +kernel
theorem d_Lw_law_388 : decode (M_Lw_law).cc 388 = .ok (.istore 5, 2) := by decide +kernel
theorem d_Lw_law_390 : decode (M_Lw_law).cc 390 = .ok (.aload_n 2, 1) := by decide +kernel
theorem d_Lw_law_391 : decode (M_Lw_law).cc 391 = .ok (.aload_n 0, 1) := by decide +kernel
theorem d_Lw_law_392 : decode (M_Lw_law).cc 392 = .ok (.iload 4, 2) := by decide +kernel
theorem d_Lw_law_394 : decode (M_Lw_law).cc 394 = .ok (.iconst 1, 1) := by decide +kernel
theorem d_Lw_law_395 : decode (M_Lw_law).cc 395 = .ok (.iadd, 1) := by decide +kernel
theorem d_Lw_law_396 : decode (M_Lw_law).cc 396 = .ok (.iaload, 1) := by decide +kernel
theorem d_Lw_law_397 : decode (M_Lw_law).cc 397 = .ok (.aload_n 0, 1) := by decide +kernel
theorem d_Lw_law_398 : decode (M_Lw_law).cc 398 = .ok (.iload 4, 2) := by decide +kernel
theorem d_Lw_law_400 : decode (M_Lw_law).cc 400 = .ok (.iconst 2, 1) := by decide +kernel
theorem d_Lw_law_401 : decode (M_Lw_law).cc 401 = .ok (.iadd, 1) := by decide +kernel
theorem d_Lw_law_402 : decode (M_Lw_law).cc 402 = .ok (.iaload, 1) := by decide +kernel
theorem d_Lw_law_403 : decode (M_Lw_law).cc 403 = .ok (.invokevirtual 80, 3) := by decide +kernel
theorem d_Lw_law_406 : decode (M_Lw_law).cc 406 = .ok (.istore 6, 2) := by decide +kernel
theorem d_Lw_law_408 : decode (M_Lw_law).cc 408 = .ok (.aload_n 2, 1) := by decide +kernel
theorem d_Lw_law_409 : decode (M_Lw_law).cc 409 = .ok (.invokevirtual 45, 3) := by decide +kernel
theorem d_Lw_law_412 : decode (M_Lw_law).cc 412 = .ok (.iload 5, 2) := by decide +kernel
theorem d_Lw_law_414 : decode (M_Lw_law).cc 414 = .ok (.if_icmp .eq 5, 3) := by decide +kernel
theorem d_Lw_law_417 : decode (M_Lw_law).cc 417 = .ok (.iconst 0, 1) := by decide +kernel
theorem d_Lw_law_418 : decode (M_Lw_law).cc 418 = .ok (.ireturn, 1) := by decide +kernel
theorem d_Lw_law_419 : decode (M_Lw_law).cc 419 = .ok (.iload 5, 2) := by decide +kernel
theorem d_Lw_law_421 : decode (M_Lw_law).cc 421 = .ok (.ifCond .ne 15, 3) := by decide +kernel
theorem d_Lw_law_424 : decode (M_Lw_law).cc 424 = .ok (.aload_n 3, 1) := by decide +kernel
theorem d_Lw_law_425 : decode (M_Lw_law).cc 425 = .ok (.iconst 0, 1) := by decide +kernel
theorem d_Lw_law_426 : decode (M_Lw_law).cc 426 = .ok (.laload, 1) := by decide +kernel
theorem d_Lw_law_427 : decode (M_Lw_law).cc 427 = .ok (.iload 6, 2) := by decide +kernel
theorem d_Lw_law_429 : decode (M_Lw_law).cc 429 = .ok (.i2l, 1) := by decide +kernel
theorem d_Lw_law_430 : decode (M_Lw_law).cc 430 = .ok (.lcmp, 1) := by decide +kernel
theorem d_Lw_law_431 : decode (M_Lw_law).cc 431 = .ok (.ifCond .eq 5, 3) := by decide +kernel
theorem d_Lw_law_434 : decode (M_Lw_law).cc 434 = .ok (.iconst 0, 1) := by decide +kernel
theorem d_Lw_law_435 : decode (M_Lw_law).cc 435 = .ok (.ireturn, 1) := by decide +kernel
theorem d_Lw_law_436 : decode (M_Lw_law).cc 436 = .ok (.goto 140, 3) := by decide +kernel
theorem d_Lw_law_439 : decode (M_Lw_law).cc 439 = .ok (.aload_n 1, 1) := by decide +kernel
theorem d_Lw_law_440 : decode (M_Lw_law).cc 440 = .ok (.aload_n 0, 1) := by decide +kernel
theorem d_Lw_law_441 : decode (M_Lw_law).cc 441 = .ok (.iload 4, 2) := by decide +kernel
theorem d_Lw_law_443 : decode (M_Lw_law).cc 443 = .ok (.iconst 1, 1) := by decide +kernel
theorem d_Lw_law_444 : decode (M_Lw_law).cc 444 = .ok (.iadd, 1) := by decide +kernel
theorem d_Lw_law_445 : decode (M_Lw_law).cc 445 = .ok (.iaload, 1) := by decide +kernel
theorem d_Lw_law_446 : decode (M_Lw_law).cc 446 = .ok (.aload_n 3, 1) := by decide +kernel
theorem d_Lw_law_447 : decode (M_Lw_law).cc 447 = .ok (.invokestatic 81, 3) := by decide +kernel
theorem d_Lw_law_450 : decode (M_Lw_law).cc 450 = .ok (.istore 5, 2) := by decide +kernel
theorem d_Lw_law_452 : decode (M_Lw_law).cc 452 = .ok (.aload_n 2, 1) := by decide +kernel
theorem d_Lw_law_453 : decode (M_Lw_law).cc 453 = .ok (.aload_n 0, 1) := by decide +kernel
theorem d_Lw_law_454 : decode (M_Lw_law).cc 454 = .ok (.iload 4, 2) := by decide +kernel
theorem d_Lw_law_456 : decode (M_Lw_law).cc 456 = .ok (.iconst 1, 1) := by decide +kernel
theorem d_Lw_law_457 : decode (M_Lw_law).cc 457 = .ok (.iadd, 1) := by decide +kernel
theorem d_Lw_law_458 : decode (M_Lw_law).cc 458 = .ok (.iaload, 1) := by decide +kernel
theorem d_Lw_law_459 : decode (M_Lw_law).cc 459 = .ok (.invokevirtual 83, 3) := by decide +kernel
theorem d_Lw_law_462 : decode (M_Lw_law).cc 462 = .ok (.istore 6, 2) := by decide +kernel
theorem d_Lw_law_464 : decode (M_Lw_law).cc 464 = .ok (.aload_n 2, 1) := by decide +kernel
theorem d_Lw_law_465 : decode (M_Lw_law).cc 465 = .ok (.invokevirtual 45, 3) := by decide +kernel
theorem d_Lw_law_468 : decode (M_Lw_law).cc 468 = .ok (.iload 5, 2) := by decide +kernel
theorem d_Lw_law_470 : decode (M_Lw_law).cc 470 = .ok (.if_icmp .eq 5, 3) := by decide +kernel
theorem d_Lw_law_473 : decode (M_Lw_law).cc 473 = .ok (.iconst 0, 1) := by decide +kernel
theorem d_Lw_law_474 : decode (M_Lw_law).cc 474 = .ok (.ireturn, 1) := by decide +kernel
theorem d_Lw_law_475 : decode (M_Lw_law).cc 475 = .ok (.iload 5, 2) := by decide +kernel
theorem d_Lw_law_477 : decode (M_Lw_law).cc 477 = .ok (.ifCond .ne 15, 3) := by decide +kernel
theorem d_Lw_law_480 : decode (M_Lw_law).cc 480 = .ok (.aload_n 3, 1) := by decide +kernel
theorem d_Lw_law_481 : decode (M_Lw_law).cc 481 = .ok (.iconst 0, 1) := by decide +kernel
theorem d_Lw_law_482 : decode (M_Lw_law).cc 482 = .ok (.laload, 1) := by decide +kernel
theorem d_Lw_law_483 : decode (M_Lw_law).cc 483 = .ok (.iload 6, 2) := by decide +kernel
theorem d_Lw_law_485 : decode (M_Lw_law).cc 485 = .ok (.i2l, 1) := by decide +kernel
theorem d_Lw_law_486 : decode (M_Lw_law).cc 486 = .ok (.lcmp, 1) := by decide +kernel
theorem d_Lw_law_487 : decode (M_Lw_law).cc 487 = .ok (.ifCond .eq 5, 3) := by decide +kernel
theorem d_Lw_law_490 : decode (M_Lw_law).cc 490 = .ok (.iconst 0, 1) := by decide +kernel
theorem d_Lw_law_491 : decode (M_Lw_law).cc 491 = .ok (.ireturn, 1) := by decide +kernel
theorem d_Lw_law_492 : decode (M_Lw_law).cc 492 = .ok (.goto 84, 3) := by decide +kernel
theorem d_Lw_law_495 : decode (M_Lw_law).cc 495 = .ok (.aload_n 1, 1) := by decide +kernel
theorem d_Lw_law_496 : decode (M_Lw_law).cc 496 = .ok (.aload_n 0, 1) := by decide +kernel
theorem d_Lw_law_497 : decode (M_Lw_law).cc 497 = .ok (.iload 4, 2) := by decide +kernel
theorem d_Lw_law_499 : decode (M_Lw_law).cc 499 = .ok (.iconst 1, 1) := by decide +kernel
theorem d_Lw_law_500 : decode (M_Lw_law).cc 500 = .ok (.iadd, 1) := by decide +kernel
theorem d_Lw_law_501 : decode (M_Lw_law).cc 501 = .ok (.iaload, 1) := by decide +kernel
theorem d_Lw_law_502 : decode (M_Lw_law).cc 502 = .ok (.aload_n 3, 1) := by decide +kernel
theorem d_Lw_law_503 : decode (M_Lw_law).cc 503 = .ok (.invokestatic 84, 3) := by decide +kernel
theorem d_Lw_law_506 : decode (M_Lw_law).cc 506 = .ok (.istore 5, 2) := by decide +kernel
theorem d_Lw_law_508 : decode (M_Lw_law).cc 508 = .ok (.aload_n 2, 1) := by decide +kernel
theorem d_Lw_law_509 : decode (M_Lw_law).cc 509 = .ok (.aload_n 0, 1) := by decide +kernel
theorem d_Lw_law_510 : decode (M_Lw_law).cc 510 = .ok (.iload 4, 2) := by decide +kernel
theorem d_Lw_law_512 : decode (M_Lw_law).cc 512 = .ok (.iconst 1, 1) := by decide +kernel
theorem d_Lw_law_513 : decode (M_Lw_law).cc 513 = .ok (.iadd, 1) := by decide +kernel
theorem d_Lw_law_514 : decode (M_Lw_law).cc 514 = .ok (.iaload, 1) := by decide +kernel
theorem d_Lw_law_515 : decode (M_Lw_law).cc 515 = .ok (.invokevirtual 86, 3) := by decide +kernel
theorem d_Lw_law_518 : decode (M_Lw_law).cc 518 = .ok (.istore 6, 2) := by decide +kernel
theorem d_Lw_law_520 : decode (M_Lw_law).cc 520 = .ok (.aload_n 2, 1) := by decide +kernel
theorem d_Lw_law_521 : decode (M_Lw_law).cc 521 = .ok (.invokevirtual 45, 3) := by decide +kernel
theorem d_Lw_law_524 : decode (M_Lw_law).cc 524 = .ok (.iload 5, 2) := by decide +kernel
theorem d_Lw_law_526 : decode (M_Lw_law).cc 526 = .ok (.if_icmp .eq 5, 3) := by decide +kernel
theorem d_Lw_law_529 : decode (M_Lw_law).cc 529 = .ok (.iconst 0, 1) := by decide +kernel
theorem d_Lw_law_530 : decode (M_Lw_law).cc 530 = .ok (.ireturn, 1) := by decide +kernel
theorem d_Lw_law_531 : decode (M_Lw_law).cc 531 = .ok (.iload 5, 2) := by decide +kernel
theorem d_Lw_law_533 : decode (M_Lw_law).cc 533 = .ok (.ifCond .ne 15, 3) := by decide +kernel
theorem d_Lw_law_536 : decode (M_Lw_law).cc 536 = .ok (.aload_n 3, 1) := by decide +kernel
theorem d_Lw_law_537 : decode (M_Lw_law).cc 537 = .ok (.iconst 0, 1) := by decide +kernel
theorem d_Lw_law_538 : decode (M_Lw_law).cc 538 = .ok (.laload, 1) := by decide +kernel
theorem d_Lw_law_539 : decode (M_Lw_law).cc 539 = .ok (.iload 6, 2) := by decide +kernel
theorem d_Lw_law_541 : decode (M_Lw_law).cc 541 = .ok (.i2l, 1) := by decide +kernel
theorem d_Lw_law_542 : decode (M_Lw_law).cc 542 = .ok (.lcmp, 1) := by decide +kernel
theorem d_Lw_law_543 : decode (M_Lw_law).cc 543 = .ok (.ifCond .eq 5, 3) := by decide +kernel
theorem d_Lw_law_546 : decode (M_Lw_law).cc 546 = .ok (.iconst 0, 1) := by decide +kernel
theorem d_Lw_law_547 : decode (M_Lw_law).cc 547 = .ok (.ireturn, 1) := by decide +kernel
theorem d_Lw_law_548 : decode (M_Lw_law).cc 548 = .ok (.goto 28, 3) := by decide +kernel
theorem d_Lw_law_551 : decode (M_Lw_law).cc 551 = .ok (.aload_n 1, 1) := by decide +kernel
theorem d_Lw_law_552 : decode (M_Lw_law).cc 552 = .ok (.aload_n 0, 1) := by decide +kernel
theorem d_Lw_law_553 : decode (M_Lw_law).cc 553 = .ok (.iload 4, 2) := by decide +kernel
theorem d_Lw_law_555 : decode (M_Lw_law).cc 555 = .ok (.iconst 1, 1) := by decide +kernel
theorem d_Lw_law_556 : decode (M_Lw_law).cc 556 = .ok (.iadd, 1) := by decide +kernel
theorem d_Lw_law_557 : decode (M_Lw_law).cc 557 = .ok (.iaload, 1) := by decide +kernel
theorem d_Lw_law_558 : decode (M_Lw_law).cc 558 = .ok (.invokevirtual 87, 3) := by decide +kernel
theorem d_Lw_law_561 : decode (M_Lw_law).cc 561 = .ok (.aload_n 2, 1) := by decide +kernel
theorem d_Lw_law_562 : decode (M_Lw_law).cc 562 = .ok (.aload_n 0, 1) := by decide +kernel
theorem d_Lw_law_563 : decode (M_Lw_law).cc 563 = .ok (.iload 4, 2) := by decide +kernel
theorem d_Lw_law_565 : decode (M_Lw_law).cc 565 = .ok (.iconst 1, 1) := by decide +kernel
theorem d_Lw_law_566 : decode (M_Lw_law).cc 566 = .ok (.iadd, 1) := by decide +kernel
theorem d_Lw_law_567 : decode (M_Lw_law).cc 567 = .ok (.iaload, 1) := by decide +kernel
theorem d_Lw_law_568 : decode (M_Lw_law).cc 568 = .ok (.invokevirtual 91, 3) := by decide +kernel
theorem d_Lw_law_571 : decode (M_Lw_law).cc 571 = .ok (.if_icmp .eq 5, 3) := by decide +kernel
theorem d_Lw_law_574 : decode (M_Lw_law).cc 574 = .ok (.iconst 0, 1) := by decide +kernel
theorem d_Lw_law_575 : decode (M_Lw_law).cc 575 = .ok (.ireturn, 1) := by decide +kernel
theorem d_Lw_law_576 : decode (M_Lw_law).cc 576 = .ok (.iinc 4 4, 3) := by decide +kernel
theorem d_Lw_law_579 : decode (M_Lw_law).cc 579 = .ok (.goto (-556), 3) := by decide +kernel
theorem d_Lw_law_582 : decode (M_Lw_law).cc 582 = .ok (.iconst 1, 1) := by decide +kernel
theorem d_Lw_law_583 : decode (M_Lw_law).cc 583 = .ok (.ireturn, 1) := by decide +kernel
end
section
/-! mj, part 10: stores by place; contracts that answer an int (mj_I) or nothing (mj_V), and calls of them. -/
def mj_I (Q : Int → mj_S → Prop) : mj_O → mj_S → Prop := mj_ret fun r S => ∃ z : Int, r = some (.int (iZ z)) ∧ Q z S
def mj_V (Q : mj_S → Prop) : mj_O → mj_S → Prop := mj_ret fun r S => r = none ∧ Q S
section MJ10
variable {Γ : mj_G} {d d1 : Nat} {M M1 : mj_M} {k n pc mc ms : Nat} {lv st r : List Value} {S : mj_S} {P : mj_O → mj_S → Prop} {y : MethodName} {Qi : Int → mj_S → Prop} {Qv : mj_S → Prop}
theorem mz_iret {x : Int} {ty : FieldType} (hd : decode M.cc pc = .ok (.ireturn, 1)) (hr : M.ret = some ty) (hn : narrow ty (.int (iZ x)) = .int (iZ x)) (hP : Qi x S) : mj_Ok Γ d M k n pc lv [.int (iZ x)] S (mj_I Qi) := mj_iret hd hr hn ⟨x, rfl, hP⟩
theorem mz_vret (hd : decode M.cc pc = .ok (.return_, 1)) (hr : M.ret = none) (hP : Qv S) : mj_Ok Γ d M k n pc lv [] S (mj_V Qv) := mj_vret hd hr ⟨rfl, hP⟩
theorem mj_narI (x : Int) : narrow .int (.int (iZ x)) = .int (iZ x) := rfl
theorem mj_narZ (b : Bool) : narrow .boolean (.int (iZ (if b then 1 else 0))) = .int (iZ (if b then 1 else 0)) := by cases b <;> rfl
theorem mj_narC {x : Int} (h : 0 ≤ x) (h2 : x < 65536) : narrow .char (.int (iZ x)) = .int (iZ x) := by
  obtain ⟨m, rfl⟩ := Int.eq_ofNat_of_zero_le h
  exact (pk_charN (q := m) (by omega)).1
theorem mz_crot {r j N : Nat} {z : Int} {A : Nat → Int} (hd : decode M.cc pc = .ok (.caload, 1)) (hr : r < 4) (ht : mj_rt r = 1) (hro : Γ.ro r = (N, .inl (mj_z A))) (hz : z = (j : Int)) (hj : j < N) (h : mj_Ok Γ d M k n (pc + 1) lv (.int (iZ (A j)) :: st) S P) (hN : N < 2147483648 := by decide) : mj_Ok Γ d M k n pc lv (.int (iZ z) :: .ref (mj_st + r) :: st) S P :=
  mz_cro hd hr ht hz (by rw [hro]; exact hj) (by rw [hro]; exact hN) (v := A j) (by rw [hro]; rfl) h
theorem mz_irot {r j N : Nat} {z : Int} {A : Nat → Int} (hd : decode M.cc pc = .ok (.iaload, 1)) (hr : r < 4) (ht : mj_rt r = 0) (hro : Γ.ro r = (N, .inl (mj_z A))) (hz : z = (j : Int)) (hj : j < N) (h : mj_Ok Γ d M k n (pc + 1) lv (.int (iZ (A j)) :: st) S P) (hN : N < 2147483648 := by decide) : mj_Ok Γ d M k n pc lv (.int (iZ z) :: .ref (mj_st + r) :: st) S P :=
  mz_iro hd hr ht hz (by rw [hro]; exact hj) (by rw [hro]; exact hN) (v := A j) (by rw [hro]; rfl) h
theorem mz_ist0 {a0 : Value} {x : Int32} (hd : decode M.cc pc = .ok (.istore_n 0, 1)) (hc : mj_c1 (a0 :: r) = true) (h : mj_Ok Γ d M k n (pc + 1) (.int x :: r) st S P) : mj_Ok Γ d M k n pc (a0 :: r) (.int x :: st) S P := mj_istore_n hd hc (by first | (simp [Nat.blt]; done) | (simp [Nat.blt]; show 3 ≤ _; omega)) rfl h
theorem mz_ast0 {a0 : Value} {x : Nat} (hd : decode M.cc pc = .ok (.astore_n 0, 1)) (hc : mj_c1 (a0 :: r) = true) (h : mj_Ok Γ d M k n (pc + 1) (.ref x :: r) st S P) : mj_Ok Γ d M k n pc (a0 :: r) (.ref x :: st) S P := mj_astore_n hd hc (by first | (simp [Nat.blt]; done) | (simp [Nat.blt]; show 3 ≤ _; omega)) rfl h
theorem mz_inc0 {x z : Int} (hd : decode M.cc pc = .ok (.iinc 0 z, 3)) (hc : mj_c1 (.int (iZ x) :: r) = true) (h : mj_Ok Γ d M k n (pc + 3) (.int (iZ (x + z)) :: r) st S P) : mj_Ok Γ d M k n pc (.int (iZ x) :: r) st S P := mz_iinc hd hc rfl rfl h
theorem mz_ist1 {a0 a1 : Value} {x : Int32} (hd : decode M.cc pc = .ok (.istore_n 1, 1)) (hc : mj_c1 (a0 :: a1 :: r) = true) (h : mj_Ok Γ d M k n (pc + 1) (a0 :: .int x :: r) st S P) : mj_Ok Γ d M k n pc (a0 :: a1 :: r) (.int x :: st) S P := mj_istore_n hd hc (by first | (simp [Nat.blt]; done) | (simp [Nat.blt]; show 3 ≤ _; omega)) rfl h
theorem mz_ast1 {a0 a1 : Value} {x : Nat} (hd : decode M.cc pc = .ok (.astore_n 1, 1)) (hc : mj_c1 (a0 :: a1 :: r) = true) (h : mj_Ok Γ d M k n (pc + 1) (a0 :: .ref x :: r) st S P) : mj_Ok Γ d M k n pc (a0 :: a1 :: r) (.ref x :: st) S P := mj_astore_n hd hc (by first | (simp [Nat.blt]; done) | (simp [Nat.blt]; show 3 ≤ _; omega)) rfl h
theorem mz_inc1 {a0 : Value} {x z : Int} (hd : decode M.cc pc = .ok (.iinc 1 z, 3)) (hc : mj_c1 (a0 :: .int (iZ x) :: r) = true) (h : mj_Ok Γ d M k n (pc + 3) (a0 :: .int (iZ (x + z)) :: r) st S P) : mj_Ok Γ d M k n pc (a0 :: .int (iZ x) :: r) st S P := mz_iinc hd hc rfl rfl h
theorem mz_ist2 {a0 a1 a2 : Value} {x : Int32} (hd : decode M.cc pc = .ok (.istore_n 2, 1)) (hc : mj_c1 (a0 :: a1 :: a2 :: r) = true) (h : mj_Ok Γ d M k n (pc + 1) (a0 :: a1 :: .int x :: r) st S P) : mj_Ok Γ d M k n pc (a0 :: a1 :: a2 :: r) (.int x :: st) S P := mj_istore_n hd hc (by first | (simp [Nat.blt]; done) | (simp [Nat.blt]; show 3 ≤ _; omega)) rfl h
theorem mz_ast2 {a0 a1 a2 : Value} {x : Nat} (hd : decode M.cc pc = .ok (.astore_n 2, 1)) (hc : mj_c1 (a0 :: a1 :: a2 :: r) = true) (h : mj_Ok Γ d M k n (pc + 1) (a0 :: a1 :: .ref x :: r) st S P) : mj_Ok Γ d M k n pc (a0 :: a1 :: a2 :: r) (.ref x :: st) S P := mj_astore_n hd hc (by first | (simp [Nat.blt]; done) | (simp [Nat.blt]; show 3 ≤ _; omega)) rfl h
theorem mz_inc2 {a0 a1 : Value} {x z : Int} (hd : decode M.cc pc = .ok (.iinc 2 z, 3)) (hc : mj_c1 (a0 :: a1 :: .int (iZ x) :: r) = true) (h : mj_Ok Γ d M k n (pc + 3) (a0 :: a1 :: .int (iZ (x + z)) :: r) st S P) : mj_Ok Γ d M k n pc (a0 :: a1 :: .int (iZ x) :: r) st S P := mz_iinc hd hc rfl rfl h
theorem mz_ist3 {a0 a1 a2 a3 : Value} {x : Int32} (hd : decode M.cc pc = .ok (.istore_n 3, 1)) (hc : mj_c1 (a0 :: a1 :: a2 :: a3 :: r) = true) (h : mj_Ok Γ d M k n (pc + 1) (a0 :: a1 :: a2 :: .int x :: r) st S P) : mj_Ok Γ d M k n pc (a0 :: a1 :: a2 :: a3 :: r) (.int x :: st) S P := mj_istore_n hd hc (by first | (simp [Nat.blt]; done) | (simp [Nat.blt]; show 3 ≤ _; omega)) rfl h
theorem mz_ast3 {a0 a1 a2 a3 : Value} {x : Nat} (hd : decode M.cc pc = .ok (.astore_n 3, 1)) (hc : mj_c1 (a0 :: a1 :: a2 :: a3 :: r) = true) (h : mj_Ok Γ d M k n (pc + 1) (a0 :: a1 :: a2 :: .ref x :: r) st S P) : mj_Ok Γ d M k n pc (a0 :: a1 :: a2 :: a3 :: r) (.ref x :: st) S P := mj_astore_n hd hc (by first | (simp [Nat.blt]; done) | (simp [Nat.blt]; show 3 ≤ _; omega)) rfl h
theorem mz_inc3 {a0 a1 a2 : Value} {x z : Int} (hd : decode M.cc pc = .ok (.iinc 3 z, 3)) (hc : mj_c1 (a0 :: a1 :: a2 :: .int (iZ x) :: r) = true) (h : mj_Ok Γ d M k n (pc + 3) (a0 :: a1 :: a2 :: .int (iZ (x + z)) :: r) st S P) : mj_Ok Γ d M k n pc (a0 :: a1 :: a2 :: .int (iZ x) :: r) st S P := mz_iinc hd hc rfl rfl h
theorem mz_ist4 {a0 a1 a2 a3 a4 : Value} {x : Int32} (hd : decode M.cc pc = .ok (.istore 4, 2)) (hc : mj_c1 (a0 :: a1 :: a2 :: a3 :: a4 :: r) = true) (h : mj_Ok Γ d M k n (pc + 2) (a0 :: a1 :: a2 :: a3 :: .int x :: r) st S P) : mj_Ok Γ d M k n pc (a0 :: a1 :: a2 :: a3 :: a4 :: r) (.int x :: st) S P := mj_istore hd hc (by first | (simp [Nat.blt]; done) | (simp [Nat.blt]; show 3 ≤ _; omega)) rfl h
theorem mz_ast4 {a0 a1 a2 a3 a4 : Value} {x : Nat} (hd : decode M.cc pc = .ok (.astore 4, 2)) (hc : mj_c1 (a0 :: a1 :: a2 :: a3 :: a4 :: r) = true) (h : mj_Ok Γ d M k n (pc + 2) (a0 :: a1 :: a2 :: a3 :: .ref x :: r) st S P) : mj_Ok Γ d M k n pc (a0 :: a1 :: a2 :: a3 :: a4 :: r) (.ref x :: st) S P := mj_astore hd hc (by first | (simp [Nat.blt]; done) | (simp [Nat.blt]; show 3 ≤ _; omega)) rfl h
theorem mz_inc4 {a0 a1 a2 a3 : Value} {x z : Int} (hd : decode M.cc pc = .ok (.iinc 4 z, 3)) (hc : mj_c1 (a0 :: a1 :: a2 :: a3 :: .int (iZ x) :: r) = true) (h : mj_Ok Γ d M k n (pc + 3) (a0 :: a1 :: a2 :: a3 :: .int (iZ (x + z)) :: r) st S P) : mj_Ok Γ d M k n pc (a0 :: a1 :: a2 :: a3 :: .int (iZ x) :: r) st S P := mz_iinc hd hc rfl rfl h
theorem mz_ist5 {a0 a1 a2 a3 a4 a5 : Value} {x : Int32} (hd : decode M.cc pc = .ok (.istore 5, 2)) (hc : mj_c1 (a0 :: a1 :: a2 :: a3 :: a4 :: a5 :: r) = true) (h : mj_Ok Γ d M k n (pc + 2) (a0 :: a1 :: a2 :: a3 :: a4 :: .int x :: r) st S P) : mj_Ok Γ d M k n pc (a0 :: a1 :: a2 :: a3 :: a4 :: a5 :: r) (.int x :: st) S P := mj_istore hd hc (by first | (simp [Nat.blt]; done) | (simp [Nat.blt]; show 3 ≤ _; omega)) rfl h
theorem mz_ast5 {a0 a1 a2 a3 a4 a5 : Value} {x : Nat} (hd : decode M.cc pc = .ok (.astore 5, 2)) (hc : mj_c1 (a0 :: a1 :: a2 :: a3 :: a4 :: a5 :: r) = true) (h : mj_Ok Γ d M k n (pc + 2) (a0 :: a1 :: a2 :: a3 :: a4 :: .ref x :: r) st S P) : mj_Ok Γ d M k n pc (a0 :: a1 :: a2 :: a3 :: a4 :: a5 :: r) (.ref x :: st) S P := mj_astore hd hc (by first | (simp [Nat.blt]; done) | (simp [Nat.blt]; show 3 ≤ _; omega)) rfl h
theorem mz_inc5 {a0 a1 a2 a3 a4 : Value} {x z : Int} (hd : decode M.cc pc = .ok (.iinc 5 z, 3)) (hc : mj_c1 (a0 :: a1 :: a2 :: a3 :: a4 :: .int (iZ x) :: r) = true) (h : mj_Ok Γ d M k n (pc + 3) (a0 :: a1 :: a2 :: a3 :: a4 :: .int (iZ (x + z)) :: r) st S P) : mj_Ok Γ d M k n pc (a0 :: a1 :: a2 :: a3 :: a4 :: .int (iZ x) :: r) st S P := mz_iinc hd hc rfl rfl h
theorem mz_ist6 {a0 a1 a2 a3 a4 a5 a6 : Value} {x : Int32} (hd : decode M.cc pc = .ok (.istore 6, 2)) (hc : mj_c1 (a0 :: a1 :: a2 :: a3 :: a4 :: a5 :: a6 :: r) = true) (h : mj_Ok Γ d M k n (pc + 2) (a0 :: a1 :: a2 :: a3 :: a4 :: a5 :: .int x :: r) st S P) : mj_Ok Γ d M k n pc (a0 :: a1 :: a2 :: a3 :: a4 :: a5 :: a6 :: r) (.int x :: st) S P := mj_istore hd hc (by first | (simp [Nat.blt]; done) | (simp [Nat.blt]; show 3 ≤ _; omega)) rfl h
theorem mz_ast6 {a0 a1 a2 a3 a4 a5 a6 : Value} {x : Nat} (hd : decode M.cc pc = .ok (.astore 6, 2)) (hc : mj_c1 (a0 :: a1 :: a2 :: a3 :: a4 :: a5 :: a6 :: r) = true) (h : mj_Ok Γ d M k n (pc + 2) (a0 :: a1 :: a2 :: a3 :: a4 :: a5 :: .ref x :: r) st S P) : mj_Ok Γ d M k n pc (a0 :: a1 :: a2 :: a3 :: a4 :: a5 :: a6 :: r) (.ref x :: st) S P := mj_astore hd hc (by first | (simp [Nat.blt]; done) | (simp [Nat.blt]; show 3 ≤ _; omega)) rfl h
theorem mz_inc6 {a0 a1 a2 a3 a4 a5 : Value} {x z : Int} (hd : decode M.cc pc = .ok (.iinc 6 z, 3)) (hc : mj_c1 (a0 :: a1 :: a2 :: a3 :: a4 :: a5 :: .int (iZ x) :: r) = true) (h : mj_Ok Γ d M k n (pc + 3) (a0 :: a1 :: a2 :: a3 :: a4 :: a5 :: .int (iZ (x + z)) :: r) st S P) : mj_Ok Γ d M k n pc (a0 :: a1 :: a2 :: a3 :: a4 :: a5 :: .int (iZ x) :: r) st S P := mz_iinc hd hc rfl rfl h
theorem mz_ist7 {a0 a1 a2 a3 a4 a5 a6 a7 : Value} {x : Int32} (hd : decode M.cc pc = .ok (.istore 7, 2)) (hc : mj_c1 (a0 :: a1 :: a2 :: a3 :: a4 :: a5 :: a6 :: a7 :: r) = true) (h : mj_Ok Γ d M k n (pc + 2) (a0 :: a1 :: a2 :: a3 :: a4 :: a5 :: a6 :: .int x :: r) st S P) : mj_Ok Γ d M k n pc (a0 :: a1 :: a2 :: a3 :: a4 :: a5 :: a6 :: a7 :: r) (.int x :: st) S P := mj_istore hd hc (by first | (simp [Nat.blt]; done) | (simp [Nat.blt]; show 3 ≤ _; omega)) rfl h
theorem mz_ast7 {a0 a1 a2 a3 a4 a5 a6 a7 : Value} {x : Nat} (hd : decode M.cc pc = .ok (.astore 7, 2)) (hc : mj_c1 (a0 :: a1 :: a2 :: a3 :: a4 :: a5 :: a6 :: a7 :: r) = true) (h : mj_Ok Γ d M k n (pc + 2) (a0 :: a1 :: a2 :: a3 :: a4 :: a5 :: a6 :: .ref x :: r) st S P) : mj_Ok Γ d M k n pc (a0 :: a1 :: a2 :: a3 :: a4 :: a5 :: a6 :: a7 :: r) (.ref x :: st) S P := mj_astore hd hc (by first | (simp [Nat.blt]; done) | (simp [Nat.blt]; show 3 ≤ _; omega)) rfl h
theorem mz_inc7 {a0 a1 a2 a3 a4 a5 a6 : Value} {x z : Int} (hd : decode M.cc pc = .ok (.iinc 7 z, 3)) (hc : mj_c1 (a0 :: a1 :: a2 :: a3 :: a4 :: a5 :: a6 :: .int (iZ x) :: r) = true) (h : mj_Ok Γ d M k n (pc + 3) (a0 :: a1 :: a2 :: a3 :: a4 :: a5 :: a6 :: .int (iZ (x + z)) :: r) st S P) : mj_Ok Γ d M k n pc (a0 :: a1 :: a2 :: a3 :: a4 :: a5 :: a6 :: .int (iZ x) :: r) st S P := mz_iinc hd hc rfl rfl h
theorem mz_ist8 {a0 a1 a2 a3 a4 a5 a6 a7 a8 : Value} {x : Int32} (hd : decode M.cc pc = .ok (.istore 8, 2)) (hc : mj_c1 (a0 :: a1 :: a2 :: a3 :: a4 :: a5 :: a6 :: a7 :: a8 :: r) = true) (h : mj_Ok Γ d M k n (pc + 2) (a0 :: a1 :: a2 :: a3 :: a4 :: a5 :: a6 :: a7 :: .int x :: r) st S P) : mj_Ok Γ d M k n pc (a0 :: a1 :: a2 :: a3 :: a4 :: a5 :: a6 :: a7 :: a8 :: r) (.int x :: st) S P := mj_istore hd hc (by first | (simp [Nat.blt]; done) | (simp [Nat.blt]; show 3 ≤ _; omega)) rfl h
theorem mz_ast8 {a0 a1 a2 a3 a4 a5 a6 a7 a8 : Value} {x : Nat} (hd : decode M.cc pc = .ok (.astore 8, 2)) (hc : mj_c1 (a0 :: a1 :: a2 :: a3 :: a4 :: a5 :: a6 :: a7 :: a8 :: r) = true) (h : mj_Ok Γ d M k n (pc + 2) (a0 :: a1 :: a2 :: a3 :: a4 :: a5 :: a6 :: a7 :: .ref x :: r) st S P) : mj_Ok Γ d M k n pc (a0 :: a1 :: a2 :: a3 :: a4 :: a5 :: a6 :: a7 :: a8 :: r) (.ref x :: st) S P := mj_astore hd hc (by first | (simp [Nat.blt]; done) | (simp [Nat.blt]; show 3 ≤ _; omega)) rfl h
theorem mz_inc8 {a0 a1 a2 a3 a4 a5 a6 a7 : Value} {x z : Int} (hd : decode M.cc pc = .ok (.iinc 8 z, 3)) (hc : mj_c1 (a0 :: a1 :: a2 :: a3 :: a4 :: a5 :: a6 :: a7 :: .int (iZ x) :: r) = true) (h : mj_Ok Γ d M k n (pc + 3) (a0 :: a1 :: a2 :: a3 :: a4 :: a5 :: a6 :: a7 :: .int (iZ (x + z)) :: r) st S P) : mj_Ok Γ d M k n pc (a0 :: a1 :: a2 :: a3 :: a4 :: a5 :: a6 :: a7 :: .int (iZ x) :: r) st S P := mz_iinc hd hc rfl rfl h
theorem mz_ist9 {a0 a1 a2 a3 a4 a5 a6 a7 a8 a9 : Value} {x : Int32} (hd : decode M.cc pc = .ok (.istore 9, 2)) (hc : mj_c1 (a0 :: a1 :: a2 :: a3 :: a4 :: a5 :: a6 :: a7 :: a8 :: a9 :: r) = true) (h : mj_Ok Γ d M k n (pc + 2) (a0 :: a1 :: a2 :: a3 :: a4 :: a5 :: a6 :: a7 :: a8 :: .int x :: r) st S P) : mj_Ok Γ d M k n pc (a0 :: a1 :: a2 :: a3 :: a4 :: a5 :: a6 :: a7 :: a8 :: a9 :: r) (.int x :: st) S P := mj_istore hd hc (by first | (simp [Nat.blt]; done) | (simp [Nat.blt]; show 3 ≤ _; omega)) rfl h
theorem mz_ast9 {a0 a1 a2 a3 a4 a5 a6 a7 a8 a9 : Value} {x : Nat} (hd : decode M.cc pc = .ok (.astore 9, 2)) (hc : mj_c1 (a0 :: a1 :: a2 :: a3 :: a4 :: a5 :: a6 :: a7 :: a8 :: a9 :: r) = true) (h : mj_Ok Γ d M k n (pc + 2) (a0 :: a1 :: a2 :: a3 :: a4 :: a5 :: a6 :: a7 :: a8 :: .ref x :: r) st S P) : mj_Ok Γ d M k n pc (a0 :: a1 :: a2 :: a3 :: a4 :: a5 :: a6 :: a7 :: a8 :: a9 :: r) (.ref x :: st) S P := mj_astore hd hc (by first | (simp [Nat.blt]; done) | (simp [Nat.blt]; show 3 ≤ _; omega)) rfl h
theorem mz_inc9 {a0 a1 a2 a3 a4 a5 a6 a7 a8 : Value} {x z : Int} (hd : decode M.cc pc = .ok (.iinc 9 z, 3)) (hc : mj_c1 (a0 :: a1 :: a2 :: a3 :: a4 :: a5 :: a6 :: a7 :: a8 :: .int (iZ x) :: r) = true) (h : mj_Ok Γ d M k n (pc + 3) (a0 :: a1 :: a2 :: a3 :: a4 :: a5 :: a6 :: a7 :: a8 :: .int (iZ (x + z)) :: r) st S P) : mj_Ok Γ d M k n pc (a0 :: a1 :: a2 :: a3 :: a4 :: a5 :: a6 :: a7 :: a8 :: .int (iZ x) :: r) st S P := mz_iinc hd hc rfl rfl h
theorem mz_ist10 {a0 a1 a2 a3 a4 a5 a6 a7 a8 a9 a10 : Value} {x : Int32} (hd : decode M.cc pc = .ok (.istore 10, 2)) (hc : mj_c1 (a0 :: a1 :: a2 :: a3 :: a4 :: a5 :: a6 :: a7 :: a8 :: a9 :: a10 :: r) = true) (h : mj_Ok Γ d M k n (pc + 2) (a0 :: a1 :: a2 :: a3 :: a4 :: a5 :: a6 :: a7 :: a8 :: a9 :: .int x :: r) st S P) : mj_Ok Γ d M k n pc (a0 :: a1 :: a2 :: a3 :: a4 :: a5 :: a6 :: a7 :: a8 :: a9 :: a10 :: r) (.int x :: st) S P := mj_istore hd hc (by first | (simp [Nat.blt]; done) | (simp [Nat.blt]; show 3 ≤ _; omega)) rfl h
theorem mz_ast10 {a0 a1 a2 a3 a4 a5 a6 a7 a8 a9 a10 : Value} {x : Nat} (hd : decode M.cc pc = .ok (.astore 10, 2)) (hc : mj_c1 (a0 :: a1 :: a2 :: a3 :: a4 :: a5 :: a6 :: a7 :: a8 :: a9 :: a10 :: r) = true) (h : mj_Ok Γ d M k n (pc + 2) (a0 :: a1 :: a2 :: a3 :: a4 :: a5 :: a6 :: a7 :: a8 :: a9 :: .ref x :: r) st S P) : mj_Ok Γ d M k n pc (a0 :: a1 :: a2 :: a3 :: a4 :: a5 :: a6 :: a7 :: a8 :: a9 :: a10 :: r) (.ref x :: st) S P := mj_astore hd hc (by first | (simp [Nat.blt]; done) | (simp [Nat.blt]; show 3 ≤ _; omega)) rfl h
theorem mz_inc10 {a0 a1 a2 a3 a4 a5 a6 a7 a8 a9 : Value} {x z : Int} (hd : decode M.cc pc = .ok (.iinc 10 z, 3)) (hc : mj_c1 (a0 :: a1 :: a2 :: a3 :: a4 :: a5 :: a6 :: a7 :: a8 :: a9 :: .int (iZ x) :: r) = true) (h : mj_Ok Γ d M k n (pc + 3) (a0 :: a1 :: a2 :: a3 :: a4 :: a5 :: a6 :: a7 :: a8 :: a9 :: .int (iZ (x + z)) :: r) st S P) : mj_Ok Γ d M k n pc (a0 :: a1 :: a2 :: a3 :: a4 :: a5 :: a6 :: a7 :: a8 :: a9 :: .int (iZ x) :: r) st S P := mz_iinc hd hc rfl rfl h
theorem mz_ist11 {a0 a1 a2 a3 a4 a5 a6 a7 a8 a9 a10 a11 : Value} {x : Int32} (hd : decode M.cc pc = .ok (.istore 11, 2)) (hc : mj_c1 (a0 :: a1 :: a2 :: a3 :: a4 :: a5 :: a6 :: a7 :: a8 :: a9 :: a10 :: a11 :: r) = true) (h : mj_Ok Γ d M k n (pc + 2) (a0 :: a1 :: a2 :: a3 :: a4 :: a5 :: a6 :: a7 :: a8 :: a9 :: a10 :: .int x :: r) st S P) : mj_Ok Γ d M k n pc (a0 :: a1 :: a2 :: a3 :: a4 :: a5 :: a6 :: a7 :: a8 :: a9 :: a10 :: a11 :: r) (.int x :: st) S P := mj_istore hd hc (by first | (simp [Nat.blt]; done) | (simp [Nat.blt]; show 3 ≤ _; omega)) rfl h
theorem mz_ast11 {a0 a1 a2 a3 a4 a5 a6 a7 a8 a9 a10 a11 : Value} {x : Nat} (hd : decode M.cc pc = .ok (.astore 11, 2)) (hc : mj_c1 (a0 :: a1 :: a2 :: a3 :: a4 :: a5 :: a6 :: a7 :: a8 :: a9 :: a10 :: a11 :: r) = true) (h : mj_Ok Γ d M k n (pc + 2) (a0 :: a1 :: a2 :: a3 :: a4 :: a5 :: a6 :: a7 :: a8 :: a9 :: a10 :: .ref x :: r) st S P) : mj_Ok Γ d M k n pc (a0 :: a1 :: a2 :: a3 :: a4 :: a5 :: a6 :: a7 :: a8 :: a9 :: a10 :: a11 :: r) (.ref x :: st) S P := mj_astore hd hc (by first | (simp [Nat.blt]; done) | (simp [Nat.blt]; show 3 ≤ _; omega)) rfl h
theorem mz_inc11 {a0 a1 a2 a3 a4 a5 a6 a7 a8 a9 a10 : Value} {x z : Int} (hd : decode M.cc pc = .ok (.iinc 11 z, 3)) (hc : mj_c1 (a0 :: a1 :: a2 :: a3 :: a4 :: a5 :: a6 :: a7 :: a8 :: a9 :: a10 :: .int (iZ x) :: r) = true) (h : mj_Ok Γ d M k n (pc + 3) (a0 :: a1 :: a2 :: a3 :: a4 :: a5 :: a6 :: a7 :: a8 :: a9 :: a10 :: .int (iZ (x + z)) :: r) st S P) : mj_Ok Γ d M k n pc (a0 :: a1 :: a2 :: a3 :: a4 :: a5 :: a6 :: a7 :: a8 :: a9 :: a10 :: .int (iZ x) :: r) st S P := mz_iinc hd hc rfl rfl h
theorem mz_ist12 {a0 a1 a2 a3 a4 a5 a6 a7 a8 a9 a10 a11 a12 : Value} {x : Int32} (hd : decode M.cc pc = .ok (.istore 12, 2)) (hc : mj_c1 (a0 :: a1 :: a2 :: a3 :: a4 :: a5 :: a6 :: a7 :: a8 :: a9 :: a10 :: a11 :: a12 :: r) = true) (h : mj_Ok Γ d M k n (pc + 2) (a0 :: a1 :: a2 :: a3 :: a4 :: a5 :: a6 :: a7 :: a8 :: a9 :: a10 :: a11 :: .int x :: r) st S P) : mj_Ok Γ d M k n pc (a0 :: a1 :: a2 :: a3 :: a4 :: a5 :: a6 :: a7 :: a8 :: a9 :: a10 :: a11 :: a12 :: r) (.int x :: st) S P := mj_istore hd hc (by first | (simp [Nat.blt]; done) | (simp [Nat.blt]; show 3 ≤ _; omega)) rfl h
theorem mz_ast12 {a0 a1 a2 a3 a4 a5 a6 a7 a8 a9 a10 a11 a12 : Value} {x : Nat} (hd : decode M.cc pc = .ok (.astore 12, 2)) (hc : mj_c1 (a0 :: a1 :: a2 :: a3 :: a4 :: a5 :: a6 :: a7 :: a8 :: a9 :: a10 :: a11 :: a12 :: r) = true) (h : mj_Ok Γ d M k n (pc + 2) (a0 :: a1 :: a2 :: a3 :: a4 :: a5 :: a6 :: a7 :: a8 :: a9 :: a10 :: a11 :: .ref x :: r) st S P) : mj_Ok Γ d M k n pc (a0 :: a1 :: a2 :: a3 :: a4 :: a5 :: a6 :: a7 :: a8 :: a9 :: a10 :: a11 :: a12 :: r) (.ref x :: st) S P := mj_astore hd hc (by first | (simp [Nat.blt]; done) | (simp [Nat.blt]; show 3 ≤ _; omega)) rfl h
theorem mz_inc12 {a0 a1 a2 a3 a4 a5 a6 a7 a8 a9 a10 a11 : Value} {x z : Int} (hd : decode M.cc pc = .ok (.iinc 12 z, 3)) (hc : mj_c1 (a0 :: a1 :: a2 :: a3 :: a4 :: a5 :: a6 :: a7 :: a8 :: a9 :: a10 :: a11 :: .int (iZ x) :: r) = true) (h : mj_Ok Γ d M k n (pc + 3) (a0 :: a1 :: a2 :: a3 :: a4 :: a5 :: a6 :: a7 :: a8 :: a9 :: a10 :: a11 :: .int (iZ (x + z)) :: r) st S P) : mj_Ok Γ d M k n pc (a0 :: a1 :: a2 :: a3 :: a4 :: a5 :: a6 :: a7 :: a8 :: a9 :: a10 :: a11 :: .int (iZ x) :: r) st S P := mz_iinc hd hc rfl rfl h
theorem mz_ist13 {a0 a1 a2 a3 a4 a5 a6 a7 a8 a9 a10 a11 a12 a13 : Value} {x : Int32} (hd : decode M.cc pc = .ok (.istore 13, 2)) (hc : mj_c1 (a0 :: a1 :: a2 :: a3 :: a4 :: a5 :: a6 :: a7 :: a8 :: a9 :: a10 :: a11 :: a12 :: a13 :: r) = true) (h : mj_Ok Γ d M k n (pc + 2) (a0 :: a1 :: a2 :: a3 :: a4 :: a5 :: a6 :: a7 :: a8 :: a9 :: a10 :: a11 :: a12 :: .int x :: r) st S P) : mj_Ok Γ d M k n pc (a0 :: a1 :: a2 :: a3 :: a4 :: a5 :: a6 :: a7 :: a8 :: a9 :: a10 :: a11 :: a12 :: a13 :: r) (.int x :: st) S P := mj_istore hd hc (by first | (simp [Nat.blt]; done) | (simp [Nat.blt]; show 3 ≤ _; omega)) rfl h
theorem mz_ast13 {a0 a1 a2 a3 a4 a5 a6 a7 a8 a9 a10 a11 a12 a13 : Value} {x : Nat} (hd : decode M.cc pc = .ok (.astore 13, 2)) (hc : mj_c1 (a0 :: a1 :: a2 :: a3 :: a4 :: a5 :: a6 :: a7 :: a8 :: a9 :: a10 :: a11 :: a12 :: a13 :: r) = true) (h : mj_Ok Γ d M k n (pc + 2) (a0 :: a1 :: a2 :: a3 :: a4 :: a5 :: a6 :: a7 :: a8 :: a9 :: a10 :: a11 :: a12 :: .ref x :: r) st S P) : mj_Ok Γ d M k n pc (a0 :: a1 :: a2 :: a3 :: a4 :: a5 :: a6 :: a7 :: a8 :: a9 :: a10 :: a11 :: a12 :: a13 :: r) (.ref x :: st) S P := mj_astore hd hc (by first | (simp [Nat.blt]; done) | (simp [Nat.blt]; show 3 ≤ _; omega)) rfl h
theorem mz_inc13 {a0 a1 a2 a3 a4 a5 a6 a7 a8 a9 a10 a11 a12 : Value} {x z : Int} (hd : decode M.cc pc = .ok (.iinc 13 z, 3)) (hc : mj_c1 (a0 :: a1 :: a2 :: a3 :: a4 :: a5 :: a6 :: a7 :: a8 :: a9 :: a10 :: a11 :: a12 :: .int (iZ x) :: r) = true) (h : mj_Ok Γ d M k n (pc + 3) (a0 :: a1 :: a2 :: a3 :: a4 :: a5 :: a6 :: a7 :: a8 :: a9 :: a10 :: a11 :: a12 :: .int (iZ (x + z)) :: r) st S P) : mj_Ok Γ d M k n pc (a0 :: a1 :: a2 :: a3 :: a4 :: a5 :: a6 :: a7 :: a8 :: a9 :: a10 :: a11 :: a12 :: .int (iZ x) :: r) st S P := mz_iinc hd hc rfl rfl h
theorem mz_ist14 {a0 a1 a2 a3 a4 a5 a6 a7 a8 a9 a10 a11 a12 a13 a14 : Value} {x : Int32} (hd : decode M.cc pc = .ok (.istore 14, 2)) (hc : mj_c1 (a0 :: a1 :: a2 :: a3 :: a4 :: a5 :: a6 :: a7 :: a8 :: a9 :: a10 :: a11 :: a12 :: a13 :: a14 :: r) = true) (h : mj_Ok Γ d M k n (pc + 2) (a0 :: a1 :: a2 :: a3 :: a4 :: a5 :: a6 :: a7 :: a8 :: a9 :: a10 :: a11 :: a12 :: a13 :: .int x :: r) st S P) : mj_Ok Γ d M k n pc (a0 :: a1 :: a2 :: a3 :: a4 :: a5 :: a6 :: a7 :: a8 :: a9 :: a10 :: a11 :: a12 :: a13 :: a14 :: r) (.int x :: st) S P := mj_istore hd hc (by first | (simp [Nat.blt]; done) | (simp [Nat.blt]; show 3 ≤ _; omega)) rfl h
theorem mz_ast14 {a0 a1 a2 a3 a4 a5 a6 a7 a8 a9 a10 a11 a12 a13 a14 : Value} {x : Nat} (hd : decode M.cc pc = .ok (.astore 14, 2)) (hc : mj_c1 (a0 :: a1 :: a2 :: a3 :: a4 :: a5 :: a6 :: a7 :: a8 :: a9 :: a10 :: a11 :: a12 :: a13 :: a14 :: r) = true) (h : mj_Ok Γ d M k n (pc + 2) (a0 :: a1 :: a2 :: a3 :: a4 :: a5 :: a6 :: a7 :: a8 :: a9 :: a10 :: a11 :: a12 :: a13 :: .ref x :: r) st S P) : mj_Ok Γ d M k n pc (a0 :: a1 :: a2 :: a3 :: a4 :: a5 :: a6 :: a7 :: a8 :: a9 :: a10 :: a11 :: a12 :: a13 :: a14 :: r) (.ref x :: st) S P := mj_astore hd hc (by first | (simp [Nat.blt]; done) | (simp [Nat.blt]; show 3 ≤ _; omega)) rfl h
theorem mz_inc14 {a0 a1 a2 a3 a4 a5 a6 a7 a8 a9 a10 a11 a12 a13 : Value} {x z : Int} (hd : decode M.cc pc = .ok (.iinc 14 z, 3)) (hc : mj_c1 (a0 :: a1 :: a2 :: a3 :: a4 :: a5 :: a6 :: a7 :: a8 :: a9 :: a10 :: a11 :: a12 :: a13 :: .int (iZ x) :: r) = true) (h : mj_Ok Γ d M k n (pc + 3) (a0 :: a1 :: a2 :: a3 :: a4 :: a5 :: a6 :: a7 :: a8 :: a9 :: a10 :: a11 :: a12 :: a13 :: .int (iZ (x + z)) :: r) st S P) : mj_Ok Γ d M k n pc (a0 :: a1 :: a2 :: a3 :: a4 :: a5 :: a6 :: a7 :: a8 :: a9 :: a10 :: a11 :: a12 :: a13 :: .int (iZ x) :: r) st S P := mz_iinc hd hc rfl rfl h
theorem mz_ist15 {a0 a1 a2 a3 a4 a5 a6 a7 a8 a9 a10 a11 a12 a13 a14 a15 : Value} {x : Int32} (hd : decode M.cc pc = .ok (.istore 15, 2)) (hc : mj_c1 (a0 :: a1 :: a2 :: a3 :: a4 :: a5 :: a6 :: a7 :: a8 :: a9 :: a10 :: a11 :: a12 :: a13 :: a14 :: a15 :: r) = true) (h : mj_Ok Γ d M k n (pc + 2) (a0 :: a1 :: a2 :: a3 :: a4 :: a5 :: a6 :: a7 :: a8 :: a9 :: a10 :: a11 :: a12 :: a13 :: a14 :: .int x :: r) st S P) : mj_Ok Γ d M k n pc (a0 :: a1 :: a2 :: a3 :: a4 :: a5 :: a6 :: a7 :: a8 :: a9 :: a10 :: a11 :: a12 :: a13 :: a14 :: a15 :: r) (.int x :: st) S P := mj_istore hd hc (by first | (simp [Nat.blt]; done) | (simp [Nat.blt]; show 3 ≤ _; omega)) rfl h
theorem mz_ast15 {a0 a1 a2 a3 a4 a5 a6 a7 a8 a9 a10 a11 a12 a13 a14 a15 : Value} {x : Nat} (hd : decode M.cc pc = .ok (.astore 15, 2)) (hc : mj_c1 (a0 :: a1 :: a2 :: a3 :: a4 :: a5 :: a6 :: a7 :: a8 :: a9 :: a10 :: a11 :: a12 :: a13 :: a14 :: a15 :: r) = true) (h : mj_Ok Γ d M k n (pc + 2) (a0 :: a1 :: a2 :: a3 :: a4 :: a5 :: a6 :: a7 :: a8 :: a9 :: a10 :: a11 :: a12 :: a13 :: a14 :: .ref x :: r) st S P) : mj_Ok Γ d M k n pc (a0 :: a1 :: a2 :: a3 :: a4 :: a5 :: a6 :: a7 :: a8 :: a9 :: a10 :: a11 :: a12 :: a13 :: a14 :: a15 :: r) (.ref x :: st) S P := mj_astore hd hc (by first | (simp [Nat.blt]; done) | (simp [Nat.blt]; show 3 ≤ _; omega)) rfl h
theorem mz_inc15 {a0 a1 a2 a3 a4 a5 a6 a7 a8 a9 a10 a11 a12 a13 a14 : Value} {x z : Int} (hd : decode M.cc pc = .ok (.iinc 15 z, 3)) (hc : mj_c1 (a0 :: a1 :: a2 :: a3 :: a4 :: a5 :: a6 :: a7 :: a8 :: a9 :: a10 :: a11 :: a12 :: a13 :: a14 :: .int (iZ x) :: r) = true) (h : mj_Ok Γ d M k n (pc + 3) (a0 :: a1 :: a2 :: a3 :: a4 :: a5 :: a6 :: a7 :: a8 :: a9 :: a10 :: a11 :: a12 :: a13 :: a14 :: .int (iZ (x + z)) :: r) st S P) : mj_Ok Γ d M k n pc (a0 :: a1 :: a2 :: a3 :: a4 :: a5 :: a6 :: a7 :: a8 :: a9 :: a10 :: a11 :: a12 :: a13 :: a14 :: .int (iZ x) :: r) st S P := mz_iinc hd hc rfl rfl h
theorem mz_callV0i {idx a ci : Nat} {q : vw_C} {fs : List Value} (hd : decode M.cc pc = .ok (.invokevirtual idx, 3)) (hM : mj_Met Γ d1 y M1 (.ref a :: []) S mc ms (mj_I Qi)) (hcw : mj_cw y M1 0) (hw : Cond.methodLink M.own idx y ∈ mj_tb ∧ Cond.instanceMethod y ∈ mj_tb ∧ Cond.selects y.cls y y ∈ mj_tb)
    (hq : mj_cl[ci]? = some q) (hqc : q.1 = y.cls) (ha : a < S.2.1) (he : S.1 a = .inr (ci, fs)) (hd1 : d1 < d) (hst : Nat.ble (st.map fun v => v.category).sum 8 = true)
    (hk : ∀ (z : Int) (S1 : mj_S), Qi z S1 → mj_Ok Γ d M k n (pc + 3) lv (.int (iZ z) :: st) S1 P) : mj_Ok Γ d M (k + mc) (n + ms) pc lv (.ref a :: st) S P := mz_callV0 hd hM hcw hw hq hqc ha he hd1 hst (fun r S1 ⟨z, e, q⟩ => by subst e; exact hk z S1 q)
theorem mz_callS0i {idx : Nat} (hd : decode M.cc pc = .ok (.invokestatic idx, 3)) (hM : mj_Met Γ d1 y M1 [] S mc ms (mj_I Qi)) (hcw : mj_cw y M1 0) (hw : Cond.methodLink M.own idx y ∈ mj_tb ∧ Cond.static y ∈ mj_tb)
    (hd1 : d1 < d) (hst : Nat.ble (st.map fun v => v.category).sum 8 = true)
    (hk : ∀ (z : Int) (S1 : mj_S), Qi z S1 → mj_Ok Γ d M k n (pc + 3) lv (.int (iZ z) :: st) S1 P) : mj_Ok Γ d M (k + mc) (n + ms) pc lv (st) S P := mz_callS0 hd hM hcw hw hd1 hst (fun r S1 ⟨z, e, q⟩ => by subst e; exact hk z S1 q)
theorem mz_callSN0i {idx : Nat} (hd : decode M.cc pc = .ok (.invokestatic idx, 3)) (hM : mj_Met Γ d1 y M1 [] S mc ms (mj_I Qi)) (hcw : mj_cw y M1 0) (hw : Cond.methodLinkNest M.own idx y "IsomerList" ∈ lw_tbl ∧ Cond.static y ∈ mj_tb)
    (hd1 : d1 < d) (hst : Nat.ble (st.map fun v => v.category).sum 8 = true)
    (hk : ∀ (z : Int) (S1 : mj_S), Qi z S1 → mj_Ok Γ d M k n (pc + 3) lv (.int (iZ z) :: st) S1 P) : mj_Ok Γ d M (k + mc) (n + ms) pc lv (st) S P := mz_callSN0 hd hM hcw hw hd1 hst (fun r S1 ⟨z, e, q⟩ => by subst e; exact hk z S1 q)
theorem mz_callV0v {idx a ci : Nat} {q : vw_C} {fs : List Value} (hd : decode M.cc pc = .ok (.invokevirtual idx, 3)) (hM : mj_Met Γ d1 y M1 (.ref a :: []) S mc ms (mj_V Qv)) (hcw : mj_cw y M1 0) (hw : Cond.methodLink M.own idx y ∈ mj_tb ∧ Cond.instanceMethod y ∈ mj_tb ∧ Cond.selects y.cls y y ∈ mj_tb)
    (hq : mj_cl[ci]? = some q) (hqc : q.1 = y.cls) (ha : a < S.2.1) (he : S.1 a = .inr (ci, fs)) (hd1 : d1 < d) (hst : Nat.ble (st.map fun v => v.category).sum 8 = true)
    (hk : ∀ S1 : mj_S, Qv S1 → mj_Ok Γ d M k n (pc + 3) lv st S1 P) : mj_Ok Γ d M (k + mc) (n + ms) pc lv (.ref a :: st) S P := mz_callV0 hd hM hcw hw hq hqc ha he hd1 hst (fun r S1 ⟨e, q⟩ => by subst e; exact hk S1 q)
theorem mz_callS0v {idx : Nat} (hd : decode M.cc pc = .ok (.invokestatic idx, 3)) (hM : mj_Met Γ d1 y M1 [] S mc ms (mj_V Qv)) (hcw : mj_cw y M1 0) (hw : Cond.methodLink M.own idx y ∈ mj_tb ∧ Cond.static y ∈ mj_tb)
    (hd1 : d1 < d) (hst : Nat.ble (st.map fun v => v.category).sum 8 = true)
    (hk : ∀ S1 : mj_S, Qv S1 → mj_Ok Γ d M k n (pc + 3) lv st S1 P) : mj_Ok Γ d M (k + mc) (n + ms) pc lv (st) S P := mz_callS0 hd hM hcw hw hd1 hst (fun r S1 ⟨e, q⟩ => by subst e; exact hk S1 q)
theorem mz_callSN0v {idx : Nat} (hd : decode M.cc pc = .ok (.invokestatic idx, 3)) (hM : mj_Met Γ d1 y M1 [] S mc ms (mj_V Qv)) (hcw : mj_cw y M1 0) (hw : Cond.methodLinkNest M.own idx y "IsomerList" ∈ lw_tbl ∧ Cond.static y ∈ mj_tb)
    (hd1 : d1 < d) (hst : Nat.ble (st.map fun v => v.category).sum 8 = true)
    (hk : ∀ S1 : mj_S, Qv S1 → mj_Ok Γ d M k n (pc + 3) lv st S1 P) : mj_Ok Γ d M (k + mc) (n + ms) pc lv (st) S P := mz_callSN0 hd hM hcw hw hd1 hst (fun r S1 ⟨e, q⟩ => by subst e; exact hk S1 q)
theorem mz_callV1i {idx a ci : Nat} {q : vw_C} {fs : List Value} {v1 : Value} (hd : decode M.cc pc = .ok (.invokevirtual idx, 3)) (hM : mj_Met Γ d1 y M1 (.ref a :: [v1]) S mc ms (mj_I Qi)) (hcw : mj_cw y M1 1) (hw : Cond.methodLink M.own idx y ∈ mj_tb ∧ Cond.instanceMethod y ∈ mj_tb ∧ Cond.selects y.cls y y ∈ mj_tb)
    (hq : mj_cl[ci]? = some q) (hqc : q.1 = y.cls) (ha : a < S.2.1) (he : S.1 a = .inr (ci, fs)) (hd1 : d1 < d) (hst : Nat.ble (st.map fun v => v.category).sum 8 = true)
    (hk : ∀ (z : Int) (S1 : mj_S), Qi z S1 → mj_Ok Γ d M k n (pc + 3) lv (.int (iZ z) :: st) S1 P) : mj_Ok Γ d M (k + mc) (n + ms) pc lv (v1 :: .ref a :: st) S P := mz_callV1 hd hM hcw hw hq hqc ha he hd1 hst (fun r S1 ⟨z, e, q⟩ => by subst e; exact hk z S1 q)
theorem mz_callS1i {idx : Nat} {v1 : Value} (hd : decode M.cc pc = .ok (.invokestatic idx, 3)) (hM : mj_Met Γ d1 y M1 [v1] S mc ms (mj_I Qi)) (hcw : mj_cw y M1 1) (hw : Cond.methodLink M.own idx y ∈ mj_tb ∧ Cond.static y ∈ mj_tb)
    (hd1 : d1 < d) (hst : Nat.ble (st.map fun v => v.category).sum 8 = true)
    (hk : ∀ (z : Int) (S1 : mj_S), Qi z S1 → mj_Ok Γ d M k n (pc + 3) lv (.int (iZ z) :: st) S1 P) : mj_Ok Γ d M (k + mc) (n + ms) pc lv (v1 :: st) S P := mz_callS1 hd hM hcw hw hd1 hst (fun r S1 ⟨z, e, q⟩ => by subst e; exact hk z S1 q)
theorem mz_callSN1i {idx : Nat} {v1 : Value} (hd : decode M.cc pc = .ok (.invokestatic idx, 3)) (hM : mj_Met Γ d1 y M1 [v1] S mc ms (mj_I Qi)) (hcw : mj_cw y M1 1) (hw : Cond.methodLinkNest M.own idx y "IsomerList" ∈ lw_tbl ∧ Cond.static y ∈ mj_tb)
    (hd1 : d1 < d) (hst : Nat.ble (st.map fun v => v.category).sum 8 = true)
    (hk : ∀ (z : Int) (S1 : mj_S), Qi z S1 → mj_Ok Γ d M k n (pc + 3) lv (.int (iZ z) :: st) S1 P) : mj_Ok Γ d M (k + mc) (n + ms) pc lv (v1 :: st) S P := mz_callSN1 hd hM hcw hw hd1 hst (fun r S1 ⟨z, e, q⟩ => by subst e; exact hk z S1 q)
theorem mz_callV1v {idx a ci : Nat} {q : vw_C} {fs : List Value} {v1 : Value} (hd : decode M.cc pc = .ok (.invokevirtual idx, 3)) (hM : mj_Met Γ d1 y M1 (.ref a :: [v1]) S mc ms (mj_V Qv)) (hcw : mj_cw y M1 1) (hw : Cond.methodLink M.own idx y ∈ mj_tb ∧ Cond.instanceMethod y ∈ mj_tb ∧ Cond.selects y.cls y y ∈ mj_tb)
    (hq : mj_cl[ci]? = some q) (hqc : q.1 = y.cls) (ha : a < S.2.1) (he : S.1 a = .inr (ci, fs)) (hd1 : d1 < d) (hst : Nat.ble (st.map fun v => v.category).sum 8 = true)
    (hk : ∀ S1 : mj_S, Qv S1 → mj_Ok Γ d M k n (pc + 3) lv st S1 P) : mj_Ok Γ d M (k + mc) (n + ms) pc lv (v1 :: .ref a :: st) S P := mz_callV1 hd hM hcw hw hq hqc ha he hd1 hst (fun r S1 ⟨e, q⟩ => by subst e; exact hk S1 q)
theorem mz_callS1v {idx : Nat} {v1 : Value} (hd : decode M.cc pc = .ok (.invokestatic idx, 3)) (hM : mj_Met Γ d1 y M1 [v1] S mc ms (mj_V Qv)) (hcw : mj_cw y M1 1) (hw : Cond.methodLink M.own idx y ∈ mj_tb ∧ Cond.static y ∈ mj_tb)
    (hd1 : d1 < d) (hst : Nat.ble (st.map fun v => v.category).sum 8 = true)
    (hk : ∀ S1 : mj_S, Qv S1 → mj_Ok Γ d M k n (pc + 3) lv st S1 P) : mj_Ok Γ d M (k + mc) (n + ms) pc lv (v1 :: st) S P := mz_callS1 hd hM hcw hw hd1 hst (fun r S1 ⟨e, q⟩ => by subst e; exact hk S1 q)
theorem mz_callSN1v {idx : Nat} {v1 : Value} (hd : decode M.cc pc = .ok (.invokestatic idx, 3)) (hM : mj_Met Γ d1 y M1 [v1] S mc ms (mj_V Qv)) (hcw : mj_cw y M1 1) (hw : Cond.methodLinkNest M.own idx y "IsomerList" ∈ lw_tbl ∧ Cond.static y ∈ mj_tb)
    (hd1 : d1 < d) (hst : Nat.ble (st.map fun v => v.category).sum 8 = true)
    (hk : ∀ S1 : mj_S, Qv S1 → mj_Ok Γ d M k n (pc + 3) lv st S1 P) : mj_Ok Γ d M (k + mc) (n + ms) pc lv (v1 :: st) S P := mz_callSN1 hd hM hcw hw hd1 hst (fun r S1 ⟨e, q⟩ => by subst e; exact hk S1 q)
theorem mz_callV2i {idx a ci : Nat} {q : vw_C} {fs : List Value} {v1 v2 : Value} (hd : decode M.cc pc = .ok (.invokevirtual idx, 3)) (hM : mj_Met Γ d1 y M1 (.ref a :: [v1, v2]) S mc ms (mj_I Qi)) (hcw : mj_cw y M1 2) (hw : Cond.methodLink M.own idx y ∈ mj_tb ∧ Cond.instanceMethod y ∈ mj_tb ∧ Cond.selects y.cls y y ∈ mj_tb)
    (hq : mj_cl[ci]? = some q) (hqc : q.1 = y.cls) (ha : a < S.2.1) (he : S.1 a = .inr (ci, fs)) (hd1 : d1 < d) (hst : Nat.ble (st.map fun v => v.category).sum 8 = true)
    (hk : ∀ (z : Int) (S1 : mj_S), Qi z S1 → mj_Ok Γ d M k n (pc + 3) lv (.int (iZ z) :: st) S1 P) : mj_Ok Γ d M (k + mc) (n + ms) pc lv (v2 :: v1 :: .ref a :: st) S P := mz_callV2 hd hM hcw hw hq hqc ha he hd1 hst (fun r S1 ⟨z, e, q⟩ => by subst e; exact hk z S1 q)
theorem mz_callS2i {idx : Nat} {v1 v2 : Value} (hd : decode M.cc pc = .ok (.invokestatic idx, 3)) (hM : mj_Met Γ d1 y M1 [v1, v2] S mc ms (mj_I Qi)) (hcw : mj_cw y M1 2) (hw : Cond.methodLink M.own idx y ∈ mj_tb ∧ Cond.static y ∈ mj_tb)
    (hd1 : d1 < d) (hst : Nat.ble (st.map fun v => v.category).sum 8 = true)
    (hk : ∀ (z : Int) (S1 : mj_S), Qi z S1 → mj_Ok Γ d M k n (pc + 3) lv (.int (iZ z) :: st) S1 P) : mj_Ok Γ d M (k + mc) (n + ms) pc lv (v2 :: v1 :: st) S P := mz_callS2 hd hM hcw hw hd1 hst (fun r S1 ⟨z, e, q⟩ => by subst e; exact hk z S1 q)
theorem mz_callSN2i {idx : Nat} {v1 v2 : Value} (hd : decode M.cc pc = .ok (.invokestatic idx, 3)) (hM : mj_Met Γ d1 y M1 [v1, v2] S mc ms (mj_I Qi)) (hcw : mj_cw y M1 2) (hw : Cond.methodLinkNest M.own idx y "IsomerList" ∈ lw_tbl ∧ Cond.static y ∈ mj_tb)
    (hd1 : d1 < d) (hst : Nat.ble (st.map fun v => v.category).sum 8 = true)
    (hk : ∀ (z : Int) (S1 : mj_S), Qi z S1 → mj_Ok Γ d M k n (pc + 3) lv (.int (iZ z) :: st) S1 P) : mj_Ok Γ d M (k + mc) (n + ms) pc lv (v2 :: v1 :: st) S P := mz_callSN2 hd hM hcw hw hd1 hst (fun r S1 ⟨z, e, q⟩ => by subst e; exact hk z S1 q)
theorem mz_callV2v {idx a ci : Nat} {q : vw_C} {fs : List Value} {v1 v2 : Value} (hd : decode M.cc pc = .ok (.invokevirtual idx, 3)) (hM : mj_Met Γ d1 y M1 (.ref a :: [v1, v2]) S mc ms (mj_V Qv)) (hcw : mj_cw y M1 2) (hw : Cond.methodLink M.own idx y ∈ mj_tb ∧ Cond.instanceMethod y ∈ mj_tb ∧ Cond.selects y.cls y y ∈ mj_tb)
    (hq : mj_cl[ci]? = some q) (hqc : q.1 = y.cls) (ha : a < S.2.1) (he : S.1 a = .inr (ci, fs)) (hd1 : d1 < d) (hst : Nat.ble (st.map fun v => v.category).sum 8 = true)
    (hk : ∀ S1 : mj_S, Qv S1 → mj_Ok Γ d M k n (pc + 3) lv st S1 P) : mj_Ok Γ d M (k + mc) (n + ms) pc lv (v2 :: v1 :: .ref a :: st) S P := mz_callV2 hd hM hcw hw hq hqc ha he hd1 hst (fun r S1 ⟨e, q⟩ => by subst e; exact hk S1 q)
theorem mz_callS2v {idx : Nat} {v1 v2 : Value} (hd : decode M.cc pc = .ok (.invokestatic idx, 3)) (hM : mj_Met Γ d1 y M1 [v1, v2] S mc ms (mj_V Qv)) (hcw : mj_cw y M1 2) (hw : Cond.methodLink M.own idx y ∈ mj_tb ∧ Cond.static y ∈ mj_tb)
    (hd1 : d1 < d) (hst : Nat.ble (st.map fun v => v.category).sum 8 = true)
    (hk : ∀ S1 : mj_S, Qv S1 → mj_Ok Γ d M k n (pc + 3) lv st S1 P) : mj_Ok Γ d M (k + mc) (n + ms) pc lv (v2 :: v1 :: st) S P := mz_callS2 hd hM hcw hw hd1 hst (fun r S1 ⟨e, q⟩ => by subst e; exact hk S1 q)
theorem mz_callSN2v {idx : Nat} {v1 v2 : Value} (hd : decode M.cc pc = .ok (.invokestatic idx, 3)) (hM : mj_Met Γ d1 y M1 [v1, v2] S mc ms (mj_V Qv)) (hcw : mj_cw y M1 2) (hw : Cond.methodLinkNest M.own idx y "IsomerList" ∈ lw_tbl ∧ Cond.static y ∈ mj_tb)
    (hd1 : d1 < d) (hst : Nat.ble (st.map fun v => v.category).sum 8 = true)
    (hk : ∀ S1 : mj_S, Qv S1 → mj_Ok Γ d M k n (pc + 3) lv st S1 P) : mj_Ok Γ d M (k + mc) (n + ms) pc lv (v2 :: v1 :: st) S P := mz_callSN2 hd hM hcw hw hd1 hst (fun r S1 ⟨e, q⟩ => by subst e; exact hk S1 q)
theorem mz_callV3i {idx a ci : Nat} {q : vw_C} {fs : List Value} {v1 v2 v3 : Value} (hd : decode M.cc pc = .ok (.invokevirtual idx, 3)) (hM : mj_Met Γ d1 y M1 (.ref a :: [v1, v2, v3]) S mc ms (mj_I Qi)) (hcw : mj_cw y M1 3) (hw : Cond.methodLink M.own idx y ∈ mj_tb ∧ Cond.instanceMethod y ∈ mj_tb ∧ Cond.selects y.cls y y ∈ mj_tb)
    (hq : mj_cl[ci]? = some q) (hqc : q.1 = y.cls) (ha : a < S.2.1) (he : S.1 a = .inr (ci, fs)) (hd1 : d1 < d) (hst : Nat.ble (st.map fun v => v.category).sum 8 = true)
    (hk : ∀ (z : Int) (S1 : mj_S), Qi z S1 → mj_Ok Γ d M k n (pc + 3) lv (.int (iZ z) :: st) S1 P) : mj_Ok Γ d M (k + mc) (n + ms) pc lv (v3 :: v2 :: v1 :: .ref a :: st) S P := mz_callV3 hd hM hcw hw hq hqc ha he hd1 hst (fun r S1 ⟨z, e, q⟩ => by subst e; exact hk z S1 q)
theorem mz_callS3i {idx : Nat} {v1 v2 v3 : Value} (hd : decode M.cc pc = .ok (.invokestatic idx, 3)) (hM : mj_Met Γ d1 y M1 [v1, v2, v3] S mc ms (mj_I Qi)) (hcw : mj_cw y M1 3) (hw : Cond.methodLink M.own idx y ∈ mj_tb ∧ Cond.static y ∈ mj_tb)
    (hd1 : d1 < d) (hst : Nat.ble (st.map fun v => v.category).sum 8 = true)
    (hk : ∀ (z : Int) (S1 : mj_S), Qi z S1 → mj_Ok Γ d M k n (pc + 3) lv (.int (iZ z) :: st) S1 P) : mj_Ok Γ d M (k + mc) (n + ms) pc lv (v3 :: v2 :: v1 :: st) S P := mz_callS3 hd hM hcw hw hd1 hst (fun r S1 ⟨z, e, q⟩ => by subst e; exact hk z S1 q)
theorem mz_callSN3i {idx : Nat} {v1 v2 v3 : Value} (hd : decode M.cc pc = .ok (.invokestatic idx, 3)) (hM : mj_Met Γ d1 y M1 [v1, v2, v3] S mc ms (mj_I Qi)) (hcw : mj_cw y M1 3) (hw : Cond.methodLinkNest M.own idx y "IsomerList" ∈ lw_tbl ∧ Cond.static y ∈ mj_tb)
    (hd1 : d1 < d) (hst : Nat.ble (st.map fun v => v.category).sum 8 = true)
    (hk : ∀ (z : Int) (S1 : mj_S), Qi z S1 → mj_Ok Γ d M k n (pc + 3) lv (.int (iZ z) :: st) S1 P) : mj_Ok Γ d M (k + mc) (n + ms) pc lv (v3 :: v2 :: v1 :: st) S P := mz_callSN3 hd hM hcw hw hd1 hst (fun r S1 ⟨z, e, q⟩ => by subst e; exact hk z S1 q)
theorem mz_callV3v {idx a ci : Nat} {q : vw_C} {fs : List Value} {v1 v2 v3 : Value} (hd : decode M.cc pc = .ok (.invokevirtual idx, 3)) (hM : mj_Met Γ d1 y M1 (.ref a :: [v1, v2, v3]) S mc ms (mj_V Qv)) (hcw : mj_cw y M1 3) (hw : Cond.methodLink M.own idx y ∈ mj_tb ∧ Cond.instanceMethod y ∈ mj_tb ∧ Cond.selects y.cls y y ∈ mj_tb)
    (hq : mj_cl[ci]? = some q) (hqc : q.1 = y.cls) (ha : a < S.2.1) (he : S.1 a = .inr (ci, fs)) (hd1 : d1 < d) (hst : Nat.ble (st.map fun v => v.category).sum 8 = true)
    (hk : ∀ S1 : mj_S, Qv S1 → mj_Ok Γ d M k n (pc + 3) lv st S1 P) : mj_Ok Γ d M (k + mc) (n + ms) pc lv (v3 :: v2 :: v1 :: .ref a :: st) S P := mz_callV3 hd hM hcw hw hq hqc ha he hd1 hst (fun r S1 ⟨e, q⟩ => by subst e; exact hk S1 q)
theorem mz_callS3v {idx : Nat} {v1 v2 v3 : Value} (hd : decode M.cc pc = .ok (.invokestatic idx, 3)) (hM : mj_Met Γ d1 y M1 [v1, v2, v3] S mc ms (mj_V Qv)) (hcw : mj_cw y M1 3) (hw : Cond.methodLink M.own idx y ∈ mj_tb ∧ Cond.static y ∈ mj_tb)
    (hd1 : d1 < d) (hst : Nat.ble (st.map fun v => v.category).sum 8 = true)
    (hk : ∀ S1 : mj_S, Qv S1 → mj_Ok Γ d M k n (pc + 3) lv st S1 P) : mj_Ok Γ d M (k + mc) (n + ms) pc lv (v3 :: v2 :: v1 :: st) S P := mz_callS3 hd hM hcw hw hd1 hst (fun r S1 ⟨e, q⟩ => by subst e; exact hk S1 q)
theorem mz_callSN3v {idx : Nat} {v1 v2 v3 : Value} (hd : decode M.cc pc = .ok (.invokestatic idx, 3)) (hM : mj_Met Γ d1 y M1 [v1, v2, v3] S mc ms (mj_V Qv)) (hcw : mj_cw y M1 3) (hw : Cond.methodLinkNest M.own idx y "IsomerList" ∈ lw_tbl ∧ Cond.static y ∈ mj_tb)
    (hd1 : d1 < d) (hst : Nat.ble (st.map fun v => v.category).sum 8 = true)
    (hk : ∀ S1 : mj_S, Qv S1 → mj_Ok Γ d M k n (pc + 3) lv st S1 P) : mj_Ok Γ d M (k + mc) (n + ms) pc lv (v3 :: v2 :: v1 :: st) S P := mz_callSN3 hd hM hcw hw hd1 hst (fun r S1 ⟨e, q⟩ => by subst e; exact hk S1 q)
theorem mz_callV4i {idx a ci : Nat} {q : vw_C} {fs : List Value} {v1 v2 v3 v4 : Value} (hd : decode M.cc pc = .ok (.invokevirtual idx, 3)) (hM : mj_Met Γ d1 y M1 (.ref a :: [v1, v2, v3, v4]) S mc ms (mj_I Qi)) (hcw : mj_cw y M1 4) (hw : Cond.methodLink M.own idx y ∈ mj_tb ∧ Cond.instanceMethod y ∈ mj_tb ∧ Cond.selects y.cls y y ∈ mj_tb)
    (hq : mj_cl[ci]? = some q) (hqc : q.1 = y.cls) (ha : a < S.2.1) (he : S.1 a = .inr (ci, fs)) (hd1 : d1 < d) (hst : Nat.ble (st.map fun v => v.category).sum 8 = true)
    (hk : ∀ (z : Int) (S1 : mj_S), Qi z S1 → mj_Ok Γ d M k n (pc + 3) lv (.int (iZ z) :: st) S1 P) : mj_Ok Γ d M (k + mc) (n + ms) pc lv (v4 :: v3 :: v2 :: v1 :: .ref a :: st) S P := mz_callV4 hd hM hcw hw hq hqc ha he hd1 hst (fun r S1 ⟨z, e, q⟩ => by subst e; exact hk z S1 q)
theorem mz_callS4i {idx : Nat} {v1 v2 v3 v4 : Value} (hd : decode M.cc pc = .ok (.invokestatic idx, 3)) (hM : mj_Met Γ d1 y M1 [v1, v2, v3, v4] S mc ms (mj_I Qi)) (hcw : mj_cw y M1 4) (hw : Cond.methodLink M.own idx y ∈ mj_tb ∧ Cond.static y ∈ mj_tb)
    (hd1 : d1 < d) (hst : Nat.ble (st.map fun v => v.category).sum 8 = true)
    (hk : ∀ (z : Int) (S1 : mj_S), Qi z S1 → mj_Ok Γ d M k n (pc + 3) lv (.int (iZ z) :: st) S1 P) : mj_Ok Γ d M (k + mc) (n + ms) pc lv (v4 :: v3 :: v2 :: v1 :: st) S P := mz_callS4 hd hM hcw hw hd1 hst (fun r S1 ⟨z, e, q⟩ => by subst e; exact hk z S1 q)
theorem mz_callSN4i {idx : Nat} {v1 v2 v3 v4 : Value} (hd : decode M.cc pc = .ok (.invokestatic idx, 3)) (hM : mj_Met Γ d1 y M1 [v1, v2, v3, v4] S mc ms (mj_I Qi)) (hcw : mj_cw y M1 4) (hw : Cond.methodLinkNest M.own idx y "IsomerList" ∈ lw_tbl ∧ Cond.static y ∈ mj_tb)
    (hd1 : d1 < d) (hst : Nat.ble (st.map fun v => v.category).sum 8 = true)
    (hk : ∀ (z : Int) (S1 : mj_S), Qi z S1 → mj_Ok Γ d M k n (pc + 3) lv (.int (iZ z) :: st) S1 P) : mj_Ok Γ d M (k + mc) (n + ms) pc lv (v4 :: v3 :: v2 :: v1 :: st) S P := mz_callSN4 hd hM hcw hw hd1 hst (fun r S1 ⟨z, e, q⟩ => by subst e; exact hk z S1 q)
theorem mz_callV4v {idx a ci : Nat} {q : vw_C} {fs : List Value} {v1 v2 v3 v4 : Value} (hd : decode M.cc pc = .ok (.invokevirtual idx, 3)) (hM : mj_Met Γ d1 y M1 (.ref a :: [v1, v2, v3, v4]) S mc ms (mj_V Qv)) (hcw : mj_cw y M1 4) (hw : Cond.methodLink M.own idx y ∈ mj_tb ∧ Cond.instanceMethod y ∈ mj_tb ∧ Cond.selects y.cls y y ∈ mj_tb)
    (hq : mj_cl[ci]? = some q) (hqc : q.1 = y.cls) (ha : a < S.2.1) (he : S.1 a = .inr (ci, fs)) (hd1 : d1 < d) (hst : Nat.ble (st.map fun v => v.category).sum 8 = true)
    (hk : ∀ S1 : mj_S, Qv S1 → mj_Ok Γ d M k n (pc + 3) lv st S1 P) : mj_Ok Γ d M (k + mc) (n + ms) pc lv (v4 :: v3 :: v2 :: v1 :: .ref a :: st) S P := mz_callV4 hd hM hcw hw hq hqc ha he hd1 hst (fun r S1 ⟨e, q⟩ => by subst e; exact hk S1 q)
theorem mz_callS4v {idx : Nat} {v1 v2 v3 v4 : Value} (hd : decode M.cc pc = .ok (.invokestatic idx, 3)) (hM : mj_Met Γ d1 y M1 [v1, v2, v3, v4] S mc ms (mj_V Qv)) (hcw : mj_cw y M1 4) (hw : Cond.methodLink M.own idx y ∈ mj_tb ∧ Cond.static y ∈ mj_tb)
    (hd1 : d1 < d) (hst : Nat.ble (st.map fun v => v.category).sum 8 = true)
    (hk : ∀ S1 : mj_S, Qv S1 → mj_Ok Γ d M k n (pc + 3) lv st S1 P) : mj_Ok Γ d M (k + mc) (n + ms) pc lv (v4 :: v3 :: v2 :: v1 :: st) S P := mz_callS4 hd hM hcw hw hd1 hst (fun r S1 ⟨e, q⟩ => by subst e; exact hk S1 q)
theorem mz_callSN4v {idx : Nat} {v1 v2 v3 v4 : Value} (hd : decode M.cc pc = .ok (.invokestatic idx, 3)) (hM : mj_Met Γ d1 y M1 [v1, v2, v3, v4] S mc ms (mj_V Qv)) (hcw : mj_cw y M1 4) (hw : Cond.methodLinkNest M.own idx y "IsomerList" ∈ lw_tbl ∧ Cond.static y ∈ mj_tb)
    (hd1 : d1 < d) (hst : Nat.ble (st.map fun v => v.category).sum 8 = true)
    (hk : ∀ S1 : mj_S, Qv S1 → mj_Ok Γ d M k n (pc + 3) lv st S1 P) : mj_Ok Γ d M (k + mc) (n + ms) pc lv (v4 :: v3 :: v2 :: v1 :: st) S P := mz_callSN4 hd hM hcw hw hd1 hst (fun r S1 ⟨e, q⟩ => by subst e; exact hk S1 q)
theorem mz_callI0v {idx a : Nat} (hd : decode M.cc pc = .ok (.invokespecial idx, 3)) (hM : mj_Met Γ d1 y M1 (.ref a :: []) S mc ms (mj_V Qv)) (hcw : mj_cw y M1 0) (hw : Cond.methodLink M.own idx y ∈ mj_tb ∧ Cond.instanceMethod y ∈ mj_tb ∧ y.name = "<init>") (hrn : M1.ret = none)
    (hd1 : d1 < d) (hst : Nat.ble (st.map fun v => v.category).sum 8 = true)
    (hk : ∀ S1 : mj_S, Qv S1 → mj_Ok Γ d M k n (pc + 3) lv st S1 P) : mj_Ok Γ d M (k + mc) (n + ms) pc lv (.ref a :: st) S P := mz_callI0 hd hM hcw hw hrn hd1 hst (fun r S1 ⟨e, q⟩ => by subst e; exact hk S1 q)
theorem mz_callIN0v {idx a : Nat} (hd : decode M.cc pc = .ok (.invokespecial idx, 3)) (hM : mj_Met Γ d1 y M1 (.ref a :: []) S mc ms (mj_V Qv)) (hcw : mj_cw y M1 0) (hw : Cond.methodLinkNest M.own idx y "IsomerList" ∈ lw_tbl ∧ Cond.instanceMethod y ∈ mj_tb ∧ y.name = "<init>") (hrn : M1.ret = none)
    (hd1 : d1 < d) (hst : Nat.ble (st.map fun v => v.category).sum 8 = true)
    (hk : ∀ S1 : mj_S, Qv S1 → mj_Ok Γ d M k n (pc + 3) lv st S1 P) : mj_Ok Γ d M (k + mc) (n + ms) pc lv (.ref a :: st) S P := mz_callIN0 hd hM hcw hw hrn hd1 hst (fun r S1 ⟨e, q⟩ => by subst e; exact hk S1 q)
theorem mz_callI1v {idx a : Nat} {v1 : Value} (hd : decode M.cc pc = .ok (.invokespecial idx, 3)) (hM : mj_Met Γ d1 y M1 (.ref a :: [v1]) S mc ms (mj_V Qv)) (hcw : mj_cw y M1 1) (hw : Cond.methodLink M.own idx y ∈ mj_tb ∧ Cond.instanceMethod y ∈ mj_tb ∧ y.name = "<init>") (hrn : M1.ret = none)
    (hd1 : d1 < d) (hst : Nat.ble (st.map fun v => v.category).sum 8 = true)
    (hk : ∀ S1 : mj_S, Qv S1 → mj_Ok Γ d M k n (pc + 3) lv st S1 P) : mj_Ok Γ d M (k + mc) (n + ms) pc lv (v1 :: .ref a :: st) S P := mz_callI1 hd hM hcw hw hrn hd1 hst (fun r S1 ⟨e, q⟩ => by subst e; exact hk S1 q)
theorem mz_callIN1v {idx a : Nat} {v1 : Value} (hd : decode M.cc pc = .ok (.invokespecial idx, 3)) (hM : mj_Met Γ d1 y M1 (.ref a :: [v1]) S mc ms (mj_V Qv)) (hcw : mj_cw y M1 1) (hw : Cond.methodLinkNest M.own idx y "IsomerList" ∈ lw_tbl ∧ Cond.instanceMethod y ∈ mj_tb ∧ y.name = "<init>") (hrn : M1.ret = none)
    (hd1 : d1 < d) (hst : Nat.ble (st.map fun v => v.category).sum 8 = true)
    (hk : ∀ S1 : mj_S, Qv S1 → mj_Ok Γ d M k n (pc + 3) lv st S1 P) : mj_Ok Γ d M (k + mc) (n + ms) pc lv (v1 :: .ref a :: st) S P := mz_callIN1 hd hM hcw hw hrn hd1 hst (fun r S1 ⟨e, q⟩ => by subst e; exact hk S1 q)
end MJ10
end
section
/-! the line of characters (ids 1, 2); the tables of signs; Math, Arrays.fill -/
def mj_FST : Nat → Int := fun j => ([67, 78, 79, 83, 80, 70, 67, 66, 73, 72] : List Int).getD j 0
def mj_SND : Nat → Int := fun j => ([0, 0, 0, 0, 0, 0, 108, 114, 0, 0] : List Int).getD j 0
def mj_VAL : Nat → Int := fun j => ([4, 3, 2, 2, 3, 1, 1, 1, 1, 1] : List Int).getD j 0
def mj_tab (Γ : mj_G) : Prop := Γ.ro 0 = (10, .inl (mj_z mj_VAL)) ∧ Γ.ro 1 = (10, .inl (mj_z mj_FST)) ∧ Γ.ro 2 = (10, .inl (mj_z mj_SND))
theorem mj_FST_r (j : Nat) : 0 ≤ mj_FST j ∧ mj_FST j < 128 := by
  by_cases h : j < 10
  · have : ∀ i, i < 10 → 0 ≤ mj_FST i ∧ mj_FST i < 128 := by decide
    exact this j h
  · unfold mj_FST
    rw [List.getD_eq_getElem?_getD, List.getElem?_eq_none (by simp; omega)]
    decide
theorem mj_SND_r (j : Nat) : 0 ≤ mj_SND j ∧ mj_SND j < 128 := by
  by_cases h : j < 10
  · have : ∀ i, i < 10 → 0 ≤ mj_SND i ∧ mj_SND i < 128 := by decide
    exact this j h
  · unfold mj_SND
    rw [List.getD_eq_getElem?_getD, List.getElem?_eq_none (by simp; omega)]
    decide
/-- the line's cells -/
def mj_ln (S : mj_S) (n : Nat) (C : Nat → Int) : Prop := S.1 1 = .inr (1, [.ref 2, .int (iZ n)]) ∧ S.1 2 = .inl (1, 60, .inl (mj_z C)) ∧ n ≤ 60 ∧ ∀ j, 0 ≤ C j ∧ C j < 65536
def ln_at (n : Nat) (C : Nat → Int) (k : Int) : Int := if 0 ≤ k ∧ k < n then C k.toNat else 32
theorem ln_at_r {n : Nat} {C : Nat → Int} (hC : ∀ j, 0 ≤ C j ∧ C j < 65536) (k : Int) : 0 ≤ ln_at n C k ∧ ln_at n C k < 65536 := by
  unfold ln_at
  split
  · exact hC _
  · decide
section LN
variable {Γ : mj_G} {d n : Nat} {S : mj_S} {C : Nat → Int}
theorem mz_mmax {M : mj_M} {k n pc idx : Nat} {lv st : List Value} {P : mj_O → mj_S → Prop} {x y : Int} (hd : decode M.cc pc = .ok (.invokestatic idx, 3)) (hw : Cond.methodLink M.own idx y_Ma_max ∈ mj_tb ∧ Cond.static y_Ma_max ∈ mj_tb) (hd0 : 0 < d) (hst : Nat.ble (st.map fun v => v.category).sum 8 = true) (hx : iR x) (hy : iR y)
    (h : mj_Ok Γ d M k n (pc + 3) lv (.int (iZ (max x y)) :: st) S P) : mj_Ok Γ d M k n pc lv (.int (iZ y) :: .int (iZ x) :: st) S P := by
  intro p e R s m args below meth c H locs cells slots ls hX hS hW hL hN
  have hX0 := hX
  obtain ⟨x1, x2, x3, x4, x5, x6, x7, x8, x9, x10, x11, x12⟩ := hX
  have hts := x7.w args
  have h8 : ((st.map (mj_v Γ)).map fun v => v.category).sum ≤ 8 := by
    have : (st.map (mj_v Γ)).map (fun v => v.category) = st.map (fun v => v.category) := by simp [mj_v_cat]
    rw [this]
    exact Nat.le_of_ble_eq_true hst
  have kk := h p e R s m args below meth c H locs cells slots ls hX0 hS hW hL hN
  have e1 : iZ (max x y) = if iZ x < iZ y then iZ y else iZ x := by
    by_cases q : x < y
    · rw [if_pos ((iZ_lt hx hy).mpr q), Int.max_eq_right (by omega)]
    · rw [if_neg (fun z => q ((iZ_lt hx hy).mp z)), Int.max_eq_left (by omega)]
  rw [mj_map_cons, show mj_v Γ (.int (iZ (max x y))) = .int (if iZ x < iZ y then iZ y else iZ x) from congrArg Value.int e1] at kk
  exact va_mmax x1 x2 (x5.trans (hL.1.trans hN).symm) x6 (hts _ hw.1) (hts _ hw.2) (hts _ ini_Ma) (hts _ cw_Ma_max.1) (by omega) (by omega) (by omega) (by omega) hd kk
theorem mz_mmin {M : mj_M} {k n pc idx : Nat} {lv st : List Value} {P : mj_O → mj_S → Prop} {x y : Int} (hd : decode M.cc pc = .ok (.invokestatic idx, 3)) (hw : Cond.methodLink M.own idx y_Ma_min ∈ mj_tb ∧ Cond.static y_Ma_min ∈ mj_tb) (hd0 : 0 < d) (hst : Nat.ble (st.map fun v => v.category).sum 8 = true) (hx : iR x) (hy : iR y)
    (h : mj_Ok Γ d M k n (pc + 3) lv (.int (iZ (min x y)) :: st) S P) : mj_Ok Γ d M k n pc lv (.int (iZ y) :: .int (iZ x) :: st) S P := by
  intro p e R s m args below meth c H locs cells slots ls hX hS hW hL hN
  have hX0 := hX
  obtain ⟨x1, x2, x3, x4, x5, x6, x7, x8, x9, x10, x11, x12⟩ := hX
  have hts := x7.w args
  have h8 : ((st.map (mj_v Γ)).map fun v => v.category).sum ≤ 8 := by
    have : (st.map (mj_v Γ)).map (fun v => v.category) = st.map (fun v => v.category) := by simp [mj_v_cat]
    rw [this]
    exact Nat.le_of_ble_eq_true hst
  have kk := h p e R s m args below meth c H locs cells slots ls hX0 hS hW hL hN
  have e1 : iZ (min x y) = if iZ y < iZ x then iZ y else iZ x := by
    by_cases q : y < x
    · rw [if_pos ((iZ_lt hy hx).mpr q), Int.min_eq_right (by omega)]
    · rw [if_neg (fun z => q ((iZ_lt hy hx).mp z)), Int.min_eq_left (by omega)]
  rw [mj_map_cons, show mj_v Γ (.int (iZ (min x y))) = .int (if iZ y < iZ x then iZ y else iZ x) from congrArg Value.int e1] at kk
  exact va_mmin x1 x2 (x5.trans (hL.1.trans hN).symm) x6 (hts _ hw.1) (hts _ hw.2) (hts _ ini_Ma) (hts _ cw_Ma_min.1) (by omega) (by omega) (by omega) (by omega) hd kk
/-- filled up to i -/
def mj_fl (A : Nat → Int) (v : Int) (i : Nat) : Nat → Int := fun j => if j < i then v else A j
theorem mj_fl_up (A : Nat → Int) (v : Int) (i : Nat) : va_up (mj_fl A v i) i v = mj_fl A v (i + 1) := by
  funext j
  by_cases h : j = i
  · subst h; simp [mj_fl, va_up]
  · by_cases h2 : j < i
    · simp [mj_fl, va_up, h, h2, Nat.lt_succ_of_lt h2]
    · simp [mj_fl, va_up, h, h2, show ¬ j < i + 1 by omega]
theorem m_Ar_fill {a N : Nat} {A : Nat → Int} {v : Int} (ha : a < S.2.1) (he : S.1 a = .inl (0, N, .inl (mj_z A))) (hN : N < 100000) : mj_Met Γ d y_Ar_fill M_Ar_fill [.ref a, .int (iZ v)] S 0 0 (mj_V fun S' => mj_fr S S' [a] ∧ S'.1 a = .inl (0, N, .inl (mj_z (mj_fl A v N)))) := by
  refine mj_Met.of (by decide) ⟨rfl, rfl⟩ rfl rfl rfl ?_
  refine mz_iconst d_Ar_fill_0 ?_
  refine mz_ist2 d_Ar_fill_1 (rfl) ?_
  refine mj_aload_n d_Ar_fill_2 rfl ?_
  refine mj_alen d_Ar_fill_3 ha he rfl ?_
  refine mz_ist3 d_Ar_fill_4 (rfl) ?_
  have loop : ∀ (m i : Nat) (S1 : mj_S), i + m = N → mj_fr S S1 [a] → S1.1 a = .inl (0, N, .inl (mj_z (mj_fl A v i))) → mj_Ok Γ d M_Ar_fill 0 0 5 [.ref a, .int (iZ v), .int (iZ (i : Int)), .int (iZ (N : Int))] [] S1 (mj_V fun S' => mj_fr S S' [a] ∧ S'.1 a = .inl (0, N, .inl (mj_z (mj_fl A v N)))) := by
    intro m
    induction m with
    | zero =>
      intro i S1 hi hf h1
      refine mj_iload_n d_Ar_fill_5 rfl ?_
      refine mj_iload_n d_Ar_fill_6 rfl ?_
      refine mz_icmp_ge 20 d_Ar_fill_7 (by decide) (by omega) (by omega) (fun c_7 => ?_) (fun c_7 => ?_)
      · refine mz_vret d_Ar_fill_20 rfl ?_
        rw [show i = N by omega] at h1
        exact ⟨hf, h1⟩
      · omega
    | succ m ih =>
      intro i S1 hi hf h1
      have hw := hf.w
      refine mj_iload_n d_Ar_fill_5 rfl ?_
      refine mj_iload_n d_Ar_fill_6 rfl ?_
      refine mz_icmp_ge 20 d_Ar_fill_7 (by decide) (by omega) (by omega) (fun c_7 => ?_) (fun c_7 => ?_)
      · omega
      · refine mj_aload_n d_Ar_fill_10 rfl ?_
        refine mj_iload_n d_Ar_fill_11 rfl ?_
        refine mj_iload_n d_Ar_fill_12 rfl ?_
        refine mz_iast d_Ar_fill_13 (by omega) (by assumption) (rfl) (by omega) (fun S_13 w_13 e_13 f_13 => ?_) (by omega)
        refine mz_inc2 d_Ar_fill_14 (rfl) ?_
        refine mj_goto 5 d_Ar_fill_17 (by decide) ?_
        exact ih (i + 1) S_13 (by omega) (hf.tr f_13 (by simp) (by simp)) (by rw [e_13, mj_fl_up])
  exact loop N 0 S (by omega) (mj_fr.rf _ _) (by rw [he]; congr 3)
theorem m_Ln_at (hw : S.2.1 = 62) (h : mj_ln S n C) {k : Int} (hk : iR k) : mj_Met Γ d y_Ln_at M_Ln_at [.ref 1, .int (iZ k)] S 0 0 (mj_I fun z S' => S' = S ∧ z = ln_at n C k) := by
  obtain ⟨h1, h2, h3, h4⟩ := h
  refine mj_Met.of (by decide) ⟨rfl, rfl⟩ rfl rfl rfl ?_
  refine mj_iload_n d_Ln_at_0 rfl ?_
  refine mz_if_lt 21 d_Ln_at_1 (by decide) (by omega) (fun c_1 => ?_) (fun c_1 => ?_)
  · refine mz_bipush d_Ln_at_21 (by decide) ?_
    refine mz_iret d_Ln_at_23 rfl (mj_narC (by decide) (by decide)) ?_
    exact ⟨rfl, by unfold ln_at; rw [if_neg (by omega)]⟩
  · refine mj_iload_n d_Ln_at_4 rfl ?_
    refine mj_aload_n d_Ln_at_5 rfl ?_
    refine mj_get (ci := 1) (j := 1) d_Ln_at_6 rfl w_Ln_15 (by decide) (by omega) (by assumption) rfl ?_
    refine mz_icmp_ge 21 d_Ln_at_9 (by decide) (by omega) (by omega) (fun c_9 => ?_) (fun c_9 => ?_)
    · refine mz_bipush d_Ln_at_21 (by decide) ?_
      refine mz_iret d_Ln_at_23 rfl (mj_narC (by decide) (by decide)) ?_
      exact ⟨rfl, by unfold ln_at; rw [if_neg (by omega)]⟩
    · refine mj_aload_n d_Ln_at_12 rfl ?_
      refine mj_get (ci := 1) (j := 0) d_Ln_at_13 rfl w_Ln_9 (by decide) (by omega) (by assumption) rfl ?_
      refine mj_iload_n d_Ln_at_16 rfl ?_
      refine mz_cald (j := k.toNat) d_Ln_at_17 (by omega) (by assumption) (by omega) (by omega) ?_
      refine mj_goto 23 d_Ln_at_18 (by decide) ?_
      refine mz_iret d_Ln_at_23 rfl (mj_narC (h4 _).1 (h4 _).2) ?_
      exact ⟨rfl, by unfold ln_at; rw [if_pos (by omega)]⟩
theorem m_Ln_clear (hw : S.2.1 = 62) (h : mj_ln S n C) : mj_Met Γ d y_Ln_clear M_Ln_clear [.ref 1] S 0 0 (mj_V fun S' => mj_fr S S' [1] ∧ mj_ln S' 0 C) := by
  obtain ⟨h1, h2, h3, h4⟩ := h
  refine mj_Met.of (by decide) ⟨rfl, rfl⟩ rfl rfl rfl ?_
  refine mj_aload_n d_Ln_clear_0 rfl ?_
  refine mz_iconst d_Ln_clear_1 ?_
  refine mz_put (ci := 1) (j := 1) d_Ln_clear_2 rfl w_Ln_15 (by decide) rfl (by omega) (by assumption) (Nat.le_of_ble_eq_true rfl) (mj_fit_int _) rfl (fun S_2 w_2 e_2 f_2 => ?_)
  refine mz_vret d_Ln_clear_5 rfl ?_
  exact ⟨f_2, e_2, f_2.at h2 (by decide), by decide, h4⟩
theorem m_Ln_add (hw : S.2.1 = 62) (h : mj_ln S n C) {c : Int} (hc : 0 ≤ c ∧ c < 65536) : mj_Met Γ d y_Ln_add M_Ln_add [.ref 1, .int (iZ c)] S 0 0 (mj_V fun S' => mj_fr S S' [1, 2] ∧ if n < 60 then mj_ln S' (n + 1) (va_up C n c) else mj_ln S' n C) := by
  obtain ⟨h1, h2, h3, h4⟩ := h
  refine mj_Met.of (by decide) ⟨rfl, rfl⟩ rfl rfl rfl ?_
  refine mj_aload_n d_Ln_add_0 rfl ?_
  refine mj_get (ci := 1) (j := 1) d_Ln_add_1 rfl w_Ln_15 (by decide) (by omega) (by assumption) rfl ?_
  refine mz_bipush d_Ln_add_4 (by decide) ?_
  refine mz_icmp_ge 29 d_Ln_add_6 (by decide) (by omega) (by omega) (fun c_6 => ?_) (fun c_6 => ?_)
  · refine mz_vret d_Ln_add_29 rfl ?_
    rw [if_neg (by omega)]
    exact ⟨mj_fr.rf _ _, h1, h2, h3, h4⟩
  · refine mj_aload_n d_Ln_add_9 rfl ?_
    refine mj_get (ci := 1) (j := 0) d_Ln_add_10 rfl w_Ln_9 (by decide) (by omega) (by assumption) rfl ?_
    refine mj_aload_n d_Ln_add_13 rfl ?_
    refine mj_get (ci := 1) (j := 1) d_Ln_add_14 rfl w_Ln_15 (by decide) (by omega) (by assumption) rfl ?_
    refine mj_iload_n d_Ln_add_17 rfl ?_
    refine mz_cast d_Ln_add_18 (by omega) (by assumption) (rfl) (by omega) (mj_narC hc.1 hc.2) (fun S_18 w_18 e_18 f_18 => ?_)
    have h1 := f_18.at h1 (by simp; try omega)
    refine mj_aload_n d_Ln_add_19 rfl ?_
    refine mj_dup d_Ln_add_20 rfl ?_
    refine mj_get (ci := 1) (j := 1) d_Ln_add_21 rfl w_Ln_15 (by decide) (by omega) (by assumption) rfl ?_
    refine mz_iconst d_Ln_add_24 ?_
    refine mz_iadd d_Ln_add_25 ?_
    refine mz_put (ci := 1) (j := 1) d_Ln_add_26 rfl w_Ln_15 (by decide) rfl (by omega) (by assumption) (Nat.le_of_ble_eq_true rfl) (mj_fit_int _) rfl (fun S_26 w_26 e_26 f_26 => ?_)
    refine mz_vret d_Ln_add_29 rfl ?_
    rw [if_pos (by omega)]
    refine ⟨f_18.tr f_26 (by simp) (by simp), e_26, f_26.at e_18 (by decide), by omega, fun j => ?_⟩
    by_cases e : j = n
    · subst e; rw [va_up_self]; exact hc
    · rw [va_up_ne _ _ e]; exact h4 j
/-- which element's sign begins with c, d -/
def elS (c d : Int) : Nat → Int → Int
  | 0, f => f
  | m + 1, f => if mj_FST (9 - m) = c then (if mj_SND (9 - m) = 0 then elS c d m ((9 - m : Nat) : Int) else if mj_SND (9 - m) = d then ((9 - m : Nat) : Int) else elS c d m f) else elS c d m f
theorem elS_r (c d : Int) : ∀ (m : Nat) (f : Int), -1 ≤ f ∧ f ≤ 9 → -1 ≤ elS c d m f ∧ elS c d m f ≤ 9 := by
  intro m
  induction m with
  | zero => intro f h; exact h
  | succ m ih =>
    intro f h
    unfold elS
    split
    · split
      · exact ih _ (by omega)
      · split
        · omega
        · exact ih _ h
    · exact ih _ h
def ln_el (n : Nat) (C : Nat → Int) (k : Int) : Int := elS (ln_at n C k) (ln_at n C (k + 1)) 10 (-1)
theorem m_Ln_elementAt (hT : mj_tab Γ) (hw : S.2.1 = 62) (h : mj_ln S n C) (hd : 1 ≤ d) {k : Int} (hk : -1000 ≤ k ∧ k ≤ 1000) : mj_Met Γ d y_Ln_elementAt M_Ln_elementAt [.ref 1, .int (iZ k)] S 0 0 (mj_I fun z S' => S' = S ∧ z = ln_el n C k) := by
  have hh := h
  obtain ⟨h1, h2, h3, h4⟩ := h
  refine mj_Met.of (by decide) ⟨rfl, rfl⟩ rfl rfl rfl ?_
  refine mz_iconst d_Ln_elementAt_0 ?_
  refine mz_ist2 d_Ln_elementAt_1 (rfl) ?_
  refine mz_iconst d_Ln_elementAt_2 ?_
  refine mz_ist3 d_Ln_elementAt_3 (rfl) ?_
  have loop : ∀ (m : Nat) (f : Int), m ≤ 10 → -1 ≤ f ∧ f ≤ 9 → mj_Ok Γ d M_Ln_elementAt 0 0 4 [.ref 1, .int (iZ k), .int (iZ f), .int (iZ ((10 - m : Nat) : Int))] [] S (mj_I fun z S' => S' = S ∧ z = elS (ln_at n C k) (ln_at n C (k + 1)) m f) := by
    intro m
    induction m with
    | zero =>
      intro f hm hf
      refine mj_iload_n d_Ln_elementAt_4 rfl ?_
      refine mz_bipush d_Ln_elementAt_5 (by decide) ?_
      refine mz_icmp_ge 59 d_Ln_elementAt_7 (by decide) (by omega) (by omega) (fun c_7 => ?_) (fun c_7 => ?_)
      · refine mj_iload_n d_Ln_elementAt_59 rfl ?_
        refine mz_iret d_Ln_elementAt_60 rfl (rfl) ?_
        exact ⟨rfl, rfl⟩
      · omega
    | succ m ih =>
      intro f hm hf
      have e9 : 10 - (m + 1) = 9 - m := by omega
      have r1 := mj_FST_r (9 - m)
      have r2 := mj_SND_r (9 - m)
      have r3 := ln_at_r h4 (n := n) k
      have r4 := ln_at_r h4 (n := n) (k + 1)
      rw [e9]
      refine mj_iload_n d_Ln_elementAt_4 rfl ?_
      refine mz_bipush d_Ln_elementAt_5 (by decide) ?_
      refine mz_icmp_ge 59 d_Ln_elementAt_7 (by decide) (by omega) (by omega) (fun c_7 => ?_) (fun c_7 => ?_)
      · omega
      · refine mj_gets (r := 1) d_Ln_elementAt_10 (by decide) w_Ln_19 ?_
        refine mj_iload_n d_Ln_elementAt_13 rfl ?_
        refine mz_crot d_Ln_elementAt_14 (by decide) rfl (hT.2.1) (rfl) (by omega) ?_
        refine mj_aload_n d_Ln_elementAt_15 rfl ?_
        refine mj_iload_n d_Ln_elementAt_16 rfl ?_
        refine mz_callV1i (ci := 1) d_Ln_elementAt_17 (m_Ln_at (d := 0) hw hh (by omega)) cw_Ln_at lk_Ln_22 rfl rfl (by omega) (by assumption) (by omega) rfl (fun z_17 S_17 h_17 => ?_)
        refine mz_icmp_ne 53 d_Ln_elementAt_20 (by decide) (by omega) (by omega) (fun c_20 => ?_) (fun c_20 => ?_)
        · obtain ⟨rfl, rfl⟩ := h_17
          refine mz_inc3 d_Ln_elementAt_53 (rfl) ?_
          refine mj_goto 4 d_Ln_elementAt_56 (by decide) ?_
          unfold elS
          rw [if_neg c_20]
          have q := ih f (by omega) hf
          rw [show (10 - m : Nat) = 9 - m + 1 by omega] at q
          exact q
        · obtain ⟨rfl, rfl⟩ := h_17
          refine mj_gets (r := 2) d_Ln_elementAt_23 (by decide) w_Ln_26 ?_
          refine mj_iload_n d_Ln_elementAt_26 rfl ?_
          refine mz_crot d_Ln_elementAt_27 (by decide) rfl (hT.2.2) (rfl) (by omega) ?_
          refine mz_if_ne 36 d_Ln_elementAt_28 (by decide) (by omega) (fun c_28 => ?_) (fun c_28 => ?_)
          · refine mj_gets (r := 2) d_Ln_elementAt_36 (by decide) w_Ln_26 ?_
            refine mj_iload_n d_Ln_elementAt_39 rfl ?_
            refine mz_crot d_Ln_elementAt_40 (by decide) rfl (hT.2.2) (rfl) (by omega) ?_
            refine mj_aload_n d_Ln_elementAt_41 rfl ?_
            refine mj_iload_n d_Ln_elementAt_42 rfl ?_
            refine mz_iconst d_Ln_elementAt_43 ?_
            refine mz_iadd d_Ln_elementAt_44 ?_
            refine mz_callV1i (ci := 1) d_Ln_elementAt_45 (m_Ln_at (d := 0) hw hh (by omega)) cw_Ln_at lk_Ln_22 rfl rfl (by omega) (by assumption) (by omega) rfl (fun z_45 S_45 h_45 => ?_)
            refine mz_icmp_ne 53 d_Ln_elementAt_48 (by decide) (by omega) (by omega) (fun c_48 => ?_) (fun c_48 => ?_)
            · obtain ⟨rfl, rfl⟩ := h_45
              refine mz_inc3 d_Ln_elementAt_53 (rfl) ?_
              refine mj_goto 4 d_Ln_elementAt_56 (by decide) ?_
              unfold elS
              rw [if_pos c_20, if_neg c_28, if_neg c_48]
              have q := ih f (by omega) hf
              rw [show (10 - m : Nat) = 9 - m + 1 by omega] at q
              exact q
            · obtain ⟨rfl, rfl⟩ := h_45
              refine mj_iload_n d_Ln_elementAt_51 rfl ?_
              refine mz_iret d_Ln_elementAt_52 rfl (rfl) ?_
              unfold elS
              rw [if_pos c_20, if_neg c_28, if_pos c_48]
              exact ⟨rfl, rfl⟩
          · refine mj_iload_n d_Ln_elementAt_31 rfl ?_
            refine mz_ist2 d_Ln_elementAt_32 (rfl) ?_
            refine mj_goto 53 d_Ln_elementAt_33 (by decide) ?_
            refine mz_inc3 d_Ln_elementAt_53 (rfl) ?_
            refine mj_goto 4 d_Ln_elementAt_56 (by decide) ?_
            unfold elS
            rw [if_pos c_20, if_pos c_28]
            have q := ih ((9 - m : Nat) : Int) (by omega) (by omega)
            rw [show (10 - m : Nat) = 9 - m + 1 by omega] at q
            exact q
  exact loop 10 (-1) (by omega) (by omega)
theorem m_Ln_addElement (hT : mj_tab Γ) (hw : S.2.1 = 62) (h : mj_ln S n C) (hd : 1 ≤ d) {k : Nat} (hk : k < 10) (hn : n < 59) : mj_Met Γ d y_Ln_addElement M_Ln_addElement [.ref 1, .int (iZ k)] S 0 0 (mj_V fun S' => mj_fr S S' [1, 2] ∧ if mj_SND k = 0 then mj_ln S' (n + 1) (va_up C n (mj_FST k)) else mj_ln S' (n + 2) (va_up (va_up C n (mj_FST k)) (n + 1) (mj_SND k))) := by
  have hh := h
  obtain ⟨h1, h2, h3, h4⟩ := h
  have r1 := mj_FST_r k
  have r2 := mj_SND_r k
  refine mj_Met.of (by decide) ⟨rfl, rfl⟩ rfl rfl rfl ?_
  refine mj_aload_n d_Ln_addElement_0 rfl ?_
  refine mj_gets (r := 1) d_Ln_addElement_1 (by decide) w_Ln_19 ?_
  refine mj_iload_n d_Ln_addElement_4 rfl ?_
  refine mz_crot d_Ln_addElement_5 (by decide) rfl (hT.2.1) (rfl) (by omega) ?_
  refine mz_callV1v (ci := 1) d_Ln_addElement_6 (m_Ln_add (d := 0) hw hh (by omega)) cw_Ln_add lk_Ln_29 rfl rfl (by omega) (by assumption) (by omega) rfl (fun S_6 h_6 => ?_)
  refine mj_gets (r := 2) d_Ln_addElement_9 (by decide) w_Ln_26 ?_
  refine mj_iload_n d_Ln_addElement_12 rfl ?_
  refine mz_crot d_Ln_addElement_13 (by decide) rfl (hT.2.2) (rfl) (by omega) ?_
  refine mz_if_eq 26 d_Ln_addElement_14 (by decide) (by omega) (fun c_14 => ?_) (fun c_14 => ?_)
  · obtain ⟨f1, h6⟩ := h_6
    rw [if_pos (by omega)] at h6
    refine mz_vret d_Ln_addElement_26 rfl ?_
    rw [if_pos c_14]
    exact ⟨f1, h6⟩
  · obtain ⟨f1, h6⟩ := h_6
    rw [if_pos (by omega)] at h6
    have hw6 : S_6.2.1 = 62 := f1.w.trans hw
    have h61 := h6.1
    refine mj_aload_n d_Ln_addElement_17 rfl ?_
    refine mj_gets (r := 2) d_Ln_addElement_18 (by decide) w_Ln_26 ?_
    refine mj_iload_n d_Ln_addElement_21 rfl ?_
    refine mz_crot d_Ln_addElement_22 (by decide) rfl (hT.2.2) (rfl) (by omega) ?_
    refine mz_callV1v (ci := 1) d_Ln_addElement_23 (m_Ln_add (d := 0) hw6 h6 (by omega)) cw_Ln_add lk_Ln_29 rfl rfl (by omega) (by assumption) (by omega) rfl (fun S_23 h_23 => ?_)
    refine mz_vret d_Ln_addElement_26 rfl ?_
    obtain ⟨f2, h7⟩ := h_23
    rw [if_pos (by omega)] at h7
    rw [if_neg c_14]
    exact ⟨f1.tr f2 (by simp) (by simp), h7⟩
theorem m_Ln_addBond (hw : S.2.1 = 62) (h : mj_ln S n C) (hd : 1 ≤ d) {b : Int} (hb : 0 ≤ b ∧ b ≤ 100) (hn : n < 60) : mj_Met Γ d y_Ln_addBond M_Ln_addBond [.ref 1, .int (iZ b)] S 0 0 (mj_V fun S' => mj_fr S S' [1, 2] ∧ if b = 2 then mj_ln S' (n + 1) (va_up C n 61) else if b = 3 then mj_ln S' (n + 1) (va_up C n 35) else mj_ln S' n C) := by
  have hh := h
  obtain ⟨h1, h2, h3, h4⟩ := h
  refine mj_Met.of (by decide) ⟨rfl, rfl⟩ rfl rfl rfl ?_
  refine mj_iload_n d_Ln_addBond_0 rfl ?_
  refine mz_iconst d_Ln_addBond_1 ?_
  refine mz_icmp_ne 14 d_Ln_addBond_2 (by decide) (by omega) (by omega) (fun c_2 => ?_) (fun c_2 => ?_)
  · refine mj_iload_n d_Ln_addBond_14 rfl ?_
    refine mz_iconst d_Ln_addBond_15 ?_
    refine mz_icmp_ne 25 d_Ln_addBond_16 (by decide) (by omega) (by omega) (fun c_16 => ?_) (fun c_16 => ?_)
    · refine mz_vret d_Ln_addBond_25 rfl ?_
      rw [if_neg c_2, if_neg c_16]
      exact ⟨mj_fr.rf _ _, hh⟩
    · refine mj_aload_n d_Ln_addBond_19 rfl ?_
      refine mz_bipush d_Ln_addBond_20 (by decide) ?_
      refine mz_callV1v (ci := 1) d_Ln_addBond_22 (m_Ln_add (d := 0) hw hh (by omega)) cw_Ln_add lk_Ln_29 rfl rfl (by omega) (by assumption) (by omega) rfl (fun S_22 h_22 => ?_)
      refine mz_vret d_Ln_addBond_25 rfl ?_
      rw [if_neg c_2, if_pos c_16]
      obtain ⟨f1, h6⟩ := h_22
      rw [if_pos hn] at h6
      exact ⟨f1, h6⟩
  · refine mj_aload_n d_Ln_addBond_5 rfl ?_
    refine mz_bipush d_Ln_addBond_6 (by decide) ?_
    refine mz_callV1v (ci := 1) d_Ln_addBond_8 (m_Ln_add (d := 0) hw hh (by omega)) cw_Ln_add lk_Ln_29 rfl rfl (by omega) (by assumption) (by omega) rfl (fun S_8 h_8 => ?_)
    refine mj_goto 25 d_Ln_addBond_11 (by decide) ?_
    refine mz_vret d_Ln_addBond_25 rfl ?_
    rw [if_pos c_2]
    obtain ⟨f1, h6⟩ := h_8
    rw [if_pos hn] at h6
    exact ⟨f1, h6⟩
end LN
end
section
/-! small static methods; the molecule's methods (a molecule at o: kinds o + 1, free o + 2, bonds o + 3) -/
def mj_ml (S : mj_S) (o n : Nat) (K F B : Nat → Int) : Prop := S.1 o = .inr (4, [.ref (o + 1), .ref (o + 2), .ref (o + 3), .int (iZ n)]) ∧ S.1 (o + 1) = .inl (0, 6, .inl (mj_z K)) ∧ S.1 (o + 2) = .inl (0, 6, .inl (mj_z F)) ∧ S.1 (o + 3) = .inl (0, 36, .inl (mj_z B)) ∧ o + 3 < 62
theorem mj_ml.fr {S S' : mj_S} {o n : Nat} {K F B : Nat → Int} {l : List Nat} (h : mj_ml S o n K F B) (hf : mj_fr S S' l) (hl : ∀ j ∈ l, j < o ∨ o + 3 < j) : mj_ml S' o n K F B := by
  have q : ∀ j, o ≤ j → j ≤ o + 3 → S'.1 j = S.1 j := fun j h1 h2 => hf.2 j fun hj => by have := hl j hj; omega
  obtain ⟨h1, h2, h3, h4, h5⟩ := h
  exact ⟨(q _ (by omega) (by omega)).trans h1, (q _ (by omega) (by omega)).trans h2, (q _ (by omega) (by omega)).trans h3, (q _ (by omega) (by omega)).trans h4, h5⟩
def mj_ca (S : mj_S) (o : Nat) (K D : Nat → Int) (n h z : Nat) : Prop := S.1 o = .inr (8, [.ref (o + 1), .ref (o + 2), .int (iZ n), .int (iZ h), .int (iZ z)]) ∧ S.1 (o + 1) = .inl (0, 6, .inl (mj_z K)) ∧ S.1 (o + 2) = .inl (0, 500, .inl (mj_z D)) ∧ o + 2 < 62
theorem mj_ca.fr {S S' : mj_S} {o n h z : Nat} {K D : Nat → Int} {l : List Nat} (hc : mj_ca S o K D n h z) (hf : mj_fr S S' l) (hl : ∀ j ∈ l, j < o ∨ o + 2 < j) : mj_ca S' o K D n h z := by
  have q : ∀ j, o ≤ j → j ≤ o + 2 → S'.1 j = S.1 j := fun j h1 h2 => hf.2 j fun hj => by have := hl j hj; omega
  obtain ⟨h1, h2, h3, h5⟩ := hc
  exact ⟨(q _ (by omega) (by omega)).trans h1, (q _ (by omega) (by omega)).trans h2, (q _ (by omega) (by omega)).trans h3, h5⟩
theorem mj_ln.fr {S S' : mj_S} {n : Nat} {C : Nat → Int} {l : List Nat} (h : mj_ln S n C) (hf : mj_fr S S' l) (h1 : 1 ∉ l) (h2 : 2 ∉ l) : mj_ln S' n C :=
  ⟨hf.at h.1 h1, hf.at h.2.1 h2, h.2.2⟩
section ML
variable {Γ : mj_G} {d : Nat} {S : mj_S}
theorem m_IL_isDigit {c : Int} (hc : iR c) : mj_Met Γ d y_IL_isDigit M_IL_isDigit [.int (iZ c)] S 0 0 (mj_I fun z S' => S' = S ∧ z = if 48 ≤ c ∧ c ≤ 57 then 1 else 0) := by
  refine mj_Met.of (by decide) ⟨rfl, rfl⟩ rfl rfl rfl ?_
  refine mj_iload_n d_IL_isDigit_0 rfl ?_
  refine mz_bipush d_IL_isDigit_1 (by decide) ?_
  refine mz_icmp_lt 16 d_IL_isDigit_3 (by decide) (by omega) (by omega) (fun c_3 => ?_) (fun c_3 => ?_)
  · refine mz_iconst d_IL_isDigit_16 ?_
    refine mz_iret d_IL_isDigit_17 rfl (rfl) ?_
    exact ⟨rfl, by rw [if_neg (by omega)]⟩
  · refine mj_iload_n d_IL_isDigit_6 rfl ?_
    refine mz_bipush d_IL_isDigit_7 (by decide) ?_
    refine mz_icmp_gt 16 d_IL_isDigit_9 (by decide) (by omega) (by omega) (fun c_9 => ?_) (fun c_9 => ?_)
    · refine mz_iconst d_IL_isDigit_16 ?_
      refine mz_iret d_IL_isDigit_17 rfl (rfl) ?_
      exact ⟨rfl, by rw [if_neg (by omega)]⟩
    · refine mz_iconst d_IL_isDigit_12 ?_
      refine mj_goto 17 d_IL_isDigit_13 (by decide) ?_
      refine mz_iret d_IL_isDigit_17 rfl (rfl) ?_
      exact ⟨rfl, by rw [if_pos (by omega)]⟩
theorem m_IL_signLength (hT : mj_tab Γ) {k : Nat} (hk : k < 10) : mj_Met Γ d y_IL_signLength M_IL_signLength [.int (iZ k)] S 0 0 (mj_I fun z S' => S' = S ∧ z = if mj_SND k = 0 then 1 else 2) := by
  have r2 := mj_SND_r k
  refine mj_Met.of (by decide) ⟨rfl, rfl⟩ rfl rfl rfl ?_
  refine mj_gets (r := 2) d_IL_signLength_0 (by decide) w_IL_188 ?_
  refine mj_iload_n d_IL_signLength_3 rfl ?_
  refine mz_crot d_IL_signLength_4 (by decide) rfl (hT.2.2) (rfl) (by omega) ?_
  refine mz_if_ne 12 d_IL_signLength_5 (by decide) (by omega) (fun c_5 => ?_) (fun c_5 => ?_)
  · refine mz_iconst d_IL_signLength_12 ?_
    refine mz_iret d_IL_signLength_13 rfl (rfl) ?_
    exact ⟨rfl, by rw [if_neg c_5]⟩
  · refine mz_iconst d_IL_signLength_8 ?_
    refine mj_goto 13 d_IL_signLength_9 (by decide) ?_
    refine mz_iret d_IL_signLength_13 rfl (rfl) ?_
    exact ⟨rfl, by rw [if_pos c_5]⟩
/-- how many of the first m are k -/
def mj_cnt (K : Nat → Int) (k : Int) : Nat → Nat
  | 0 => 0
  | m + 1 => mj_cnt K k m + if K m = k then 1 else 0
theorem mj_cnt_le (K : Nat → Int) (k : Int) (m : Nat) : mj_cnt K k m ≤ m := by
  induction m with
  | zero => exact Nat.le_refl _
  | succ m ih => unfold mj_cnt; split <;> omega
theorem m_IL_occurrences {a m N : Nat} {k : Int} {K : Nat → Int} (ha : a < S.2.1) (he : S.1 a = .inl (0, N, .inl (mj_z K))) (hN : N < 1000) (hm : m ≤ N) (hk : iR k) (hK : ∀ j, j < m → iR (K j)) : mj_Met Γ d y_IL_occurrences M_IL_occurrences [.int (iZ k), .ref a, .int (iZ m)] S 0 0 (mj_I fun z S' => S' = S ∧ z = mj_cnt K k m) := by
  refine mj_Met.of (by decide) ⟨rfl, rfl⟩ rfl rfl rfl ?_
  refine mz_iconst d_IL_occurrences_0 ?_
  refine mz_ist3 d_IL_occurrences_1 (rfl) ?_
  refine mz_iconst d_IL_occurrences_2 ?_
  refine mz_ist4 d_IL_occurrences_3 (rfl) ?_
  have loop : ∀ (q i : Nat), i + q = m → mj_Ok Γ d M_IL_occurrences 0 0 5 [.int (iZ k), .ref a, .int (iZ m), .int (iZ (mj_cnt K k i : Nat)), .int (iZ i)] [] S (mj_I fun z S' => S' = S ∧ z = mj_cnt K k m) := by
    intro q
    induction q with
    | zero =>
      intro i hi
      refine mj_iload d_IL_occurrences_5 rfl ?_
      refine mj_iload_n d_IL_occurrences_7 rfl ?_
      refine mz_icmp_ge 28 d_IL_occurrences_8 (by decide) (by omega) (by omega) (fun c_8 => ?_) (fun c_8 => ?_)
      · refine mj_iload_n d_IL_occurrences_28 rfl ?_
        refine mz_iret d_IL_occurrences_29 rfl (rfl) ?_
        exact ⟨rfl, by rw [show i = m by omega]⟩
      · omega
    | succ q ih =>
      intro i hi
      have := mj_cnt_le K k i
      have r := hK i (by omega)
      refine mj_iload d_IL_occurrences_5 rfl ?_
      refine mj_iload_n d_IL_occurrences_7 rfl ?_
      refine mz_icmp_ge 28 d_IL_occurrences_8 (by decide) (by omega) (by omega) (fun c_8 => ?_) (fun c_8 => ?_)
      · omega
      · refine mj_aload_n d_IL_occurrences_11 rfl ?_
        refine mj_iload d_IL_occurrences_12 rfl ?_
        refine mz_iald d_IL_occurrences_14 (by omega) (by assumption) (rfl) (by omega) ?_ (by omega)
        refine mj_iload_n d_IL_occurrences_15 rfl ?_
        refine mz_icmp_ne 22 d_IL_occurrences_16 (by decide) (by omega) (by omega) (fun c_16 => ?_) (fun c_16 => ?_)
        · refine mz_inc4 d_IL_occurrences_22 (rfl) ?_
          refine mj_goto 5 d_IL_occurrences_25 (by decide) ?_
          have w := ih (i + 1) (by omega)
          rw [show mj_cnt K k (i + 1) = mj_cnt K k i by simp [mj_cnt, c_16]] at w
          exact w
        · refine mz_inc3 d_IL_occurrences_19 (rfl) ?_
          refine mz_inc4 d_IL_occurrences_22 (rfl) ?_
          refine mj_goto 5 d_IL_occurrences_25 (by decide) ?_
          have w := ih (i + 1) (by omega)
          rw [show mj_cnt K k (i + 1) = mj_cnt K k i + 1 by simp [mj_cnt, c_16]] at w
          exact w
  exact loop m 0 (by omega)
theorem m_IL_rowShift {a : Int} (ha : 0 ≤ a ∧ a ≤ 5) : mj_Met Γ d y_IL_rowShift M_IL_rowShift [.int (iZ a)] S 0 0 (mj_I fun z S' => S' = S ∧ z = 30 - a * (a + 1)) := by
  refine mj_Met.of (by decide) ⟨rfl, rfl⟩ rfl rfl rfl ?_
  refine mz_bipush d_IL_rowShift_0 (by decide) ?_
  refine mj_iload_n d_IL_rowShift_2 rfl ?_
  refine mj_iload_n d_IL_rowShift_3 rfl ?_
  refine mz_iconst d_IL_rowShift_4 ?_
  refine mz_iadd d_IL_rowShift_5 ?_
  refine mz_imul d_IL_rowShift_6 ?_
  refine mz_isub d_IL_rowShift_7 ?_
  refine mz_iret d_IL_rowShift_8 rfl (rfl) ?_
  exact ⟨rfl, rfl⟩
variable {o n : Nat} {K F B : Nat → Int}
theorem m_Ml_clear (hw : S.2.1 = 62) (h : mj_ml S o n K F B) (hd : 1 ≤ d) : mj_Met Γ d y_Ml_clear M_Ml_clear [.ref o] S 0 0 (mj_V fun S' => mj_fr S S' [o, o + 3] ∧ mj_ml S' o 0 K F (mj_fl B 0 36)) := by
  obtain ⟨h1, h2, h3, h4, h5⟩ := h
  refine mj_Met.of (by decide) ⟨rfl, rfl⟩ rfl rfl rfl ?_
  refine mj_aload_n d_Ml_clear_0 rfl ?_
  refine mz_iconst d_Ml_clear_1 ?_
  refine mz_put (ci := 4) (j := 3) d_Ml_clear_2 rfl w_Ml_21 (by decide) rfl (by omega) (by assumption) (Nat.le_of_ble_eq_true rfl) (mj_fit_int _) rfl (fun S_2 w_2 e_2 f_2 => ?_)
  have h2 := f_2.at h2 (by simp; try omega)
  have h3 := f_2.at h3 (by simp; try omega)
  have h4 := f_2.at h4 (by simp; try omega)
  refine mj_aload_n d_Ml_clear_5 rfl ?_
  refine mj_get (ci := 4) (j := 2) d_Ml_clear_6 rfl w_Ml_18 (by decide) (by omega) (by assumption) rfl ?_
  refine mz_iconst d_Ml_clear_9 ?_
  refine mz_callS2v d_Ml_clear_10 (m_Ar_fill (d := 0) (by omega) h4 (by omega)) cw_Ar_fill lk_Ml_25 (by omega) rfl (fun S_10 h_10 => ?_)
  obtain ⟨f2, e2⟩ := h_10
  have e_2 := f2.at e_2 (by simp)
  have h2 := f2.at h2 (by simp; try omega)
  have h3 := f2.at h3 (by simp; try omega)
  refine mz_vret d_Ml_clear_13 rfl ?_
  exact ⟨f_2.tr f2 (by simp) (by simp), e_2, h2, h3, e2, h5⟩
theorem m_Ml_addAtom (hT : mj_tab Γ) (hw : S.2.1 = 62) (h : mj_ml S o n K F B) (hn : n < 6) {k : Nat} (hk : k < 10) : mj_Met Γ d y_Ml_addAtom M_Ml_addAtom [.ref o, .int (iZ k)] S 0 0 (mj_V fun S' => mj_fr S S' [o, o + 1, o + 2] ∧ mj_ml S' o (n + 1) (va_up K n k) (va_up F n (mj_VAL k)) B) := by
  obtain ⟨h1, h2, h3, h4, h5⟩ := h
  refine mj_Met.of (by decide) ⟨rfl, rfl⟩ rfl rfl rfl ?_
  refine mj_aload_n d_Ml_addAtom_0 rfl ?_
  refine mj_get (ci := 4) (j := 3) d_Ml_addAtom_1 rfl w_Ml_21 (by decide) (by omega) (by assumption) rfl ?_
  refine mz_bipush d_Ml_addAtom_4 (by decide) ?_
  refine mz_icmp_ge 43 d_Ml_addAtom_6 (by decide) (by omega) (by omega) (fun c_6 => ?_) (fun c_6 => ?_)
  · omega
  · refine mj_aload_n d_Ml_addAtom_9 rfl ?_
    refine mj_get (ci := 4) (j := 0) d_Ml_addAtom_10 rfl w_Ml_9 (by decide) (by omega) (by assumption) rfl ?_
    refine mj_aload_n d_Ml_addAtom_13 rfl ?_
    refine mj_get (ci := 4) (j := 3) d_Ml_addAtom_14 rfl w_Ml_21 (by decide) (by omega) (by assumption) rfl ?_
    refine mj_iload_n d_Ml_addAtom_17 rfl ?_
    refine mz_iast d_Ml_addAtom_18 (by omega) (by assumption) (rfl) (by omega) (fun S_18 w_18 e_18 f_18 => ?_)
    have h1 := f_18.at h1 (by simp; try omega)
    have h3 := f_18.at h3 (by simp; try omega)
    have h4 := f_18.at h4 (by simp; try omega)
    refine mj_aload_n d_Ml_addAtom_19 rfl ?_
    refine mj_get (ci := 4) (j := 1) d_Ml_addAtom_20 rfl w_Ml_15 (by decide) (by omega) (by assumption) rfl ?_
    refine mj_aload_n d_Ml_addAtom_23 rfl ?_
    refine mj_get (ci := 4) (j := 3) d_Ml_addAtom_24 rfl w_Ml_21 (by decide) (by omega) (by assumption) rfl ?_
    refine mj_gets (r := 0) d_Ml_addAtom_27 (by decide) w_Ml_31 ?_
    refine mj_iload_n d_Ml_addAtom_30 rfl ?_
    refine mz_irot d_Ml_addAtom_31 (by decide) rfl (hT.1) (rfl) (by omega) ?_
    refine mz_iast d_Ml_addAtom_32 (by omega) (by assumption) (rfl) (by omega) (fun S_32 w_32 e_32 f_32 => ?_)
    have h1 := f_32.at h1 (by simp; try omega)
    have h4 := f_32.at h4 (by simp; try omega)
    have e_18 := f_32.at e_18 (by simp; try omega)
    refine mj_aload_n d_Ml_addAtom_33 rfl ?_
    refine mj_dup d_Ml_addAtom_34 rfl ?_
    refine mj_get (ci := 4) (j := 3) d_Ml_addAtom_35 rfl w_Ml_21 (by decide) (by omega) (by assumption) rfl ?_
    refine mz_iconst d_Ml_addAtom_38 ?_
    refine mz_iadd d_Ml_addAtom_39 ?_
    refine mz_put (ci := 4) (j := 3) d_Ml_addAtom_40 rfl w_Ml_21 (by decide) rfl (by omega) (by assumption) (Nat.le_of_ble_eq_true rfl) (mj_fit_int _) rfl (fun S_40 w_40 e_40 f_40 => ?_)
    have h4 := f_40.at h4 (by simp; try omega)
    have e_18 := f_40.at e_18 (by simp; try omega)
    have e_32 := f_40.at e_32 (by simp; try omega)
    refine mz_vret d_Ml_addAtom_43 rfl ?_
    exact ⟨(f_18.tr f_32 (l := [o + 1, o + 2]) (by simp) (by simp)).tr f_40 (by simp; try omega) (by simp), e_40, e_18, e_32, h4, h5⟩
theorem m_Ml_between (hw : S.2.1 = 62) (h : mj_ml S o n K F B) {a b : Nat} (ha : a < 6) (hb : b < 6) : mj_Met Γ d y_Ml_between M_Ml_between [.ref o, .int (iZ a), .int (iZ b)] S 0 0 (mj_I fun z S' => S' = S ∧ z = B (a * 6 + b)) := by
  obtain ⟨h1, h2, h3, h4, h5⟩ := h
  refine mj_Met.of (by decide) ⟨rfl, rfl⟩ rfl rfl rfl ?_
  refine mj_aload_n d_Ml_between_0 rfl ?_
  refine mj_get (ci := 4) (j := 2) d_Ml_between_1 rfl w_Ml_18 (by decide) (by omega) (by assumption) rfl ?_
  refine mj_iload_n d_Ml_between_4 rfl ?_
  refine mz_bipush d_Ml_between_5 (by decide) ?_
  refine mz_imul d_Ml_between_7 ?_
  refine mj_iload_n d_Ml_between_8 rfl ?_
  refine mz_iadd d_Ml_between_9 ?_
  refine mz_iald (j := a * 6 + b) d_Ml_between_10 (by omega) (by assumption) (by omega) (by omega) ?_
  refine mz_iret d_Ml_between_11 rfl (rfl) ?_
  exact ⟨rfl, rfl⟩
theorem m_Ml_bind (hw : S.2.1 = 62) (h : mj_ml S o n K F B) (hd : 1 ≤ d) {a b : Nat} (ha : a < 6) (hb : b < 6) {v : Int} : mj_Met Γ d y_Ml_bind M_Ml_bind [.ref o, .int (iZ a), .int (iZ b), .int (iZ v)] S 0 0
    (mj_V fun S' => mj_fr S S' [o + 2, o + 3] ∧ mj_ml S' o n K (va_up (va_up F a (F a - (v - B (a * 6 + b)))) b (va_up F a (F a - (v - B (a * 6 + b))) b - (v - B (a * 6 + b)))) (va_up (va_up B (a * 6 + b) v) (b * 6 + a) v)) := by
  have hh := h
  obtain ⟨h1, h2, h3, h4, h5⟩ := h
  refine mj_Met.of (by decide) ⟨rfl, rfl⟩ rfl rfl rfl ?_
  refine mj_iload_n d_Ml_bind_0 rfl ?_
  refine mj_aload_n d_Ml_bind_1 rfl ?_
  refine mj_iload_n d_Ml_bind_2 rfl ?_
  refine mj_iload_n d_Ml_bind_3 rfl ?_
  refine mz_callV2i (ci := 4) d_Ml_bind_4 (m_Ml_between (d := 0) hw hh ha hb) cw_Ml_between lk_Ml_60 rfl rfl (by omega) (by assumption) (by omega) rfl (fun z_4 S_4 h_4 => ?_)
  obtain ⟨rfl, rfl⟩ := h_4
  refine mz_isub d_Ml_bind_7 ?_
  refine mz_ist4 d_Ml_bind_8 (rfl) ?_
  refine mj_aload_n d_Ml_bind_10 rfl ?_
  refine mj_get (ci := 4) (j := 1) d_Ml_bind_11 rfl w_Ml_15 (by decide) (by omega) (by assumption) rfl ?_
  refine mj_iload_n d_Ml_bind_14 rfl ?_
  refine mj_dup2 d_Ml_bind_15 rfl rfl ?_
  refine mz_iald d_Ml_bind_16 (by omega) (by assumption) (rfl) (by omega) ?_
  refine mj_iload d_Ml_bind_17 rfl ?_
  refine mz_isub d_Ml_bind_19 ?_
  refine mz_iast d_Ml_bind_20 (by omega) (by assumption) (rfl) (by omega) (fun S_20 w_20 e_20 f_20 => ?_)
  have h1 := f_20.at h1 (by simp; try omega)
  have h2 := f_20.at h2 (by simp; try omega)
  have h4 := f_20.at h4 (by simp; try omega)
  refine mj_aload_n d_Ml_bind_21 rfl ?_
  refine mj_get (ci := 4) (j := 1) d_Ml_bind_22 rfl w_Ml_15 (by decide) (by omega) (by assumption) rfl ?_
  refine mj_iload_n d_Ml_bind_25 rfl ?_
  refine mj_dup2 d_Ml_bind_26 rfl rfl ?_
  refine mz_iald d_Ml_bind_27 (by omega) (by assumption) (rfl) (by omega) ?_
  refine mj_iload d_Ml_bind_28 rfl ?_
  refine mz_isub d_Ml_bind_30 ?_
  refine mz_iast d_Ml_bind_31 (by omega) (by assumption) (rfl) (by omega) (fun S_31 w_31 e_31 f_31 => ?_)
  have h1 := f_31.at h1 (by simp; try omega)
  have h2 := f_31.at h2 (by simp; try omega)
  have h4 := f_31.at h4 (by simp; try omega)
  refine mj_aload_n d_Ml_bind_32 rfl ?_
  refine mj_get (ci := 4) (j := 2) d_Ml_bind_33 rfl w_Ml_18 (by decide) (by omega) (by assumption) rfl ?_
  refine mj_iload_n d_Ml_bind_36 rfl ?_
  refine mz_bipush d_Ml_bind_37 (by decide) ?_
  refine mz_imul d_Ml_bind_39 ?_
  refine mj_iload_n d_Ml_bind_40 rfl ?_
  refine mz_iadd d_Ml_bind_41 ?_
  refine mj_iload_n d_Ml_bind_42 rfl ?_
  refine mz_iast (j := a * 6 + b) d_Ml_bind_43 (by omega) (by assumption) (by omega) (by omega) (fun S_43 w_43 e_43 f_43 => ?_)
  have h1 := f_43.at h1 (by simp; try omega)
  have h2 := f_43.at h2 (by simp; try omega)
  have e_31 := f_43.at e_31 (by simp; try omega)
  refine mj_aload_n d_Ml_bind_44 rfl ?_
  refine mj_get (ci := 4) (j := 2) d_Ml_bind_45 rfl w_Ml_18 (by decide) (by omega) (by assumption) rfl ?_
  refine mj_iload_n d_Ml_bind_48 rfl ?_
  refine mz_bipush d_Ml_bind_49 (by decide) ?_
  refine mz_imul d_Ml_bind_51 ?_
  refine mj_iload_n d_Ml_bind_52 rfl ?_
  refine mz_iadd d_Ml_bind_53 ?_
  refine mj_iload_n d_Ml_bind_54 rfl ?_
  refine mz_iast (j := b * 6 + a) d_Ml_bind_55 (by omega) (by assumption) (by omega) (by omega) (fun S_55 w_55 e_55 f_55 => ?_)
  have h1 := f_55.at h1 (by simp; try omega)
  have h2 := f_55.at h2 (by simp; try omega)
  have e_31 := f_55.at e_31 (by simp; try omega)
  refine mz_vret d_Ml_bind_56 rfl ?_
  exact ⟨(f_20.tr f_31 (l := [o + 2]) (by simp) (by simp)).tr (f_43.tr f_55 (l := [o + 3]) (by simp) (by simp)) (by simp) (by simp), h1, h2, e_31, e_55, h5⟩
/-- the sum of the first m -/
def mj_sum (F : Nat → Int) : Nat → Int
  | 0 => 0
  | m + 1 => mj_sum F m + F m
theorem m_Ml_freeSum (hw : S.2.1 = 62) (h : mj_ml S o n K F B) (hn : n ≤ 6) : mj_Met Γ d y_Ml_freeSum M_Ml_freeSum [.ref o] S 0 0 (mj_I fun z S' => S' = S ∧ z = mj_sum F n) := by
  obtain ⟨h1, h2, h3, h4, h5⟩ := h
  refine mj_Met.of (by decide) ⟨rfl, rfl⟩ rfl rfl rfl ?_
  refine mz_iconst d_Ml_freeSum_0 ?_
  refine mz_ist1 d_Ml_freeSum_1 (rfl) ?_
  refine mz_iconst d_Ml_freeSum_2 ?_
  refine mz_ist2 d_Ml_freeSum_3 (rfl) ?_
  have loop : ∀ (q i : Nat), i + q = n → mj_Ok Γ d M_Ml_freeSum 0 0 4 [.ref o, .int (iZ (mj_sum F i)), .int (iZ i)] [] S (mj_I fun z S' => S' = S ∧ z = mj_sum F n) := by
    intro q
    induction q with
    | zero =>
      intro i hi
      refine mj_iload_n d_Ml_freeSum_4 rfl ?_
      refine mj_aload_n d_Ml_freeSum_5 rfl ?_
      refine mj_get (ci := 4) (j := 3) d_Ml_freeSum_6 rfl w_Ml_21 (by decide) (by omega) (by assumption) rfl ?_
      refine mz_icmp_ge 27 d_Ml_freeSum_9 (by decide) (by omega) (by omega) (fun c_9 => ?_) (fun c_9 => ?_)
      · refine mj_iload_n d_Ml_freeSum_27 rfl ?_
        refine mz_iret d_Ml_freeSum_28 rfl (rfl) ?_
        exact ⟨rfl, by rw [show i = n by omega]⟩
      · omega
    | succ q ih =>
      intro i hi
      refine mj_iload_n d_Ml_freeSum_4 rfl ?_
      refine mj_aload_n d_Ml_freeSum_5 rfl ?_
      refine mj_get (ci := 4) (j := 3) d_Ml_freeSum_6 rfl w_Ml_21 (by decide) (by omega) (by assumption) rfl ?_
      refine mz_icmp_ge 27 d_Ml_freeSum_9 (by decide) (by omega) (by omega) (fun c_9 => ?_) (fun c_9 => ?_)
      · omega
      · refine mj_iload_n d_Ml_freeSum_12 rfl ?_
        refine mj_aload_n d_Ml_freeSum_13 rfl ?_
        refine mj_get (ci := 4) (j := 1) d_Ml_freeSum_14 rfl w_Ml_15 (by decide) (by omega) (by assumption) rfl ?_
        refine mj_iload_n d_Ml_freeSum_17 rfl ?_
        refine mz_iald d_Ml_freeSum_18 (by omega) (by assumption) (rfl) (by omega) ?_
        refine mz_iadd d_Ml_freeSum_19 ?_
        refine mz_ist1 d_Ml_freeSum_20 (rfl) ?_
        refine mz_inc2 d_Ml_freeSum_21 (rfl) ?_
        refine mj_goto 4 d_Ml_freeSum_24 (by decide) ?_
        exact ih (i + 1) (by omega)
  exact loop n 0 (by omega)
theorem m_Ml_isOverbound (hw : S.2.1 = 62) (h : mj_ml S o n K F B) (hn : n ≤ 6) (hF : ∀ j, j < n → iR (F j)) : mj_Met Γ d y_Ml_isOverbound M_Ml_isOverbound [.ref o] S 0 0 (mj_I fun z S' => S' = S ∧ ((z = 1 ∧ ∃ j, j < n ∧ F j < 0) ∨ (z = 0 ∧ ∀ j, j < n → 0 ≤ F j))) := by
  obtain ⟨h1, h2, h3, h4, h5⟩ := h
  refine mj_Met.of (by decide) ⟨rfl, rfl⟩ rfl rfl rfl ?_
  refine mz_iconst d_Ml_isOverbound_0 ?_
  refine mz_ist1 d_Ml_isOverbound_1 (rfl) ?_
  have loop : ∀ (q i : Nat), i + q = n → (∀ j, j < i → 0 ≤ F j) → mj_Ok Γ d M_Ml_isOverbound 0 0 2 [.ref o, .int (iZ i)] [] S (mj_I fun z S' => S' = S ∧ ((z = 1 ∧ ∃ j, j < n ∧ F j < 0) ∨ (z = 0 ∧ ∀ j, j < n → 0 ≤ F j))) := by
    intro q
    induction q with
    | zero =>
      intro i hi hj
      refine mj_iload_n d_Ml_isOverbound_2 rfl ?_
      refine mj_aload_n d_Ml_isOverbound_3 rfl ?_
      refine mj_get (ci := 4) (j := 3) d_Ml_isOverbound_4 rfl w_Ml_21 (by decide) (by omega) (by assumption) rfl ?_
      refine mz_icmp_ge 27 d_Ml_isOverbound_7 (by decide) (by omega) (by omega) (fun c_7 => ?_) (fun c_7 => ?_)
      · refine mz_iconst d_Ml_isOverbound_27 ?_
        refine mz_iret d_Ml_isOverbound_28 rfl (rfl) ?_
        rw [show i = n by omega] at hj
        exact ⟨rfl, Or.inr ⟨rfl, hj⟩⟩
      · omega
    | succ q ih =>
      intro i hi hj
      have r := hF i (by omega)
      refine mj_iload_n d_Ml_isOverbound_2 rfl ?_
      refine mj_aload_n d_Ml_isOverbound_3 rfl ?_
      refine mj_get (ci := 4) (j := 3) d_Ml_isOverbound_4 rfl w_Ml_21 (by decide) (by omega) (by assumption) rfl ?_
      refine mz_icmp_ge 27 d_Ml_isOverbound_7 (by decide) (by omega) (by omega) (fun c_7 => ?_) (fun c_7 => ?_)
      · omega
      · refine mj_aload_n d_Ml_isOverbound_10 rfl ?_
        refine mj_get (ci := 4) (j := 1) d_Ml_isOverbound_11 rfl w_Ml_15 (by decide) (by omega) (by assumption) rfl ?_
        refine mj_iload_n d_Ml_isOverbound_14 rfl ?_
        refine mz_iald d_Ml_isOverbound_15 (by omega) (by assumption) (rfl) (by omega) ?_
        refine mz_if_ge 21 d_Ml_isOverbound_16 (by decide) (by omega) (fun c_16 => ?_) (fun c_16 => ?_)
        · refine mz_inc1 d_Ml_isOverbound_21 (rfl) ?_
          refine mj_goto 2 d_Ml_isOverbound_24 (by decide) ?_
          exact ih (i + 1) (by omega) (fun j h => by
            rcases Nat.lt_or_ge j i with w | w
            · exact hj j w
            · rw [show j = i by omega]; exact c_16)
        · refine mz_iconst d_Ml_isOverbound_19 ?_
          refine mz_iret d_Ml_isOverbound_20 rfl (rfl) ?_
          exact ⟨rfl, Or.inl ⟨rfl, i, by omega, c_16⟩⟩
  exact loop n 0 (by omega) (fun j h => absurd h (Nat.not_lt_zero j))
theorem m_Ml_addAtomsOf (hT : mj_tab Γ) (hw : S.2.1 = 62) (h : mj_ml S o n K F B) {c m hy z : Nat} {CK CD : Nat → Int} (hc : mj_ca S c CK CD m hy z) (hdis : c + 2 < o ∨ o + 3 < c) (hm : m ≤ 6) (hK : ∀ j, j < m → ∃ k : Nat, k < 9 ∧ CK j = k) (hd : 2 ≤ d) : mj_Met Γ d y_Ml_addAtomsOf M_Ml_addAtomsOf [.ref o, .ref c] S 0 0
    (mj_V fun S' => mj_fr S S' [o, o + 1, o + 2, o + 3] ∧ ∃ K' F', mj_ml S' o m K' F' (mj_fl B 0 36) ∧ ∀ j, j < m → K' j = CK j ∧ F' j = mj_VAL (CK j).toNat) := by
  refine mj_Met.of (by decide) ⟨rfl, rfl⟩ rfl rfl rfl ?_
  have h1 := h.1
  have h5 := h.2.2.2.2
  refine mj_aload_n d_Ml_addAtomsOf_0 rfl ?_
  refine mz_callV0v (ci := 4) d_Ml_addAtomsOf_1 (m_Ml_clear (d := 1) hw h (by omega)) cw_Ml_clear lk_Ml_34 rfl rfl (by omega) (by assumption) (by omega) rfl (fun S_1 h_1 => ?_)
  obtain ⟨f1, hm1⟩ := h_1
  have hc1 : mj_ca S_1 c CK CD m hy z := hc.fr f1 (by simp; try omega)
  have hw1 := f1.w
  refine mz_iconst d_Ml_addAtomsOf_4 ?_
  refine mz_ist2 d_Ml_addAtomsOf_5 (rfl) ?_
  have loop : ∀ (q i : Nat) (S1 : mj_S) (K' F' : Nat → Int), i + q = m → mj_fr S S1 [o, o + 1, o + 2, o + 3] → mj_ml S1 o i K' F' (mj_fl B 0 36) → (∀ j, j < i → K' j = CK j ∧ F' j = mj_VAL (CK j).toNat) → mj_Ok Γ d M_Ml_addAtomsOf 0 0 6 [.ref o, .ref c, .int (iZ i)] [] S1
      (mj_V fun S' => mj_fr S S' [o, o + 1, o + 2, o + 3] ∧ ∃ K' F', mj_ml S' o m K' F' (mj_fl B 0 36) ∧ ∀ j, j < m → K' j = CK j ∧ F' j = mj_VAL (CK j).toNat) := by
    intro q
    induction q with
    | zero =>
      intro i S1 K' F' hi f1 hm1 hj
      have hc1 : mj_ca S1 c CK CD m hy z := hc.fr f1 (by simp; try omega)
      have hw1 := f1.w
      obtain ⟨c1, c2, c3, c4⟩ := hc1
      refine mj_iload_n d_Ml_addAtomsOf_6 rfl ?_
      refine mj_aload_n d_Ml_addAtomsOf_7 rfl ?_
      refine mj_get (ci := 8) (j := 2) d_Ml_addAtomsOf_8 rfl w_Ml_37 (by decide) (by omega) (by assumption) rfl ?_
      refine mz_icmp_ge 30 d_Ml_addAtomsOf_11 (by decide) (by omega) (by omega) (fun c_11 => ?_) (fun c_11 => ?_)
      · refine mz_vret d_Ml_addAtomsOf_30 rfl ?_
        have e : i = m := by omega
        subst e
        exact ⟨f1, K', F', hm1, hj⟩
      · omega
    | succ q ih =>
      intro i S1 K' F' hi f1 hm1 hj
      have hc1 : mj_ca S1 c CK CD m hy z := hc.fr f1 (by simp; try omega)
      have hw1 := f1.w
      obtain ⟨c1, c2, c3, c4⟩ := hc1
      have g1 := hm1.1
      obtain ⟨k, hk, ek⟩ := hK i (by omega)
      refine mj_iload_n d_Ml_addAtomsOf_6 rfl ?_
      refine mj_aload_n d_Ml_addAtomsOf_7 rfl ?_
      refine mj_get (ci := 8) (j := 2) d_Ml_addAtomsOf_8 rfl w_Ml_37 (by decide) (by omega) (by assumption) rfl ?_
      refine mz_icmp_ge 30 d_Ml_addAtomsOf_11 (by decide) (by omega) (by omega) (fun c_11 => ?_) (fun c_11 => ?_)
      · omega
      · refine mj_aload_n d_Ml_addAtomsOf_14 rfl ?_
        refine mj_aload_n d_Ml_addAtomsOf_15 rfl ?_
        refine mj_get (ci := 8) (j := 0) d_Ml_addAtomsOf_16 rfl w_Ml_40 (by decide) (by omega) (by assumption) rfl ?_
        refine mj_iload_n d_Ml_addAtomsOf_19 rfl ?_
        refine mz_iald d_Ml_addAtomsOf_20 (by omega) (by assumption) (rfl) (by omega) ?_
        rw [ek]
        refine mz_callV1v (ci := 4) d_Ml_addAtomsOf_21 (m_Ml_addAtom (d := 0) hT (by omega) hm1 (by omega) (by omega)) cw_Ml_addAtom lk_Ml_41 rfl rfl (by omega) (by assumption) (by omega) rfl (fun S_21 h_21 => ?_)
        obtain ⟨f2, hm2⟩ := h_21
        refine mz_inc2 d_Ml_addAtomsOf_24 (rfl) ?_
        refine mj_goto 6 d_Ml_addAtomsOf_27 (by decide) ?_
        refine ih (i + 1) S_21 _ _ (by omega) (f1.tr f2 (by simp) (by simp; try omega)) hm2 (fun j hj2 => ?_)
        by_cases e : j = i
        · subst e
          rw [va_up_self, va_up_self, ek]
          exact ⟨rfl, rfl⟩
        · rw [va_up_ne _ _ e, va_up_ne _ _ e]
          exact hj j (by omega)
  exact loop m 0 S_1 K F (by omega) (f1.tr (mj_fr.rf _ []) (by simp; try omega) (by simp)) hm1 (fun j h => absurd h (Nat.not_lt_zero j))
end ML
end
section
/-! the catalogue's methods (a catalogue at o: kinds o + 1, codes o + 2) -/
section CA
variable {Γ : mj_G} {d o n h z : Nat} {S : mj_S} {K D : Nat → Int}
theorem m_Ca_isOverfull (hw : S.2.1 = 62) (hc : mj_ca S o K D n h z) (hz : z < 1000) : mj_Met Γ d y_Ca_isOverfull M_Ca_isOverfull [.ref o] S 0 0 (mj_I fun r S' => S' = S ∧ r = if 500 < z then 1 else 0) := by
  obtain ⟨h1, h2, h3, h5⟩ := hc
  refine mj_Met.of (by decide) ⟨rfl, rfl⟩ rfl rfl rfl ?_
  refine mj_aload_n d_Ca_isOverfull_0 rfl ?_
  refine mj_get (ci := 8) (j := 4) d_Ca_isOverfull_1 rfl w_Ca_22 (by decide) (by omega) (by assumption) rfl ?_
  refine mz_sipush d_Ca_isOverfull_4 (by decide) ?_
  refine mz_icmp_le 14 d_Ca_isOverfull_7 (by decide) (by omega) (by omega) (fun c_7 => ?_) (fun c_7 => ?_)
  · refine mz_iconst d_Ca_isOverfull_14 ?_
    refine mz_iret d_Ca_isOverfull_15 rfl (rfl) ?_
    exact ⟨rfl, by rw [if_neg (by omega)]⟩
  · refine mz_iconst d_Ca_isOverfull_10 ?_
    refine mj_goto 15 d_Ca_isOverfull_11 (by decide) ?_
    refine mz_iret d_Ca_isOverfull_15 rfl (rfl) ?_
    exact ⟨rfl, by rw [if_pos (by omega)]⟩
theorem m_Ca_add (hw : S.2.1 = 62) (hc : mj_ca S o K D n h z) (hz : z < 1000) {c : Int} : mj_Met Γ d y_Ca_add M_Ca_add [.ref o, .int (iZ c)] S 0 0 (mj_V fun S' => mj_fr S S' [o, o + 2] ∧ mj_ca S' o K (if z < 500 then va_up D z c else D) n h (z + 1)) := by
  obtain ⟨h1, h2, h3, h5⟩ := hc
  refine mj_Met.of (by decide) ⟨rfl, rfl⟩ rfl rfl rfl ?_
  refine mj_aload_n d_Ca_add_0 rfl ?_
  refine mj_get (ci := 8) (j := 4) d_Ca_add_1 rfl w_Ca_22 (by decide) (by omega) (by assumption) rfl ?_
  refine mz_sipush d_Ca_add_4 (by decide) ?_
  refine mz_icmp_ge 20 d_Ca_add_7 (by decide) (by omega) (by omega) (fun c_7 => ?_) (fun c_7 => ?_)
  · refine mj_aload_n d_Ca_add_20 rfl ?_
    refine mj_dup d_Ca_add_21 rfl ?_
    refine mj_get (ci := 8) (j := 4) d_Ca_add_22 rfl w_Ca_22 (by decide) (by omega) (by assumption) rfl ?_
    refine mz_iconst d_Ca_add_25 ?_
    refine mz_iadd d_Ca_add_26 ?_
    refine mz_put (ci := 8) (j := 4) d_Ca_add_27 rfl w_Ca_22 (by decide) rfl (by omega) (by assumption) (Nat.le_of_ble_eq_true rfl) (mj_fit_int _) rfl (fun S_27 w_27 e_27 f_27 => ?_)
    have h2 := f_27.at h2 (by simp; try omega)
    have h3 := f_27.at h3 (by simp; try omega)
    refine mz_vret d_Ca_add_30 rfl ?_
    rw [if_neg (by omega)]
    exact ⟨f_27.tr (mj_fr.rf _ []) (by simp) (by simp), e_27, h2, h3, h5⟩
  · refine mj_aload_n d_Ca_add_10 rfl ?_
    refine mj_get (ci := 8) (j := 1) d_Ca_add_11 rfl w_Ca_15 (by decide) (by omega) (by assumption) rfl ?_
    refine mj_aload_n d_Ca_add_14 rfl ?_
    refine mj_get (ci := 8) (j := 4) d_Ca_add_15 rfl w_Ca_22 (by decide) (by omega) (by assumption) rfl ?_
    refine mj_iload_n d_Ca_add_18 rfl ?_
    refine mz_iast d_Ca_add_19 (by omega) (by assumption) (rfl) (by omega) (fun S_19 w_19 e_19 f_19 => ?_)
    have h1 := f_19.at h1 (by simp; try omega)
    have h2 := f_19.at h2 (by simp; try omega)
    refine mj_aload_n d_Ca_add_20 rfl ?_
    refine mj_dup d_Ca_add_21 rfl ?_
    refine mj_get (ci := 8) (j := 4) d_Ca_add_22 rfl w_Ca_22 (by decide) (by omega) (by assumption) rfl ?_
    refine mz_iconst d_Ca_add_25 ?_
    refine mz_iadd d_Ca_add_26 ?_
    refine mz_put (ci := 8) (j := 4) d_Ca_add_27 rfl w_Ca_22 (by decide) rfl (by omega) (by assumption) (Nat.le_of_ble_eq_true rfl) (mj_fit_int _) rfl (fun S_27 w_27 e_27 f_27 => ?_)
    have h2 := f_27.at h2 (by simp; try omega)
    have e_19 := f_27.at e_19 (by simp; try omega)
    refine mz_vret d_Ca_add_30 rfl ?_
    rw [if_pos (by omega)]
    exact ⟨f_19.tr f_27 (by simp) (by simp), e_27, h2, e_19, h5⟩
theorem m_Ca_find (hw : S.2.1 = 62) (hc : mj_ca S o K D n h z) (hz : z ≤ 500) {c : Int} (hcr : iR c) (hD : ∀ j, j < z → iR (D j)) : mj_Met Γ d y_Ca_find M_Ca_find [.ref o, .int (iZ c)] S 0 0 (mj_I fun r S' => S' = S ∧ ((∃ i : Nat, r = i ∧ i < z ∧ D i = c ∧ ∀ j, j < i → D j ≠ c) ∨ (r = -1 ∧ ∀ j, j < z → D j ≠ c))) := by
  obtain ⟨h1, h2, h3, h5⟩ := hc
  refine mj_Met.of (by decide) ⟨rfl, rfl⟩ rfl rfl rfl ?_
  refine mz_iconst d_Ca_find_0 ?_
  refine mz_ist2 d_Ca_find_1 (rfl) ?_
  have loop : ∀ (q i : Nat), i + q = z → (∀ j, j < i → D j ≠ c) → mj_Ok Γ d M_Ca_find 0 0 2 [.ref o, .int (iZ c), .int (iZ i)] [] S (mj_I fun r S' => S' = S ∧ ((∃ i : Nat, r = i ∧ i < z ∧ D i = c ∧ ∀ j, j < i → D j ≠ c) ∨ (r = -1 ∧ ∀ j, j < z → D j ≠ c))) := by
    intro q
    induction q with
    | zero =>
      intro i hi hj
      refine mj_iload_n d_Ca_find_2 rfl ?_
      refine mj_aload_n d_Ca_find_3 rfl ?_
      refine mj_get (ci := 8) (j := 4) d_Ca_find_4 rfl w_Ca_22 (by decide) (by omega) (by assumption) rfl ?_
      refine mz_icmp_ge 28 d_Ca_find_7 (by decide) (by omega) (by omega) (fun c_7 => ?_) (fun c_7 => ?_)
      · refine mz_iconst d_Ca_find_28 ?_
        refine mz_iret d_Ca_find_29 rfl (rfl) ?_
        rw [show i = z by omega] at hj
        exact ⟨rfl, Or.inr ⟨rfl, hj⟩⟩
      · omega
    | succ q ih =>
      intro i hi hj
      have r := hD i (by omega)
      refine mj_iload_n d_Ca_find_2 rfl ?_
      refine mj_aload_n d_Ca_find_3 rfl ?_
      refine mj_get (ci := 8) (j := 4) d_Ca_find_4 rfl w_Ca_22 (by decide) (by omega) (by assumption) rfl ?_
      refine mz_icmp_ge 28 d_Ca_find_7 (by decide) (by omega) (by omega) (fun c_7 => ?_) (fun c_7 => ?_)
      · omega
      · refine mj_aload_n d_Ca_find_10 rfl ?_
        refine mj_get (ci := 8) (j := 1) d_Ca_find_11 rfl w_Ca_15 (by decide) (by omega) (by assumption) rfl ?_
        refine mj_iload_n d_Ca_find_14 rfl ?_
        refine mz_iald d_Ca_find_15 (by omega) (by assumption) (rfl) (by omega) ?_
        refine mj_iload_n d_Ca_find_16 rfl ?_
        refine mz_icmp_ne 22 d_Ca_find_17 (by decide) (by omega) (by omega) (fun c_17 => ?_) (fun c_17 => ?_)
        · refine mz_inc2 d_Ca_find_22 (rfl) ?_
          refine mj_goto 2 d_Ca_find_25 (by decide) ?_
          exact ih (i + 1) (by omega) (fun j h => by
            rcases Nat.lt_or_ge j i with w | w
            · exact hj j w
            · rw [show j = i by omega]; exact c_17)
        · refine mj_iload_n d_Ca_find_20 rfl ?_
          refine mz_iret d_Ca_find_21 rfl (rfl) ?_
          exact ⟨rfl, Or.inl ⟨i, rfl, by omega, c_17, hj⟩⟩
  exact loop z 0 (by omega) (fun j h => absurd h (Nat.not_lt_zero j))
theorem m_Ca_hasSameFormula (hw : S.2.1 = 62) (hc : mj_ca S o K D n h z) {o2 n2 h2 z2 : Nat} {K2 D2 : Nat → Int} (hc2 : mj_ca S o2 K2 D2 n2 h2 z2) (hn : n ≤ 6) (hn2 : n2 ≤ 6) (hh : h ≤ 1000) (hh2 : h2 ≤ 1000) (hK : ∀ j, j < n → iR (K j)) (hK2 : ∀ j, j < n2 → iR (K2 j)) :
    mj_Met Γ d y_Ca_hasSameFormula M_Ca_hasSameFormula [.ref o, .ref o2] S 0 0 (mj_I fun r S' => S' = S ∧ ((r = 1 ∧ n = n2 ∧ h = h2 ∧ ∀ j, j < n → K j = K2 j) ∨ (r = 0 ∧ ¬ (n = n2 ∧ h = h2 ∧ ∀ j, j < n → K j = K2 j)))) := by
  obtain ⟨g1, g2, g3, g5⟩ := hc
  obtain ⟨k1, k2, k3, k5⟩ := hc2
  refine mj_Met.of (by decide) ⟨rfl, rfl⟩ rfl rfl rfl ?_
  refine mj_aload_n d_Ca_hasSameFormula_0 rfl ?_
  refine mj_get (ci := 8) (j := 2) d_Ca_hasSameFormula_1 rfl w_Ca_18 (by decide) (by omega) (by assumption) rfl ?_
  refine mj_aload_n d_Ca_hasSameFormula_4 rfl ?_
  refine mj_get (ci := 8) (j := 2) d_Ca_hasSameFormula_5 rfl w_Ca_18 (by decide) (by omega) (by assumption) rfl ?_
  refine mz_icmp_ne 22 d_Ca_hasSameFormula_8 (by decide) (by omega) (by omega) (fun c_8 => ?_) (fun c_8 => ?_)
  · refine mz_iconst d_Ca_hasSameFormula_22 ?_
    refine mz_iret d_Ca_hasSameFormula_23 rfl (rfl) ?_
    exact ⟨rfl, Or.inr ⟨rfl, fun q => c_8 (by rw [q.1])⟩⟩
  · have en : n = n2 := by omega
    subst en
    refine mj_aload_n d_Ca_hasSameFormula_11 rfl ?_
    refine mj_get (ci := 8) (j := 3) d_Ca_hasSameFormula_12 rfl w_Ca_25 (by decide) (by omega) (by assumption) rfl ?_
    refine mj_aload_n d_Ca_hasSameFormula_15 rfl ?_
    refine mj_get (ci := 8) (j := 3) d_Ca_hasSameFormula_16 rfl w_Ca_25 (by decide) (by omega) (by assumption) rfl ?_
    refine mz_icmp_eq 24 d_Ca_hasSameFormula_19 (by decide) (by omega) (by omega) (fun c_19 => ?_) (fun c_19 => ?_)
    · have eh : h = h2 := by omega
      subst eh
      refine mz_iconst d_Ca_hasSameFormula_24 ?_
      refine mz_ist2 d_Ca_hasSameFormula_25 (rfl) ?_
      have loop : ∀ (q i : Nat), i + q = n → (∀ j, j < i → K j = K2 j) → mj_Ok Γ d M_Ca_hasSameFormula 0 0 26 [.ref o, .ref o2, .int (iZ i)] [] S (mj_I fun r S' => S' = S ∧ ((r = 1 ∧ n = n ∧ h = h ∧ ∀ j, j < n → K j = K2 j) ∨ (r = 0 ∧ ¬ (n = n ∧ h = h ∧ ∀ j, j < n → K j = K2 j)))) := by
        intro q
        induction q with
        | zero =>
          intro i hi hj
          refine mj_iload_n d_Ca_hasSameFormula_26 rfl ?_
          refine mj_aload_n d_Ca_hasSameFormula_27 rfl ?_
          refine mj_get (ci := 8) (j := 2) d_Ca_hasSameFormula_28 rfl w_Ca_18 (by decide) (by omega) (by assumption) rfl ?_
          refine mz_icmp_ge 57 d_Ca_hasSameFormula_31 (by decide) (by omega) (by omega) (fun c_31 => ?_) (fun c_31 => ?_)
          · refine mz_iconst d_Ca_hasSameFormula_57 ?_
            refine mz_iret d_Ca_hasSameFormula_58 rfl (rfl) ?_
            rw [show i = n by omega] at hj
            exact ⟨rfl, Or.inl ⟨rfl, rfl, rfl, hj⟩⟩
          · omega
        | succ q ih =>
          intro i hi hj
          have r1 := hK i (by omega)
          have r2 := hK2 i (by omega)
          refine mj_iload_n d_Ca_hasSameFormula_26 rfl ?_
          refine mj_aload_n d_Ca_hasSameFormula_27 rfl ?_
          refine mj_get (ci := 8) (j := 2) d_Ca_hasSameFormula_28 rfl w_Ca_18 (by decide) (by omega) (by assumption) rfl ?_
          refine mz_icmp_ge 57 d_Ca_hasSameFormula_31 (by decide) (by omega) (by omega) (fun c_31 => ?_) (fun c_31 => ?_)
          · omega
          · refine mj_aload_n d_Ca_hasSameFormula_34 rfl ?_
            refine mj_get (ci := 8) (j := 0) d_Ca_hasSameFormula_35 rfl w_Ca_9 (by decide) (by omega) (by assumption) rfl ?_
            refine mj_iload_n d_Ca_hasSameFormula_38 rfl ?_
            refine mz_iald d_Ca_hasSameFormula_39 (by omega) (by assumption) (rfl) (by omega) ?_
            refine mj_aload_n d_Ca_hasSameFormula_40 rfl ?_
            refine mj_get (ci := 8) (j := 0) d_Ca_hasSameFormula_41 rfl w_Ca_9 (by decide) (by omega) (by assumption) rfl ?_
            refine mj_iload_n d_Ca_hasSameFormula_44 rfl ?_
            refine mz_iald d_Ca_hasSameFormula_45 (by omega) (by assumption) (rfl) (by omega) ?_
            refine mz_icmp_eq 51 d_Ca_hasSameFormula_46 (by decide) (by omega) (by omega) (fun c_46 => ?_) (fun c_46 => ?_)
            · refine mz_inc2 d_Ca_hasSameFormula_51 (rfl) ?_
              refine mj_goto 26 d_Ca_hasSameFormula_54 (by decide) ?_
              exact ih (i + 1) (by omega) (fun j h => by
                rcases Nat.lt_or_ge j i with w | w
                · exact hj j w
                · rw [show j = i by omega]; exact c_46)
            · refine mz_iconst d_Ca_hasSameFormula_49 ?_
              refine mz_iret d_Ca_hasSameFormula_50 rfl (rfl) ?_
              exact ⟨rfl, Or.inr ⟨rfl, fun q => c_46 (q.2.2 i (by omega))⟩⟩
      exact loop n 0 (by omega) (fun j h => absurd h (Nat.not_lt_zero j))
    · refine mz_iconst d_Ca_hasSameFormula_22 ?_
      refine mz_iret d_Ca_hasSameFormula_23 rfl (rfl) ?_
      exact ⟨rfl, Or.inr ⟨rfl, fun q => c_19 (by rw [q.2.1])⟩⟩
theorem m_Ca_hasFormulaOf (hw : S.2.1 = 62) (hc : mj_ca S o K D n h z) {o2 n2 : Nat} {K2 F2 B2 : Nat → Int} (hm : mj_ml S o2 n2 K2 F2 B2) (hd : 1 ≤ d) (hn : n ≤ 6) (hn2 : n2 ≤ 6) (hh : h ≤ 1000) (hK : ∀ j, j < n → iR (K j)) (hK2 : ∀ j, j < n2 → iR (K2 j)) (hF : iR (mj_sum F2 n2)) :
    mj_Met Γ d y_Ca_hasFormulaOf M_Ca_hasFormulaOf [.ref o, .ref o2] S 0 0 (mj_I fun r S' => S' = S ∧ ((r = 1 ∧ n = n2 ∧ (h : Int) = mj_sum F2 n2 ∧ ∀ j, j < n → mj_cnt K2 (K j) n = mj_cnt K (K j) n) ∨ (r = 0 ∧ ¬ (n = n2 ∧ (h : Int) = mj_sum F2 n2 ∧ ∀ j, j < n → mj_cnt K2 (K j) n = mj_cnt K (K j) n)))) := by
  obtain ⟨g1, g2, g3, g5⟩ := hc
  have hm0 := hm
  obtain ⟨k1, k2, k3, k4, k5⟩ := hm
  refine mj_Met.of (by decide) ⟨rfl, rfl⟩ rfl rfl rfl ?_
  refine mj_aload_n d_Ca_hasFormulaOf_0 rfl ?_
  refine mj_get (ci := 8) (j := 2) d_Ca_hasFormulaOf_1 rfl w_Ca_18 (by decide) (by omega) (by assumption) rfl ?_
  refine mj_aload_n d_Ca_hasFormulaOf_4 rfl ?_
  refine mj_get (ci := 4) (j := 3) d_Ca_hasFormulaOf_5 rfl w_Ca_28 (by decide) (by omega) (by assumption) rfl ?_
  refine mz_icmp_ne 22 d_Ca_hasFormulaOf_8 (by decide) (by omega) (by omega) (fun c_8 => ?_) (fun c_8 => ?_)
  · refine mz_iconst d_Ca_hasFormulaOf_22 ?_
    refine mz_iret d_Ca_hasFormulaOf_23 rfl (rfl) ?_
    exact ⟨rfl, Or.inr ⟨rfl, fun q => c_8 (by rw [q.1])⟩⟩
  · have en : n = n2 := by omega
    subst en
    refine mj_aload_n d_Ca_hasFormulaOf_11 rfl ?_
    refine mj_get (ci := 8) (j := 3) d_Ca_hasFormulaOf_12 rfl w_Ca_25 (by decide) (by omega) (by assumption) rfl ?_
    refine mj_aload_n d_Ca_hasFormulaOf_15 rfl ?_
    refine mz_callV0i (ci := 4) d_Ca_hasFormulaOf_16 (m_Ml_freeSum (d := 0) hw hm0 hn) cw_Ml_freeSum lk_Ca_31 rfl rfl (by omega) (by assumption) (by omega) rfl (fun z_16 S_16 h_16 => ?_)
    obtain ⟨rfl, rfl⟩ := h_16
    refine mz_icmp_eq 24 d_Ca_hasFormulaOf_19 (by decide) (by omega) (by omega) (fun c_19 => ?_) (fun c_19 => ?_)
    · refine mz_iconst d_Ca_hasFormulaOf_24 ?_
      refine mz_ist2 d_Ca_hasFormulaOf_25 (rfl) ?_
      have loop : ∀ (q i : Nat), i + q = n → (∀ j, j < i → mj_cnt K2 (K j) n = mj_cnt K (K j) n) → ∀ x3 : Value, x3.category = 1 → mj_Ok Γ d M_Ca_hasFormulaOf 0 0 26 [.ref o, .ref o2, .int (iZ i), x3] [] S_16 (mj_I fun r S' => S' = S_16 ∧ ((r = 1 ∧ n = n ∧ (h : Int) = mj_sum F2 n ∧ ∀ j, j < n → mj_cnt K2 (K j) n = mj_cnt K (K j) n) ∨ (r = 0 ∧ ¬ (n = n ∧ (h : Int) = mj_sum F2 n ∧ ∀ j, j < n → mj_cnt K2 (K j) n = mj_cnt K (K j) n)))) := by
        intro q
        induction q with
        | zero =>
          intro i hi hj x3 hx3
          refine mj_iload_n d_Ca_hasFormulaOf_26 rfl ?_
          refine mj_aload_n d_Ca_hasFormulaOf_27 rfl ?_
          refine mj_get (ci := 8) (j := 2) d_Ca_hasFormulaOf_28 rfl w_Ca_18 (by decide) (by omega) (by assumption) rfl ?_
          refine mz_icmp_ge 76 d_Ca_hasFormulaOf_31 (by decide) (by omega) (by omega) (fun c_31 => ?_) (fun c_31 => ?_)
          · refine mz_iconst d_Ca_hasFormulaOf_76 ?_
            refine mz_iret d_Ca_hasFormulaOf_77 rfl (rfl) ?_
            rw [show i = n by omega] at hj
            exact ⟨rfl, Or.inl ⟨rfl, rfl, c_19, hj⟩⟩
          · omega
        | succ q ih =>
          intro i hi hj x3 hx3
          have r1 := hK i (by omega)
          have l1 := mj_cnt_le K2 (K i) n
          have l2 := mj_cnt_le K (K i) n
          refine mj_iload_n d_Ca_hasFormulaOf_26 rfl ?_
          refine mj_aload_n d_Ca_hasFormulaOf_27 rfl ?_
          refine mj_get (ci := 8) (j := 2) d_Ca_hasFormulaOf_28 rfl w_Ca_18 (by decide) (by omega) (by assumption) rfl ?_
          refine mz_icmp_ge 76 d_Ca_hasFormulaOf_31 (by decide) (by omega) (by omega) (fun c_31 => ?_) (fun c_31 => ?_)
          · omega
          · refine mj_aload_n d_Ca_hasFormulaOf_34 rfl ?_
            refine mj_get (ci := 8) (j := 0) d_Ca_hasFormulaOf_35 rfl w_Ca_9 (by decide) (by omega) (by assumption) rfl ?_
            refine mj_iload_n d_Ca_hasFormulaOf_38 rfl ?_
            refine mz_iald d_Ca_hasFormulaOf_39 (by omega) (by assumption) (rfl) (by omega) ?_
            refine mz_ist3 d_Ca_hasFormulaOf_40 (by unfold mj_c1; simp only [List.all_cons, hx3]; rfl) ?_
            refine mj_iload_n d_Ca_hasFormulaOf_41 rfl ?_
            refine mj_aload_n d_Ca_hasFormulaOf_42 rfl ?_
            refine mj_get (ci := 4) (j := 0) d_Ca_hasFormulaOf_43 rfl w_Ca_35 (by decide) (by omega) (by assumption) rfl ?_
            refine mj_aload_n d_Ca_hasFormulaOf_46 rfl ?_
            refine mj_get (ci := 8) (j := 2) d_Ca_hasFormulaOf_47 rfl w_Ca_18 (by decide) (by omega) (by assumption) rfl ?_
            refine mz_callSN3i d_Ca_hasFormulaOf_50 (m_IL_occurrences (d := 0) (by omega) k2 (by omega) (by omega) r1 (fun j hj => hK2 j hj)) cw_IL_occurrences lk_Ca_36 (by omega) rfl (fun z_50 S_50 h_50 => ?_)
            obtain ⟨rfl, rfl⟩ := h_50
            refine mj_iload_n d_Ca_hasFormulaOf_53 rfl ?_
            refine mj_aload_n d_Ca_hasFormulaOf_54 rfl ?_
            refine mj_get (ci := 8) (j := 0) d_Ca_hasFormulaOf_55 rfl w_Ca_9 (by decide) (by omega) (by assumption) rfl ?_
            refine mj_aload_n d_Ca_hasFormulaOf_58 rfl ?_
            refine mj_get (ci := 8) (j := 2) d_Ca_hasFormulaOf_59 rfl w_Ca_18 (by decide) (by omega) (by assumption) rfl ?_
            refine mz_callSN3i d_Ca_hasFormulaOf_62 (m_IL_occurrences (d := 0) (by omega) g2 (by omega) (by omega) r1 (fun j hj => hK j hj)) cw_IL_occurrences lk_Ca_36 (by omega) rfl (fun z_62 S_62 h_62 => ?_)
            obtain ⟨rfl, rfl⟩ := h_62
            refine mz_icmp_eq 70 d_Ca_hasFormulaOf_65 (by decide) (by omega) (by omega) (fun c_65 => ?_) (fun c_65 => ?_)
            · refine mz_inc2 d_Ca_hasFormulaOf_70 (rfl) ?_
              refine mj_goto 26 d_Ca_hasFormulaOf_73 (by decide) ?_
              exact ih (i + 1) (by omega) (fun j h => by
                rcases Nat.lt_or_ge j i with w | w
                · exact hj j w
                · rw [show j = i by omega]; omega) _ rfl
            · refine mz_iconst d_Ca_hasFormulaOf_68 ?_
              refine mz_iret d_Ca_hasFormulaOf_69 rfl (rfl) ?_
              exact ⟨rfl, Or.inr ⟨rfl, fun q => c_65 (by rw [q.2.2 i (by omega)])⟩⟩
      exact loop n 0 (by omega) (fun j h => absurd h (Nat.not_lt_zero j)) _ rfl
    · refine mz_iconst d_Ca_hasFormulaOf_22 ?_
      refine mz_iret d_Ca_hasFormulaOf_23 rfl (rfl) ?_
      exact ⟨rfl, Or.inr ⟨rfl, fun q => c_19 q.2.1⟩⟩
/-- the atoms of a formula: m of the element e behind those that are there -/
def tk1 (e : Int) : Nat → Nat × (Nat → Int) → Nat × (Nat → Int)
  | 0, p => p
  | m + 1, p => tk1 e m (p.1 + 1, va_up p.2 p.1 e)
/-- .. of the elements 9 - m .. 8 -/
def tkA (c : Nat → Nat) : Nat → Nat × (Nat → Int) → Nat × (Nat → Int)
  | 0, p => p
  | m + 1, p => tkA c m (tk1 ((9 - (m + 1) : Nat) : Int) (c (9 - (m + 1))) p)
def tkS (c : Nat → Nat) : Nat → Nat
  | 0 => 0
  | m + 1 => c (9 - (m + 1)) + tkS c m
theorem tk1_n (e : Int) : ∀ (m : Nat) (p : Nat × (Nat → Int)), (tk1 e m p).1 = p.1 + m := by
  intro m
  induction m with
  | zero => intro p; rfl
  | succ m ih => intro p; rw [tk1, ih]; show p.1 + 1 + m = p.1 + (m + 1); omega
theorem tkA_n (c : Nat → Nat) : ∀ (m : Nat) (p : Nat × (Nat → Int)), (tkA c m p).1 = p.1 + tkS c m := by
  intro m
  induction m with
  | zero => intro p; rfl
  | succ m ih => intro p; rw [tkA, ih, tk1_n, tkS]; omega
theorem m_Ca_take (hw : S.2.1 = 62) (hc : mj_ca S o K D n h z) {a : Nat} {A : Nat → Int} {c : Nat → Nat} (ha : a < 62) (hao : a < o ∨ o + 2 < a) (he : S.1 a = .inl (0, 10, .inl (mj_z A))) (hA : ∀ j, j < 10 → A j = c j) (hs : tkS c 9 ≤ 6) (h9 : c 9 ≤ 1000) :
    mj_Met Γ d y_Ca_take M_Ca_take [.ref o, .ref a] S 0 0 (mj_V fun S' => mj_fr S S' [o, o + 1] ∧ mj_ca S' o (tkA c 9 (0, K)).2 D (tkA c 9 (0, K)).1 (c 9) 0) := by
  obtain ⟨g1, g2, g3, g5⟩ := hc
  refine mj_Met.of (by decide) ⟨rfl, rfl⟩ rfl rfl rfl ?_
  refine mj_aload_n d_Ca_take_0 rfl ?_
  refine mz_iconst d_Ca_take_1 ?_
  refine mz_put (ci := 8) (j := 2) d_Ca_take_2 rfl w_Ca_18 (by decide) rfl (by omega) (by assumption) (Nat.le_of_ble_eq_true rfl) (mj_fit_int _) rfl (fun S_2 w_2 e_2 f_2 => ?_)
  have g2 := f_2.at g2 (by simp; try omega)
  have g3 := f_2.at g3 (by simp; try omega)
  have he := f_2.at he (by simp; try omega)
  refine mj_aload_n d_Ca_take_5 rfl ?_
  refine mz_iconst d_Ca_take_6 ?_
  refine mz_put (ci := 8) (j := 4) d_Ca_take_7 rfl w_Ca_22 (by decide) rfl (by omega) (by assumption) (Nat.le_of_ble_eq_true rfl) (mj_fit_int _) rfl (fun S_7 w_7 e_7 f_7 => ?_)
  have g2 := f_7.at g2 (by simp; try omega)
  have g3 := f_7.at g3 (by simp; try omega)
  have he := f_7.at he (by simp; try omega)
  refine mj_aload_n d_Ca_take_10 rfl ?_
  refine mj_aload_n d_Ca_take_11 rfl ?_
  refine mz_bipush d_Ca_take_12 (by decide) ?_
  refine mz_iald (j := 9) d_Ca_take_14 (by omega) (by assumption) (by omega) (by omega) ?_
  rw [hA 9 (by omega)]
  refine mz_put (ci := 8) (j := 3) d_Ca_take_15 rfl w_Ca_25 (by decide) rfl (by omega) (by assumption) (Nat.le_of_ble_eq_true rfl) (mj_fit_int _) rfl (fun S_15 w_15 e_15 f_15 => ?_)
  have g2 := f_15.at g2 (by simp; try omega)
  have g3 := f_15.at g3 (by simp; try omega)
  have he := f_15.at he (by simp; try omega)
  refine mz_iconst d_Ca_take_18 ?_
  refine mz_ist2 d_Ca_take_19 (rfl) ?_
  have fr0 : mj_fr S S_15 [o, o + 1] := (f_2.tr f_7 (l := [o]) (by simp) (by simp)).tr f_15 (by simp) (by simp)
  have loop : ∀ (m : Nat) (S1 : mj_S) (p : Nat × (Nat → Int)), m ≤ 9 → p.1 + tkS c m ≤ 6 → mj_fr S S1 [o, o + 1] → S1.1 o = .inr (8, [.ref (o + 1), .ref (o + 2), .int (iZ p.1), .int (iZ (c 9)), .int (iZ 0)]) → S1.1 (o + 1) = .inl (0, 6, .inl (mj_z p.2)) → ∀ x3 : Value, x3.category = 1 →
      mj_Ok Γ d M_Ca_take 0 0 20 [.ref o, .ref a, .int (iZ ((9 - m : Nat) : Int)), x3] [] S1 (mj_V fun S' => mj_fr S S' [o, o + 1] ∧ mj_ca S' o (tkA c m p).2 D (tkA c m p).1 (c 9) 0) := by
    intro m
    induction m with
    | zero =>
      intro S1 p hm hp f1 q1 q2 x3 hx3
      refine mj_iload_n d_Ca_take_20 rfl ?_
      refine mz_bipush d_Ca_take_21 (by decide) ?_
      refine mz_icmp_ge 76 d_Ca_take_23 (by decide) (by omega) (by omega) (fun c_23 => ?_) (fun c_23 => ?_)
      · refine mz_vret d_Ca_take_76 rfl ?_
        have hw1 := f1.w
        exact ⟨f1, q1, q2, (f1.2 (o + 2) (by simp)).trans ((fr0.2 (o + 2) (by simp)).symm.trans g3), g5⟩
      · omega
    | succ m ih =>
      intro S1 p hm hp f1 q1 q2 x3 hx3
      have e9 : 9 - (m + 1) + 1 = 9 - m := by omega
      have hce : c (9 - (m + 1)) ≤ 6 := by rw [tkS] at hp; omega
      refine mj_iload_n d_Ca_take_20 rfl ?_
      refine mz_bipush d_Ca_take_21 (by decide) ?_
      refine mz_icmp_ge 76 d_Ca_take_23 (by decide) (by omega) (by omega) (fun c_23 => ?_) (fun c_23 => ?_)
      · omega
      · refine mz_iconst d_Ca_take_26 ?_
        refine mz_ist3 d_Ca_take_27 (by unfold mj_c1; simp only [List.all_cons, hx3]; rfl) ?_
        have inner : ∀ (r i : Nat) (S2 : mj_S) (p2 : Nat × (Nat → Int)), i + r = c (9 - (m + 1)) → p2.1 + r + tkS c m ≤ 6 → mj_fr S S2 [o, o + 1] → S2.1 o = .inr (8, [.ref (o + 1), .ref (o + 2), .int (iZ p2.1), .int (iZ (c 9)), .int (iZ 0)]) → S2.1 (o + 1) = .inl (0, 6, .inl (mj_z p2.2)) →
            mj_Ok Γ d M_Ca_take 0 0 28 [.ref o, .ref a, .int (iZ ((9 - (m + 1) : Nat) : Int)), .int (iZ i)] [] S2 (mj_V fun S' => mj_fr S S' [o, o + 1] ∧ mj_ca S' o (tkA c m (tk1 ((9 - (m + 1) : Nat) : Int) r p2)).2 D (tkA c m (tk1 ((9 - (m + 1) : Nat) : Int) r p2)).1 (c 9) 0) := by
          intro r
          induction r with
          | zero =>
            intro i S2 p2 hi hp2 f2 t1 t2
            have hw2 := f2.w
            have he2 : S2.1 a = .inl (0, 10, .inl (mj_z A)) := (f2.2 a (by simp; omega)).trans (by rw [← fr0.2 a (by simp; omega)]; exact he)
            have hA9 := hA (9 - (m + 1)) (by omega)
            refine mj_iload_n d_Ca_take_28 rfl ?_
            refine mj_aload_n d_Ca_take_29 rfl ?_
            refine mj_iload_n d_Ca_take_30 rfl ?_
            refine mz_iald d_Ca_take_31 (by omega) (by assumption) (rfl) (by omega) ?_
            rw [hA9]
            refine mz_icmp_ge 70 d_Ca_take_32 (by decide) (by omega) (by omega) (fun c_32 => ?_) (fun c_32 => ?_)
            · refine mz_inc2 d_Ca_take_70 (rfl) ?_
              refine mj_goto 20 d_Ca_take_73 (by decide) ?_
              have w := ih S2 p2 (by omega) (by omega) f2 t1 t2 (.int (iZ i)) rfl
              rw [← e9] at w
              exact w
            · omega
          | succ r ih2 =>
            intro i S2 p2 hi hp2 f2 t1 t2
            have hw2 := f2.w
            have he2 : S2.1 a = .inl (0, 10, .inl (mj_z A)) := (f2.2 a (by simp; omega)).trans (by rw [← fr0.2 a (by simp; omega)]; exact he)
            have hA9 := hA (9 - (m + 1)) (by omega)
            refine mj_iload_n d_Ca_take_28 rfl ?_
            refine mj_aload_n d_Ca_take_29 rfl ?_
            refine mj_iload_n d_Ca_take_30 rfl ?_
            refine mz_iald d_Ca_take_31 (by omega) (by assumption) (rfl) (by omega) ?_
            rw [hA9]
            refine mz_icmp_ge 70 d_Ca_take_32 (by decide) (by omega) (by omega) (fun c_32 => ?_) (fun c_32 => ?_)
            · omega
            · refine mj_aload_n d_Ca_take_35 rfl ?_
              refine mj_get (ci := 8) (j := 2) d_Ca_take_36 rfl w_Ca_18 (by decide) (by omega) (by assumption) rfl ?_
              refine mz_bipush d_Ca_take_39 (by decide) ?_
              refine mz_icmp_ge 70 d_Ca_take_41 (by decide) (by omega) (by omega) (fun c_41 => ?_) (fun c_41 => ?_)
              · omega
              · refine mj_aload_n d_Ca_take_44 rfl ?_
                refine mj_get (ci := 8) (j := 0) d_Ca_take_45 rfl w_Ca_9 (by decide) (by omega) (by assumption) rfl ?_
                refine mj_aload_n d_Ca_take_48 rfl ?_
                refine mj_get (ci := 8) (j := 2) d_Ca_take_49 rfl w_Ca_18 (by decide) (by omega) (by assumption) rfl ?_
                refine mj_iload_n d_Ca_take_52 rfl ?_
                refine mz_iast d_Ca_take_53 (by omega) (by assumption) (rfl) (by omega) (fun S_53 w_53 e_53 f_53 => ?_)
                have t1 := f_53.at t1 (by simp; try omega)
                refine mj_aload_n d_Ca_take_54 rfl ?_
                refine mj_dup d_Ca_take_55 rfl ?_
                refine mj_get (ci := 8) (j := 2) d_Ca_take_56 rfl w_Ca_18 (by decide) (by omega) (by assumption) rfl ?_
                refine mz_iconst d_Ca_take_59 ?_
                refine mz_iadd d_Ca_take_60 ?_
                refine mz_put (ci := 8) (j := 2) d_Ca_take_61 rfl w_Ca_18 (by decide) rfl (by omega) (by assumption) (Nat.le_of_ble_eq_true rfl) (mj_fit_int _) rfl (fun S_61 w_61 e_61 f_61 => ?_)
                have e_53 := f_61.at e_53 (by simp; try omega)
                refine mz_inc3 d_Ca_take_64 (rfl) ?_
                refine mj_goto 28 d_Ca_take_67 (by decide) ?_
                have w := ih2 (i + 1) S_61 (p2.1 + 1, va_up p2.2 p2.1 ((9 - (m + 1) : Nat) : Int)) (by omega) (by show p2.1 + 1 + r + tkS c m ≤ 6; omega) ((f2.tr f_53 (l := [o, o + 1]) (by simp) (by simp)).tr f_61 (by simp) (by simp)) e_61 e_53
                exact w
        have w := inner (c (9 - (m + 1))) 0 S1 p (by omega) (by rw [tkS] at hp; omega) f1 q1 q2
        exact w
  have w := loop 9 S_15 (0, K) (by omega) (by omega) fr0 e_15 g2 (.retAddr 0) rfl
  exact w
end CA
end
section
/-! the reader of formulas (3; counts 4), and what it reads, as pure functions -/
/-- how many digits stand from a on -/
def fdg (n : Nat) (C : Nat → Int) : Nat → Nat → Nat
  | 0, _ => 0
  | m + 1, a => if a < n ∧ 48 ≤ C a ∧ C a ≤ 57 then fdg n C m (a + 1) + 1 else 0
theorem fdg_le (n : Nat) (C : Nat → Int) : ∀ (m a : Nat), a ≤ n → a + fdg n C m a ≤ n := by
  intro m
  induction m with
  | zero => intro a h; exact h
  | succ m ih =>
    intro a h
    unfold fdg
    split
    · rename_i q
      have := ih (a + 1) (by omega)
      omega
    · exact h
theorem fdg_pos {n : Nat} {C : Nat → Int} {m a : Nat} (h : 0 < fdg n C m a) : a < n ∧ 48 ≤ C a ∧ C a ≤ 57 := by
  cases m with
  | zero => exact absurd h (by simp [fdg])
  | succ m =>
    unfold fdg at h
    split at h
    · assumption
    · exact absurd h (by simp)
theorem fdg_two {n : Nat} {C : Nat → Int} {m a : Nat} (h : 1 < fdg n C m a) : a + 1 < n ∧ 48 ≤ C (a + 1) ∧ C (a + 1) ≤ 57 := by
  cases m with
  | zero => exact absurd h (by simp [fdg])
  | succ m =>
    unfold fdg at h
    split at h
    · exact fdg_pos (m := m) (by omega)
    · exact absurd h (by simp)
def fnv (n : Nat) (C : Nat → Int) (a dg : Nat) : Int := if dg = 2 then (ln_at n C a - 48) * 10 + ln_at n C ((a : Int) + 1) - 48 else ln_at n C a - 48
def fnum (n : Nat) (C : Nat → Int) (a dg : Nat) : Int :=
  if 2 < dg ∨ ln_at n C a = 48 then -1 else if fnv n C a dg = 1 then -1 else fnv n C a dg
theorem fnum_r {n : Nat} {C : Nat → Int} {m a : Nat} (h : 0 < fdg n C m a) : fnum n C a (fdg n C m a) = -1 ∨ (2 ≤ fnum n C a (fdg n C m a) ∧ fnum n C a (fdg n C m a) ≤ 99) := by
  have h1 := fdg_pos h
  have e1 : ln_at n C (a : Int) = C a := by unfold ln_at; rw [if_pos (by omega)]; rfl
  unfold fnum
  rw [e1]
  split
  · exact Or.inl rfl
  · rename_i q
    by_cases q2 : fdg n C m a = 2
    · have h2 := fdg_two (n := n) (C := C) (m := m) (a := a) (by omega)
      have e2 : ln_at n C ((a : Int) + 1) = C (a + 1) := by unfold ln_at; rw [if_pos (by omega)]; rfl
      have e3 : fnv n C a (fdg n C m a) = (C a - 48) * 10 + C (a + 1) - 48 := by unfold fnv; rw [if_pos q2, e1, e2]
      rw [e3]
      split
      · exact Or.inl rfl
      · exact Or.inr (by omega)
    · have e3 : fnv n C a (fdg n C m a) = C a - 48 := by unfold fnv; rw [if_neg q2, e1]
      rw [e3]
      split
      · exact Or.inl rfl
      · exact Or.inr (by omega)
/-- one element with its number: what is wrong (or -1), the place, the counts -/
def fstep (n : Nat) (C : Nat → Int) (a : Nat) (c : Nat → Nat) : Int × Nat × (Nat → Nat) :=
  if ln_el n C a = -1 then (-2, a, c) else
  if 0 < c (ln_el n C a).toNat then (-3, a, c) else
  if fdg n C 60 (a + if mj_SND (ln_el n C a).toNat = 0 then 1 else 2) = 0 then (-1, a + (if mj_SND (ln_el n C a).toNat = 0 then 1 else 2), va_up c (ln_el n C a).toNat 1) else
  if fnum n C (a + if mj_SND (ln_el n C a).toNat = 0 then 1 else 2) (fdg n C 60 (a + if mj_SND (ln_el n C a).toNat = 0 then 1 else 2)) = -1 then (-4, a + (if mj_SND (ln_el n C a).toNat = 0 then 1 else 2), c) else
  (-1, a + (if mj_SND (ln_el n C a).toNat = 0 then 1 else 2) + fdg n C 60 (a + if mj_SND (ln_el n C a).toNat = 0 then 1 else 2), va_up c (ln_el n C a).toNat (fnum n C (a + if mj_SND (ln_el n C a).toNat = 0 then 1 else 2) (fdg n C 60 (a + if mj_SND (ln_el n C a).toNat = 0 then 1 else 2))).toNat)
theorem elS_in {c d : Int} : ∀ (m : Nat) (f : Int), (f = -1 ∨ (c ≠ 32 ∧ 0 ≤ f ∧ mj_SND f.toNat = 0)) → elS c d m f = -1 ∨ (c ≠ 32 ∧ (mj_SND (elS c d m f).toNat = 0 ∨ d ≠ 32)) := by
  intro m
  induction m with
  | zero => intro f h; rcases h with h | h
            · exact Or.inl h
            · exact Or.inr ⟨h.1, Or.inl h.2.2⟩
  | succ m ih =>
    intro f h
    have hf : ∀ j, j < 10 → mj_FST j ≠ 32 := by decide
    have hs : ∀ j, j < 10 → mj_SND j ≠ 32 := by decide
    unfold elS
    split
    · rename_i q
      have c32 : c ≠ 32 := by rw [← q]; exact hf _ (by omega)
      split
      · rename_i q2
        exact ih _ (Or.inr ⟨c32, by omega, by simpa using q2⟩)
      · split
        · rename_i q3
          exact Or.inr ⟨c32, Or.inr (by rw [← q3]; exact hs _ (by omega))⟩
        · exact ih _ h
    · exact ih _ h
theorem ln_el_r (n : Nat) (C : Nat → Int) (k : Int) : -1 ≤ ln_el n C k ∧ ln_el n C k ≤ 9 := elS_r _ _ _ _ (by omega)
/-- the sign lies within the line -/
theorem ln_el_in {n : Nat} {C : Nat → Int} {a : Nat} (h : ln_el n C a ≠ -1) : a < n ∧ a + (if mj_SND (ln_el n C a).toNat = 0 then 1 else 2) ≤ n := by
  rcases elS_in (c := ln_at n C a) (d := ln_at n C ((a : Int) + 1)) 10 (-1) (Or.inl rfl) with q | ⟨q1, q2⟩
  · exact absurd q h
  · have h1 : a < n := by
      by_cases z : a < n
      · exact z
      · exact absurd (show ln_at n C a = 32 by unfold ln_at; rw [if_neg (by omega)]) q1
    refine ⟨h1, ?_⟩
    rcases q2 with q2 | q2
    · have q2' : mj_SND (ln_el n C a).toNat = 0 := q2
      rw [if_pos q2']
      omega
    · have h2 : a + 1 < n := by
        by_cases z : a + 1 < n
        · exact z
        · exact absurd (show ln_at n C ((a : Int) + 1) = 32 by unfold ln_at; rw [if_neg (by omega)]) q2
      split <;> omega
def mj_fr3 (S : mj_S) (a : Nat) (A : Nat → Int) : Prop := S.1 3 = .inr (2, [.ref 4, .int (iZ a)]) ∧ S.1 4 = .inl (0, 10, .inl (mj_z A))
section FR
variable {Γ : mj_G} {d n a : Nat} {S : mj_S} {C A : Nat → Int} {c : Nat → Nat}
theorem m_Fr_digitsAhead (hw : S.2.1 = 62) (hl : mj_ln S n C) (hf : mj_fr3 S a A) (hd : 1 ≤ d) (ha : a ≤ n) : mj_Met Γ d y_Fr_digitsAhead M_Fr_digitsAhead [.ref 3, .ref 1] S 0 0 (mj_I fun z S' => S' = S ∧ z = fdg n C 60 a) := by
  have hl0 := hl
  obtain ⟨l1, l2, l3, l4⟩ := hl
  obtain ⟨f1, f2⟩ := hf
  refine mj_Met.of (by decide) ⟨rfl, rfl⟩ rfl rfl rfl ?_
  refine mj_aload_n d_Fr_digitsAhead_0 rfl ?_
  refine mj_get (ci := 2) (j := 1) d_Fr_digitsAhead_1 rfl w_Fr_21 (by decide) (by omega) (by assumption) rfl ?_
  refine mz_ist2 d_Fr_digitsAhead_4 (rfl) ?_
  have loop : ∀ (m i : Nat), i ≤ n → n ≤ i + m → mj_Ok Γ d M_Fr_digitsAhead 0 0 5 [.ref 3, .ref 1, .int (iZ i)] [] S (mj_I fun z S' => S' = S ∧ z = (i : Int) + fdg n C m i - a) := by
    intro m
    induction m with
    | zero =>
      intro i hi hm
      refine mj_iload_n d_Fr_digitsAhead_5 rfl ?_
      refine mj_aload_n d_Fr_digitsAhead_6 rfl ?_
      refine mj_get (ci := 1) (j := 1) d_Fr_digitsAhead_7 rfl w_Fr_25 (by decide) (by omega) (by assumption) rfl ?_
      refine mz_icmp_ge 30 d_Fr_digitsAhead_10 (by decide) (by omega) (by omega) (fun c_10 => ?_) (fun c_10 => ?_)
      · refine mj_iload_n d_Fr_digitsAhead_30 rfl ?_
        refine mj_aload_n d_Fr_digitsAhead_31 rfl ?_
        refine mj_get (ci := 2) (j := 1) d_Fr_digitsAhead_32 rfl w_Fr_21 (by decide) (by omega) (by assumption) rfl ?_
        refine mz_isub d_Fr_digitsAhead_35 ?_
        refine mz_iret d_Fr_digitsAhead_36 rfl (rfl) ?_
        exact ⟨rfl, by simp [fdg]⟩
      · omega
    | succ m ih =>
      intro i hi hm
      have r := l4 i
      refine mj_iload_n d_Fr_digitsAhead_5 rfl ?_
      refine mj_aload_n d_Fr_digitsAhead_6 rfl ?_
      refine mj_get (ci := 1) (j := 1) d_Fr_digitsAhead_7 rfl w_Fr_25 (by decide) (by omega) (by assumption) rfl ?_
      refine mz_icmp_ge 30 d_Fr_digitsAhead_10 (by decide) (by omega) (by omega) (fun c_10 => ?_) (fun c_10 => ?_)
      · refine mj_iload_n d_Fr_digitsAhead_30 rfl ?_
        refine mj_aload_n d_Fr_digitsAhead_31 rfl ?_
        refine mj_get (ci := 2) (j := 1) d_Fr_digitsAhead_32 rfl w_Fr_21 (by decide) (by omega) (by assumption) rfl ?_
        refine mz_isub d_Fr_digitsAhead_35 ?_
        refine mz_iret d_Fr_digitsAhead_36 rfl (rfl) ?_
        unfold fdg
        rw [if_neg (by omega)]
        exact ⟨rfl, by simp⟩
      · refine mj_aload_n d_Fr_digitsAhead_13 rfl ?_
        refine mj_iload_n d_Fr_digitsAhead_14 rfl ?_
        refine mz_callV1i (ci := 1) d_Fr_digitsAhead_15 (m_Ln_at (d := 0) hw hl0 (by omega)) cw_Ln_at lk_Fr_52 rfl rfl (by omega) (by assumption) (by omega) rfl (fun z_15 S_15 h_15 => ?_)
        obtain ⟨rfl, rfl⟩ := h_15
        have e1 : ln_at n C (i : Int) = C i := by unfold ln_at; rw [if_pos (by omega)]; rfl
        rw [e1]
        refine mz_callSN1i d_Fr_digitsAhead_18 (m_IL_isDigit (d := 0) (by omega)) cw_IL_isDigit lk_Fr_55 (by omega) rfl (fun z_18 S_18 h_18 => ?_)
        obtain ⟨rfl, rfl⟩ := h_18
        by_cases q : 48 ≤ C i ∧ C i ≤ 57
        · rw [if_pos q]
          refine mz_if_eq 30 d_Fr_digitsAhead_21 (by decide) (by omega) (fun c_21 => ?_) (fun c_21 => ?_)
          · omega
          · refine mz_inc2 d_Fr_digitsAhead_24 (rfl) ?_
            refine mj_goto 5 d_Fr_digitsAhead_27 (by decide) ?_
            have w := ih (i + 1) (by omega) (by omega)
            unfold fdg
            rw [if_pos ⟨by omega, q⟩]
            refine mj_Ok.post (fun o S' hp => ?_) w
            cases o with
            | inr x => exact hp
            | inl v =>
              obtain ⟨z, e, h1, h2⟩ := hp
              exact ⟨z, e, h1, by omega⟩
        · rw [if_neg q]
          refine mz_if_eq 30 d_Fr_digitsAhead_21 (by decide) (by omega) (fun c_21 => ?_) (fun c_21 => ?_)
          · refine mj_iload_n d_Fr_digitsAhead_30 rfl ?_
            refine mj_aload_n d_Fr_digitsAhead_31 rfl ?_
            refine mj_get (ci := 2) (j := 1) d_Fr_digitsAhead_32 rfl w_Fr_21 (by decide) (by omega) (by assumption) rfl ?_
            refine mz_isub d_Fr_digitsAhead_35 ?_
            refine mz_iret d_Fr_digitsAhead_36 rfl (rfl) ?_
            unfold fdg
            rw [if_neg (fun z => q z.2)]
            exact ⟨rfl, by simp⟩
          · omega
  have w := loop 60 a ha (by omega)
  refine mj_Ok.post (fun o S' hp => ?_) w
  cases o with
  | inr x => exact hp
  | inl v =>
    obtain ⟨z, e, h1, h2⟩ := hp
    exact ⟨z, e, h1, by omega⟩
theorem m_Fr_numberAhead (hw : S.2.1 = 62) (hl : mj_ln S n C) (hf : mj_fr3 S a A) (hd : 1 ≤ d) (ha : a ≤ n) {g : Nat} (hg : g ≤ 100) : mj_Met Γ d y_Fr_numberAhead M_Fr_numberAhead [.ref 3, .ref 1, .int (iZ g)] S 0 0 (mj_I fun z S' => S' = S ∧ z = fnum n C a g) := by
  have hl0 := hl
  obtain ⟨l1, l2, l3, l4⟩ := hl
  obtain ⟨f1, f2⟩ := hf
  have r1 := ln_at_r l4 (n := n) a
  have r2 := ln_at_r l4 (n := n) ((a : Int) + 1)
  refine mj_Met.of (by decide) ⟨rfl, rfl⟩ rfl rfl rfl ?_
  refine mj_iload_n d_Fr_numberAhead_0 rfl ?_
  refine mz_iconst d_Fr_numberAhead_1 ?_
  refine mz_icmp_gt 18 d_Fr_numberAhead_2 (by decide) (by omega) (by omega) (fun c_2 => ?_) (fun c_2 => ?_)
  · refine mz_iconst d_Fr_numberAhead_18 ?_
    refine mz_iret d_Fr_numberAhead_19 rfl (rfl) ?_
    exact ⟨rfl, by unfold fnum; rw [if_pos (Or.inl (by omega))]⟩
  · refine mj_aload_n d_Fr_numberAhead_5 rfl ?_
    refine mj_aload_n d_Fr_numberAhead_6 rfl ?_
    refine mj_get (ci := 2) (j := 1) d_Fr_numberAhead_7 rfl w_Fr_21 (by decide) (by omega) (by assumption) rfl ?_
    refine mz_callV1i (ci := 1) d_Fr_numberAhead_10 (m_Ln_at (d := 0) hw hl0 (by omega)) cw_Ln_at lk_Fr_52 rfl rfl (by omega) (by assumption) (by omega) rfl (fun z_10 S_10 h_10 => ?_)
    obtain ⟨rfl, rfl⟩ := h_10
    refine mz_bipush d_Fr_numberAhead_13 (by decide) ?_
    refine mz_icmp_ne 20 d_Fr_numberAhead_15 (by decide) (by omega) (by omega) (fun c_15 => ?_) (fun c_15 => ?_)
    · refine mj_aload_n d_Fr_numberAhead_20 rfl ?_
      refine mj_aload_n d_Fr_numberAhead_21 rfl ?_
      refine mj_get (ci := 2) (j := 1) d_Fr_numberAhead_22 rfl w_Fr_21 (by decide) (by omega) (by assumption) rfl ?_
      refine mz_callV1i (ci := 1) d_Fr_numberAhead_25 (m_Ln_at (d := 0) hw hl0 (by omega)) cw_Ln_at lk_Fr_52 rfl rfl (by omega) (by assumption) (by omega) rfl (fun z_25 S_25 h_25 => ?_)
      obtain ⟨rfl, rfl⟩ := h_25
      refine mz_bipush d_Fr_numberAhead_28 (by decide) ?_
      refine mz_isub d_Fr_numberAhead_30 ?_
      refine mz_ist3 d_Fr_numberAhead_31 (rfl) ?_
      refine mj_iload_n d_Fr_numberAhead_32 rfl ?_
      refine mz_iconst d_Fr_numberAhead_33 ?_
      refine mz_icmp_ne 56 d_Fr_numberAhead_34 (by decide) (by omega) (by omega) (fun c_34 => ?_) (fun c_34 => ?_)
      · refine mj_iload_n d_Fr_numberAhead_56 rfl ?_
        refine mz_iconst d_Fr_numberAhead_57 ?_
        refine mz_icmp_ne 65 d_Fr_numberAhead_58 (by decide) (by omega) (by omega) (fun c_58 => ?_) (fun c_58 => ?_)
        · refine mj_iload_n d_Fr_numberAhead_65 rfl ?_
          refine mz_iret d_Fr_numberAhead_66 rfl (rfl) ?_
          exact ⟨rfl, by rw [fnum, if_neg (by omega), show fnv n C a g = ln_at n C a - 48 from if_neg (by omega), if_neg (by omega)]⟩
        · refine mz_iconst d_Fr_numberAhead_61 ?_
          refine mj_goto 66 d_Fr_numberAhead_62 (by decide) ?_
          refine mz_iret d_Fr_numberAhead_66 rfl (rfl) ?_
          exact ⟨rfl, by rw [fnum, if_neg (by omega), show fnv n C a g = ln_at n C a - 48 from if_neg (by omega), if_pos (by omega)]⟩
      · refine mj_iload_n d_Fr_numberAhead_37 rfl ?_
        refine mz_bipush d_Fr_numberAhead_38 (by decide) ?_
        refine mz_imul d_Fr_numberAhead_40 ?_
        refine mj_aload_n d_Fr_numberAhead_41 rfl ?_
        refine mj_aload_n d_Fr_numberAhead_42 rfl ?_
        refine mj_get (ci := 2) (j := 1) d_Fr_numberAhead_43 rfl w_Fr_21 (by decide) (by omega) (by assumption) rfl ?_
        refine mz_iconst d_Fr_numberAhead_46 ?_
        refine mz_iadd d_Fr_numberAhead_47 ?_
        refine mz_callV1i (ci := 1) d_Fr_numberAhead_48 (m_Ln_at (d := 0) hw hl0 (by omega)) cw_Ln_at lk_Fr_52 rfl rfl (by omega) (by assumption) (by omega) rfl (fun z_48 S_48 h_48 => ?_)
        obtain ⟨rfl, rfl⟩ := h_48
        refine mz_iadd d_Fr_numberAhead_51 ?_
        refine mz_bipush d_Fr_numberAhead_52 (by decide) ?_
        refine mz_isub d_Fr_numberAhead_54 ?_
        refine mz_ist3 d_Fr_numberAhead_55 (rfl) ?_
        refine mj_iload_n d_Fr_numberAhead_56 rfl ?_
        refine mz_iconst d_Fr_numberAhead_57 ?_
        refine mz_icmp_ne 65 d_Fr_numberAhead_58 (by decide) (by omega) (by omega) (fun c_58 => ?_) (fun c_58 => ?_)
        · refine mj_iload_n d_Fr_numberAhead_65 rfl ?_
          refine mz_iret d_Fr_numberAhead_66 rfl (rfl) ?_
          exact ⟨rfl, by rw [fnum, if_neg (by omega), show fnv n C a g = (ln_at n C a - 48) * 10 + ln_at n C ((a : Int) + 1) - 48 from if_pos (by omega), if_neg (by omega)]⟩
        · refine mz_iconst d_Fr_numberAhead_61 ?_
          refine mj_goto 66 d_Fr_numberAhead_62 (by decide) ?_
          refine mz_iret d_Fr_numberAhead_66 rfl (rfl) ?_
          exact ⟨rfl, by rw [fnum, if_neg (by omega), show fnv n C a g = (ln_at n C a - 48) * 10 + ln_at n C ((a : Int) + 1) - 48 from if_pos (by omega), if_pos (by omega)]⟩
    · refine mz_iconst d_Fr_numberAhead_18 ?_
      refine mz_iret d_Fr_numberAhead_19 rfl (rfl) ?_
      exact ⟨rfl, by unfold fnum; rw [if_pos (Or.inr c_15)]⟩
/-- the sum of the first m but the tenth -/
theorem m_Fr_heavyAtoms (hw : S.2.1 = 62) (hf : mj_fr3 S a A) (hA : ∀ j, j < 10 → A j = c j) (hc : ∀ j, j < 10 → c j ≤ 1000) : mj_Met Γ d y_Fr_heavyAtoms M_Fr_heavyAtoms [.ref 3] S 0 0 (mj_I fun z S' => S' = S ∧ z = tkS c 9) := by
  obtain ⟨f1, f2⟩ := hf
  refine mj_Met.of (by decide) ⟨rfl, rfl⟩ rfl rfl rfl ?_
  refine mz_iconst d_Fr_heavyAtoms_0 ?_
  refine mz_ist1 d_Fr_heavyAtoms_1 (rfl) ?_
  refine mz_iconst d_Fr_heavyAtoms_2 ?_
  refine mz_ist2 d_Fr_heavyAtoms_3 (rfl) ?_
  have loop : ∀ (m : Nat) (s : Int), m ≤ 9 → mj_Ok Γ d M_Fr_heavyAtoms 0 0 4 [.ref 3, .int (iZ s), .int (iZ ((9 - m : Nat) : Int))] [] S (mj_I fun z S' => S' = S ∧ z = s + tkS c m) := by
    intro m
    induction m with
    | zero =>
      intro s hm
      refine mj_iload_n d_Fr_heavyAtoms_4 rfl ?_
      refine mz_bipush d_Fr_heavyAtoms_5 (by decide) ?_
      refine mz_icmp_ge 31 d_Fr_heavyAtoms_7 (by decide) (by omega) (by omega) (fun c_7 => ?_) (fun c_7 => ?_)
      · omega
      · refine mj_iload_n d_Fr_heavyAtoms_10 rfl ?_
        refine mz_bipush d_Fr_heavyAtoms_11 (by decide) ?_
        refine mz_icmp_eq 25 d_Fr_heavyAtoms_13 (by decide) (by omega) (by omega) (fun c_13 => ?_) (fun c_13 => ?_)
        · refine mz_inc2 d_Fr_heavyAtoms_25 (rfl) ?_
          refine mj_goto 4 d_Fr_heavyAtoms_28 (by decide) ?_
          refine mj_iload_n d_Fr_heavyAtoms_4 rfl ?_
          refine mz_bipush d_Fr_heavyAtoms_5 (by decide) ?_
          refine mz_icmp_ge 31 d_Fr_heavyAtoms_7 (by decide) (by omega) (by omega) (fun c_7 => ?_) (fun c_7 => ?_)
          · refine mj_iload_n d_Fr_heavyAtoms_31 rfl ?_
            refine mz_iret d_Fr_heavyAtoms_32 rfl (rfl) ?_
            exact ⟨rfl, by simp [tkS]⟩
          · omega
        · omega
    | succ m ih =>
      intro s hm
      have hA9 := hA (9 - (m + 1)) (by omega)
      refine mj_iload_n d_Fr_heavyAtoms_4 rfl ?_
      refine mz_bipush d_Fr_heavyAtoms_5 (by decide) ?_
      refine mz_icmp_ge 31 d_Fr_heavyAtoms_7 (by decide) (by omega) (by omega) (fun c_7 => ?_) (fun c_7 => ?_)
      · omega
      · refine mj_iload_n d_Fr_heavyAtoms_10 rfl ?_
        refine mz_bipush d_Fr_heavyAtoms_11 (by decide) ?_
        refine mz_icmp_eq 25 d_Fr_heavyAtoms_13 (by decide) (by omega) (by omega) (fun c_13 => ?_) (fun c_13 => ?_)
        · omega
        · refine mj_iload_n d_Fr_heavyAtoms_16 rfl ?_
          refine mj_aload_n d_Fr_heavyAtoms_17 rfl ?_
          refine mj_get (ci := 2) (j := 0) d_Fr_heavyAtoms_18 rfl w_Fr_9 (by decide) (by omega) (by assumption) rfl ?_
          refine mj_iload_n d_Fr_heavyAtoms_21 rfl ?_
          refine mz_iald d_Fr_heavyAtoms_22 (by omega) (by assumption) (rfl) (by omega) ?_
          refine mz_iadd d_Fr_heavyAtoms_23 ?_
          refine mz_ist1 d_Fr_heavyAtoms_24 (rfl) ?_
          refine mz_inc2 d_Fr_heavyAtoms_25 (rfl) ?_
          refine mj_goto 4 d_Fr_heavyAtoms_28 (by decide) ?_
          have w := ih (s + A (9 - (m + 1))) (by omega)
          rw [show (9 - m : Nat) = 9 - (m + 1) + 1 by omega] at w
          refine mj_Ok.post (fun o S' hp => ?_) w
          cases o with
          | inr x => exact hp
          | inl v =>
            obtain ⟨z, e, h1, h2⟩ := hp
            exact ⟨z, e, h1, by rw [h2, hA9, tkS]; omega⟩
  have w := loop 9 0 (by omega)
  refine mj_Ok.post (fun o S' hp => ?_) w
  cases o with
  | inr x => exact hp
  | inl v =>
    obtain ⟨z, e, h1, h2⟩ := hp
    exact ⟨z, e, h1, by omega⟩
theorem mj_nt_up {A : Nat → Int} {c : Nat → Nat} (hA : ∀ j, j < 10 → A j = c j) {e v : Nat} : ∀ j, j < 10 → va_up A e (v : Int) j = (va_up c e v j : Nat) := by
  intro j hj
  by_cases q : j = e
  · subst q; rw [va_up_self, va_up_self]
  · rw [va_up_ne _ _ q, va_up_ne _ _ q]; exact hA j hj
theorem m_Fr_readElement (hT : mj_tab Γ) (hw : S.2.1 = 62) (hl : mj_ln S n C) (hf : mj_fr3 S a A) (hA : ∀ j, j < 10 → A j = c j) (hc : ∀ j, j < 10 → c j ≤ 1000) (hd : 2 ≤ d) (ha : a ≤ n) : mj_Met Γ d y_Fr_readElement M_Fr_readElement [.ref 3, .ref 1] S 0 0
    (mj_I fun z S' => mj_fr S S' [3, 4] ∧ ∃ A', z = (fstep n C a c).1 ∧ mj_fr3 S' (fstep n C a c).2.1 A' ∧ ∀ j, j < 10 → A' j = (fstep n C a c).2.2 j) := by
  have hl0 := hl
  have hf0 := hf
  obtain ⟨l1, l2, l3, l4⟩ := hl
  obtain ⟨f1, f2⟩ := hf
  have re := ln_el_r n C a
  refine mj_Met.of (by decide) ⟨rfl, rfl⟩ rfl rfl rfl ?_
  refine mj_aload_n d_Fr_readElement_0 rfl ?_
  refine mj_aload_n d_Fr_readElement_1 rfl ?_
  refine mj_get (ci := 2) (j := 1) d_Fr_readElement_2 rfl w_Fr_21 (by decide) (by omega) (by assumption) rfl ?_
  refine mz_callV1i (ci := 1) d_Fr_readElement_5 (m_Ln_elementAt (d := 1) hT hw hl0 (by omega) (by omega)) cw_Ln_elementAt lk_Fr_38 rfl rfl (by omega) (by assumption) (by omega) rfl (fun z_5 S_5 h_5 => ?_)
  obtain ⟨rfl, rfl⟩ := h_5
  refine mz_ist2 d_Fr_readElement_8 (rfl) ?_
  refine mj_iload_n d_Fr_readElement_9 rfl ?_
  refine mz_iconst d_Fr_readElement_10 ?_
  refine mz_icmp_ne 17 d_Fr_readElement_11 (by decide) (by omega) (by omega) (fun c_11 => ?_) (fun c_11 => ?_)
  · have hin := ln_el_in (n := n) (C := C) (a := a) c_11
    obtain ⟨e, he⟩ : ∃ e : Nat, ln_el n C a = e := ⟨(ln_el n C a).toNat, by omega⟩
    have he10 : e < 10 := by omega
    have het : (ln_el n C a).toNat = e := by omega
    rw [het] at hin
    have hAe := hA e he10
    have hce := hc e he10
    rw [he]
    refine mj_aload_n d_Fr_readElement_17 rfl ?_
    refine mj_get (ci := 2) (j := 0) d_Fr_readElement_18 rfl w_Fr_9 (by decide) (by omega) (by assumption) rfl ?_
    refine mj_iload_n d_Fr_readElement_21 rfl ?_
    refine mz_iald d_Fr_readElement_22 (by omega) (by assumption) (rfl) (by omega) ?_
    rw [hAe]
    refine mz_if_le 29 d_Fr_readElement_23 (by decide) (by omega) (fun c_23 => ?_) (fun c_23 => ?_)
    · refine mj_aload_n d_Fr_readElement_29 rfl ?_
      refine mj_dup d_Fr_readElement_30 rfl ?_
      refine mj_get (ci := 2) (j := 1) d_Fr_readElement_31 rfl w_Fr_21 (by decide) (by omega) (by assumption) rfl ?_
      refine mj_iload_n d_Fr_readElement_34 rfl ?_
      refine mz_callSN1i d_Fr_readElement_35 (m_IL_signLength (d := 0) hT he10) cw_IL_signLength lk_Fr_42 (by omega) rfl (fun z_35 S_35 h_35 => ?_)
      obtain ⟨rfl, rfl⟩ := h_35
      obtain ⟨L, hL⟩ : ∃ L : Nat, L = a + if mj_SND e = 0 then 1 else 2 := ⟨_, rfl⟩
      have hLi : (a : Int) + (if mj_SND e = 0 then 1 else 2) = (L : Int) := by rw [hL]; split <;> omega
      have hLn : L ≤ n := by omega
      refine mz_iadd d_Fr_readElement_38 ?_
      refine mz_put (ci := 2) (j := 1) d_Fr_readElement_39 rfl w_Fr_21 (by decide) rfl (by omega) (by assumption) (Nat.le_of_ble_eq_true rfl) (mj_fit_int _) rfl (fun S_39 w_39 e_39 f_39 => ?_)
      rw [hLi] at e_39
      have l1 := f_39.at l1 (by simp; try omega)
      have l2 := f_39.at l2 (by simp; try omega)
      have f2 := f_39.at f2 (by simp; try omega)
      have hl2 : mj_ln S_39 n C := ⟨l1, l2, l3, l4⟩
      have hf2 : mj_fr3 S_39 L A := ⟨e_39, f2⟩
      have hw2 := w_39.trans hw
      have hg := fdg_le n C 60 L hLn
      refine mj_aload_n d_Fr_readElement_42 rfl ?_
      refine mj_aload_n d_Fr_readElement_43 rfl ?_
      refine mz_callV1i (ci := 2) d_Fr_readElement_44 (m_Fr_digitsAhead (d := 1) hw2 hl2 hf2 (by omega) hLn) cw_Fr_digitsAhead lk_Fr_45 rfl rfl (by omega) (by assumption) (by omega) rfl (fun z_44 S_44 h_44 => ?_)
      obtain ⟨rfl, rfl⟩ := h_44
      refine mz_ist3 d_Fr_readElement_47 (rfl) ?_
      refine mj_iload_n d_Fr_readElement_48 rfl ?_
      refine mz_if_ne 56 d_Fr_readElement_49 (by decide) (by omega) (fun c_49 => ?_) (fun c_49 => ?_)
      · refine mj_aload_n d_Fr_readElement_56 rfl ?_
        refine mj_aload_n d_Fr_readElement_57 rfl ?_
        refine mj_iload_n d_Fr_readElement_58 rfl ?_
        refine mz_callV2i (ci := 2) d_Fr_readElement_59 (m_Fr_numberAhead (d := 1) hw2 hl2 hf2 (by omega) hLn (by omega)) cw_Fr_numberAhead lk_Fr_48 rfl rfl (by omega) (by assumption) (by omega) rfl (fun z_59 S_59 h_59 => ?_)
        obtain ⟨rfl, rfl⟩ := h_59
        have hnr := fnum_r (n := n) (C := C) (m := 60) (a := L) (by omega)
        refine mz_ist4 d_Fr_readElement_62 (rfl) ?_
        refine mj_iload d_Fr_readElement_64 rfl ?_
        refine mz_iconst d_Fr_readElement_66 ?_
        refine mz_icmp_ne 73 d_Fr_readElement_67 (by decide) (by omega) (by omega) (fun c_67 => ?_) (fun c_67 => ?_)
        · obtain ⟨v, hv⟩ : ∃ v : Nat, fnum n C L (fdg n C 60 L) = v := ⟨(fnum n C L (fdg n C 60 L)).toNat, by omega⟩
          rw [hv]
          refine mj_aload_n d_Fr_readElement_73 rfl ?_
          refine mj_get (ci := 2) (j := 0) d_Fr_readElement_74 rfl w_Fr_9 (by decide) (by omega) (by assumption) rfl ?_
          refine mj_iload_n d_Fr_readElement_77 rfl ?_
          refine mj_iload d_Fr_readElement_78 rfl ?_
          refine mz_iast d_Fr_readElement_80 (by omega) (by assumption) (rfl) (by omega) (fun S_80 w_80 e_80 f_80 => ?_)
          have e_39 := f_80.at e_39 (by simp; try omega)
          refine mj_aload_n d_Fr_readElement_81 rfl ?_
          refine mj_dup d_Fr_readElement_82 rfl ?_
          refine mj_get (ci := 2) (j := 1) d_Fr_readElement_83 rfl w_Fr_21 (by decide) (by omega) (by assumption) rfl ?_
          refine mj_iload_n d_Fr_readElement_86 rfl ?_
          refine mz_iadd d_Fr_readElement_87 ?_
          refine mz_put (ci := 2) (j := 1) d_Fr_readElement_88 rfl w_Fr_21 (by decide) rfl (by omega) (by assumption) (Nat.le_of_ble_eq_true rfl) (mj_fit_int _) rfl (fun S_88 w_88 e_88 f_88 => ?_)
          have e_80 := f_88.at e_80 (by simp; try omega)
          refine mz_iconst d_Fr_readElement_91 ?_
          refine mz_iret d_Fr_readElement_92 rfl (rfl) ?_
          refine ⟨(f_39.tr f_80 (l := [3, 4]) (by simp) (by simp)).tr f_88 (by simp) (by simp), va_up A e v, ?_⟩
          have hstep : fstep n C a c = (-1, L + fdg n C 60 L, va_up c e v) := by
            unfold fstep
            rw [if_neg c_11, het, if_neg (by omega), ← hL, if_neg (by omega), if_neg c_67, hv]
            rfl
          rw [hstep]
          exact ⟨rfl, ⟨e_88, e_80⟩, mj_nt_up hA⟩
        · refine mz_bipush d_Fr_readElement_70 (by decide) ?_
          refine mz_iret d_Fr_readElement_72 rfl (rfl) ?_
          refine ⟨f_39.tr (mj_fr.rf _ []) (by simp) (by simp), A, ?_⟩
          have hstep : fstep n C a c = (-4, L, c) := by
            unfold fstep
            rw [if_neg c_11, het, if_neg (by omega), ← hL, if_neg (by omega), if_pos c_67]
          rw [hstep]
          exact ⟨rfl, ⟨e_39, f2⟩, hA⟩
      · refine mz_iconst d_Fr_readElement_52 ?_
        refine mj_goto 62 d_Fr_readElement_53 (by decide) ?_
        refine mz_ist4 d_Fr_readElement_62 (rfl) ?_
        refine mj_iload d_Fr_readElement_64 rfl ?_
        refine mz_iconst d_Fr_readElement_66 ?_
        refine mz_icmp_ne 73 d_Fr_readElement_67 (by decide) (by omega) (by omega) (fun c_67 => ?_) (fun c_67 => ?_)
        · refine mj_aload_n d_Fr_readElement_73 rfl ?_
          refine mj_get (ci := 2) (j := 0) d_Fr_readElement_74 rfl w_Fr_9 (by decide) (by omega) (by assumption) rfl ?_
          refine mj_iload_n d_Fr_readElement_77 rfl ?_
          refine mj_iload d_Fr_readElement_78 rfl ?_
          refine mz_iast d_Fr_readElement_80 (by omega) (by assumption) (rfl) (by omega) (fun S_80 w_80 e_80 f_80 => ?_)
          have e_39 := f_80.at e_39 (by simp; try omega)
          refine mj_aload_n d_Fr_readElement_81 rfl ?_
          refine mj_dup d_Fr_readElement_82 rfl ?_
          refine mj_get (ci := 2) (j := 1) d_Fr_readElement_83 rfl w_Fr_21 (by decide) (by omega) (by assumption) rfl ?_
          refine mj_iload_n d_Fr_readElement_86 rfl ?_
          refine mz_iadd d_Fr_readElement_87 ?_
          refine mz_put (ci := 2) (j := 1) d_Fr_readElement_88 rfl w_Fr_21 (by decide) rfl (by omega) (by assumption) (Nat.le_of_ble_eq_true rfl) (mj_fit_int _) rfl (fun S_88 w_88 e_88 f_88 => ?_)
          have e_80 := f_88.at e_80 (by simp; try omega)
          refine mz_iconst d_Fr_readElement_91 ?_
          refine mz_iret d_Fr_readElement_92 rfl (rfl) ?_
          refine ⟨(f_39.tr f_80 (l := [3, 4]) (by simp) (by simp)).tr f_88 (by simp) (by simp), va_up A e 1, ?_⟩
          have hstep : fstep n C a c = (-1, L, va_up c e 1) := by
            unfold fstep
            rw [if_neg c_11, het, if_neg (by omega), ← hL, if_pos (by omega)]
          rw [hstep]
          refine ⟨rfl, ⟨?_, e_80⟩, mj_nt_up hA⟩
          rw [e_88, c_49, Int.add_zero]
          rfl
        · omega
    · refine mz_bipush d_Fr_readElement_26 (by decide) ?_
      refine mz_iret d_Fr_readElement_28 rfl (rfl) ?_
      refine ⟨mj_fr.rf _ _, A, ?_⟩
      have hstep : fstep n C a c = (-3, a, c) := by
        unfold fstep
        rw [if_neg c_11, het, if_pos (by omega)]
      rw [hstep]
      exact ⟨rfl, ⟨f1, f2⟩, hA⟩
  · refine mz_bipush d_Fr_readElement_14 (by decide) ?_
    refine mz_iret d_Fr_readElement_16 rfl (rfl) ?_
    refine ⟨mj_fr.rf _ _, A, ?_⟩
    have hstep : fstep n C a c = (-2, a, c) := by
      unfold fstep
      rw [if_pos c_11]
    rw [hstep]
    exact ⟨rfl, ⟨f1, f2⟩, hA⟩
end FR
end
section
/-! the reader of formulas as a whole -/
theorem fstep_ok {n a : Nat} {C : Nat → Int} {c : Nat → Nat} (ha : a ≤ n) (hc : ∀ j, j < 10 → c j ≤ 99) : (fstep n C a c).2.1 ≤ n ∧ (∀ j, j < 10 → (fstep n C a c).2.2 j ≤ 99) ∧ ((fstep n C a c).1 = -1 → a < (fstep n C a c).2.1) ∧ -4 ≤ (fstep n C a c).1 ∧ (fstep n C a c).1 ≤ -1 := by
  unfold fstep
  split
  · exact ⟨ha, hc, fun h => absurd h (by simp), by simp, by simp⟩
  · rename_i q1
    have hin := ln_el_in q1
    split
    · exact ⟨ha, hc, fun h => absurd h (by simp), by simp, by simp⟩
    · obtain ⟨L, hL⟩ : ∃ L : Nat, L = a + if mj_SND (ln_el n C a).toNat = 0 then 1 else 2 := ⟨_, rfl⟩
      have hLa : a < L := by rw [hL]; split <;> omega
      rw [← hL] at hin ⊢
      have hg := fdg_le n C 60 L hin.2
      split
      · refine ⟨hin.2, fun j hj => ?_, fun _ => hLa, by simp, by simp⟩
        by_cases e : j = (ln_el n C a).toNat
        · subst e; show va_up c _ 1 _ ≤ 99; rw [va_up_self]; decide
        · show va_up c _ 1 _ ≤ 99; rw [va_up_ne _ _ e]; exact hc j hj
      · rename_i q3
        have hr := fnum_r (n := n) (C := C) (m := 60) (a := L) (by omega)
        split
        · exact ⟨hin.2, hc, fun h => absurd h (by simp), by simp, by simp⟩
        · refine ⟨hg, fun j hj => ?_, fun _ => by show a < L + _; omega, by simp, by simp⟩
          by_cases e : j = (ln_el n C a).toNat
          · subst e; show va_up c _ _ _ ≤ 99; rw [va_up_self]; omega
          · show va_up c _ _ _ ≤ 99; rw [va_up_ne _ _ e]; exact hc j hj
def floop (n : Nat) (C : Nat → Int) : Nat → Nat → (Nat → Nat) → Int × Nat × (Nat → Nat)
  | 0, a, c => (-1, a, c)
  | m + 1, a, c => if a < n then (if (fstep n C a c).1 = -1 then floop n C m (fstep n C a c).2.1 (fstep n C a c).2.2 else fstep n C a c) else (-1, a, c)
theorem floop_ok {n : Nat} {C : Nat → Int} : ∀ (m a : Nat) (c : Nat → Nat), a ≤ n → n ≤ a + m → (∀ j, j < 10 → c j ≤ 99) → (floop n C m a c).2.1 ≤ n ∧ (∀ j, j < 10 → (floop n C m a c).2.2 j ≤ 99) ∧ ((floop n C m a c).1 = -1 → (floop n C m a c).2.1 = n) ∧ -4 ≤ (floop n C m a c).1 ∧ (floop n C m a c).1 ≤ -1 := by
  intro m
  induction m with
  | zero => intro a c ha hm hc; exact ⟨ha, hc, fun _ => by show a = n; omega, by show (-4 : Int) ≤ -1; decide, by show (-1 : Int) ≤ -1; decide⟩
  | succ m ih =>
    intro a c ha hm hc
    have h := fstep_ok (C := C) ha hc
    unfold floop
    split
    · split
      · rename_i q
        exact ih _ _ h.1 (by have := h.2.2.1 q; omega) h.2.1
      · rename_i q
        exact ⟨h.1, h.2.1, fun z => absurd z q, h.2.2.2⟩
    · exact ⟨ha, hc, fun _ => by show a = n; omega, by simp, by simp⟩
/-- a line read as a formula: what is wrong (-1: nothing), the place, the counts -/
def fread (n : Nat) (C : Nat → Int) : Int × Nat × (Nat → Nat) :=
  if n = 0 then (-2, 0, fun _ => 0) else
  if (floop n C 60 0 (fun _ => 0)).1 = -1 then (if tkS (floop n C 60 0 (fun _ => 0)).2.2 9 < 1 ∨ 6 < tkS (floop n C 60 0 (fun _ => 0)).2.2 9 then -5 else -1, n, (floop n C 60 0 (fun _ => 0)).2.2) else floop n C 60 0 (fun _ => 0)
theorem tkS_le {c : Nat → Nat} (hc : ∀ j, j < 10 → c j ≤ 99) : ∀ m, m ≤ 9 → tkS c m ≤ 99 * m := by
  intro m
  induction m with
  | zero => intro _; exact Nat.le_refl _
  | succ m ih =>
    intro h
    have := hc (9 - (m + 1)) (by omega)
    have := ih (by omega)
    unfold tkS
    omega
section RF
variable {Γ : mj_G} {d n a : Nat} {S : mj_S} {C A : Nat → Int}
theorem m_Fr_readFrom (hT : mj_tab Γ) (hw : S.2.1 = 62) (hl : mj_ln S n C) (hf : mj_fr3 S a A) (hd : 3 ≤ d) : mj_Met Γ d y_Fr_readFrom M_Fr_readFrom [.ref 3, .ref 1] S 0 0
    (mj_I fun z S' => mj_fr S S' [3, 4] ∧ ∃ A', z = (fread n C).1 ∧ mj_fr3 S' (fread n C).2.1 A' ∧ ∀ j, j < 10 → A' j = (fread n C).2.2 j) := by
  obtain ⟨f1, f2⟩ := hf
  have ln := hl.2.2.1
  have l1 := hl.1
  refine mj_Met.of (by decide) ⟨rfl, rfl⟩ rfl rfl rfl ?_
  refine mj_aload_n d_Fr_readFrom_0 rfl ?_
  refine mj_get (ci := 2) (j := 0) d_Fr_readFrom_1 rfl w_Fr_9 (by decide) (by omega) (by assumption) rfl ?_
  refine mz_iconst d_Fr_readFrom_4 ?_
  refine mz_callS2v d_Fr_readFrom_5 (m_Ar_fill (d := 0) (by omega) f2 (by omega)) cw_Ar_fill lk_Fr_15 (by omega) rfl (fun S_5 h_5 => ?_)
  obtain ⟨g1, g2⟩ := h_5
  have hw5 := g1.w
  have f1 := g1.at f1 (by simp; try omega)
  have l1 := g1.at l1 (by simp; try omega)
  refine mj_aload_n d_Fr_readFrom_8 rfl ?_
  refine mz_iconst d_Fr_readFrom_9 ?_
  refine mz_put (ci := 2) (j := 1) d_Fr_readFrom_10 rfl w_Fr_21 (by decide) rfl (by omega) (by assumption) (Nat.le_of_ble_eq_true rfl) (mj_fit_int _) rfl (fun S_10 w_10 e_10 f_10 => ?_)
  have g2 := f_10.at g2 (by simp; try omega)
  have l1 := f_10.at l1 (by simp; try omega)
  have hA0 : ∀ j, j < 10 → mj_fl A 0 10 j = ((fun _ => 0 : Nat → Nat) j : Int) := fun j hj => by simp [mj_fl, hj]
  have fr0 : mj_fr S S_10 [3, 4] := g1.tr f_10 (by simp) (by simp)
  refine mj_aload_n d_Fr_readFrom_13 rfl ?_
  refine mj_get (ci := 1) (j := 1) d_Fr_readFrom_14 rfl w_Fr_25 (by decide) (by omega) (by assumption) rfl ?_
  refine mz_if_ne 23 d_Fr_readFrom_17 (by decide) (by omega) (fun c_17 => ?_) (fun c_17 => ?_)
  · refine mz_iconst d_Fr_readFrom_23 ?_
    refine mz_ist2 d_Fr_readFrom_24 (rfl) ?_
    have loop : ∀ (m a : Nat) (c : Nat → Nat) (S1 : mj_S) (A1 : Nat → Int), m ≤ 60 → a ≤ n → n ≤ a + m → (∀ j, j < 10 → c j ≤ 99) → mj_fr S S1 [3, 4] → mj_fr3 S1 a A1 → (∀ j, j < 10 → A1 j = c j) → ∀ x3 : Value, x3.category = 1 → mj_Ok Γ d M_Fr_readFrom 0 0 25 [.ref 3, .ref 1, .int (iZ ((60 - m : Nat) : Int)), x3] [] S1
        (mj_I fun z S' => mj_fr S S' [3, 4] ∧ ∃ A', z = (if (floop n C m a c).1 = -1 then (if tkS (floop n C m a c).2.2 9 < 1 ∨ 6 < tkS (floop n C m a c).2.2 9 then -5 else -1) else (floop n C m a c).1) ∧ mj_fr3 S' (floop n C m a c).2.1 A' ∧ ∀ j, j < 10 → A' j = (floop n C m a c).2.2 j) := by
      have fin : ∀ (a : Nat) (c : Nat → Nat) (S1 : mj_S) (A1 : Nat → Int) (x2 x3 : Value), (∀ j, j < 10 → c j ≤ 99) → mj_fr S S1 [3, 4] → mj_fr3 S1 a A1 → (∀ j, j < 10 → A1 j = c j) → x2.category = 1 → x3.category = 1 → mj_Ok Γ d M_Fr_readFrom 0 0 61 [.ref 3, .ref 1, x2, x3] [] S1
          (mj_I fun z S' => mj_fr S S' [3, 4] ∧ ∃ A', z = (if tkS c 9 < 1 ∨ 6 < tkS c 9 then -5 else -1) ∧ mj_fr3 S' a A' ∧ ∀ j, j < 10 → A' j = c j) := by
        intro a c S1 A1 x2 x3 hc hfr hf3 hA hx2 hx3
        have hw1 := hfr.w
        have q1 := hf3.1
        have hle := tkS_le hc 9 (by omega)
        refine mj_aload_n d_Fr_readFrom_61 rfl ?_
        refine mz_callV0i (ci := 2) d_Fr_readFrom_62 (m_Fr_heavyAtoms (d := 0) (c := c) (by omega) hf3 hA (fun j hj => by have := hc j hj; omega)) cw_Fr_heavyAtoms lk_Fr_34 rfl rfl (by omega) (by assumption) (by omega) rfl (fun z_62 S_62 h_62 => ?_)
        obtain ⟨rfl, rfl⟩ := h_62
        refine mz_ist2 d_Fr_readFrom_65 (by unfold mj_c1; simp only [List.all_cons, hx2, hx3]; rfl) ?_
        refine mj_iload_n d_Fr_readFrom_66 rfl ?_
        refine mz_iconst d_Fr_readFrom_67 ?_
        refine mz_icmp_lt 77 d_Fr_readFrom_68 (by decide) (by omega) (by omega) (fun c_68 => ?_) (fun c_68 => ?_)
        · refine mz_bipush d_Fr_readFrom_77 (by decide) ?_
          refine mj_goto 83 d_Fr_readFrom_79 (by decide) ?_
          refine mz_iret d_Fr_readFrom_83 rfl (rfl) ?_
          exact ⟨hfr, A1, by rw [if_pos (by omega)], hf3, hA⟩
        · refine mj_iload_n d_Fr_readFrom_71 rfl ?_
          refine mz_bipush d_Fr_readFrom_72 (by decide) ?_
          refine mz_icmp_le 82 d_Fr_readFrom_74 (by decide) (by omega) (by omega) (fun c_74 => ?_) (fun c_74 => ?_)
          · refine mz_iconst d_Fr_readFrom_82 ?_
            refine mz_iret d_Fr_readFrom_83 rfl (rfl) ?_
            exact ⟨hfr, A1, by rw [if_neg (by omega)], hf3, hA⟩
          · refine mz_bipush d_Fr_readFrom_77 (by decide) ?_
            refine mj_goto 83 d_Fr_readFrom_79 (by decide) ?_
            refine mz_iret d_Fr_readFrom_83 rfl (rfl) ?_
            exact ⟨hfr, A1, by rw [if_pos (by omega)], hf3, hA⟩
      intro m
      induction m with
      | zero =>
        intro a c S1 A1 hm ha hn hc hfr hf3 hA x3 hx3
        have w := fin a c S1 A1 (.int (iZ ((60 - 0 : Nat) : Int))) x3 hc hfr hf3 hA rfl hx3
        refine mj_iload_n d_Fr_readFrom_25 rfl ?_
        refine mz_bipush d_Fr_readFrom_26 (by decide) ?_
        refine mz_icmp_ge 61 d_Fr_readFrom_28 (by decide) (by omega) (by omega) (fun c_28 => ?_) (fun c_28 => ?_)
        · exact w
        · omega
      | succ m ih =>
        intro a c S1 A1 hm ha hn hc hfr hf3 hA x3 hx3
        have hw1 := hfr.w
        have q1 := hf3.1
        have hl1 : mj_ln S1 n C := hl.fr hfr (by simp) (by simp)
        have q2 := hl1.1
        have hs := fstep_ok (C := C) ha hc
        refine mj_iload_n d_Fr_readFrom_25 rfl ?_
        refine mz_bipush d_Fr_readFrom_26 (by decide) ?_
        refine mz_icmp_ge 61 d_Fr_readFrom_28 (by decide) (by omega) (by omega) (fun c_28 => ?_) (fun c_28 => ?_)
        · omega
        · refine mj_aload_n d_Fr_readFrom_31 rfl ?_
          refine mj_get (ci := 2) (j := 1) d_Fr_readFrom_32 rfl w_Fr_21 (by decide) (by omega) (by assumption) rfl ?_
          refine mj_aload_n d_Fr_readFrom_35 rfl ?_
          refine mj_get (ci := 1) (j := 1) d_Fr_readFrom_36 rfl w_Fr_25 (by decide) (by omega) (by assumption) rfl ?_
          refine mz_icmp_ge 61 d_Fr_readFrom_39 (by decide) (by omega) (by omega) (fun c_39 => ?_) (fun c_39 => ?_)
          · have w := fin a c S1 A1 (.int (iZ ((60 - (m + 1) : Nat) : Int))) x3 hc hfr hf3 hA rfl hx3
            have ef : floop n C (m + 1) a c = (-1, a, c) := by rw [floop, if_neg (by omega)]
            rw [ef, if_pos rfl]
            exact w
          · refine mj_aload_n d_Fr_readFrom_42 rfl ?_
            refine mj_aload_n d_Fr_readFrom_43 rfl ?_
            refine mz_callV1i (ci := 2) d_Fr_readFrom_44 (m_Fr_readElement (d := 2) (c := c) hT (by omega) hl1 hf3 hA (fun j hj => by have := hc j hj; omega) (by omega) ha) cw_Fr_readElement lk_Fr_30 rfl rfl (by omega) (by assumption) (by omega) rfl (fun z_44 S_44 h_44 => ?_)
            obtain ⟨g3, A2, rfl, hf4, hA2⟩ := h_44
            refine mz_ist3 d_Fr_readFrom_47 (by unfold mj_c1; simp only [List.all_cons, hx3]; rfl) ?_
            refine mj_iload_n d_Fr_readFrom_48 rfl ?_
            refine mz_iconst d_Fr_readFrom_49 ?_
            refine mz_icmp_eq 55 d_Fr_readFrom_50 (by decide) (by omega) (by omega) (fun c_50 => ?_) (fun c_50 => ?_)
            · refine mz_inc2 d_Fr_readFrom_55 (rfl) ?_
              refine mj_goto 25 d_Fr_readFrom_58 (by decide) ?_
              have w := ih (fstep n C a c).2.1 (fstep n C a c).2.2 S_44 A2 (by omega) hs.1 (by have := hs.2.2.1 c_50; omega) hs.2.1 (hfr.tr g3 (by simp) (by simp)) hf4 hA2 (.int (iZ (fstep n C a c).1)) rfl
              rw [show (60 - m : Nat) = 60 - (m + 1) + 1 by omega] at w
              have ef : floop n C (m + 1) a c = floop n C m (fstep n C a c).2.1 (fstep n C a c).2.2 := by rw [floop, if_pos (by omega), if_pos c_50]
              rw [ef]
              exact w
            · refine mj_iload_n d_Fr_readFrom_53 rfl ?_
              refine mz_iret d_Fr_readFrom_54 rfl (rfl) ?_
              have ef : floop n C (m + 1) a c = fstep n C a c := by rw [floop, if_pos (by omega), if_neg c_50]
              rw [ef, if_neg c_50]
              exact ⟨hfr.tr g3 (by simp) (by simp), A2, rfl, hf4, hA2⟩
    have w := loop 60 0 (fun _ => 0) S_10 (mj_fl A 0 10) (by omega) (by omega) (by omega) (fun j hj => by decide) fr0 ⟨e_10, g2⟩ hA0 (.retAddr 0) rfl
    refine mj_Ok.post (fun o S' hp => ?_) w
    cases o with
    | inr x => exact hp
    | inl v =>
      obtain ⟨z, e, h1, A', h2, h3, h4⟩ := hp
      have hok := floop_ok (C := C) 60 0 (fun _ => 0) (Nat.zero_le n) (by omega) (fun j hj => by decide)
      refine ⟨z, e, h1, A', ?_⟩
      unfold fread
      rw [if_neg (by omega)]
      split
      · rename_i q
        rw [if_pos q] at h2
        rw [hok.2.2.1 q] at h3
        exact ⟨h2, h3, h4⟩
      · rename_i q
        rw [if_neg q] at h2
        exact ⟨h2, h3, h4⟩
  · refine mz_bipush d_Fr_readFrom_20 (by decide) ?_
    refine mz_iret d_Fr_readFrom_22 rfl (rfl) ?_
    have hn : n = 0 := by omega
    unfold fread
    rw [if_pos hn]
    exact ⟨fr0, mj_fl A 0 10, rfl, ⟨e_10, g2⟩, hA0⟩
end RF
end
section
/-! shifts, masks, or: over naturals below 2 ^ 31 -/
theorem mj_s31 : ∀ s, s < 32 → ((nI s &&& 31).toBitVec.smod 32).toNat = s := by decide
section BT
variable {Γ : mj_G} {d : Nat} {M : mj_M} {k n pc : Nat} {lv st : List Value} {S : mj_S} {P : mj_O → mj_S → Prop}
theorem mz_ishl {x s : Nat} {zx zs : Int} (hd : decode M.cc pc = .ok (.ishl, 1)) (hx : zx = x) (hs : zs = s) (h31 : s < 32) (hb : x * 2 ^ s < 2147483648) (h : mj_Ok Γ d M k n (pc + 1) lv (.int (iZ ((x * 2 ^ s : Nat) : Int)) :: st) S P) : mj_Ok Γ d M k n pc lv (.int (iZ zs) :: .int (iZ zx) :: st) S P := by
  subst hx; subst hs
  refine mj_ishl hd ?_
  have e : iZ (x : Int) <<< (iZ (s : Int) &&& 31) = iZ ((x * 2 ^ s : Nat) : Int) := pk_shlN (n := x) (nI s &&& 31) s (mj_s31 s h31) (by omega)
  rw [e]
  exact h
theorem mz_ishr {x s : Nat} {zx zs : Int} (hd : decode M.cc pc = .ok (.ishr, 1)) (hx : zx = x) (hs : zs = s) (h31 : s < 32) (hb : x < 2147483648) (h : mj_Ok Γ d M k n (pc + 1) lv (.int (iZ ((x / 2 ^ s : Nat) : Int)) :: st) S P) : mj_Ok Γ d M k n pc lv (.int (iZ zs) :: .int (iZ zx) :: st) S P := by
  subst hx; subst hs
  refine mj_ishr hd ?_
  have e : iZ (x : Int) >>> (iZ (s : Int) &&& 31) = iZ ((x / 2 ^ s : Nat) : Int) := pk_shrN (n := x) (by omega) (nI s &&& 31) s (mj_s31 s h31)
  rw [e]
  exact h
theorem mj_nor (x y : Nat) : nI x ||| nI y = nI (x ||| y) := by
  apply Int32.toBitVec_inj.mp
  show BitVec.ofNat 32 x ||| BitVec.ofNat 32 y = BitVec.ofNat 32 (x ||| y)
  apply BitVec.eq_of_toNat_eq
  simp [Nat.or_mod_two_pow]
theorem mz_ior {x y : Nat} {zx zy : Int} (hd : decode M.cc pc = .ok (.ior, 1)) (hx : zx = x) (hy : zy = y) (h : mj_Ok Γ d M k n (pc + 1) lv (.int (iZ ((x ||| y : Nat) : Int)) :: st) S P) : mj_Ok Γ d M k n pc lv (.int (iZ zy) :: .int (iZ zx) :: st) S P := by
  subst hx; subst hy
  refine mj_ior hd ?_
  have e : iZ (x : Int) ||| iZ (y : Int) = iZ ((x ||| y : Nat) : Int) := mj_nor x y
  rw [e]
  exact h
theorem mz_iand {x q : Nat} {zx zm : Int} (hd : decode M.cc pc = .ok (.iand, 1)) (hx : zx = x) (hm : zm = ((2 ^ q - 1 : Nat) : Int)) (hq : q < 32) (hb : x < 2147483648) (h : mj_Ok Γ d M k n (pc + 1) lv (.int (iZ ((x % 2 ^ q : Nat) : Int)) :: st) S P) : mj_Ok Γ d M k n pc lv (.int (iZ zm) :: .int (iZ zx) :: st) S P := by
  subst hx; subst hm
  refine mj_iand hd ?_
  have h2 : 2 ^ q ≤ 2 ^ 31 := Nat.pow_le_pow_right (by decide) (by omega)
  have h3 : 0 < 2 ^ q := Nat.two_pow_pos q
  have e : iZ (x : Int) &&& iZ ((2 ^ q - 1 : Nat) : Int) = iZ ((x % 2 ^ q : Nat) : Int) := pk_andN (n := x) (by omega) (m := nI (2 ^ q - 1)) q (pk_tn (by omega))
  rw [e]
  exact h
/-- and of two naturals -/
theorem mj_nand (x y : Nat) : nI x &&& nI y = nI (x &&& y) := by
  apply Int32.toBitVec_inj.mp
  show BitVec.ofNat 32 x &&& BitVec.ofNat 32 y = BitVec.ofNat 32 (x &&& y)
  apply BitVec.eq_of_toNat_eq
  simp [Nat.and_mod_two_pow]
theorem mz_iandN {x y : Nat} {zx zy : Int} (hd : decode M.cc pc = .ok (.iand, 1)) (hx : zx = x) (hy : zy = y) (h : mj_Ok Γ d M k n (pc + 1) lv (.int (iZ ((x &&& y : Nat) : Int)) :: st) S P) : mj_Ok Γ d M k n pc lv (.int (iZ zy) :: .int (iZ zx) :: st) S P := by
  subst hx; subst hy
  refine mj_iand hd ?_
  have e : iZ (x : Int) &&& iZ (y : Int) = iZ ((x &&& y : Nat) : Int) := mj_nand x y
  rw [e]
  exact h
end BT
theorem mj_lor4 (x b : Nat) (hb : b < 4) : x * 4 ||| b = x * 4 + b := by
  have := Nat.two_pow_add_eq_or_of_lt (i := 2) (b := b) hb x
  rw [Nat.mul_comm x 4]
  exact this.symm
end
section
/-! the search of numberings (17: chosen 18, taken 19) -/
def mj_nu (S : mj_S) (mo wa A g s : Nat) : Prop := S.1 17 = .inr (6, [.ref 18, .ref 19, .ref mo, .ref wa, .int (iZ A), .int (iZ g), .int (iZ s)])
/-- the molecule and the wanted elements that the search looks at: kinds, bonds, wanted -/
def mj_nx (S : mj_S) (mo wa A : Nat) (KM B KW : Nat → Nat) : Prop := ∃ (n : Nat) (K F Bz W : Nat → Int), mj_ml S mo n K F Bz ∧ S.1 wa = .inl (0, 6, .inl (mj_z W)) ∧ wa < 62 ∧ wa ≠ 17 ∧ wa ≠ 18 ∧ wa ≠ 19 ∧ (mo + 3 < 17 ∨ 19 < mo) ∧ (∀ j, j < A → K j = KM j ∧ KM j < 1000) ∧ (∀ j, j < 36 → Bz j = B j ∧ B j < 4) ∧ (∀ j, j < A → W j = KW j ∧ KW j < 1000)
theorem mj_nx.fr {S S' : mj_S} {mo wa A : Nat} {KM B KW : Nat → Nat} (h : mj_nx S mo wa A KM B KW) (hf : mj_fr S S' [17, 18, 19]) : mj_nx S' mo wa A KM B KW := by
  obtain ⟨n, K, F, Bz, W, h1, h2, h3, h4, h5, h6, h7, h8⟩ := h
  exact ⟨n, K, F, Bz, W, h1.fr hf (by simp; omega), hf.at h2 (by simp; omega), h3, h4, h5, h6, h7, h8⟩
def mj_rw (B ch : Nat → Nat) (a : Nat) : Nat → Nat
  | 0 => 0
  | k + 1 => mj_rw B ch a k * 4 + B (a * 6 + ch k)
theorem mj_rw_lt {B ch : Nat → Nat} {a : Nat} (ha : a < 6) (hB : ∀ j, j < 36 → B j < 4) : ∀ k, (∀ j, j < k → ch j < 6) → mj_rw B ch a k < 4 ^ k := by
  intro k
  induction k with
  | zero => intro _; exact Nat.one_pos
  | succ k ih =>
    intro hc
    have h1 := ih (fun j hj => hc j (by omega))
    have h2 := hB (a * 6 + ch k) (by have := hc k (by omega); omega)
    rw [mj_rw, Nat.pow_succ]
    omega
theorem mj_rw_congr {B ch ch' : Nat → Nat} {a : Nat} : ∀ k, (∀ j, j < k → ch j = ch' j) → mj_rw B ch a k = mj_rw B ch' a k := by
  intro k
  induction k with
  | zero => intro _; rfl
  | succ k ih => intro h; rw [mj_rw, mj_rw, ih (fun j hj => h j (by omega)), h k (by omega)]
/-- how far left the last number of row k stands -/
def mj_sh (k : Nat) : Nat := 30 - k * (k + 1)
theorem mj_sh_i : ∀ k : Nat, k ≤ 5 → (30 : Int) - (k : Int) * ((k : Int) + 1) = (mj_sh k : Nat) := by decide
theorem mj_sh_r : ∀ k, k ≤ 5 → mj_sh k ≤ 30 ∧ 4 ^ k * 2 ^ mj_sh k ≤ 2 ^ 30 := by decide
def mj_nt (c : Nat) (p : Nat × Nat) : Nat × Nat := if p.1 < c then (c, 1) else (p.1, p.2 + 1)
def chR {α : Type} (f : Nat → α → α) : Nat → Nat → α → α
  | 0, _, p => p
  | r + 1, a, p => chR f r (a + 1) (f a p)
def chI (A : Nat) (KM B KW : Nat → Nat) : Nat → Nat → Nat → (Nat → Nat) → (Nat → Bool) → Nat × Nat → Nat × Nat
  | 0, _, c, _, _, p => mj_nt c p
  | m + 1, k, c, ch, tk, p => chR (fun a p => if tk a = false ∧ KM a = KW k then (if p.1 / 2 ^ mj_sh k ≤ (c ||| mj_rw B ch a k * 2 ^ mj_sh k) / 2 ^ mj_sh k then chI A KM B KW m (k + 1) (c ||| mj_rw B ch a k * 2 ^ mj_sh k) (va_up ch k a) (va_up tk a true) p else p) else p) A 0 p
section NU
variable {Γ : mj_G} {d mo wa A g s : Nat} {S : mj_S} {KM B KW ch : Nat → Nat} {CA TA : Nat → Int}
theorem m_Nu_row (hw : S.2.1 = 62) (hn : mj_nu S mo wa A g s) (hm : mj_nx S mo wa A KM B KW) (h18 : S.1 18 = .inl (0, 6, .inl (mj_z CA))) {a k : Nat} (ha : a < 6) (hk : k ≤ 5) (hc : ∀ j, j < k → CA j = ch j ∧ ch j < 6) :
    mj_Met Γ d y_Nu_row M_Nu_row [.ref 17, .int (iZ k), .int (iZ a)] S 0 0 (mj_I fun z S' => S' = S ∧ z = (mj_rw B ch a k : Nat)) := by
  obtain ⟨n, K, F, Bz, W, ⟨m1, m2, m3, m4, m5⟩, w1, w2, w3, w4, w5, w6, q1, q2, q3⟩ := hm
  have hn : S.1 17 = .inr (6, [.ref 18, .ref 19, .ref mo, .ref wa, .int (iZ A), .int (iZ g), .int (iZ s)]) := hn
  refine mj_Met.of (by decide) ⟨rfl, rfl⟩ rfl rfl rfl ?_
  refine mz_iconst d_Nu_row_0 ?_
  refine mz_ist3 d_Nu_row_1 (rfl) ?_
  refine mz_iconst d_Nu_row_2 ?_
  refine mz_ist4 d_Nu_row_3 (rfl) ?_
  have loop : ∀ (q i : Nat), i + q = k → mj_Ok Γ d M_Nu_row 0 0 5 [.ref 17, .int (iZ k), .int (iZ a), .int (iZ (mj_rw B ch a i : Nat)), .int (iZ i)] [] S (mj_I fun z S' => S' = S ∧ z = (mj_rw B ch a k : Nat)) := by
    intro q
    induction q with
    | zero =>
      intro i hi
      refine mj_iload d_Nu_row_5 rfl ?_
      refine mj_iload_n d_Nu_row_7 rfl ?_
      refine mz_icmp_ge 42 d_Nu_row_8 (by decide) (by omega) (by omega) (fun c_8 => ?_) (fun c_8 => ?_)
      · refine mj_iload_n d_Nu_row_42 rfl ?_
        refine mz_iret d_Nu_row_43 rfl (rfl) ?_
        exact ⟨rfl, by rw [show i = k by omega]⟩
      · omega
    | succ q ih =>
      intro i hi
      have r1 := mj_rw_lt (ch := ch) ha (fun j hj => (q2 j hj).2) i (fun j hj => (hc j (by omega)).2)
      have r2 : 4 ^ i ≤ 4 ^ 5 := Nat.pow_le_pow_right (by decide) (by omega)
      have hci := hc i (by omega)
      have hb := q2 (a * 6 + ch i) (by omega)
      refine mj_iload d_Nu_row_5 rfl ?_
      refine mj_iload_n d_Nu_row_7 rfl ?_
      refine mz_icmp_ge 42 d_Nu_row_8 (by decide) (by omega) (by omega) (fun c_8 => ?_) (fun c_8 => ?_)
      · omega
      · refine mj_iload_n d_Nu_row_11 rfl ?_
        refine mz_iconst d_Nu_row_12 ?_
        refine mz_ishl (s := 2) d_Nu_row_13 (rfl) (rfl) (by omega) (by omega) ?_
        refine mj_aload_n d_Nu_row_14 rfl ?_
        refine mj_get (ci := 6) (j := 2) d_Nu_row_15 rfl w_Nu_19 (by decide) (by omega) (by assumption) rfl ?_
        refine mj_get (ci := 4) (j := 2) d_Nu_row_18 rfl w_Nu_66 (by decide) (by omega) (by assumption) rfl ?_
        refine mj_iload_n d_Nu_row_21 rfl ?_
        refine mz_bipush d_Nu_row_22 (by decide) ?_
        refine mz_imul d_Nu_row_24 ?_
        refine mj_aload_n d_Nu_row_25 rfl ?_
        refine mj_get (ci := 6) (j := 0) d_Nu_row_26 rfl w_Nu_9 (by decide) (by omega) (by assumption) rfl ?_
        refine mj_iload d_Nu_row_29 rfl ?_
        refine mz_iald d_Nu_row_31 (by omega) (by assumption) (rfl) (by omega) ?_
        rw [hci.1]
        refine mz_iadd d_Nu_row_32 ?_
        refine mz_iald (j := a * 6 + ch i) d_Nu_row_33 (by omega) (by assumption) (by omega) (by omega) ?_
        rw [hb.1]
        refine mz_ior d_Nu_row_34 (rfl) (rfl) ?_
        rw [show (mj_rw B ch a i * 2 ^ 2 ||| B (a * 6 + ch i)) = mj_rw B ch a (i + 1) from mj_lor4 _ _ hb.2]
        refine mz_ist3 d_Nu_row_35 (rfl) ?_
        refine mz_inc4 d_Nu_row_36 (rfl) ?_
        refine mj_goto 5 d_Nu_row_39 (by decide) ?_
        exact ih (i + 1) (by omega)
  exact loop k 0 (by omega)
theorem m_Nu_noteCode (hw : S.2.1 = 62) (hn : mj_nu S mo wa A g s) (hg : g < 2147483648) {c : Nat} (hc : c < 2147483648) : mj_Met Γ d y_Nu_noteCode M_Nu_noteCode [.ref 17, .int (iZ c)] S 0 0 (mj_V fun S' => mj_fr S S' [17] ∧ mj_nu S' mo wa A (mj_nt c (g, s)).1 (mj_nt c (g, s)).2) := by
  have hn : S.1 17 = .inr (6, [.ref 18, .ref 19, .ref mo, .ref wa, .int (iZ A), .int (iZ g), .int (iZ s)]) := hn
  refine mj_Met.of (by decide) ⟨rfl, rfl⟩ rfl rfl rfl ?_
  refine mj_iload_n d_Nu_noteCode_0 rfl ?_
  refine mj_aload_n d_Nu_noteCode_1 rfl ?_
  refine mj_get (ci := 6) (j := 5) d_Nu_noteCode_2 rfl w_Nu_33 (by decide) (by omega) (by assumption) rfl ?_
  refine mz_icmp_le 18 d_Nu_noteCode_5 (by decide) (by omega) (by omega) (fun c_5 => ?_) (fun c_5 => ?_)
  · refine mj_aload_n d_Nu_noteCode_18 rfl ?_
    refine mj_dup d_Nu_noteCode_19 rfl ?_
    refine mj_get (ci := 6) (j := 6) d_Nu_noteCode_20 rfl w_Nu_36 (by decide) (by omega) (by assumption) rfl ?_
    refine mz_iconst d_Nu_noteCode_23 ?_
    refine mz_iadd d_Nu_noteCode_24 ?_
    refine mz_put (ci := 6) (j := 6) d_Nu_noteCode_25 rfl w_Nu_36 (by decide) rfl (by omega) (by assumption) (Nat.le_of_ble_eq_true rfl) (mj_fit_int _) rfl (fun S_25 w_25 e_25 f_25 => ?_)
    refine mz_vret d_Nu_noteCode_28 rfl ?_
    refine ⟨f_25, ?_⟩
    rw [show mj_nt c (g, s) = (g, s + 1) from if_neg (by show ¬ g < c; omega)]
    exact e_25
  · refine mj_aload_n d_Nu_noteCode_8 rfl ?_
    refine mj_iload_n d_Nu_noteCode_9 rfl ?_
    refine mz_put (ci := 6) (j := 5) d_Nu_noteCode_10 rfl w_Nu_33 (by decide) rfl (by omega) (by assumption) (Nat.le_of_ble_eq_true rfl) (mj_fit_int _) rfl (fun S_10 w_10 e_10 f_10 => ?_)
    refine mj_aload_n d_Nu_noteCode_13 rfl ?_
    refine mz_iconst d_Nu_noteCode_14 ?_
    refine mz_put (ci := 6) (j := 6) d_Nu_noteCode_15 rfl w_Nu_36 (by decide) rfl (by omega) (by assumption) (Nat.le_of_ble_eq_true rfl) (mj_fit_int _) rfl (fun S_15 w_15 e_15 f_15 => ?_)
    refine mj_aload_n d_Nu_noteCode_18 rfl ?_
    refine mj_dup d_Nu_noteCode_19 rfl ?_
    refine mj_get (ci := 6) (j := 6) d_Nu_noteCode_20 rfl w_Nu_36 (by decide) (by omega) (by assumption) rfl ?_
    refine mz_iconst d_Nu_noteCode_23 ?_
    refine mz_iadd d_Nu_noteCode_24 ?_
    refine mz_put (ci := 6) (j := 6) d_Nu_noteCode_25 rfl w_Nu_36 (by decide) rfl (by omega) (by assumption) (Nat.le_of_ble_eq_true rfl) (mj_fit_int _) rfl (fun S_25 w_25 e_25 f_25 => ?_)
    refine mz_vret d_Nu_noteCode_28 rfl ?_
    refine ⟨(f_10.tr f_15 (l := [17]) (by simp) (by simp)).tr f_25 (by simp) (by simp), ?_⟩
    rw [show mj_nt c (g, s) = (c, 1) from if_pos (by show g < c; omega)]
    exact e_25
theorem mj_up_undo {T : Nat → Int} {a : Nat} {v : Int} (h : T a = 0) : va_up (va_up T a v) a 0 = T := by
  funext j
  by_cases e : j = a
  · subst e; rw [va_up_self, h]
  · rw [va_up_ne _ _ e, va_up_ne _ _ e]
theorem mj_or_lt {c x : Nat} (h1 : c < 2 ^ 30) (h2 : x < 2 ^ 30) : c ||| x < 2 ^ 30 := Nat.or_lt_two_pow h1 h2
theorem m_Nu_choose : ∀ (m k c g s d : Nat) (S : mj_S) (ch : Nat → Nat) (tk : Nat → Bool) (CA TA : Nat → Int), S.2.1 = 62 → mj_nu S mo wa A g s → mj_nx S mo wa A KM B KW → S.1 18 = .inl (0, 6, .inl (mj_z CA)) → S.1 19 = .inl (2, 6, .inl (mj_z TA)) → (∀ j, j < 6 → TA j = if tk j then 1 else 0) → A ≤ 6 → k + m = A → (∀ j, j < k → CA j = ch j ∧ ch j < 6) → c < 2 ^ 30 → g < 2 ^ 30 → m + 1 ≤ d →
    mj_Met Γ d y_Nu_choose M_Nu_choose [.ref 17, .int (iZ k), .int (iZ c)] S 0 0 (mj_V fun S' => mj_fr S S' [17, 18, 19] ∧ mj_nu S' mo wa A (chI A KM B KW m k c ch tk (g, s)).1 (chI A KM B KW m k c ch tk (g, s)).2 ∧ (chI A KM B KW m k c ch tk (g, s)).1 < 2 ^ 30 ∧ S'.1 19 = .inl (2, 6, .inl (mj_z TA)) ∧ ∃ CA', S'.1 18 = .inl (0, 6, .inl (mj_z CA')) ∧ ∀ j, j < k → CA' j = CA j) := by
  intro m
  induction m with
  | zero =>
    intro k c g s d S ch tk CA TA hw hn hm h18 h19 hT hA hk hc hcl hgl hd
    have hn0 : S.1 17 = .inr (6, [.ref 18, .ref 19, .ref mo, .ref wa, .int (iZ A), .int (iZ g), .int (iZ s)]) := hn
    refine mj_Met.of (by decide) ⟨rfl, rfl⟩ rfl rfl rfl ?_
    refine mj_iload_n d_Nu_choose_0 rfl ?_
    refine mj_aload_n d_Nu_choose_1 rfl ?_
    refine mj_get (ci := 6) (j := 4) d_Nu_choose_2 rfl w_Nu_32 (by decide) (by omega) (by assumption) rfl ?_
    refine mz_icmp_lt 14 d_Nu_choose_5 (by decide) (by omega) (by omega) (fun c_5 => ?_) (fun c_5 => ?_)
    · omega
    · refine mj_aload_n d_Nu_choose_8 rfl ?_
      refine mj_iload_n d_Nu_choose_9 rfl ?_
      refine mz_callV1v (ci := 6) d_Nu_choose_10 (m_Nu_noteCode (d := 0) hw hn (by omega) (by omega)) cw_Nu_noteCode lk_Nu_50 rfl rfl (by omega) (by assumption) (by omega) rfl (fun S_10 h_10 => ?_)
      obtain ⟨f1, h1⟩ := h_10
      refine mz_vret d_Nu_choose_13 rfl ?_
      refine ⟨f1.tr (mj_fr.rf _ []) (by simp) (by simp), h1, ?_, f1.at h19 (by simp), CA, f1.at h18 (by simp), fun _ _ => rfl⟩
      show (mj_nt c (g, s)).1 < 2 ^ 30
      unfold mj_nt
      split <;> assumption
  | succ m ih =>
    intro k c g s d S ch tk CA TA hw hn hm h18 h19 hT hA hk hc hcl hgl hd
    have hn0 : S.1 17 = .inr (6, [.ref 18, .ref 19, .ref mo, .ref wa, .int (iZ A), .int (iZ g), .int (iZ s)]) := hn
    have hsh := mj_sh_r k (by omega)
    refine mj_Met.of (by decide) ⟨rfl, rfl⟩ rfl rfl rfl ?_
    refine mj_iload_n d_Nu_choose_0 rfl ?_
    refine mj_aload_n d_Nu_choose_1 rfl ?_
    refine mj_get (ci := 6) (j := 4) d_Nu_choose_2 rfl w_Nu_32 (by decide) (by omega) (by assumption) rfl ?_
    refine mz_icmp_lt 14 d_Nu_choose_5 (by decide) (by omega) (by omega) (fun c_5 => ?_) (fun c_5 => ?_)
    · refine mj_iload_n d_Nu_choose_14 rfl ?_
      refine mz_callSN1i d_Nu_choose_15 (m_IL_rowShift (d := 0) (by omega)) cw_IL_rowShift lk_Nu_54 (by omega) rfl (fun z_15 S_15 h_15 => ?_)
      obtain ⟨rfl, rfl⟩ := h_15
      rw [mj_sh_i k (by omega)]
      refine mz_ist3 d_Nu_choose_18 (rfl) ?_
      refine mz_iconst d_Nu_choose_19 ?_
      refine mz_ist4 d_Nu_choose_20 (rfl) ?_
      have loop : ∀ (r a : Nat) (S1 : mj_S) (p : Nat × Nat) (CA1 : Nat → Int), a + r = A → mj_fr S_15 S1 [17, 18, 19] → mj_nu S1 mo wa A p.1 p.2 → p.1 < 2 ^ 30 → S1.1 19 = .inl (2, 6, .inl (mj_z TA)) → S1.1 18 = .inl (0, 6, .inl (mj_z CA1)) → (∀ j, j < k → CA1 j = CA j) → ∀ x5 : Value, x5.category = 1 →
          mj_Ok Γ d M_Nu_choose 0 0 22 [.ref 17, .int (iZ k), .int (iZ c), .int (iZ (mj_sh k : Nat)), .int (iZ a), x5] [] S1 (mj_V fun S' => mj_fr S_15 S' [17, 18, 19] ∧ mj_nu S' mo wa A (chR (fun a p => if tk a = false ∧ KM a = KW k then (if p.1 / 2 ^ mj_sh k ≤ (c ||| mj_rw B ch a k * 2 ^ mj_sh k) / 2 ^ mj_sh k then chI A KM B KW m (k + 1) (c ||| mj_rw B ch a k * 2 ^ mj_sh k) (va_up ch k a) (va_up tk a true) p else p) else p) r a p).1 (chR (fun a p => if tk a = false ∧ KM a = KW k then (if p.1 / 2 ^ mj_sh k ≤ (c ||| mj_rw B ch a k * 2 ^ mj_sh k) / 2 ^ mj_sh k then chI A KM B KW m (k + 1) (c ||| mj_rw B ch a k * 2 ^ mj_sh k) (va_up ch k a) (va_up tk a true) p else p) else p) r a p).2
            ∧ (chR (fun a p => if tk a = false ∧ KM a = KW k then (if p.1 / 2 ^ mj_sh k ≤ (c ||| mj_rw B ch a k * 2 ^ mj_sh k) / 2 ^ mj_sh k then chI A KM B KW m (k + 1) (c ||| mj_rw B ch a k * 2 ^ mj_sh k) (va_up ch k a) (va_up tk a true) p else p) else p) r a p).1 < 2 ^ 30 ∧ S'.1 19 = .inl (2, 6, .inl (mj_z TA)) ∧ ∃ CA', S'.1 18 = .inl (0, 6, .inl (mj_z CA')) ∧ ∀ j, j < k → CA' j = CA j) := by
        intro r
        induction r with
        | zero =>
          intro a S1 p CA1 ha f1 hn1 hp h191 h181 hc1 x5 hx5
          have hn2 : S1.1 17 = .inr (6, [.ref 18, .ref 19, .ref mo, .ref wa, .int (iZ A), .int (iZ p.1), .int (iZ p.2)]) := hn1
          have hw1 := f1.w
          refine mj_iload d_Nu_choose_22 rfl ?_
          refine mj_aload_n d_Nu_choose_24 rfl ?_
          refine mj_get (ci := 6) (j := 4) d_Nu_choose_25 rfl w_Nu_32 (by decide) (by omega) (by assumption) rfl ?_
          refine mz_icmp_ge 125 d_Nu_choose_28 (by decide) (by omega) (by omega) (fun c_28 => ?_) (fun c_28 => ?_)
          · refine mz_vret d_Nu_choose_125 rfl ?_
            exact ⟨f1, hn1, hp, h191, CA1, h181, hc1⟩
          · omega
        | succ r ih2 =>
          intro a S1 p CA1 ha f1 hn1 hp h191 h181 hc1 x5 hx5
          have hn2 : S1.1 17 = .inr (6, [.ref 18, .ref 19, .ref mo, .ref wa, .int (iZ A), .int (iZ p.1), .int (iZ p.2)]) := hn1
          have hw1 := f1.w
          have hm1 : mj_nx S1 mo wa A KM B KW := hm.fr f1
          have hm1' := hm1
          obtain ⟨nn, K, F, Bz, W, ⟨m1, m2, m3, m4, m5⟩, w1, w2, w3, w4, w5, w6, q1, q2, q3⟩ := hm1
          have hTa := hT a (by omega)
          have hKa := q1 a (by omega)
          have hWk := q3 k (by omega)
          refine mj_iload d_Nu_choose_22 rfl ?_
          refine mj_aload_n d_Nu_choose_24 rfl ?_
          refine mj_get (ci := 6) (j := 4) d_Nu_choose_25 rfl w_Nu_32 (by decide) (by omega) (by assumption) rfl ?_
          refine mz_icmp_ge 125 d_Nu_choose_28 (by decide) (by omega) (by omega) (fun c_28 => ?_) (fun c_28 => ?_)
          · omega
          · refine mj_aload_n d_Nu_choose_31 rfl ?_
            refine mj_get (ci := 6) (j := 1) d_Nu_choose_32 rfl w_Nu_15 (by decide) (by omega) (by assumption) rfl ?_
            refine mj_iload d_Nu_choose_35 rfl ?_
            refine mz_zald d_Nu_choose_37 (by omega) (by assumption) (rfl) (by omega) ?_
            rw [hTa]
            cases ht : tk a with
            | true =>
              refine mz_if_ne 119 d_Nu_choose_38 (by decide) (by omega) (fun c_38 => ?_) (fun c_38 => ?_)
              · refine mz_inc4 d_Nu_choose_119 (by unfold mj_c1; simp only [List.all_cons, hx5]; rfl) ?_
                refine mj_goto 22 d_Nu_choose_122 (by decide) ?_
                have w := ih2 (a + 1) S1 p CA1 (by omega) f1 hn1 hp h191 h181 hc1 x5 hx5
                rw [chR, if_neg (by rw [ht]; simp)]
                exact w
              · simp at c_38
            | false =>
              refine mz_if_ne 119 d_Nu_choose_38 (by decide) (by omega) (fun c_38 => ?_) (fun c_38 => ?_)
              · simp at c_38
              · refine mj_aload_n d_Nu_choose_41 rfl ?_
                refine mj_get (ci := 6) (j := 2) d_Nu_choose_42 rfl w_Nu_19 (by decide) (by omega) (by assumption) rfl ?_
                refine mj_get (ci := 4) (j := 0) d_Nu_choose_45 rfl w_Nu_43 (by decide) (by omega) (by assumption) rfl ?_
                refine mj_iload d_Nu_choose_48 rfl ?_
                refine mz_iald d_Nu_choose_50 (by omega) (by assumption) (rfl) (by omega) ?_
                rw [hKa.1]
                refine mj_aload_n d_Nu_choose_51 rfl ?_
                refine mj_get (ci := 6) (j := 3) d_Nu_choose_52 rfl w_Nu_23 (by decide) (by omega) (by assumption) rfl ?_
                refine mj_iload_n d_Nu_choose_55 rfl ?_
                refine mz_iald d_Nu_choose_56 (by omega) (by assumption) (rfl) (by omega) ?_
                rw [hWk.1]
                refine mz_icmp_ne 119 d_Nu_choose_57 (by decide) (by omega) (by omega) (fun c_57 => ?_) (fun c_57 => ?_)
                · refine mz_inc4 d_Nu_choose_119 (by unfold mj_c1; simp only [List.all_cons, hx5]; rfl) ?_
                  refine mj_goto 22 d_Nu_choose_122 (by decide) ?_
                  have w := ih2 (a + 1) S1 p CA1 (by omega) f1 hn1 hp h191 h181 hc1 x5 hx5
                  rw [chR, if_neg (fun z => c_57 (by rw [z.2]))]
                  exact w
                · have hkk : KM a = KW k := by omega
                  have hrl := mj_rw_lt (ch := ch) (a := a) (by omega) (fun j hj => (q2 j hj).2) k (fun j hj => (hc j hj).2)
                  have hrs : mj_rw B ch a k * 2 ^ mj_sh k < 2 ^ 30 := Nat.lt_of_lt_of_le (Nat.mul_lt_mul_of_pos_right hrl (Nat.two_pow_pos _)) hsh.2
                  refine mj_iload_n d_Nu_choose_60 rfl ?_
                  refine mj_aload_n d_Nu_choose_61 rfl ?_
                  refine mj_iload_n d_Nu_choose_62 rfl ?_
                  refine mj_iload d_Nu_choose_63 rfl ?_
                  refine mz_callV2i (ci := 6) d_Nu_choose_65 (m_Nu_row (d := 0) (ch := ch) (by omega) hn1 hm1' h181 (by omega) (by omega) (fun j hj => ⟨(hc1 j hj).trans (hc j hj).1, (hc j hj).2⟩)) cw_Nu_row lk_Nu_58 rfl rfl (by omega) (by assumption) (by omega) rfl (fun z_65 S_65 h_65 => ?_)
                  obtain ⟨rfl, rfl⟩ := h_65
                  have hor : c ||| mj_rw B ch a k * 2 ^ mj_sh k < 2 ^ 30 := mj_or_lt hcl hrs
                  obtain ⟨nx, hnx⟩ : ∃ nx : Nat, nx = c ||| mj_rw B ch a k * 2 ^ mj_sh k := ⟨_, rfl⟩
                  refine mj_iload_n d_Nu_choose_68 rfl ?_
                  refine mz_ishl d_Nu_choose_69 (rfl) (rfl) (by omega) (by omega) ?_
                  refine mz_ior d_Nu_choose_70 (rfl) (rfl) ?_
                  rw [← hnx] at hor ⊢
                  refine mz_ist5 d_Nu_choose_71 (by unfold mj_c1; simp only [List.all_cons, hx5]; rfl) ?_
                  obtain ⟨u1, hu1⟩ : ∃ u1 : Nat, u1 = nx / 2 ^ mj_sh k := ⟨_, rfl⟩
                  obtain ⟨u2, hu2⟩ : ∃ u2 : Nat, u2 = p.1 / 2 ^ mj_sh k := ⟨_, rfl⟩
                  have d1 : u1 ≤ nx := by rw [hu1]; exact Nat.div_le_self _ _
                  have d2 : u2 ≤ p.1 := by rw [hu2]; exact Nat.div_le_self _ _
                  refine mj_iload d_Nu_choose_73 rfl ?_
                  refine mj_iload_n d_Nu_choose_75 rfl ?_
                  refine mz_ishr d_Nu_choose_76 (rfl) (rfl) (by omega) (by omega) ?_
                  refine mj_aload_n d_Nu_choose_77 rfl ?_
                  refine mj_get (ci := 6) (j := 5) d_Nu_choose_78 rfl w_Nu_33 (by decide) (by omega) (by assumption) rfl ?_
                  refine mj_iload_n d_Nu_choose_81 rfl ?_
                  refine mz_ishr d_Nu_choose_82 (rfl) (rfl) (by omega) (by omega) ?_
                  rw [← hu1, ← hu2]
                  refine mz_icmp_lt 119 d_Nu_choose_83 (by decide) (by omega) (by omega) (fun c_83 => ?_) (fun c_83 => ?_)
                  · refine mz_inc4 d_Nu_choose_119 (rfl) ?_
                    refine mj_goto 22 d_Nu_choose_122 (by decide) ?_
                    have w := ih2 (a + 1) S_65 p CA1 (by omega) f1 hn1 hp h191 h181 hc1 (.int (iZ nx)) rfl
                    rw [chR, if_pos ⟨ht, hkk⟩, ← hnx, ← hu1, ← hu2, if_neg (by omega)]
                    exact w
                  · refine mj_aload_n d_Nu_choose_86 rfl ?_
                    refine mj_get (ci := 6) (j := 0) d_Nu_choose_87 rfl w_Nu_9 (by decide) (by omega) (by assumption) rfl ?_
                    refine mj_iload_n d_Nu_choose_90 rfl ?_
                    refine mj_iload d_Nu_choose_91 rfl ?_
                    refine mz_iast d_Nu_choose_93 (by omega) (by assumption) (rfl) (by omega) (fun S_93 w_93 e_93 f_93 => ?_)
                    have hn2 := f_93.at hn2 (by simp; try omega)
                    have h191 := f_93.at h191 (by simp; try omega)
                    refine mj_aload_n d_Nu_choose_94 rfl ?_
                    refine mj_get (ci := 6) (j := 1) d_Nu_choose_95 rfl w_Nu_15 (by decide) (by omega) (by assumption) rfl ?_
                    refine mj_iload d_Nu_choose_98 rfl ?_
                    refine mz_iconst d_Nu_choose_100 ?_
                    refine mz_zast d_Nu_choose_101 (by omega) (by assumption) (rfl) (by omega) (by decide) (fun S_101 w_101 e_101 f_101 => ?_)
                    have hn2 := f_101.at hn2 (by simp; try omega)
                    have e_93 := f_101.at e_93 (by simp; try omega)
                    have f2 : mj_fr S_15 S_101 [17, 18, 19] := (f1.tr f_93 (l := [17, 18, 19]) (by simp) (by simp)).tr f_101 (by simp) (by simp)
                    have hTn : ∀ j, j < 6 → va_up TA a 1 j = if va_up tk a true j then 1 else 0 := fun j hj => by
                      by_cases e : j = a
                      · subst e; rw [va_up_self, va_up_self]; rfl
                      · rw [va_up_ne _ _ e, va_up_ne _ _ e]; exact hT j hj
                    have hcn : ∀ j, j < k + 1 → va_up CA1 k (a : Int) j = (va_up ch k a j : Nat) ∧ va_up ch k a j < 6 := fun j hj => by
                      by_cases e : j = k
                      · subst e; rw [va_up_self, va_up_self]; exact ⟨rfl, by omega⟩
                      · rw [va_up_ne _ _ e, va_up_ne _ _ e]; exact ⟨(hc1 j (by omega)).trans (hc j (by omega)).1, (hc j (by omega)).2⟩
                    refine mj_aload_n d_Nu_choose_102 rfl ?_
                    refine mj_iload_n d_Nu_choose_103 rfl ?_
                    refine mz_iconst d_Nu_choose_104 ?_
                    refine mz_iadd d_Nu_choose_105 ?_
                    refine mj_iload d_Nu_choose_106 rfl ?_
                    refine mz_callV2v (ci := 6) d_Nu_choose_108 (ih (k + 1) nx p.1 p.2 (d - 1) S_101 (va_up ch k a) (va_up tk a true) (va_up CA1 k a) (va_up TA a 1) (by omega) hn2 (hm.fr f2) e_93 e_101 hTn hA (by omega) hcn hor hp (by omega)) cw_Nu_choose lk_Nu_39 rfl rfl (by omega) (by assumption) (by omega) rfl (fun S_108 h_108 => ?_)
                    obtain ⟨g1, g2, g3, g4, CA2, g5, g6⟩ := h_108
                    have hn3 : S_108.1 17 = .inr (6, [.ref 18, .ref 19, .ref mo, .ref wa, .int (iZ A), .int (iZ (chI A KM B KW m (k + 1) nx (va_up ch k a) (va_up tk a true) p).1), .int (iZ (chI A KM B KW m (k + 1) nx (va_up ch k a) (va_up tk a true) p).2)]) := g2
                    have hw2 := g1.w
                    refine mj_aload_n d_Nu_choose_111 rfl ?_
                    refine mj_get (ci := 6) (j := 1) d_Nu_choose_112 rfl w_Nu_15 (by decide) (by omega) (by assumption) rfl ?_
                    refine mj_iload d_Nu_choose_115 rfl ?_
                    refine mz_iconst d_Nu_choose_117 ?_
                    refine mz_zast d_Nu_choose_118 (by omega) (by assumption) (rfl) (by omega) (by decide) (fun S_118 w_118 e_118 f_118 => ?_)
                    have hn3 := f_118.at hn3 (by simp; try omega)
                    have g5 := f_118.at g5 (by simp; try omega)
                    rw [mj_up_undo (by rw [hTa, ht]; rfl)] at e_118
                    refine mz_inc4 d_Nu_choose_119 (rfl) ?_
                    refine mj_goto 22 d_Nu_choose_122 (by decide) ?_
                    have w := ih2 (a + 1) S_118 (chI A KM B KW m (k + 1) nx (va_up ch k a) (va_up tk a true) p) CA2 (by omega) ((f2.tr g1 (l := [17, 18, 19]) (by simp) (by simp)).tr f_118 (by simp) (by simp)) hn3 g3 e_118 g5 (fun j hj => by
                      rw [g6 j (by omega), va_up_ne _ _ (by omega)]; exact hc1 j hj) (.int (iZ nx)) rfl
                    rw [chR, if_pos ⟨ht, hkk⟩, ← hnx, ← hu1, ← hu2, if_pos (by omega)]
                    exact w
      exact loop A 0 S_15 (g, s) CA (by omega) (mj_fr.rf _ _) hn hgl h19 h18 (fun _ _ => rfl) (.retAddr 0) rfl
    · omega
end NU
end
section
/-! can a numbering be beaten; the searches' entries -/
def btA (f : Nat → Bool) : Nat → Nat → Bool
  | 0, _ => false
  | r + 1, a => f a || btA f r (a + 1)
def mj_ow (c k : Nat) : Nat := c / 2 ^ mj_sh k % 2 ^ (2 * k)
def btI (A : Nat) (KM B KW : Nat → Nat) (c : Nat) : Nat → Nat → (Nat → Nat) → (Nat → Bool) → Bool
  | 0, _, _, _ => false
  | m + 1, k, ch, tk => btA (fun a => decide (tk a = false ∧ KM a = KW k) && (decide (mj_ow c k < mj_rw B ch a k) || (decide (mj_rw B ch a k = mj_ow c k) && btI A KM B KW c m (k + 1) (va_up ch k a) (va_up tk a true)))) A 0
section BE
variable {Γ : mj_G} {d mo wa A g s : Nat} {S : mj_S} {KM B KW : Nat → Nat} {CA TA : Nat → Int}
theorem m_Nu_canBeBeatenWith {k a c : Nat} {b : Bool} (hw : S.2.1 = 62) (hn : mj_nu S mo wa A g s) (h18 : S.1 18 = .inl (0, 6, .inl (mj_z CA))) (h19 : S.1 19 = .inl (2, 6, .inl (mj_z TA))) (hk : k < 6) (ha : a < 6) (hT : TA a = 0) (hd : 1 ≤ d)
    (H : ∀ S2 : mj_S, mj_fr S S2 [18, 19] → S2.1 18 = .inl (0, 6, .inl (mj_z (va_up CA k a))) → S2.1 19 = .inl (2, 6, .inl (mj_z (va_up TA a 1))) → mj_Met Γ (d - 1) y_Nu_canBeBeaten M_Nu_canBeBeaten [.ref 17, .int (iZ ((k + 1 : Nat) : Int)), .int (iZ c)] S2 0 0 (mj_I fun z S' => mj_fr S2 S' [18, 19] ∧ z = (if b then 1 else 0) ∧ S'.1 19 = .inl (2, 6, .inl (mj_z (va_up TA a 1))) ∧ ∃ CA', S'.1 18 = .inl (0, 6, .inl (mj_z CA')) ∧ ∀ j, j < k + 1 → CA' j = va_up CA k a j)) :
    mj_Met Γ d y_Nu_canBeBeatenWith M_Nu_canBeBeatenWith [.ref 17, .int (iZ k), .int (iZ a), .int (iZ c)] S 0 0 (mj_I fun z S' => mj_fr S S' [18, 19] ∧ z = (if b then 1 else 0) ∧ S'.1 19 = .inl (2, 6, .inl (mj_z TA)) ∧ ∃ CA', S'.1 18 = .inl (0, 6, .inl (mj_z CA')) ∧ ∀ j, j < k → CA' j = CA j) := by
  have hn : S.1 17 = .inr (6, [.ref 18, .ref 19, .ref mo, .ref wa, .int (iZ A), .int (iZ g), .int (iZ s)]) := hn
  refine mj_Met.of (by decide) ⟨rfl, rfl⟩ rfl rfl rfl ?_
  refine mj_aload_n d_Nu_canBeBeatenWith_0 rfl ?_
  refine mj_get (ci := 6) (j := 0) d_Nu_canBeBeatenWith_1 rfl w_Nu_9 (by decide) (by omega) (by assumption) rfl ?_
  refine mj_iload_n d_Nu_canBeBeatenWith_4 rfl ?_
  refine mj_iload_n d_Nu_canBeBeatenWith_5 rfl ?_
  refine mz_iast d_Nu_canBeBeatenWith_6 (by omega) (by assumption) (rfl) (by omega) (fun S_6 w_6 e_6 f_6 => ?_)
  have hn := f_6.at hn (by simp; try omega)
  have h19 := f_6.at h19 (by simp; try omega)
  refine mj_aload_n d_Nu_canBeBeatenWith_7 rfl ?_
  refine mj_get (ci := 6) (j := 1) d_Nu_canBeBeatenWith_8 rfl w_Nu_15 (by decide) (by omega) (by assumption) rfl ?_
  refine mj_iload_n d_Nu_canBeBeatenWith_11 rfl ?_
  refine mz_iconst d_Nu_canBeBeatenWith_12 ?_
  refine mz_zast d_Nu_canBeBeatenWith_13 (by omega) (by assumption) (rfl) (by omega) (by decide) (fun S_13 w_13 e_13 f_13 => ?_)
  have hn := f_13.at hn (by simp; try omega)
  have e_6 := f_13.at e_6 (by simp; try omega)
  have f2 : mj_fr S S_13 [18, 19] := f_6.tr f_13 (by simp) (by simp)
  refine mj_aload_n d_Nu_canBeBeatenWith_14 rfl ?_
  refine mj_iload_n d_Nu_canBeBeatenWith_15 rfl ?_
  refine mz_iconst d_Nu_canBeBeatenWith_16 ?_
  refine mz_iadd d_Nu_canBeBeatenWith_17 ?_
  refine mj_iload_n d_Nu_canBeBeatenWith_18 rfl ?_
  refine mz_callV2i (ci := 6) d_Nu_canBeBeatenWith_19 (H S_13 f2 e_6 e_13) cw_Nu_canBeBeaten lk_Nu_46 rfl rfl (by omega) (by assumption) (by omega) rfl (fun z_19 S_19 h_19 => ?_)
  obtain ⟨g1, rfl, g2, CA2, g3, g4⟩ := h_19
  have hw2 := g1.w
  have hn := g1.at hn (by simp; try omega)
  refine mz_ist4 d_Nu_canBeBeatenWith_22 (rfl) ?_
  refine mj_aload_n d_Nu_canBeBeatenWith_24 rfl ?_
  refine mj_get (ci := 6) (j := 1) d_Nu_canBeBeatenWith_25 rfl w_Nu_15 (by decide) (by omega) (by assumption) rfl ?_
  refine mj_iload_n d_Nu_canBeBeatenWith_28 rfl ?_
  refine mz_iconst d_Nu_canBeBeatenWith_29 ?_
  refine mz_zast d_Nu_canBeBeatenWith_30 (by omega) (by assumption) (rfl) (by omega) (by decide) (fun S_30 w_30 e_30 f_30 => ?_)
  have g3 := f_30.at g3 (by simp; try omega)
  rw [mj_up_undo hT] at e_30
  refine mj_iload d_Nu_canBeBeatenWith_31 rfl ?_
  refine mz_iret d_Nu_canBeBeatenWith_33 rfl (mj_narZ b) ?_
  exact ⟨(f2.tr g1 (l := [18, 19]) (by simp) (by simp)).tr f_30 (by simp) (by simp), rfl, e_30, CA2, g3, fun j hj => by rw [g4 j (by omega), va_up_ne _ _ (by omega)]⟩
theorem m_Nu_canBeBeaten {c : Nat} (hcl : c < 2 ^ 30) : ∀ (m k d : Nat) (S : mj_S) (ch : Nat → Nat) (tk : Nat → Bool) (CA TA : Nat → Int), S.2.1 = 62 → mj_nu S mo wa A g s → mj_nx S mo wa A KM B KW → S.1 18 = .inl (0, 6, .inl (mj_z CA)) → S.1 19 = .inl (2, 6, .inl (mj_z TA)) → (∀ j, j < 6 → TA j = if tk j then 1 else 0) → A ≤ 6 → k + m = A → (∀ j, j < k → CA j = ch j ∧ ch j < 6) → 2 * m + 1 ≤ d →
    mj_Met Γ d y_Nu_canBeBeaten M_Nu_canBeBeaten [.ref 17, .int (iZ k), .int (iZ c)] S 0 0 (mj_I fun z S' => mj_fr S S' [18, 19] ∧ z = (if btI A KM B KW c m k ch tk then 1 else 0) ∧ S'.1 19 = .inl (2, 6, .inl (mj_z TA)) ∧ ∃ CA', S'.1 18 = .inl (0, 6, .inl (mj_z CA')) ∧ ∀ j, j < k → CA' j = CA j) := by
  intro m
  induction m with
  | zero =>
    intro k d S ch tk CA TA hw hn hm h18 h19 hT hA hk hc hd
    have hn0 : S.1 17 = .inr (6, [.ref 18, .ref 19, .ref mo, .ref wa, .int (iZ A), .int (iZ g), .int (iZ s)]) := hn
    refine mj_Met.of (by decide) ⟨rfl, rfl⟩ rfl rfl rfl ?_
    refine mj_iload_n d_Nu_canBeBeaten_0 rfl ?_
    refine mj_aload_n d_Nu_canBeBeaten_1 rfl ?_
    refine mj_get (ci := 6) (j := 4) d_Nu_canBeBeaten_2 rfl w_Nu_32 (by decide) (by omega) (by assumption) rfl ?_
    refine mz_icmp_lt 10 d_Nu_canBeBeaten_5 (by decide) (by omega) (by omega) (fun c_5 => ?_) (fun c_5 => ?_)
    · omega
    · refine mz_iconst d_Nu_canBeBeaten_8 ?_
      refine mz_iret d_Nu_canBeBeaten_9 rfl (rfl) ?_
      exact ⟨mj_fr.rf _ _, rfl, h19, CA, h18, fun _ _ => rfl⟩
  | succ m ih =>
    intro k d S ch tk CA TA hw hn hm h18 h19 hT hA hk hc hd
    have hn0 : S.1 17 = .inr (6, [.ref 18, .ref 19, .ref mo, .ref wa, .int (iZ A), .int (iZ g), .int (iZ s)]) := hn
    have hsh := mj_sh_r k (by omega)
    have h2k : 2 ^ (2 * k) ≤ 2 ^ 10 := Nat.pow_le_pow_right (by decide) (by omega)
    have h2p := Nat.two_pow_pos (2 * k)
    refine mj_Met.of (by decide) ⟨rfl, rfl⟩ rfl rfl rfl ?_
    refine mj_iload_n d_Nu_canBeBeaten_0 rfl ?_
    refine mj_aload_n d_Nu_canBeBeaten_1 rfl ?_
    refine mj_get (ci := 6) (j := 4) d_Nu_canBeBeaten_2 rfl w_Nu_32 (by decide) (by omega) (by assumption) rfl ?_
    refine mz_icmp_lt 10 d_Nu_canBeBeaten_5 (by decide) (by omega) (by omega) (fun c_5 => ?_) (fun c_5 => ?_)
    · refine mj_iload_n d_Nu_canBeBeaten_10 rfl ?_
      refine mj_iload_n d_Nu_canBeBeaten_11 rfl ?_
      refine mz_callSN1i d_Nu_canBeBeaten_12 (m_IL_rowShift (d := 0) (by omega)) cw_IL_rowShift lk_Nu_54 (by omega) rfl (fun z_12 S_12 h_12 => ?_)
      obtain ⟨rfl, rfl⟩ := h_12
      rw [mj_sh_i k (by omega)]
      have hdv : c / 2 ^ mj_sh k ≤ c := Nat.div_le_self _ _
      obtain ⟨cq, hcq⟩ : ∃ cq : Nat, cq = c / 2 ^ mj_sh k := ⟨_, rfl⟩
      rw [← hcq] at hdv
      refine mz_ishr d_Nu_canBeBeaten_15 (rfl) (rfl) (by omega) (by omega) ?_
      rw [← hcq]
      refine mz_iconst d_Nu_canBeBeaten_16 ?_
      refine mz_iconst d_Nu_canBeBeaten_17 ?_
      refine mj_iload_n d_Nu_canBeBeaten_18 rfl ?_
      refine mz_imul d_Nu_canBeBeaten_19 ?_
      refine mz_ishl (x := 1) (s := 2 * k) d_Nu_canBeBeaten_20 (rfl) (by omega) (by omega) (by omega) ?_
      refine mz_iconst d_Nu_canBeBeaten_21 ?_
      refine mz_isub d_Nu_canBeBeaten_22 ?_
      refine mz_iand (q := 2 * k) d_Nu_canBeBeaten_23 (rfl) (by omega) (by omega) (by omega) ?_
      obtain ⟨ow, how⟩ : ∃ ow : Nat, ow = cq % 2 ^ (2 * k) := ⟨_, rfl⟩
      rw [← how]
      have howe : mj_ow c k = ow := by rw [how, hcq]; rfl
      have howl : ow < 1024 := by rw [how]; have := Nat.mod_lt cq h2p; omega
      refine mz_ist3 d_Nu_canBeBeaten_24 (rfl) ?_
      refine mz_iconst d_Nu_canBeBeaten_25 ?_
      refine mz_ist4 d_Nu_canBeBeaten_26 (rfl) ?_
      have loop : ∀ (r a : Nat) (S1 : mj_S) (CA1 : Nat → Int), a + r = A → mj_fr S_12 S1 [18, 19] → S1.1 19 = .inl (2, 6, .inl (mj_z TA)) → S1.1 18 = .inl (0, 6, .inl (mj_z CA1)) → (∀ j, j < k → CA1 j = CA j) → ∀ x5 : Value, x5.category = 1 →
          mj_Ok Γ d M_Nu_canBeBeaten 0 0 28 [.ref 17, .int (iZ k), .int (iZ c), .int (iZ ow), .int (iZ a), x5] [] S1 (mj_I fun z S' => mj_fr S_12 S' [18, 19] ∧ z = (if btA (fun a => decide (tk a = false ∧ KM a = KW k) && (decide (mj_ow c k < mj_rw B ch a k) || (decide (mj_rw B ch a k = mj_ow c k) && btI A KM B KW c m (k + 1) (va_up ch k a) (va_up tk a true)))) r a then 1 else 0) ∧ S'.1 19 = .inl (2, 6, .inl (mj_z TA)) ∧ ∃ CA', S'.1 18 = .inl (0, 6, .inl (mj_z CA')) ∧ ∀ j, j < k → CA' j = CA j) := by
        intro r
        induction r with
        | zero =>
          intro a S1 CA1 ha f1 h191 h181 hc1 x5 hx5
          have hn1 := f1.at hn0 (by simp)
          have hw1 := f1.w
          refine mj_iload d_Nu_canBeBeaten_28 rfl ?_
          refine mj_aload_n d_Nu_canBeBeaten_30 rfl ?_
          refine mj_get (ci := 6) (j := 4) d_Nu_canBeBeaten_31 rfl w_Nu_32 (by decide) (by omega) (by assumption) rfl ?_
          refine mz_icmp_ge 106 d_Nu_canBeBeaten_34 (by decide) (by omega) (by omega) (fun c_34 => ?_) (fun c_34 => ?_)
          · refine mz_iconst d_Nu_canBeBeaten_106 ?_
            refine mz_iret d_Nu_canBeBeaten_107 rfl (rfl) ?_
            exact ⟨f1, rfl, h191, CA1, h181, hc1⟩
          · omega
        | succ r ih2 =>
          intro a S1 CA1 ha f1 h191 h181 hc1 x5 hx5
          have hn1 := f1.at hn0 (by simp)
          have hn2 : mj_nu S1 mo wa A g s := hn1
          have hw1 := f1.w
          have f1' : mj_fr S_12 S1 [17, 18, 19] := f1.tr (mj_fr.rf _ []) (by simp) (by simp)
          have hm1 : mj_nx S1 mo wa A KM B KW := hm.fr f1'
          have hm1' := hm1
          obtain ⟨nn, K, F, Bz, W, ⟨m1, m2, m3, m4, m5⟩, w1, w2, w3, w4, w5, w6, q1, q2, q3⟩ := hm1
          have hTa := hT a (by omega)
          have hKa := q1 a (by omega)
          have hWk := q3 k (by omega)
          refine mj_iload d_Nu_canBeBeaten_28 rfl ?_
          refine mj_aload_n d_Nu_canBeBeaten_30 rfl ?_
          refine mj_get (ci := 6) (j := 4) d_Nu_canBeBeaten_31 rfl w_Nu_32 (by decide) (by omega) (by assumption) rfl ?_
          refine mz_icmp_ge 106 d_Nu_canBeBeaten_34 (by decide) (by omega) (by omega) (fun c_34 => ?_) (fun c_34 => ?_)
          · omega
          · refine mj_aload_n d_Nu_canBeBeaten_37 rfl ?_
            refine mj_get (ci := 6) (j := 1) d_Nu_canBeBeaten_38 rfl w_Nu_15 (by decide) (by omega) (by assumption) rfl ?_
            refine mj_iload d_Nu_canBeBeaten_41 rfl ?_
            refine mz_zald d_Nu_canBeBeaten_43 (by omega) (by assumption) (rfl) (by omega) ?_
            rw [hTa]
            cases ht : tk a with
            | true =>
              refine mz_if_ne 100 d_Nu_canBeBeaten_44 (by decide) (by omega) (fun c_44 => ?_) (fun c_44 => ?_)
              · refine mz_inc4 d_Nu_canBeBeaten_100 (by unfold mj_c1; simp only [List.all_cons, hx5]; rfl) ?_
                refine mj_goto 28 d_Nu_canBeBeaten_103 (by decide) ?_
                have w := ih2 (a + 1) S1 CA1 (by omega) f1 h191 h181 hc1 x5 hx5
                rw [btA, show decide (tk a = false ∧ KM a = KW k) = false by rw [ht]; simp, Bool.false_and, Bool.false_or]
                exact w
              · simp at c_44
            | false =>
              refine mz_if_ne 100 d_Nu_canBeBeaten_44 (by decide) (by omega) (fun c_44 => ?_) (fun c_44 => ?_)
              · simp at c_44
              · refine mj_aload_n d_Nu_canBeBeaten_47 rfl ?_
                refine mj_get (ci := 6) (j := 2) d_Nu_canBeBeaten_48 rfl w_Nu_19 (by decide) (by omega) (by assumption) rfl ?_
                refine mj_get (ci := 4) (j := 0) d_Nu_canBeBeaten_51 rfl w_Nu_43 (by decide) (by omega) (by assumption) rfl ?_
                refine mj_iload d_Nu_canBeBeaten_54 rfl ?_
                refine mz_iald d_Nu_canBeBeaten_56 (by omega) (by assumption) (rfl) (by omega) ?_
                rw [hKa.1]
                refine mj_aload_n d_Nu_canBeBeaten_57 rfl ?_
                refine mj_get (ci := 6) (j := 3) d_Nu_canBeBeaten_58 rfl w_Nu_23 (by decide) (by omega) (by assumption) rfl ?_
                refine mj_iload_n d_Nu_canBeBeaten_61 rfl ?_
                refine mz_iald d_Nu_canBeBeaten_62 (by omega) (by assumption) (rfl) (by omega) ?_
                rw [hWk.1]
                refine mz_icmp_ne 100 d_Nu_canBeBeaten_63 (by decide) (by omega) (by omega) (fun c_63 => ?_) (fun c_63 => ?_)
                · refine mz_inc4 d_Nu_canBeBeaten_100 (by unfold mj_c1; simp only [List.all_cons, hx5]; rfl) ?_
                  refine mj_goto 28 d_Nu_canBeBeaten_103 (by decide) ?_
                  have w := ih2 (a + 1) S1 CA1 (by omega) f1 h191 h181 hc1 x5 hx5
                  rw [btA, show decide (tk a = false ∧ KM a = KW k) = false from decide_eq_false (fun z => c_63 (by rw [z.2])), Bool.false_and, Bool.false_or]
                  exact w
                · have hkk : KM a = KW k := by omega
                  have hdt : decide (tk a = false ∧ KM a = KW k) = true := decide_eq_true ⟨ht, hkk⟩
                  have hrl := mj_rw_lt (ch := ch) (a := a) (by omega) (fun j hj => (q2 j hj).2) k (fun j hj => (hc j hj).2)
                  have hr4 : 4 ^ k ≤ 4 ^ 5 := Nat.pow_le_pow_right (by decide) (by omega)
                  refine mj_aload_n d_Nu_canBeBeaten_66 rfl ?_
                  refine mj_iload_n d_Nu_canBeBeaten_67 rfl ?_
                  refine mj_iload d_Nu_canBeBeaten_68 rfl ?_
                  refine mz_callV2i (ci := 6) d_Nu_canBeBeaten_70 (m_Nu_row (d := 0) (ch := ch) (by omega) hn2 hm1' h181 (by omega) (by omega) (fun j hj => ⟨(hc1 j hj).trans (hc j hj).1, (hc j hj).2⟩)) cw_Nu_row lk_Nu_58 rfl rfl (by omega) (by assumption) (by omega) rfl (fun z_70 S_70 h_70 => ?_)
                  obtain ⟨rfl, rfl⟩ := h_70
                  refine mz_ist5 d_Nu_canBeBeaten_73 (by unfold mj_c1; simp only [List.all_cons, hx5]; rfl) ?_
                  refine mj_iload d_Nu_canBeBeaten_75 rfl ?_
                  refine mj_iload_n d_Nu_canBeBeaten_77 rfl ?_
                  refine mz_icmp_gt 98 d_Nu_canBeBeaten_78 (by decide) (by omega) (by omega) (fun c_78 => ?_) (fun c_78 => ?_)
                  · refine mz_iconst d_Nu_canBeBeaten_98 ?_
                    refine mz_iret d_Nu_canBeBeaten_99 rfl (rfl) ?_
                    rw [btA, hdt, decide_eq_true (show mj_ow c k < mj_rw B ch a k by omega)]
                    exact ⟨f1, rfl, h191, CA1, h181, hc1⟩
                  · have hlt : decide (mj_ow c k < mj_rw B ch a k) = false := decide_eq_false (by omega)
                    refine mj_iload d_Nu_canBeBeaten_81 rfl ?_
                    refine mj_iload_n d_Nu_canBeBeaten_83 rfl ?_
                    refine mz_icmp_ne 100 d_Nu_canBeBeaten_84 (by decide) (by omega) (by omega) (fun c_84 => ?_) (fun c_84 => ?_)
                    · refine mz_inc4 d_Nu_canBeBeaten_100 (rfl) ?_
                      refine mj_goto 28 d_Nu_canBeBeaten_103 (by decide) ?_
                      have w := ih2 (a + 1) S_70 CA1 (by omega) f1 h191 h181 hc1 (.int (iZ (mj_rw B ch a k : Nat))) rfl
                      rw [btA, hdt, hlt, decide_eq_false (show ¬ mj_rw B ch a k = mj_ow c k by omega), Bool.false_and, Bool.or_false, Bool.and_false, Bool.false_or]
                      exact w
                    · have heq : decide (mj_rw B ch a k = mj_ow c k) = true := decide_eq_true (by omega)
                      have hTn : ∀ j, j < 6 → va_up TA a 1 j = if va_up tk a true j then 1 else 0 := fun j hj => by
                        by_cases e : j = a
                        · subst e; rw [va_up_self, va_up_self]; rfl
                        · rw [va_up_ne _ _ e, va_up_ne _ _ e]; exact hT j hj
                      have hcn : ∀ j, j < k + 1 → va_up CA1 k (a : Int) j = (va_up ch k a j : Nat) ∧ va_up ch k a j < 6 := fun j hj => by
                        by_cases e : j = k
                        · subst e; rw [va_up_self, va_up_self]; exact ⟨rfl, by omega⟩
                        · rw [va_up_ne _ _ e, va_up_ne _ _ e]; exact ⟨(hc1 j (by omega)).trans (hc j (by omega)).1, (hc j (by omega)).2⟩
                      refine mj_aload_n d_Nu_canBeBeaten_87 rfl ?_
                      refine mj_iload_n d_Nu_canBeBeaten_88 rfl ?_
                      refine mj_iload d_Nu_canBeBeaten_89 rfl ?_
                      refine mj_iload_n d_Nu_canBeBeaten_91 rfl ?_
                      refine mz_callV3i (ci := 6) d_Nu_canBeBeaten_92 (m_Nu_canBeBeatenWith (d := d - 1) (b := btI A KM B KW c m (k + 1) (va_up ch k a) (va_up tk a true)) (by omega) hn2 h181 h191 (by omega) (by omega) (by rw [hTa, ht]; rfl) (by omega) (fun S2 g1 g2 g3 => ih (k + 1) (d - 1 - 1) S2 (va_up ch k a) (va_up tk a true) (va_up CA1 k a) (va_up TA a 1) (by have := g1.w; omega) (g1.at hn1 (by simp)) (hm1'.fr (g1.tr (mj_fr.rf _ []) (by simp) (by simp))) g2 g3 hTn hA (by omega) hcn (by omega))) cw_Nu_canBeBeatenWith lk_Nu_62 rfl rfl (by omega) (by assumption) (by omega) rfl (fun z_92 S_92 h_92 => ?_)
                      obtain ⟨g1, rfl, g3, CA2, g4, g5⟩ := h_92
                      cases hbt : btI A KM B KW c m (k + 1) (va_up ch k a) (va_up tk a true) with
                      | true =>
                        refine mz_if_eq 100 d_Nu_canBeBeaten_95 (by decide) (by omega) (fun c_95 => ?_) (fun c_95 => ?_)
                        · simp at c_95
                        · refine mz_iconst d_Nu_canBeBeaten_98 ?_
                          refine mz_iret d_Nu_canBeBeaten_99 rfl (rfl) ?_
                          rw [btA, hdt, heq, hbt]
                          refine ⟨f1.tr g1 (by simp) (by simp), ?_, g3, CA2, g4, fun j hj => (g5 j hj).trans (hc1 j hj)⟩
                          simp
                      | false =>
                        refine mz_if_eq 100 d_Nu_canBeBeaten_95 (by decide) (by omega) (fun c_95 => ?_) (fun c_95 => ?_)
                        · refine mz_inc4 d_Nu_canBeBeaten_100 (rfl) ?_
                          refine mj_goto 28 d_Nu_canBeBeaten_103 (by decide) ?_
                          have w := ih2 (a + 1) S_92 CA2 (by omega) (f1.tr g1 (by simp) (by simp)) g3 g4 (fun j hj => (g5 j hj).trans (hc1 j hj)) (.int (iZ (mj_rw B ch a k : Nat))) rfl
                          rw [btA, hdt, hlt, heq, hbt]
                          exact w
                        · simp at c_95
      have w := loop A 0 S_12 CA (by omega) (mj_fr.rf _ _) h19 h18 (fun _ _ => rfl) (.retAddr 0) rfl
      exact w
    · omega
/-- is this the greatest code of the first n atoms -/
theorem m_Nu_isGreatest {o n na c mo0 wa0 A0 : Nat} {K F Bz : Nat → Int} {KM : Nat → Nat} (hw : S.2.1 = 62) (hn : mj_nu S mo0 wa0 A0 g s) (hml : mj_ml S o na K F Bz) (ho : o + 3 < 17 ∨ 19 < o) (h18 : S.1 18 = .inl (0, 6, .inl (mj_z CA))) (h19 : S.1 19 = .inl (2, 6, .inl (mj_z TA))) (hT : ∀ j, j < 6 → TA j = 0)
    (hK : ∀ j, j < n → K j = KM j ∧ KM j < 1000) (hB : ∀ j, j < 36 → Bz j = B j ∧ B j < 4) (hn6 : n ≤ 6) (hc : c < 2 ^ 30) (hd : 14 ≤ d) :
    mj_Met Γ d y_Nu_isGreatest M_Nu_isGreatest [.ref 17, .ref o, .int (iZ n), .int (iZ c)] S 0 0 (mj_I fun z S' => mj_fr S S' [17, 18, 19] ∧ z = (if btI n KM B KM c n 0 (fun _ => 0) (fun _ => false) then 0 else 1) ∧ mj_nu S' o (o + 1) n g s ∧ S'.1 19 = .inl (2, 6, .inl (mj_z TA)) ∧ ∃ CA', S'.1 18 = .inl (0, 6, .inl (mj_z CA'))) := by
  have hn0 : S.1 17 = .inr (6, [.ref 18, .ref 19, .ref mo0, .ref wa0, .int (iZ A0), .int (iZ g), .int (iZ s)]) := hn
  have m1 := hml.1
  have m5 := hml.2.2.2.2
  refine mj_Met.of (by decide) ⟨rfl, rfl⟩ rfl rfl rfl ?_
  refine mj_aload_n d_Nu_isGreatest_0 rfl ?_
  refine mj_aload_n d_Nu_isGreatest_1 rfl ?_
  refine mz_put (ci := 6) (j := 2) d_Nu_isGreatest_2 rfl w_Nu_19 (by decide) rfl (by omega) (by assumption) (Nat.le_of_ble_eq_true rfl) (⟨rfl, rfl⟩) rfl (fun S_2 w_2 e_2 f_2 => ?_)
  have m1 := f_2.at m1 (by simp; try omega)
  refine mj_aload_n d_Nu_isGreatest_5 rfl ?_
  refine mj_aload_n d_Nu_isGreatest_6 rfl ?_
  refine mj_get (ci := 4) (j := 0) d_Nu_isGreatest_7 rfl w_Nu_43 (by decide) (by omega) (by assumption) rfl ?_
  refine mz_put (ci := 6) (j := 3) d_Nu_isGreatest_10 rfl w_Nu_23 (by decide) rfl (by omega) (by assumption) (Nat.le_of_ble_eq_true rfl) (⟨rfl, rfl⟩) rfl (fun S_10 w_10 e_10 f_10 => ?_)
  have m1 := f_10.at m1 (by simp; try omega)
  refine mj_aload_n d_Nu_isGreatest_13 rfl ?_
  refine mj_iload_n d_Nu_isGreatest_14 rfl ?_
  refine mz_put (ci := 6) (j := 4) d_Nu_isGreatest_15 rfl w_Nu_32 (by decide) rfl (by omega) (by assumption) (Nat.le_of_ble_eq_true rfl) (mj_fit_int _) rfl (fun S_15 w_15 e_15 f_15 => ?_)
  have f2 : mj_fr S S_15 [17] := (f_2.tr f_10 (l := [17]) (by simp) (by simp)).tr f_15 (by simp) (by simp)
  have h18 := f2.at h18 (by simp; try omega)
  have h19 := f2.at h19 (by simp; try omega)
  have hml2 : mj_ml S_15 o na K F Bz := hml.fr f2 (by simp; omega)
  have hx : mj_nx S_15 o (o + 1) n KM B KM := ⟨na, K, F, Bz, K, hml2, hml2.2.1, by omega, by omega, by omega, by omega, ho, hK, hB, hK⟩
  refine mj_aload_n d_Nu_isGreatest_18 rfl ?_
  refine mz_iconst d_Nu_isGreatest_19 ?_
  refine mj_iload_n d_Nu_isGreatest_20 rfl ?_
  refine mz_callV2i (ci := 6) d_Nu_isGreatest_21 (m_Nu_canBeBeaten hc n 0 13 S_15 (fun _ => 0) (fun _ => false) CA TA (by omega) e_15 hx h18 h19 hT hn6 (by omega) (fun j hj => absurd hj (Nat.not_lt_zero j)) (by omega)) cw_Nu_canBeBeaten lk_Nu_46 rfl rfl (by omega) (by assumption) (by omega) rfl (fun z_21 S_21 h_21 => ?_)
  obtain ⟨g1, rfl, g2, CA2, g3, g4⟩ := h_21
  have e := g1.at e_15 (by simp)
  have f3 : mj_fr S S_21 [17, 18, 19] := f2.tr g1 (by simp) (by simp)
  cases hb : btI n KM B KM c n 0 (fun _ => 0) (fun _ => false) with
  | true =>
    refine mz_if_ne 31 d_Nu_isGreatest_24 (by decide) (by omega) (fun c_24 => ?_) (fun c_24 => ?_)
    · refine mz_iconst d_Nu_isGreatest_31 ?_
      refine mz_iret d_Nu_isGreatest_32 rfl (rfl) ?_
      exact ⟨f3, rfl, e, g2, CA2, g3⟩
    · simp at c_24
  | false =>
    refine mz_if_ne 31 d_Nu_isGreatest_24 (by decide) (by omega) (fun c_24 => ?_) (fun c_24 => ?_)
    · simp at c_24
    · refine mz_iconst d_Nu_isGreatest_27 ?_
      refine mj_goto 32 d_Nu_isGreatest_28 (by decide) ?_
      refine mz_iret d_Nu_isGreatest_32 rfl (rfl) ?_
      exact ⟨f3, rfl, e, g2, CA2, g3⟩
theorem m_Nu_search {o na wb g1 mo0 wa0 A0 : Nat} {K F Bz W : Nat → Int} (hw : S.2.1 = 62) (hn : mj_nu S mo0 wa0 A0 g s) (hml : mj_ml S o na K F Bz) (ho : o + 3 < 17 ∨ 19 < o) (hwb : S.1 wb = .inl (0, 6, .inl (mj_z W))) (hwb2 : wb < 62 ∧ wb ≠ 17 ∧ wb ≠ 18 ∧ wb ≠ 19) (h18 : S.1 18 = .inl (0, 6, .inl (mj_z CA))) (h19 : S.1 19 = .inl (2, 6, .inl (mj_z TA))) (hT : ∀ j, j < 6 → TA j = 0)
    (hK : ∀ j, j < na → K j = KM j ∧ KM j < 1000) (hB : ∀ j, j < 36 → Bz j = B j ∧ B j < 4) (hW : ∀ j, j < na → W j = KW j ∧ KW j < 1000) (hn6 : na ≤ 6) (hg : g1 < 2 ^ 30) (hd : 8 ≤ d) :
    mj_Met Γ d y_Nu_search M_Nu_search [.ref 17, .ref o, .ref wb, .int (iZ g1)] S 0 0 (mj_V fun S' => mj_fr S S' [17, 18, 19] ∧ mj_nu S' o wb na (chI na KM B KW na 0 0 (fun _ => 0) (fun _ => false) (g1, 0)).1 (chI na KM B KW na 0 0 (fun _ => 0) (fun _ => false) (g1, 0)).2 ∧ (chI na KM B KW na 0 0 (fun _ => 0) (fun _ => false) (g1, 0)).1 < 2 ^ 30 ∧ S'.1 19 = .inl (2, 6, .inl (mj_z TA)) ∧ ∃ CA', S'.1 18 = .inl (0, 6, .inl (mj_z CA'))) := by
  have hn0 : S.1 17 = .inr (6, [.ref 18, .ref 19, .ref mo0, .ref wa0, .int (iZ A0), .int (iZ g), .int (iZ s)]) := hn
  have m1 := hml.1
  have m5 := hml.2.2.2.2
  refine mj_Met.of (by decide) ⟨rfl, rfl⟩ rfl rfl rfl ?_
  refine mj_aload_n d_Nu_search_0 rfl ?_
  refine mj_aload_n d_Nu_search_1 rfl ?_
  refine mz_put (ci := 6) (j := 2) d_Nu_search_2 rfl w_Nu_19 (by decide) rfl (by omega) (by assumption) (Nat.le_of_ble_eq_true rfl) (⟨rfl, rfl⟩) rfl (fun S_2 w_2 e_2 f_2 => ?_)
  have m1 := f_2.at m1 (by simp; try omega)
  refine mj_aload_n d_Nu_search_5 rfl ?_
  refine mj_aload_n d_Nu_search_6 rfl ?_
  refine mz_put (ci := 6) (j := 3) d_Nu_search_7 rfl w_Nu_23 (by decide) rfl (by omega) (by assumption) (Nat.le_of_ble_eq_true rfl) (⟨rfl, rfl⟩) rfl (fun S_7 w_7 e_7 f_7 => ?_)
  have m1 := f_7.at m1 (by simp; try omega)
  refine mj_aload_n d_Nu_search_10 rfl ?_
  refine mj_aload_n d_Nu_search_11 rfl ?_
  refine mj_get (ci := 4) (j := 3) d_Nu_search_12 rfl w_Nu_26 (by decide) (by omega) (by assumption) rfl ?_
  refine mz_put (ci := 6) (j := 4) d_Nu_search_15 rfl w_Nu_32 (by decide) rfl (by omega) (by assumption) (Nat.le_of_ble_eq_true rfl) (mj_fit_int _) rfl (fun S_15 w_15 e_15 f_15 => ?_)
  refine mj_aload_n d_Nu_search_18 rfl ?_
  refine mj_iload_n d_Nu_search_19 rfl ?_
  refine mz_put (ci := 6) (j := 5) d_Nu_search_20 rfl w_Nu_33 (by decide) rfl (by omega) (by assumption) (Nat.le_of_ble_eq_true rfl) (mj_fit_int _) rfl (fun S_20 w_20 e_20 f_20 => ?_)
  refine mj_aload_n d_Nu_search_23 rfl ?_
  refine mz_iconst d_Nu_search_24 ?_
  refine mz_put (ci := 6) (j := 6) d_Nu_search_25 rfl w_Nu_36 (by decide) rfl (by omega) (by assumption) (Nat.le_of_ble_eq_true rfl) (mj_fit_int _) rfl (fun S_25 w_25 e_25 f_25 => ?_)
  have f2 : mj_fr S S_25 [17] := (((f_2.tr f_7 (l := [17]) (by simp) (by simp)).tr f_15 (l := [17]) (by simp) (by simp)).tr f_20 (l := [17]) (by simp) (by simp)).tr f_25 (by simp) (by simp)
  have h18 := f2.at h18 (by simp; try omega)
  have h19 := f2.at h19 (by simp; try omega)
  have hwb := f2.at hwb (by simp; try omega)
  have hml2 : mj_ml S_25 o na K F Bz := hml.fr f2 (by simp; omega)
  have hx : mj_nx S_25 o wb na KM B KW := ⟨na, K, F, Bz, W, hml2, hwb, by omega, by omega, by omega, by omega, ho, hK, hB, hW⟩
  refine mj_aload_n d_Nu_search_28 rfl ?_
  refine mz_iconst d_Nu_search_29 ?_
  refine mz_iconst d_Nu_search_30 ?_
  refine mz_callV2v (ci := 6) d_Nu_search_31 (m_Nu_choose na 0 0 g1 0 7 S_25 (fun _ => 0) (fun _ => false) CA TA (by omega) e_25 hx h18 h19 hT hn6 (by omega) (fun j hj => absurd hj (Nat.not_lt_zero j)) (by decide) hg (by omega)) cw_Nu_choose lk_Nu_39 rfl rfl (by omega) (by assumption) (by omega) rfl (fun S_31 h_31 => ?_)
  obtain ⟨q1, q2, q3, q4, CA2, q5, q6⟩ := h_31
  refine mz_vret d_Nu_search_34 rfl ?_
  exact ⟨f2.tr q1 (by simp) (by simp), q2, q3, q4, CA2, q5⟩
end BE
end
section
/-! the lister (20: numbering 17, molecule 21, valencesFrom 25, groups 26): sums of valences, groups -/
def mj_ls (S : mj_S) (ca : Nat) (V : Nat → Int) : Prop := S.1 20 = .inr (7, [.ref 17, .ref 21, .ref 25, .ref 26, .ref ca]) ∧ S.1 25 = .inl (0, 7, .inl (mj_z V))
/-- the sum of F from a on, m places -/
def mj_vs (F : Nat → Int) : Nat → Nat → Int
  | 0, _ => 0
  | m + 1, a => mj_vs F m (a + 1) + F a
section LS
variable {Γ : mj_G} {d n ca : Nat} {S : mj_S} {K F B V : Nat → Int}
theorem m_Ls_sumValences (hw : S.2.1 = 62) (hl : mj_ls S ca V) (hm : mj_ml S 21 n K F B) (hn : n ≤ 6) : mj_Met Γ d y_Ls_sumValences M_Ls_sumValences [.ref 20] S 0 0 (mj_V fun S' => mj_fr S S' [25] ∧ ∃ V', mj_ls S' ca V' ∧ ∀ a, a ≤ n → V' a = mj_vs F (n - a) a) := by
  obtain ⟨l1, l2⟩ := hl
  obtain ⟨m1, m2, m3, m4, m5⟩ := hm
  refine mj_Met.of (by decide) ⟨rfl, rfl⟩ rfl rfl rfl ?_
  refine mj_aload_n d_Ls_sumValences_0 rfl ?_
  refine mj_get (ci := 7) (j := 2) d_Ls_sumValences_1 rfl w_Ls_18 (by decide) (by omega) (by assumption) rfl ?_
  refine mj_aload_n d_Ls_sumValences_4 rfl ?_
  refine mj_get (ci := 7) (j := 1) d_Ls_sumValences_5 rfl w_Ls_12 (by decide) (by omega) (by assumption) rfl ?_
  refine mj_get (ci := 4) (j := 3) d_Ls_sumValences_8 rfl w_Ls_50 (by decide) (by omega) (by assumption) rfl ?_
  refine mz_iconst d_Ls_sumValences_11 ?_
  refine mz_iast d_Ls_sumValences_12 (by omega) (by assumption) (rfl) (by omega) (fun S_12 w_12 e_12 f_12 => ?_)
  have l1 := f_12.at l1 (by simp; try omega)
  have m1 := f_12.at m1 (by simp; try omega)
  have m3 := f_12.at m3 (by simp; try omega)
  refine mj_aload_n d_Ls_sumValences_13 rfl ?_
  refine mj_get (ci := 7) (j := 1) d_Ls_sumValences_14 rfl w_Ls_12 (by decide) (by omega) (by assumption) rfl ?_
  refine mj_get (ci := 4) (j := 3) d_Ls_sumValences_17 rfl w_Ls_50 (by decide) (by omega) (by assumption) rfl ?_
  refine mz_iconst d_Ls_sumValences_20 ?_
  refine mz_isub d_Ls_sumValences_21 ?_
  refine mz_ist1 d_Ls_sumValences_22 (rfl) ?_
  have loop : ∀ (a : Nat) (S1 : mj_S) (V1 : Nat → Int), a ≤ n → mj_fr S S1 [25] → S1.1 25 = .inl (0, 7, .inl (mj_z V1)) → (∀ j, a ≤ j → j ≤ n → V1 j = mj_vs F (n - j) j) → mj_Ok Γ d M_Ls_sumValences 0 0 23 [.ref 20, .int (iZ ((a : Int) - 1))] [] S1 (mj_V fun S' => mj_fr S S' [25] ∧ ∃ V', mj_ls S' ca V' ∧ ∀ a, a ≤ n → V' a = mj_vs F (n - a) a) := by
    intro a
    induction a with
    | zero =>
      intro S1 V1 ha f1 h1 hV
      have hw1 := f1.w
      refine mj_iload_n d_Ls_sumValences_23 rfl ?_
      refine mz_if_lt 57 d_Ls_sumValences_24 (by decide) (by omega) (fun c_24 => ?_) (fun c_24 => ?_)
      · refine mz_vret d_Ls_sumValences_57 rfl ?_
        exact ⟨f1, V1, ⟨((f1.2 20 (by simp)).trans ((f_12.2 20 (by simp)).symm.trans l1)), h1⟩, fun a ha => hV a (by omega) ha⟩
      · omega
    | succ a ih =>
      intro S1 V1 ha f1 h1 hV
      have hw1 := f1.w
      have l1' : S1.1 20 = _ := (f1.2 20 (by simp)).trans ((f_12.2 20 (by simp)).symm.trans l1)
      have m1' : S1.1 21 = _ := (f1.2 21 (by simp)).trans ((f_12.2 21 (by simp)).symm.trans m1)
      have m3' : S1.1 (21 + 2) = _ := (f1.2 23 (by simp)).trans ((f_12.2 23 (by simp)).symm.trans m3)
      refine mj_iload_n d_Ls_sumValences_23 rfl ?_
      refine mz_if_lt 57 d_Ls_sumValences_24 (by decide) (by omega) (fun c_24 => ?_) (fun c_24 => ?_)
      · omega
      · refine mj_aload_n d_Ls_sumValences_27 rfl ?_
        refine mj_get (ci := 7) (j := 2) d_Ls_sumValences_28 rfl w_Ls_18 (by decide) (by omega) (by assumption) rfl ?_
        refine mj_iload_n d_Ls_sumValences_31 rfl ?_
        refine mj_aload_n d_Ls_sumValences_32 rfl ?_
        refine mj_get (ci := 7) (j := 2) d_Ls_sumValences_33 rfl w_Ls_18 (by decide) (by omega) (by assumption) rfl ?_
        refine mj_iload_n d_Ls_sumValences_36 rfl ?_
        refine mz_iconst d_Ls_sumValences_37 ?_
        refine mz_iadd d_Ls_sumValences_38 ?_
        refine mz_iald (j := a + 1) d_Ls_sumValences_39 (by omega) (by assumption) (by omega) (by omega) ?_
        refine mj_aload_n d_Ls_sumValences_40 rfl ?_
        refine mj_get (ci := 7) (j := 1) d_Ls_sumValences_41 rfl w_Ls_12 (by decide) (by omega) (by assumption) rfl ?_
        refine mj_get (ci := 4) (j := 1) d_Ls_sumValences_44 rfl w_Ls_53 (by decide) (by omega) (by assumption) rfl ?_
        refine mj_iload_n d_Ls_sumValences_47 rfl ?_
        refine mz_iald (j := a) d_Ls_sumValences_48 (by omega) (by assumption) (by omega) (by omega) ?_
        refine mz_iadd d_Ls_sumValences_49 ?_
        refine mz_iast (j := a) d_Ls_sumValences_50 (by omega) (by assumption) (by omega) (by omega) (fun S_50 w_50 e_50 f_50 => ?_)
        refine mz_inc1 d_Ls_sumValences_51 (rfl) ?_
        refine mj_goto 23 d_Ls_sumValences_54 (by decide) ?_
        have w := ih S_50 _ (by omega) (f1.tr f_50 (by simp) (by simp)) e_50 (fun j hj hj2 => by
          by_cases e : j = a
          · subst e
            rw [va_up_self, hV (j + 1) (by omega) (by omega), show n - j = n - (j + 1) + 1 by omega, mj_vs]
          · rw [va_up_ne _ _ e]
            exact hV j (by omega) hj2)
        rw [show ((a + 1 : Nat) : Int) - 1 + -1 = (a : Int) - 1 by omega]
        exact w
  exact loop n S_12 _ (by omega) (f_12.tr (mj_fr.rf _ []) (by simp) (by simp)) e_12 (fun j h1 h2 => by
    rw [show j = n by omega, va_up_self, Nat.sub_self]; rfl)
theorem m_Ls_joinGroups {fr to l : Nat} {GA : Nat → Int} {G : Nat → Nat} (hw : S.2.1 = 62) (hl : mj_ls S ca V) (hg : S.1 26 = .inl (0, 6, .inl (mj_z GA))) (hl6 : l < 6) (hG : ∀ j, j ≤ l → GA j = G j ∧ G j < 1000) (hfr : fr < 1000) :
    mj_Met Γ d y_Ls_joinGroups M_Ls_joinGroups [.ref 20, .int (iZ fr), .int (iZ to), .int (iZ l)] S 0 0 (mj_V fun S' => mj_fr S S' [26] ∧ ∃ GA', S'.1 26 = .inl (0, 6, .inl (mj_z GA')) ∧ ∀ j, j ≤ l → GA' j = ((if G j = fr then to else G j : Nat) : Int)) := by
  obtain ⟨l1, l2⟩ := hl
  refine mj_Met.of (by decide) ⟨rfl, rfl⟩ rfl rfl rfl ?_
  refine mz_iconst d_Ls_joinGroups_0 ?_
  refine mz_ist4 d_Ls_joinGroups_1 (rfl) ?_
  have loop : ∀ (q i : Nat) (S1 : mj_S) (G1 : Nat → Int), i + q = l + 1 → mj_fr S S1 [26] → S1.1 26 = .inl (0, 6, .inl (mj_z G1)) → (∀ j, j < i → G1 j = ((if G j = fr then to else G j : Nat) : Int)) → (∀ j, i ≤ j → j ≤ l → G1 j = G j) → mj_Ok Γ d M_Ls_joinGroups 0 0 3 [.ref 20, .int (iZ fr), .int (iZ to), .int (iZ l), .int (iZ i)] [] S1
      (mj_V fun S' => mj_fr S S' [26] ∧ ∃ GA', S'.1 26 = .inl (0, 6, .inl (mj_z GA')) ∧ ∀ j, j ≤ l → GA' j = ((if G j = fr then to else G j : Nat) : Int)) := by
    intro q
    induction q with
    | zero =>
      intro i S1 G1 hi f1 h1 ha hb
      refine mj_iload d_Ls_joinGroups_3 rfl ?_
      refine mj_iload_n d_Ls_joinGroups_5 rfl ?_
      refine mz_icmp_gt 34 d_Ls_joinGroups_6 (by decide) (by omega) (by omega) (fun c_6 => ?_) (fun c_6 => ?_)
      · refine mz_vret d_Ls_joinGroups_34 rfl ?_
        exact ⟨f1, G1, h1, fun j hj => ha j (by omega)⟩
      · omega
    | succ q ih =>
      intro i S1 G1 hi f1 h1 ha hb
      have hw1 := f1.w
      have l1' := f1.at l1 (by simp)
      have hgi := hG i (by omega)
      have hbi := hb i (Nat.le_refl _) (by omega)
      refine mj_iload d_Ls_joinGroups_3 rfl ?_
      refine mj_iload_n d_Ls_joinGroups_5 rfl ?_
      refine mz_icmp_gt 34 d_Ls_joinGroups_6 (by decide) (by omega) (by omega) (fun c_6 => ?_) (fun c_6 => ?_)
      · omega
      · refine mj_aload_n d_Ls_joinGroups_9 rfl ?_
        refine mj_get (ci := 7) (j := 3) d_Ls_joinGroups_10 rfl w_Ls_22 (by decide) (by omega) (by assumption) rfl ?_
        refine mj_iload d_Ls_joinGroups_13 rfl ?_
        refine mz_iald d_Ls_joinGroups_15 (by omega) (by assumption) (rfl) (by omega) ?_
        rw [hbi]
        refine mj_iload_n d_Ls_joinGroups_16 rfl ?_
        refine mz_icmp_ne 28 d_Ls_joinGroups_17 (by decide) (by omega) (by omega) (fun c_17 => ?_) (fun c_17 => ?_)
        · refine mz_inc4 d_Ls_joinGroups_28 (rfl) ?_
          refine mj_goto 3 d_Ls_joinGroups_31 (by decide) ?_
          refine ih (i + 1) S1 G1 (by omega) f1 h1 (fun j hj => ?_) (fun j hj => hb j (by omega))
          by_cases e : j = i
          · subst e; rw [hbi, if_neg (by omega)]
          · exact ha j (by omega)
        · refine mj_aload_n d_Ls_joinGroups_20 rfl ?_
          refine mj_get (ci := 7) (j := 3) d_Ls_joinGroups_21 rfl w_Ls_22 (by decide) (by omega) (by assumption) rfl ?_
          refine mj_iload d_Ls_joinGroups_24 rfl ?_
          refine mj_iload_n d_Ls_joinGroups_26 rfl ?_
          refine mz_iast d_Ls_joinGroups_27 (by omega) (by assumption) (rfl) (by omega) (fun S_27 w_27 e_27 f_27 => ?_)
          refine mz_inc4 d_Ls_joinGroups_28 (rfl) ?_
          refine mj_goto 3 d_Ls_joinGroups_31 (by decide) ?_
          refine ih (i + 1) S_27 _ (by omega) (f1.tr f_27 (by simp) (by simp)) e_27 (fun j hj => ?_) (fun j hj hj2 => ?_)
          · by_cases e : j = i
            · subst e; rw [va_up_self, if_pos (by omega)]
            · rw [va_up_ne _ _ e]; exact ha j (by omega)
          · rw [va_up_ne _ _ (by omega)]; exact hb j (by omega) hj2
  exact loop (l + 1) 0 S GA (by omega) (mj_fr.rf _ _) hg (fun j h => absurd h (Nat.not_lt_zero j)) (fun j _ h => (hG j h).1)
/-- groups joined by the bonds of atom a with those below it -/
def cgI (B : Nat → Nat) (a : Nat) (p : Int × (Nat → Nat)) : Int × (Nat → Nat) :=
  chR (fun b p => if 0 < B (a * 6 + b) ∧ p.2 b ≠ p.2 a then (p.1 - 1, fun j => if p.2 j = p.2 b then p.2 a else p.2 j) else p) a 0 p
def cgN (B : Nat → Nat) (n : Nat) : Int × (Nat → Nat) := chR (fun a p => cgI B a (p.1 + 1, va_up p.2 a a)) n 0 (0, fun _ => 0)
theorem m_Ls_countGroups {m : Nat} {GA : Nat → Int} {BN : Nat → Nat} (hw : S.2.1 = 62) (hl : mj_ls S ca V) (hm : mj_ml S 21 n K F B) (hB : ∀ j, j < 36 → B j = BN j ∧ BN j < 4) (hg : S.1 26 = .inl (0, 6, .inl (mj_z GA))) (hm6 : m ≤ 6) (hd : 1 ≤ d) :
    mj_Met Γ d y_Ls_countGroups M_Ls_countGroups [.ref 20, .int (iZ m)] S 0 0 (mj_I fun z S' => mj_fr S S' [26] ∧ z = (cgN BN m).1 ∧ ∃ GA', S'.1 26 = .inl (0, 6, .inl (mj_z GA'))) := by
  have hl0 := hl
  obtain ⟨l1, l2⟩ := hl
  refine mj_Met.of (by decide) ⟨rfl, rfl⟩ rfl rfl rfl ?_
  refine mz_iconst d_Ls_countGroups_0 ?_
  refine mz_ist2 d_Ls_countGroups_1 (rfl) ?_
  refine mz_iconst d_Ls_countGroups_2 ?_
  refine mz_ist3 d_Ls_countGroups_3 (rfl) ?_
  have loop : ∀ (q a : Nat) (S1 : mj_S) (G1 : Nat → Int) (p : Int × (Nat → Nat)), a + q = m → mj_fr S S1 [26] → S1.1 26 = .inl (0, 6, .inl (mj_z G1)) → (∀ j, j < a → G1 j = p.2 j ∧ p.2 j < 6) → ∀ x4 : Value, x4.category = 1 → mj_Ok Γ d M_Ls_countGroups 0 0 4 [.ref 20, .int (iZ m), .int (iZ p.1), .int (iZ a), x4] [] S1
      (mj_I fun z S' => mj_fr S S' [26] ∧ z = (chR (fun a p => cgI BN a (p.1 + 1, va_up p.2 a a)) q a p).1 ∧ ∃ GA', S'.1 26 = .inl (0, 6, .inl (mj_z GA'))) := by
    intro q
    induction q with
    | zero =>
      intro a S1 G1 p ha f1 h1 hp x4 hx4
      refine mj_iload_n d_Ls_countGroups_4 rfl ?_
      refine mj_iload_n d_Ls_countGroups_5 rfl ?_
      refine mz_icmp_ge 90 d_Ls_countGroups_6 (by decide) (by omega) (by omega) (fun c_6 => ?_) (fun c_6 => ?_)
      · refine mj_iload_n d_Ls_countGroups_90 rfl ?_
        refine mz_iret d_Ls_countGroups_91 rfl (rfl) ?_
        exact ⟨f1, rfl, G1, h1⟩
      · omega
    | succ q ih =>
      intro a S1 G1 p ha f1 h1 hp x4 hx4
      have hw1 := f1.w
      have l1' := f1.at l1 (by simp)
      refine mj_iload_n d_Ls_countGroups_4 rfl ?_
      refine mj_iload_n d_Ls_countGroups_5 rfl ?_
      refine mz_icmp_ge 90 d_Ls_countGroups_6 (by decide) (by omega) (by omega) (fun c_6 => ?_) (fun c_6 => ?_)
      · omega
      · refine mj_aload_n d_Ls_countGroups_9 rfl ?_
        refine mj_get (ci := 7) (j := 3) d_Ls_countGroups_10 rfl w_Ls_22 (by decide) (by omega) (by assumption) rfl ?_
        refine mj_iload_n d_Ls_countGroups_13 rfl ?_
        refine mj_iload_n d_Ls_countGroups_14 rfl ?_
        refine mz_iast d_Ls_countGroups_15 (by omega) (by assumption) (rfl) (by omega) (fun S_15 w_15 e_15 f_15 => ?_)
        refine mz_inc2 d_Ls_countGroups_16 (by unfold mj_c1; simp only [List.all_cons, hx4]; rfl) ?_
        refine mz_iconst d_Ls_countGroups_19 ?_
        refine mz_ist4 d_Ls_countGroups_20 (by unfold mj_c1; simp only [List.all_cons, hx4]; rfl) ?_
        have inner : ∀ (r b : Nat) (S2 : mj_S) (G2 : Nat → Int) (p2 : Int × (Nat → Nat)), b + r = a → mj_fr S S2 [26] → S2.1 26 = .inl (0, 6, .inl (mj_z G2)) → (∀ j, j ≤ a → G2 j = p2.2 j ∧ p2.2 j < 6) → mj_Ok Γ d M_Ls_countGroups 0 0 22 [.ref 20, .int (iZ m), .int (iZ p2.1), .int (iZ a), .int (iZ b)] [] S2
            (mj_I fun z S' => mj_fr S S' [26] ∧ z = (chR (fun a p => cgI BN a (p.1 + 1, va_up p.2 a a)) q (a + 1) (chR (fun b p => if 0 < BN (a * 6 + b) ∧ p.2 b ≠ p.2 a then (p.1 - 1, fun j => if p.2 j = p.2 b then p.2 a else p.2 j) else p) r b p2)).1 ∧ ∃ GA', S'.1 26 = .inl (0, 6, .inl (mj_z GA'))) := by
          intro r
          induction r with
          | zero =>
            intro b S2 G2 p2 hb f2 h2 hp2
            refine mj_iload d_Ls_countGroups_22 rfl ?_
            refine mj_iload_n d_Ls_countGroups_24 rfl ?_
            refine mz_icmp_ge 84 d_Ls_countGroups_25 (by decide) (by omega) (by omega) (fun c_25 => ?_) (fun c_25 => ?_)
            · refine mz_inc3 d_Ls_countGroups_84 (rfl) ?_
              refine mj_goto 4 d_Ls_countGroups_87 (by decide) ?_
              exact ih (a + 1) S2 G2 p2 (by omega) f2 h2 (fun j hj => hp2 j (by omega)) (.int (iZ b)) rfl
            · omega
          | succ r ih2 =>
            intro b S2 G2 p2 hb f2 h2 hp2
            have hw2 := f2.w
            have l1' := f2.at l1 (by simp)
            have hls2 : mj_ls S2 ca V := ⟨l1', f2.at l2 (by simp)⟩
            have hm2 : mj_ml S2 21 n K F B := hm.fr f2 (by simp)
            have m1' := hm2.1
            have hBb := hB (a * 6 + b) (by omega)
            have ga := hp2 a (Nat.le_refl _)
            have gb := hp2 b (by omega)
            refine mj_iload d_Ls_countGroups_22 rfl ?_
            refine mj_iload_n d_Ls_countGroups_24 rfl ?_
            refine mz_icmp_ge 84 d_Ls_countGroups_25 (by decide) (by omega) (by omega) (fun c_25 => ?_) (fun c_25 => ?_)
            · omega
            · refine mj_aload_n d_Ls_countGroups_28 rfl ?_
              refine mj_get (ci := 7) (j := 1) d_Ls_countGroups_29 rfl w_Ls_12 (by decide) (by omega) (by assumption) rfl ?_
              refine mj_iload_n d_Ls_countGroups_32 rfl ?_
              refine mj_iload d_Ls_countGroups_33 rfl ?_
              refine mz_callV2i (ci := 4) d_Ls_countGroups_35 (m_Ml_between (d := 0) (by omega) hm2 (by omega) (by omega)) cw_Ml_between lk_Ls_94 rfl rfl (by omega) (by assumption) (by omega) rfl (fun z_35 S_35 h_35 => ?_)
              obtain ⟨rfl, rfl⟩ := h_35
              rw [hBb.1]
              refine mz_if_le 78 d_Ls_countGroups_38 (by decide) (by omega) (fun c_38 => ?_) (fun c_38 => ?_)
              · refine mz_inc4 d_Ls_countGroups_78 (rfl) ?_
                refine mj_goto 22 d_Ls_countGroups_81 (by decide) ?_
                have w := ih2 (b + 1) S_35 G2 p2 (by omega) f2 h2 hp2
                rw [chR, if_neg (by omega)]
                exact w
              · refine mj_aload_n d_Ls_countGroups_41 rfl ?_
                refine mj_get (ci := 7) (j := 3) d_Ls_countGroups_42 rfl w_Ls_22 (by decide) (by omega) (by assumption) rfl ?_
                refine mj_iload d_Ls_countGroups_45 rfl ?_
                refine mz_iald d_Ls_countGroups_47 (by omega) (by assumption) (rfl) (by omega) ?_
                rw [gb.1]
                refine mj_aload_n d_Ls_countGroups_48 rfl ?_
                refine mj_get (ci := 7) (j := 3) d_Ls_countGroups_49 rfl w_Ls_22 (by decide) (by omega) (by assumption) rfl ?_
                refine mj_iload_n d_Ls_countGroups_52 rfl ?_
                refine mz_iald d_Ls_countGroups_53 (by omega) (by assumption) (rfl) (by omega) ?_
                rw [ga.1]
                refine mz_icmp_eq 78 d_Ls_countGroups_54 (by decide) (by omega) (by omega) (fun c_54 => ?_) (fun c_54 => ?_)
                · refine mz_inc4 d_Ls_countGroups_78 (rfl) ?_
                  refine mj_goto 22 d_Ls_countGroups_81 (by decide) ?_
                  have w := ih2 (b + 1) S_35 G2 p2 (by omega) f2 h2 hp2
                  rw [chR, if_neg (by omega)]
                  exact w
                · refine mj_aload_n d_Ls_countGroups_57 rfl ?_
                  refine mj_aload_n d_Ls_countGroups_58 rfl ?_
                  refine mj_get (ci := 7) (j := 3) d_Ls_countGroups_59 rfl w_Ls_22 (by decide) (by omega) (by assumption) rfl ?_
                  refine mj_iload d_Ls_countGroups_62 rfl ?_
                  refine mz_iald d_Ls_countGroups_64 (by omega) (by assumption) (rfl) (by omega) ?_
                  rw [gb.1]
                  refine mj_aload_n d_Ls_countGroups_65 rfl ?_
                  refine mj_get (ci := 7) (j := 3) d_Ls_countGroups_66 rfl w_Ls_22 (by decide) (by omega) (by assumption) rfl ?_
                  refine mj_iload_n d_Ls_countGroups_69 rfl ?_
                  refine mz_iald d_Ls_countGroups_70 (by omega) (by assumption) (rfl) (by omega) ?_
                  rw [ga.1]
                  refine mj_iload_n d_Ls_countGroups_71 rfl ?_
                  refine mz_callV3v (ci := 7) d_Ls_countGroups_72 (m_Ls_joinGroups (d := 0) (G := p2.2) (by omega) hls2 h2 (by omega) (fun j hj => ⟨(hp2 j hj).1, by have := (hp2 j hj).2; omega⟩) (by omega)) cw_Ls_joinGroups lk_Ls_97 rfl rfl (by omega) (by assumption) (by omega) rfl (fun S_72 h_72 => ?_)
                  obtain ⟨g1, G3, g2, g3⟩ := h_72
                  refine mz_inc2 d_Ls_countGroups_75 (rfl) ?_
                  refine mz_inc4 d_Ls_countGroups_78 (rfl) ?_
                  refine mj_goto 22 d_Ls_countGroups_81 (by decide) ?_
                  have w := ih2 (b + 1) S_72 G3 (p2.1 - 1, fun j => if p2.2 j = p2.2 b then p2.2 a else p2.2 j) (by omega) (f2.tr g1 (by simp) (by simp)) g2 (fun j hj => ⟨g3 j hj, by
                    show (if p2.2 j = p2.2 b then p2.2 a else p2.2 j) < 6
                    have := (hp2 j hj).2
                    split <;> omega⟩)
                  rw [chR, if_pos (by omega)]
                  exact w
        have w := inner a 0 S_15 (va_up G1 a a) (p.1 + 1, va_up p.2 a a) (by omega) (f1.tr f_15 (by simp) (by simp)) e_15 (fun j hj => by
          by_cases e : j = a
          · subst e; exact ⟨by rw [va_up_self]; show _ = ((va_up p.2 j j j : Nat) : Int); rw [va_up_self], by show va_up p.2 j j j < 6; rw [va_up_self]; omega⟩
          · have := hp j (by omega)
            exact ⟨by rw [va_up_ne _ _ e]; show _ = ((va_up p.2 a a j : Nat) : Int); rw [va_up_ne _ _ e]; exact this.1, by show va_up p.2 a a j < 6; rw [va_up_ne _ _ e]; exact this.2⟩)
        exact w
  exact loop m 0 S GA (0, fun _ => 0) (by omega) (mj_fr.rf _ _) hg (fun j h => absurd h (Nat.not_lt_zero j)) (.retAddr 0) rfl
end LS
end

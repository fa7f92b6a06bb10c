section
-- ===== PART A: goes FIRST, ahead of the names: the tables' words, and 'selects' of the private methods out of them =====
/-- a private method of a class that the tables say can be made, by its rows of tables_1 -/
def lw_okq (q : MethodName × Nat) : Prop := (q.1.cls ≠ "java/lang/invoke/MethodHandle" ∧ q.1.cls ≠ "java/lang/invoke/VarHandle") ∧ Cond.instantiable q.1.cls q.2 ∈ tables_1 ∧ Cond.privateMethod q.1 ∈ tables_1 ∧ Cond.instanceMethod q.1 ∈ tables_1
theorem lw_p0 : lw_okq (⟨"PressSuite", "rowOf", "(I)LPressSuite$Row;"⟩, 9) := ⟨⟨by decide +kernel, by decide +kernel⟩, List.mem_of_getElem? (i := 19) (by decide +kernel), List.mem_of_getElem? (i := 216) (by decide +kernel), List.mem_of_getElem? (i := 217) (by decide +kernel)⟩
theorem lw_p1 : lw_okq (⟨"java/lang/Throwable", "fillInStackTrace", "(I)Ljava/lang/Throwable;"⟩, 6) := ⟨⟨by decide +kernel, by decide +kernel⟩, List.mem_of_getElem? (i := 257) (by decide +kernel), List.mem_of_getElem? (i := 255) (by decide +kernel), List.mem_of_getElem? (i := 256) (by decide +kernel)⟩
theorem lw_p2 : lw_okq (⟨"PressSuite$Packer", "learnPast", "()V"⟩, 7) := ⟨⟨by decide +kernel, by decide +kernel⟩, List.mem_of_getElem? (i := 49) (by decide +kernel), List.mem_of_getElem? (i := 337) (by decide +kernel), List.mem_of_getElem? (i := 338) (by decide +kernel)⟩
theorem lw_p3 : lw_okq (⟨"PressSuite$Packer", "exchange", "(I)I"⟩, 7) := ⟨⟨by decide +kernel, by decide +kernel⟩, List.mem_of_getElem? (i := 49) (by decide +kernel), List.mem_of_getElem? (i := 341) (by decide +kernel), List.mem_of_getElem? (i := 342) (by decide +kernel)⟩
theorem lw_p4 : lw_okq (⟨"PressSuite$Packer", "copyFrom", "(ILPressSuite$Writer;)I"⟩, 7) := ⟨⟨by decide +kernel, by decide +kernel⟩, List.mem_of_getElem? (i := 49) (by decide +kernel), List.mem_of_getElem? (i := 370) (by decide +kernel), List.mem_of_getElem? (i := 371) (by decide +kernel)⟩
theorem lw_p5 : lw_okq (⟨"PressSuite$Packer", "matchLength", "(II)I"⟩, 7) := ⟨⟨by decide +kernel, by decide +kernel⟩, List.mem_of_getElem? (i := 49) (by decide +kernel), List.mem_of_getElem? (i := 374) (by decide +kernel), List.mem_of_getElem? (i := 375) (by decide +kernel)⟩
theorem lw_p6 : lw_okq (⟨"PressSuite$ElementWriter", "writeLiterals", "(II)V"⟩, 2) := ⟨⟨by decide +kernel, by decide +kernel⟩, List.mem_of_getElem? (i := 117) (by decide +kernel), List.mem_of_getElem? (i := 389) (by decide +kernel), List.mem_of_getElem? (i := 390) (by decide +kernel)⟩
theorem lw_p7 : lw_okq (⟨"PressSuite$ElementWriter", "writeLong", "(II)V"⟩, 2) := ⟨⟨by decide +kernel, by decide +kernel⟩, List.mem_of_getElem? (i := 117) (by decide +kernel), List.mem_of_getElem? (i := 401) (by decide +kernel), List.mem_of_getElem? (i := 402) (by decide +kernel)⟩
theorem lw_p8 : lw_okq (⟨"PressSuite$ElementWriter", "writeCopy", "(II)V"⟩, 2) := ⟨⟨by decide +kernel, by decide +kernel⟩, List.mem_of_getElem? (i := 117) (by decide +kernel), List.mem_of_getElem? (i := 405) (by decide +kernel), List.mem_of_getElem? (i := 406) (by decide +kernel)⟩
theorem lw_p9 : lw_okq (⟨"PressSuite$SequenceWriter", "writeLiterals", "(III)V"⟩, 2) := ⟨⟨by decide +kernel, by decide +kernel⟩, List.mem_of_getElem? (i := 93) (by decide +kernel), List.mem_of_getElem? (i := 415) (by decide +kernel), List.mem_of_getElem? (i := 416) (by decide +kernel)⟩
theorem lw_p10 : lw_okq (⟨"PressSuite$SequenceWriter", "writeSum", "(I)V"⟩, 2) := ⟨⟨by decide +kernel, by decide +kernel⟩, List.mem_of_getElem? (i := 93) (by decide +kernel), List.mem_of_getElem? (i := 420) (by decide +kernel), List.mem_of_getElem? (i := 421) (by decide +kernel)⟩
theorem lw_p11 : lw_okq (⟨"PressSuite$ElementReader", "takeSize", "()I"⟩, 6) := ⟨⟨by decide +kernel, by decide +kernel⟩, List.mem_of_getElem? (i := 164) (by decide +kernel), List.mem_of_getElem? (i := 459) (by decide +kernel), List.mem_of_getElem? (i := 460) (by decide +kernel)⟩
theorem lw_p12 : lw_okq (⟨"PressSuite$ElementReader", "readElement", "()V"⟩, 6) := ⟨⟨by decide +kernel, by decide +kernel⟩, List.mem_of_getElem? (i := 164) (by decide +kernel), List.mem_of_getElem? (i := 492) (by decide +kernel), List.mem_of_getElem? (i := 493) (by decide +kernel)⟩
theorem lw_p13 : lw_okq (⟨"PressSuite$ElementReader", "readLiterals", "(II)V"⟩, 6) := ⟨⟨by decide +kernel, by decide +kernel⟩, List.mem_of_getElem? (i := 164) (by decide +kernel), List.mem_of_getElem? (i := 496) (by decide +kernel), List.mem_of_getElem? (i := 497) (by decide +kernel)⟩
theorem lw_p14 : lw_okq (⟨"PressSuite$ElementReader", "readShortCopy", "(II)V"⟩, 6) := ⟨⟨by decide +kernel, by decide +kernel⟩, List.mem_of_getElem? (i := 164) (by decide +kernel), List.mem_of_getElem? (i := 515) (by decide +kernel), List.mem_of_getElem? (i := 516) (by decide +kernel)⟩
theorem lw_p15 : lw_okq (⟨"PressSuite$ElementReader", "readLongCopy", "(II)V"⟩, 6) := ⟨⟨by decide +kernel, by decide +kernel⟩, List.mem_of_getElem? (i := 164) (by decide +kernel), List.mem_of_getElem? (i := 533) (by decide +kernel), List.mem_of_getElem? (i := 534) (by decide +kernel)⟩
def lw_privs_1 : List (MethodName × Nat) := [(⟨"PressSuite", "rowOf", "(I)LPressSuite$Row;"⟩, 9), (⟨"java/lang/Throwable", "fillInStackTrace", "(I)Ljava/lang/Throwable;"⟩, 6), (⟨"PressSuite$Packer", "learnPast", "()V"⟩, 7), (⟨"PressSuite$Packer", "exchange", "(I)I"⟩, 7), (⟨"PressSuite$Packer", "copyFrom", "(ILPressSuite$Writer;)I"⟩, 7), (⟨"PressSuite$Packer", "matchLength", "(II)I"⟩, 7), (⟨"PressSuite$ElementWriter", "writeLiterals", "(II)V"⟩, 2), (⟨"PressSuite$ElementWriter", "writeLong", "(II)V"⟩, 2), (⟨"PressSuite$ElementWriter", "writeCopy", "(II)V"⟩, 2), (⟨"PressSuite$SequenceWriter", "writeLiterals", "(III)V"⟩, 2), (⟨"PressSuite$SequenceWriter", "writeSum", "(I)V"⟩, 2), (⟨"PressSuite$ElementReader", "takeSize", "()I"⟩, 6), (⟨"PressSuite$ElementReader", "readElement", "()V"⟩, 6), (⟨"PressSuite$ElementReader", "readLiterals", "(II)V"⟩, 6), (⟨"PressSuite$ElementReader", "readShortCopy", "(II)V"⟩, 6), (⟨"PressSuite$ElementReader", "readLongCopy", "(II)V"⟩, 6)]
theorem lw_r1 : ∀ q ∈ lw_privs_1, lw_okq q := List.forall_mem_cons.mpr ⟨lw_p0, List.forall_mem_cons.mpr ⟨lw_p1, List.forall_mem_cons.mpr ⟨lw_p2, List.forall_mem_cons.mpr ⟨lw_p3, List.forall_mem_cons.mpr ⟨lw_p4, List.forall_mem_cons.mpr ⟨lw_p5, List.forall_mem_cons.mpr ⟨lw_p6, List.forall_mem_cons.mpr ⟨lw_p7, List.forall_mem_cons.mpr ⟨lw_p8, List.forall_mem_cons.mpr ⟨lw_p9, List.forall_mem_cons.mpr ⟨lw_p10, List.forall_mem_cons.mpr ⟨lw_p11, List.forall_mem_cons.mpr ⟨lw_p12, List.forall_mem_cons.mpr ⟨lw_p13, List.forall_mem_cons.mpr ⟨lw_p14, List.forall_mem_cons.mpr ⟨lw_p15, fun _ h => absurd h List.not_mem_nil⟩⟩⟩⟩⟩⟩⟩⟩⟩⟩⟩⟩⟩⟩⟩⟩
theorem lw_p16 : lw_okq (⟨"PressSuite$SequenceReader", "readSequence", "()Z"⟩, 5) := ⟨⟨by decide +kernel, by decide +kernel⟩, List.mem_of_getElem? (i := 126) (by decide +kernel), List.mem_of_getElem? (i := 546) (by decide +kernel), List.mem_of_getElem? (i := 547) (by decide +kernel)⟩
theorem lw_p17 : lw_okq (⟨"PressSuite$SequenceReader", "takeSum", "(I)I"⟩, 5) := ⟨⟨by decide +kernel, by decide +kernel⟩, List.mem_of_getElem? (i := 126) (by decide +kernel), List.mem_of_getElem? (i := 553) (by decide +kernel), List.mem_of_getElem? (i := 554) (by decide +kernel)⟩
theorem lw_p18 : lw_okq (⟨"PressSuiteModel", "fails", "(ZZ)Z"⟩, 12) := ⟨⟨by decide +kernel, by decide +kernel⟩, List.mem_of_getElem? (i := 652) (by decide +kernel), List.mem_of_getElem? (i := 709) (by decide +kernel), List.mem_of_getElem? (i := 710) (by decide +kernel)⟩
theorem lw_p19 : lw_okq (⟨"PressSuiteModel", "remembers", "()V"⟩, 12) := ⟨⟨by decide +kernel, by decide +kernel⟩, List.mem_of_getElem? (i := 652) (by decide +kernel), List.mem_of_getElem? (i := 734) (by decide +kernel), List.mem_of_getElem? (i := 735) (by decide +kernel)⟩
theorem lw_p20 : lw_okq (⟨"PressSuiteModel", "emit", "(I)V"⟩, 12) := ⟨⟨by decide +kernel, by decide +kernel⟩, List.mem_of_getElem? (i := 652) (by decide +kernel), List.mem_of_getElem? (i := 738) (by decide +kernel), List.mem_of_getElem? (i := 739) (by decide +kernel)⟩
theorem lw_p21 : lw_okq (⟨"PressSuiteModel", "packs", "(I)V"⟩, 12) := ⟨⟨by decide +kernel, by decide +kernel⟩, List.mem_of_getElem? (i := 652) (by decide +kernel), List.mem_of_getElem? (i := 742) (by decide +kernel), List.mem_of_getElem? (i := 743) (by decide +kernel)⟩
theorem lw_p22 : lw_okq (⟨"PressSuiteModel", "slot", "(I)I"⟩, 12) := ⟨⟨by decide +kernel, by decide +kernel⟩, List.mem_of_getElem? (i := 652) (by decide +kernel), List.mem_of_getElem? (i := 746) (by decide +kernel), List.mem_of_getElem? (i := 747) (by decide +kernel)⟩
theorem lw_p23 : lw_okq (⟨"PressSuiteModel", "intAt", "(I)I"⟩, 12) := ⟨⟨by decide +kernel, by decide +kernel⟩, List.mem_of_getElem? (i := 652) (by decide +kernel), List.mem_of_getElem? (i := 750) (by decide +kernel), List.mem_of_getElem? (i := 751) (by decide +kernel)⟩
theorem lw_p24 : lw_okq (⟨"PressSuiteModel", "same", "(II)I"⟩, 12) := ⟨⟨by decide +kernel, by decide +kernel⟩, List.mem_of_getElem? (i := 652) (by decide +kernel), List.mem_of_getElem? (i := 758) (by decide +kernel), List.mem_of_getElem? (i := 759) (by decide +kernel)⟩
theorem lw_p25 : lw_okq (⟨"PressSuiteModel", "sequence", "(IIII)V"⟩, 12) := ⟨⟨by decide +kernel, by decide +kernel⟩, List.mem_of_getElem? (i := 652) (by decide +kernel), List.mem_of_getElem? (i := 762) (by decide +kernel), List.mem_of_getElem? (i := 763) (by decide +kernel)⟩
theorem lw_p26 : lw_okq (⟨"PressSuiteModel", "emitMore", "(I)V"⟩, 12) := ⟨⟨by decide +kernel, by decide +kernel⟩, List.mem_of_getElem? (i := 652) (by decide +kernel), List.mem_of_getElem? (i := 769) (by decide +kernel), List.mem_of_getElem? (i := 770) (by decide +kernel)⟩
theorem lw_p27 : lw_okq (⟨"PressSuiteModel", "emitLiterals", "(II)V"⟩, 12) := ⟨⟨by decide +kernel, by decide +kernel⟩, List.mem_of_getElem? (i := 652) (by decide +kernel), List.mem_of_getElem? (i := 773) (by decide +kernel), List.mem_of_getElem? (i := 774) (by decide +kernel)⟩
theorem lw_p28 : lw_okq (⟨"PressSuiteModel", "literalElement", "(II)V"⟩, 12) := ⟨⟨by decide +kernel, by decide +kernel⟩, List.mem_of_getElem? (i := 652) (by decide +kernel), List.mem_of_getElem? (i := 777) (by decide +kernel), List.mem_of_getElem? (i := 778) (by decide +kernel)⟩
theorem lw_p29 : lw_okq (⟨"PressSuiteModel", "copyElements", "(II)V"⟩, 12) := ⟨⟨by decide +kernel, by decide +kernel⟩, List.mem_of_getElem? (i := 652) (by decide +kernel), List.mem_of_getElem? (i := 781) (by decide +kernel), List.mem_of_getElem? (i := 782) (by decide +kernel)⟩
theorem lw_p30 : lw_okq (⟨"PressSuiteModel", "copyElement", "(II)V"⟩, 12) := ⟨⟨by decide +kernel, by decide +kernel⟩, List.mem_of_getElem? (i := 652) (by decide +kernel), List.mem_of_getElem? (i := 785) (by decide +kernel), List.mem_of_getElem? (i := 786) (by decide +kernel)⟩
theorem lw_p31 : lw_okq (⟨"PressSuiteModel", "lastSequence", "(II)V"⟩, 12) := ⟨⟨by decide +kernel, by decide +kernel⟩, List.mem_of_getElem? (i := 652) (by decide +kernel), List.mem_of_getElem? (i := 789) (by decide +kernel), List.mem_of_getElem? (i := 790) (by decide +kernel)⟩
def lw_privs_2 : List (MethodName × Nat) := [(⟨"PressSuite$SequenceReader", "readSequence", "()Z"⟩, 5), (⟨"PressSuite$SequenceReader", "takeSum", "(I)I"⟩, 5), (⟨"PressSuiteModel", "fails", "(ZZ)Z"⟩, 12), (⟨"PressSuiteModel", "remembers", "()V"⟩, 12), (⟨"PressSuiteModel", "emit", "(I)V"⟩, 12), (⟨"PressSuiteModel", "packs", "(I)V"⟩, 12), (⟨"PressSuiteModel", "slot", "(I)I"⟩, 12), (⟨"PressSuiteModel", "intAt", "(I)I"⟩, 12), (⟨"PressSuiteModel", "same", "(II)I"⟩, 12), (⟨"PressSuiteModel", "sequence", "(IIII)V"⟩, 12), (⟨"PressSuiteModel", "emitMore", "(I)V"⟩, 12), (⟨"PressSuiteModel", "emitLiterals", "(II)V"⟩, 12), (⟨"PressSuiteModel", "literalElement", "(II)V"⟩, 12), (⟨"PressSuiteModel", "copyElements", "(II)V"⟩, 12), (⟨"PressSuiteModel", "copyElement", "(II)V"⟩, 12), (⟨"PressSuiteModel", "lastSequence", "(II)V"⟩, 12)]
theorem lw_r2 : ∀ q ∈ lw_privs_2, lw_okq q := List.forall_mem_cons.mpr ⟨lw_p16, List.forall_mem_cons.mpr ⟨lw_p17, List.forall_mem_cons.mpr ⟨lw_p18, List.forall_mem_cons.mpr ⟨lw_p19, List.forall_mem_cons.mpr ⟨lw_p20, List.forall_mem_cons.mpr ⟨lw_p21, List.forall_mem_cons.mpr ⟨lw_p22, List.forall_mem_cons.mpr ⟨lw_p23, List.forall_mem_cons.mpr ⟨lw_p24, List.forall_mem_cons.mpr ⟨lw_p25, List.forall_mem_cons.mpr ⟨lw_p26, List.forall_mem_cons.mpr ⟨lw_p27, List.forall_mem_cons.mpr ⟨lw_p28, List.forall_mem_cons.mpr ⟨lw_p29, List.forall_mem_cons.mpr ⟨lw_p30, List.forall_mem_cons.mpr ⟨lw_p31, fun _ h => absurd h List.not_mem_nil⟩⟩⟩⟩⟩⟩⟩⟩⟩⟩⟩⟩⟩⟩⟩⟩
theorem lw_p32 : lw_okq (⟨"PressSuiteModel", "readZero", "()V"⟩, 12) := ⟨⟨by decide +kernel, by decide +kernel⟩, List.mem_of_getElem? (i := 652) (by decide +kernel), List.mem_of_getElem? (i := 797) (by decide +kernel), List.mem_of_getElem? (i := 798) (by decide +kernel)⟩
theorem lw_p33 : lw_okq (⟨"PressSuiteModel", "next", "()I"⟩, 12) := ⟨⟨by decide +kernel, by decide +kernel⟩, List.mem_of_getElem? (i := 652) (by decide +kernel), List.mem_of_getElem? (i := 801) (by decide +kernel), List.mem_of_getElem? (i := 802) (by decide +kernel)⟩
theorem lw_p34 : lw_okq (⟨"PressSuiteModel", "need", "(ZI)V"⟩, 12) := ⟨⟨by decide +kernel, by decide +kernel⟩, List.mem_of_getElem? (i := 652) (by decide +kernel), List.mem_of_getElem? (i := 805) (by decide +kernel), List.mem_of_getElem? (i := 806) (by decide +kernel)⟩
theorem lw_p35 : lw_okq (⟨"PressSuiteModel", "more", "(I)I"⟩, 12) := ⟨⟨by decide +kernel, by decide +kernel⟩, List.mem_of_getElem? (i := 652) (by decide +kernel), List.mem_of_getElem? (i := 809) (by decide +kernel), List.mem_of_getElem? (i := 810) (by decide +kernel)⟩
theorem lw_p36 : lw_okq (⟨"PressSuiteModel", "made", "()I"⟩, 12) := ⟨⟨by decide +kernel, by decide +kernel⟩, List.mem_of_getElem? (i := 652) (by decide +kernel), List.mem_of_getElem? (i := 813) (by decide +kernel), List.mem_of_getElem? (i := 814) (by decide +kernel)⟩
theorem lw_p37 : lw_okq (⟨"PressSuiteModel", "literals", "(I)V"⟩, 12) := ⟨⟨by decide +kernel, by decide +kernel⟩, List.mem_of_getElem? (i := 652) (by decide +kernel), List.mem_of_getElem? (i := 817) (by decide +kernel), List.mem_of_getElem? (i := 818) (by decide +kernel)⟩
theorem lw_p38 : lw_okq (⟨"PressSuiteModel", "copies", "(II)V"⟩, 12) := ⟨⟨by decide +kernel, by decide +kernel⟩, List.mem_of_getElem? (i := 652) (by decide +kernel), List.mem_of_getElem? (i := 821) (by decide +kernel), List.mem_of_getElem? (i := 822) (by decide +kernel)⟩
theorem lw_p39 : lw_okq (⟨"PressSuiteModel", "readOne", "()V"⟩, 12) := ⟨⟨by decide +kernel, by decide +kernel⟩, List.mem_of_getElem? (i := 652) (by decide +kernel), List.mem_of_getElem? (i := 825) (by decide +kernel), List.mem_of_getElem? (i := 826) (by decide +kernel)⟩
theorem lw_p40 : lw_okq (⟨"PressSuiteModel", "element", "(I)V"⟩, 12) := ⟨⟨by decide +kernel, by decide +kernel⟩, List.mem_of_getElem? (i := 652) (by decide +kernel), List.mem_of_getElem? (i := 829) (by decide +kernel), List.mem_of_getElem? (i := 830) (by decide +kernel)⟩
theorem lw_p41 : lw_okq (⟨"PressSuiteModel", "lane", "(III)I"⟩, 12) := ⟨⟨by decide +kernel, by decide +kernel⟩, List.mem_of_getElem? (i := 652) (by decide +kernel), List.mem_of_getElem? (i := 844) (by decide +kernel), List.mem_of_getElem? (i := 845) (by decide +kernel)⟩
theorem lw_p42 : lw_okq (⟨"PressSuiteModel", "rowInt", "(II)I"⟩, 12) := ⟨⟨by decide +kernel, by decide +kernel⟩, List.mem_of_getElem? (i := 652) (by decide +kernel), List.mem_of_getElem? (i := 848) (by decide +kernel), List.mem_of_getElem? (i := 849) (by decide +kernel)⟩
def lw_privs_3 : List (MethodName × Nat) := [(⟨"PressSuiteModel", "readZero", "()V"⟩, 12), (⟨"PressSuiteModel", "next", "()I"⟩, 12), (⟨"PressSuiteModel", "need", "(ZI)V"⟩, 12), (⟨"PressSuiteModel", "more", "(I)I"⟩, 12), (⟨"PressSuiteModel", "made", "()I"⟩, 12), (⟨"PressSuiteModel", "literals", "(I)V"⟩, 12), (⟨"PressSuiteModel", "copies", "(II)V"⟩, 12), (⟨"PressSuiteModel", "readOne", "()V"⟩, 12), (⟨"PressSuiteModel", "element", "(I)V"⟩, 12), (⟨"PressSuiteModel", "lane", "(III)I"⟩, 12), (⟨"PressSuiteModel", "rowInt", "(II)I"⟩, 12)]
theorem lw_r3 : ∀ q ∈ lw_privs_3, lw_okq q := List.forall_mem_cons.mpr ⟨lw_p32, List.forall_mem_cons.mpr ⟨lw_p33, List.forall_mem_cons.mpr ⟨lw_p34, List.forall_mem_cons.mpr ⟨lw_p35, List.forall_mem_cons.mpr ⟨lw_p36, List.forall_mem_cons.mpr ⟨lw_p37, List.forall_mem_cons.mpr ⟨lw_p38, List.forall_mem_cons.mpr ⟨lw_p39, List.forall_mem_cons.mpr ⟨lw_p40, List.forall_mem_cons.mpr ⟨lw_p41, List.forall_mem_cons.mpr ⟨lw_p42, fun _ h => absurd h List.not_mem_nil⟩⟩⟩⟩⟩⟩⟩⟩⟩⟩⟩
def lw_privs : List (MethodName × Nat) := lw_privs_1 ++ (lw_privs_2 ++ (lw_privs_3))
def lw_tbl : List Cond := k2_sels lw_privs ++ tables_1
theorem lw_privs_ok : ∀ q ∈ lw_privs, lw_okq q := by
  show ∀ q ∈ lw_privs_1 ++ (lw_privs_2 ++ (lw_privs_3)), lw_okq q
  exact List.forall_mem_append.mpr ⟨lw_r1, List.forall_mem_append.mpr ⟨lw_r2, lw_r3⟩⟩

def RX0 : String := "PressSuite$ElementReader"
def TX0 : u_T := fun k => match k with
  | 0 => ("PressSuite$Reader", "source", "LPressSuite$Row;", true)
  | 1 => ("PressSuite$Reader", "draft", "LPressSuite$Row;", true)
  | 2 => ("PressSuite$Reader", "history", "LPressSuite$History;", true)
  | 3 => ("PressSuite$Reader", "at", "I", false)
  | 4 => ("PressSuite$Reader", "refusedAt", "I", false)
  | _ => ("PressSuite$ElementReader", "promised", "I", false)
def tyX0 : Nat → FieldType := fun k => match k with
  | 0 => .object "PressSuite$Row"
  | 1 => .object "PressSuite$Row"
  | 2 => .object "PressSuite$History"
  | 3 => .int
  | 4 => .int
  | _ => .int
abbrev wsX00 : List Cond := u_ws RX0 TX0 6
theorem nmX0 : ∀ a, a < 6 → ∀ b, b < 6 → a ≠ b → (TX0 a).2.1 ≠ (TX0 b).2.1 := by decide +kernel
theorem tyX0_ok : ∀ k, k < 6 → parseFieldDescriptor (TX0 k).2.2.1 = some (tyX0 k) := by decide +kernel
abbrev cX0_init : ByteArray := prog_2_method_1_code
def yX0_init : MethodName := ⟨RX0, "<init>", "(LPressSuite$Row;LPressSuite$Row;LPressSuite$Row;)V"⟩
def RX1 : String := "PressSuite$ElementWriter"
def TX1 : u_T := fun k => match k with
  | 0 => ("PressSuite$Writer", "plain", "LPressSuite$Row;", true)
  | _ => ("PressSuite$Writer", "out", "LPressSuite$Row;", true)
def tyX1 : Nat → FieldType := fun k => match k with
  | 0 => .object "PressSuite$Row"
  | _ => .object "PressSuite$Row"
abbrev wsX10 : List Cond := u_ws RX1 TX1 2
theorem nmX1 : ∀ a, a < 2 → ∀ b, b < 2 → a ≠ b → (TX1 a).2.1 ≠ (TX1 b).2.1 := by decide +kernel
theorem tyX1_ok : ∀ k, k < 2 → parseFieldDescriptor (TX1 k).2.2.1 = some (tyX1 k) := by decide +kernel
abbrev cX1_init : ByteArray := prog_3_method_1_code
def yX1_init : MethodName := ⟨RX1, "<init>", "(LPressSuite$Row;LPressSuite$Row;)V"⟩
def RX2 : String := "PressSuite$History"
def TX2 : u_T := fun k => match k with
  | 0 => ("PressSuite$History", "past", "LPressSuite$Row;", true)
  | _ => ("PressSuite$History", "plain", "LPressSuite$Row;", true)
def tyX2 : Nat → FieldType := fun k => match k with
  | 0 => .object "PressSuite$Row"
  | _ => .object "PressSuite$Row"
abbrev wsX20 : List Cond := u_ws RX2 TX2 2
theorem nmX2 : ∀ a, a < 2 → ∀ b, b < 2 → a ≠ b → (TX2 a).2.1 ≠ (TX2 b).2.1 := by decide +kernel
theorem tyX2_ok : ∀ k, k < 2 → parseFieldDescriptor (TX2 k).2.2.1 = some (tyX2 k) := by decide +kernel
abbrev cX2_init : ByteArray := prog_4_method_1_code
def yX2_init : MethodName := ⟨RX2, "<init>", "(LPressSuite$Row;LPressSuite$Row;)V"⟩
def RX3 : String := "PressSuite$Packer"
def TX3 : u_T := fun k => match k with
  | 0 => ("PressSuite$Packer", "past", "LPressSuite$Row;", true)
  | 1 => ("PressSuite$Packer", "plain", "LPressSuite$Row;", true)
  | 2 => ("PressSuite$Packer", "history", "LPressSuite$History;", true)
  | 3 => ("PressSuite$Packer", "table", "[I", true)
  | 4 => ("PressSuite$Packer", "anchor", "I", false)
  | 5 => ("PressSuite$Packer", "matches", "I", false)
  | _ => ("PressSuite$Packer", "copied", "I", false)
def tyX3 : Nat → FieldType := fun k => match k with
  | 0 => .object "PressSuite$Row"
  | 1 => .object "PressSuite$Row"
  | 2 => .object "PressSuite$History"
  | 3 => .array .int
  | 4 => .int
  | 5 => .int
  | _ => .int
abbrev wsX30 : List Cond := u_ws RX3 TX3 7
theorem nmX3 : ∀ a, a < 7 → ∀ b, b < 7 → a ≠ b → (TX3 a).2.1 ≠ (TX3 b).2.1 := by decide +kernel
theorem tyX3_ok : ∀ k, k < 7 → parseFieldDescriptor (TX3 k).2.2.1 = some (tyX3 k) := by decide +kernel
abbrev cX3_init : ByteArray := prog_5_method_1_code
def yX3_init : MethodName := ⟨RX3, "<init>", "(LPressSuite$Row;LPressSuite$Row;)V"⟩
def RX4 : String := "PressSuite$Reader"
def TX4 : u_T := fun k => match k with
  | _ => ("", "", "", false)
def tyX4 : Nat → FieldType := fun k => match k with
  | _ => .int
abbrev wsX40 : List Cond := u_ws RX4 TX4 0
theorem nmX4 : ∀ a, a < 0 → ∀ b, b < 0 → a ≠ b → (TX4 a).2.1 ≠ (TX4 b).2.1 := by decide +kernel
theorem tyX4_ok : ∀ k, k < 0 → parseFieldDescriptor (TX4 k).2.2.1 = some (tyX4 k) := by decide +kernel
abbrev cX4_init : ByteArray := prog_6_method_1_code
def yX4_init : MethodName := ⟨RX4, "<init>", "(LPressSuite$Row;LPressSuite$Row;LPressSuite$Row;)V"⟩
def RX5 : String := "PressSuite$Row"
def TX5 : u_T := fun k => match k with
  | 0 => ("PressSuite$Row", "bytes", "[B", true)
  | _ => ("PressSuite$Row", "count", "I", false)
def tyX5 : Nat → FieldType := fun k => match k with
  | 0 => .array .byte
  | _ => .int
abbrev wsX50 : List Cond := u_ws RX5 TX5 2
theorem nmX5 : ∀ a, a < 2 → ∀ b, b < 2 → a ≠ b → (TX5 a).2.1 ≠ (TX5 b).2.1 := by decide +kernel
theorem tyX5_ok : ∀ k, k < 2 → parseFieldDescriptor (TX5 k).2.2.1 = some (tyX5 k) := by decide +kernel
abbrev cX5_init : ByteArray := prog_7_method_1_code
def yX5_init : MethodName := ⟨RX5, "<init>", "(I)V"⟩
def RX6 : String := "PressSuite$SequenceReader"
def TX6 : u_T := fun k => match k with
  | 0 => ("PressSuite$Reader", "source", "LPressSuite$Row;", true)
  | 1 => ("PressSuite$Reader", "draft", "LPressSuite$Row;", true)
  | 2 => ("PressSuite$Reader", "history", "LPressSuite$History;", true)
  | 3 => ("PressSuite$Reader", "at", "I", false)
  | _ => ("PressSuite$Reader", "refusedAt", "I", false)
def tyX6 : Nat → FieldType := fun k => match k with
  | 0 => .object "PressSuite$Row"
  | 1 => .object "PressSuite$Row"
  | 2 => .object "PressSuite$History"
  | 3 => .int
  | _ => .int
abbrev wsX60 : List Cond := u_ws RX6 TX6 5
theorem nmX6 : ∀ a, a < 5 → ∀ b, b < 5 → a ≠ b → (TX6 a).2.1 ≠ (TX6 b).2.1 := by decide +kernel
theorem tyX6_ok : ∀ k, k < 5 → parseFieldDescriptor (TX6 k).2.2.1 = some (tyX6 k) := by decide +kernel
abbrev cX6_init : ByteArray := prog_8_method_1_code
def yX6_init : MethodName := ⟨RX6, "<init>", "(LPressSuite$Row;LPressSuite$Row;LPressSuite$Row;)V"⟩
def RX7 : String := "PressSuite$SequenceWriter"
def TX7 : u_T := fun k => match k with
  | 0 => ("PressSuite$Writer", "plain", "LPressSuite$Row;", true)
  | _ => ("PressSuite$Writer", "out", "LPressSuite$Row;", true)
def tyX7 : Nat → FieldType := fun k => match k with
  | 0 => .object "PressSuite$Row"
  | _ => .object "PressSuite$Row"
abbrev wsX70 : List Cond := u_ws RX7 TX7 2
theorem nmX7 : ∀ a, a < 2 → ∀ b, b < 2 → a ≠ b → (TX7 a).2.1 ≠ (TX7 b).2.1 := by decide +kernel
theorem tyX7_ok : ∀ k, k < 2 → parseFieldDescriptor (TX7 k).2.2.1 = some (tyX7 k) := by decide +kernel
abbrev cX7_init : ByteArray := prog_9_method_1_code
def yX7_init : MethodName := ⟨RX7, "<init>", "(LPressSuite$Row;LPressSuite$Row;)V"⟩
def RX8 : String := "PressSuite$Writer"
def TX8 : u_T := fun k => match k with
  | _ => ("", "", "", false)
def tyX8 : Nat → FieldType := fun k => match k with
  | _ => .int
abbrev wsX80 : List Cond := u_ws RX8 TX8 0
theorem nmX8 : ∀ a, a < 0 → ∀ b, b < 0 → a ≠ b → (TX8 a).2.1 ≠ (TX8 b).2.1 := by decide +kernel
theorem tyX8_ok : ∀ k, k < 0 → parseFieldDescriptor (TX8 k).2.2.1 = some (tyX8 k) := by decide +kernel
abbrev cX8_init : ByteArray := prog_10_method_1_code
def yX8_init : MethodName := ⟨RX8, "<init>", "(LPressSuite$Row;LPressSuite$Row;)V"⟩
def RX9 : String := "PressSuite"
def TX9 : u_T := fun k => match k with
  | 0 => ("PressSuite", "plain", "LPressSuite$Row;", true)
  | 1 => ("PressSuite", "packed", "LPressSuite$Row;", true)
  | 2 => ("PressSuite", "past", "LPressSuite$Row;", true)
  | 3 => ("PressSuite", "draft", "LPressSuite$Row;", true)
  | 4 => ("PressSuite", "packer", "LPressSuite$Packer;", true)
  | 5 => ("PressSuite", "sequenceWriter", "LPressSuite$Writer;", true)
  | 6 => ("PressSuite", "elementWriter", "LPressSuite$Writer;", true)
  | 7 => ("PressSuite", "sequenceReader", "LPressSuite$Reader;", true)
  | _ => ("PressSuite", "elementReader", "LPressSuite$Reader;", true)
def tyX9 : Nat → FieldType := fun k => match k with
  | 0 => .object "PressSuite$Row"
  | 1 => .object "PressSuite$Row"
  | 2 => .object "PressSuite$Row"
  | 3 => .object "PressSuite$Row"
  | 4 => .object "PressSuite$Packer"
  | 5 => .object "PressSuite$Writer"
  | 6 => .object "PressSuite$Writer"
  | 7 => .object "PressSuite$Reader"
  | _ => .object "PressSuite$Reader"
abbrev wsX90 : List Cond := u_ws RX9 TX9 9
theorem nmX9 : ∀ a, a < 9 → ∀ b, b < 9 → a ≠ b → (TX9 a).2.1 ≠ (TX9 b).2.1 := by decide +kernel
theorem tyX9_ok : ∀ k, k < 9 → parseFieldDescriptor (TX9 k).2.2.1 = some (tyX9 k) := by decide +kernel
abbrev cX9_init : ByteArray := prog_1_method_1_code
def yX9_init : MethodName := ⟨RX9, "<init>", "()V"⟩
abbrev cX9_put : ByteArray := prog_1_method_2_code
def yX9_put : MethodName := ⟨RX9, "put", "(IJI)V"⟩
abbrev cX9_rowOf : ByteArray := prog_1_method_11_code
def yX9_rowOf : MethodName := ⟨RX9, "rowOf", "(I)LPressSuite$Row;"⟩
def RX10 : String := "PressSuiteModel"
def TX10 : u_T := fun k => match k with
  | _ => ("", "", "", false)
def tyX10 : Nat → FieldType := fun k => match k with
  | _ => .int
abbrev wsX100 : List Cond := u_ws RX10 TX10 0
theorem nmX10 : ∀ a, a < 0 → ∀ b, b < 0 → a ≠ b → (TX10 a).2.1 ≠ (TX10 b).2.1 := by decide +kernel
theorem tyX10_ok : ∀ k, k < 0 → parseFieldDescriptor (TX10 k).2.2.1 = some (tyX10 k) := by decide +kernel
def RJ9 : String := "java/lang/Math"
def TJ9 : u_T := fun k => match k with
  | _ => ("", "", "", false)
def tyJ9 : Nat → FieldType := fun k => match k with
  | _ => .int
abbrev wsJ90 : List Cond := u_ws RJ9 TJ9 0
theorem nmJ9 : ∀ a, a < 0 → ∀ b, b < 0 → a ≠ b → (TJ9 a).2.1 ≠ (TJ9 b).2.1 := by decide +kernel
theorem tyJ9_ok : ∀ k, k < 0 → parseFieldDescriptor (TJ9 k).2.2.1 = some (tyJ9 k) := by decide +kernel
def RJ0 : String := "java/lang/String"
def TJ0 : u_T := fun k => match k with
  | _ => ("", "", "", false)
def tyJ0 : Nat → FieldType := fun k => match k with
  | _ => .int
abbrev wsJ00 : List Cond := u_ws RJ0 TJ0 0
theorem nmJ0 : ∀ a, a < 0 → ∀ b, b < 0 → a ≠ b → (TJ0 a).2.1 ≠ (TJ0 b).2.1 := by decide +kernel
theorem tyJ0_ok : ∀ k, k < 0 → parseFieldDescriptor (TJ0 k).2.2.1 = some (tyJ0 k) := by decide +kernel
def RL : String := "PressSuiteLaw"
abbrev cL_put : ByteArray := method_3_code
def yL_put : MethodName := ⟨RL, "put", "(LPressSuite;IJI)I"⟩
abbrev cL_law : ByteArray := code
def yL_law : MethodName := ⟨RL, "law", "([I)Z"⟩
end
section
def TXM : u_T := fun k => match k with
  | 0 => ("PressSuiteModel", "thrown", "I", false)
  | 1 => ("PressSuiteModel", "bytes", "[I", true)
  | 2 => ("PressSuiteModel", "sizes", "[I", true)
  | 3 => ("PressSuiteModel", "matches", "I", false)
  | 4 => ("PressSuiteModel", "copied", "I", false)
  | 5 => ("PressSuiteModel", "history", "[I", true)
  | 6 => ("PressSuiteModel", "begin", "I", false)
  | 7 => ("PressSuiteModel", "end", "I", false)
  | 8 => ("PressSuiteModel", "table", "[I", true)
  | 9 => ("PressSuiteModel", "out", "I", false)
  | 10 => ("PressSuiteModel", "at", "I", false)
  | _ => ("PressSuiteModel", "fault", "I", false)
def tyXM : Nat → FieldType := fun k => match k with
  | 0 => .int
  | 1 => .array .int
  | 2 => .array .int
  | 3 => .int
  | 4 => .int
  | 5 => .array .int
  | 6 => .int
  | 7 => .int
  | 8 => .array .int
  | 9 => .int
  | 10 => .int
  | _ => .int
theorem nmXM : ∀ a, a < 12 → ∀ b, b < 12 → a ≠ b → (TXM a).2.1 ≠ (TXM b).2.1 := by decide +kernel
theorem tyXM_ok : ∀ k, k < 12 → parseFieldDescriptor (TXM k).2.2.1 = some (tyXM k) := by decide +kernel
abbrev zCl : List vw_C := [(RX0, TX0, 6), (RX1, TX1, 2), (RX2, TX2, 2), (RX3, TX3, 7), (RX5, TX5, 2), (RX6, TX6, 5), (RX7, TX7, 2), (RX9, TX9, 9), (RX10, TXM, 12)]
def AW : List Cond := lw_tbl.filter goodWord
theorem aw_good : ∀ w ∈ AW, (w.onTables && w.keeps) = true ∨ ∃ ty, w = .arrayClass ty := fun w h => good_of_word (List.mem_filter.mp h).2
theorem aw_tbl : ∀ w ∈ AW, w ∈ lw_tbl := fun w h => (List.mem_filter.mp h).1
theorem aw_of {w : Cond} (i : Nat) (h : lw_tbl[i]? = some w) (g : goodWord w = true) : w ∈ AW := List.mem_filter.mpr ⟨List.mem_of_getElem? h, g⟩
def nestW (w : Cond) : Bool := match w with
  | .fieldLinkNest _ _ _ _ _ _ => true
  | .declares _ => true
  | _ => false
def NW : List Cond := lw_tbl.filter nestW
theorem nw_of {w : Cond} (i : Nat) (h : lw_tbl[i]? = some w) (g : nestW w = true) : w ∈ NW := List.mem_filter.mpr ⟨List.mem_of_getElem? h, g⟩
def NK (U : State) : Prop := ∀ w ∈ NW, va_Nw w U
theorem NK_warm {s U : State} (hW : s.WarmedH U.vm) (h : NK s) : NK U := by
  intro w hw
  have h1 := h w hw
  have h2 := (List.mem_filter.mp hw).2
  cases w <;> simp only [nestW] at h2 <;> first | exact va_Nw.warmF hW h1 | exact va_Nw.warmD hW h1 | cases h2
theorem NK_same {u U : State} (hv : u.vm = U.vm) (h : NK u) : NK U := by
  intro w hw
  have h1 := h w hw
  have h2 := (List.mem_filter.mp hw).2
  cases w <;> simp only [nestW] at h2 <;> first | exact va_Nw.same rfl hv h1 | cases h2
theorem NK_of {b : Nat} {s : State} (h : ∀ w ∈ lw_tbl, w.before #[Value.ref b] s = true) : NK s := by
  intro w hw
  have h1 := h w (List.mem_filter.mp hw).1
  have h2 := (List.mem_filter.mp hw).2
  cases w <;> simp only [nestW] at h2 <;> first | exact va_Nw.of rfl h1 | cases h2
abbrev zc_ER_init : ByteArray := prog_2_method_1_code
def zy_ER_init : MethodName := ⟨RX0, "<init>", "(LPressSuite$Row;LPressSuite$Row;LPressSuite$Row;)V"⟩
abbrev zw_ER_init : List Cond := .code zy_ER_init zc_ER_init 4 none :: AW
abbrev zc_ER_readAll : ByteArray := prog_2_method_2_code
def zy_ER_readAll : MethodName := ⟨RX0, "readAll", "()V"⟩
abbrev zw_ER_readAll : List Cond := .code zy_ER_readAll zc_ER_readAll 2 none :: AW
abbrev zc_ER_takeSize : ByteArray := prog_2_method_3_code
def zy_ER_takeSize : MethodName := ⟨RX0, "takeSize", "()I"⟩
abbrev zw_ER_takeSize : List Cond := .code zy_ER_takeSize zc_ER_takeSize 4 (some .int) :: AW
abbrev zc_ER_readElement : ByteArray := prog_2_method_4_code
def zy_ER_readElement : MethodName := ⟨RX0, "readElement", "()V"⟩
abbrev zw_ER_readElement : List Cond := .code zy_ER_readElement zc_ER_readElement 3 none :: AW
abbrev zc_ER_readLiterals : ByteArray := prog_2_method_5_code
def zy_ER_readLiterals : MethodName := ⟨RX0, "readLiterals", "(II)V"⟩
abbrev zw_ER_readLiterals : List Cond := .code zy_ER_readLiterals zc_ER_readLiterals 4 none :: AW
abbrev zc_ER_readShortCopy : ByteArray := prog_2_method_6_code
def zy_ER_readShortCopy : MethodName := ⟨RX0, "readShortCopy", "(II)V"⟩
abbrev zw_ER_readShortCopy : List Cond := .code zy_ER_readShortCopy zc_ER_readShortCopy 5 none :: AW
abbrev zc_ER_readLongCopy : ByteArray := prog_2_method_7_code
def zy_ER_readLongCopy : MethodName := ⟨RX0, "readLongCopy", "(II)V"⟩
abbrev zw_ER_readLongCopy : List Cond := .code zy_ER_readLongCopy zc_ER_readLongCopy 5 none :: AW
abbrev zc_EW_init : ByteArray := prog_3_method_1_code
def zy_EW_init : MethodName := ⟨RX1, "<init>", "(LPressSuite$Row;LPressSuite$Row;)V"⟩
abbrev zw_EW_init : List Cond := .code zy_EW_init zc_EW_init 3 none :: AW
abbrev zc_EW_begin : ByteArray := prog_3_method_2_code
def zy_EW_begin : MethodName := ⟨RX1, "begin", "()V"⟩
abbrev zw_EW_begin : List Cond := .code zy_EW_begin zc_EW_begin 2 none :: AW
abbrev zc_EW_match : ByteArray := prog_3_method_3_code
def zy_EW_match : MethodName := ⟨RX1, "match", "(IIII)V"⟩
abbrev zw_EW_match : List Cond := .code zy_EW_match zc_EW_match 6 none :: AW
abbrev zc_EW_end : ByteArray := prog_3_method_4_code
def zy_EW_end : MethodName := ⟨RX1, "end", "(I)V"⟩
abbrev zw_EW_end : List Cond := .code zy_EW_end zc_EW_end 2 none :: AW
abbrev zc_EW_writeLiterals : ByteArray := prog_3_method_5_code
def zy_EW_writeLiterals : MethodName := ⟨RX1, "writeLiterals", "(II)V"⟩
abbrev zw_EW_writeLiterals : List Cond := .code zy_EW_writeLiterals zc_EW_writeLiterals 4 none :: AW
abbrev zc_EW_writeCopy : ByteArray := prog_3_method_6_code
def zy_EW_writeCopy : MethodName := ⟨RX1, "writeCopy", "(II)V"⟩
abbrev zw_EW_writeCopy : List Cond := .code zy_EW_writeCopy zc_EW_writeCopy 3 none :: AW
abbrev zc_EW_writeLong : ByteArray := prog_3_method_7_code
def zy_EW_writeLong : MethodName := ⟨RX1, "writeLong", "(II)V"⟩
abbrev zw_EW_writeLong : List Cond := .code zy_EW_writeLong zc_EW_writeLong 3 none :: AW
abbrev zc_H_init : ByteArray := prog_4_method_1_code
def zy_H_init : MethodName := ⟨RX2, "<init>", "(LPressSuite$Row;LPressSuite$Row;)V"⟩
abbrev zw_H_init : List Cond := .code zy_H_init zc_H_init 3 none :: AW
abbrev zc_H_length : ByteArray := prog_4_method_2_code
def zy_H_length : MethodName := ⟨RX2, "length", "()I"⟩
abbrev zw_H_length : List Cond := .code zy_H_length zc_H_length 1 (some .int) :: AW
abbrev zc_H_byteAt : ByteArray := prog_4_method_3_code
def zy_H_byteAt : MethodName := ⟨RX2, "byteAt", "(I)I"⟩
abbrev zw_H_byteAt : List Cond := .code zy_H_byteAt zc_H_byteAt 2 (some .int) :: AW
abbrev zc_H_intAt : ByteArray := prog_4_method_4_code
def zy_H_intAt : MethodName := ⟨RX2, "intAt", "(I)I"⟩
abbrev zw_H_intAt : List Cond := .code zy_H_intAt zc_H_intAt 2 (some .int) :: AW
abbrev zc_P_init : ByteArray := prog_5_method_1_code
def zy_P_init : MethodName := ⟨RX3, "<init>", "(LPressSuite$Row;LPressSuite$Row;)V"⟩
abbrev zw_P_init : List Cond := .code zy_P_init zc_P_init 3 none :: AW
abbrev zc_P_run : ByteArray := prog_5_method_2_code
def zy_P_run : MethodName := ⟨RX3, "run", "(LPressSuite$Writer;)V"⟩
abbrev zw_P_run : List Cond := .code zy_P_run zc_P_run 3 none :: AW
abbrev zc_P_learnPast : ByteArray := prog_5_method_3_code
def zy_P_learnPast : MethodName := ⟨RX3, "learnPast", "()V"⟩
abbrev zw_P_learnPast : List Cond := .code zy_P_learnPast zc_P_learnPast 2 none :: AW
abbrev zc_P_copyFrom : ByteArray := prog_5_method_4_code
def zy_P_copyFrom : MethodName := ⟨RX3, "copyFrom", "(ILPressSuite$Writer;)I"⟩
abbrev zw_P_copyFrom : List Cond := .code zy_P_copyFrom zc_P_copyFrom 6 (some .int) :: AW
abbrev zc_P_matchLength : ByteArray := prog_5_method_5_code
def zy_P_matchLength : MethodName := ⟨RX3, "matchLength", "(II)I"⟩
abbrev zw_P_matchLength : List Cond := .code zy_P_matchLength zc_P_matchLength 5 (some .int) :: AW
abbrev zc_P_exchange : ByteArray := prog_5_method_6_code
def zy_P_exchange : MethodName := ⟨RX3, "exchange", "(I)I"⟩
abbrev zw_P_exchange : List Cond := .code zy_P_exchange zc_P_exchange 4 (some .int) :: AW
abbrev zc_D_init : ByteArray := prog_6_method_1_code
def zy_D_init : MethodName := ⟨RX4, "<init>", "(LPressSuite$Row;LPressSuite$Row;LPressSuite$Row;)V"⟩
abbrev zw_D_init : List Cond := .code zy_D_init zc_D_init 4 none :: AW
abbrev zc_D_rewind : ByteArray := prog_6_method_3_code
def zy_D_rewind : MethodName := ⟨RX4, "rewind", "()V"⟩
abbrev zw_D_rewind : List Cond := .code zy_D_rewind zc_D_rewind 1 none :: AW
abbrev zc_D_refused : ByteArray := prog_6_method_4_code
def zy_D_refused : MethodName := ⟨RX4, "refused", "()Z"⟩
abbrev zw_D_refused : List Cond := .code zy_D_refused zc_D_refused 1 (some .boolean) :: AW
abbrev zc_D_atEnd : ByteArray := prog_6_method_5_code
def zy_D_atEnd : MethodName := ⟨RX4, "atEnd", "()Z"⟩
abbrev zw_D_atEnd : List Cond := .code zy_D_atEnd zc_D_atEnd 1 (some .boolean) :: AW
abbrev zc_D_refuseIf : ByteArray := prog_6_method_6_code
def zy_D_refuseIf : MethodName := ⟨RX4, "refuseIf", "(ZI)V"⟩
abbrev zw_D_refuseIf : List Cond := .code zy_D_refuseIf zc_D_refuseIf 3 none :: AW
abbrev zc_D_take : ByteArray := prog_6_method_7_code
def zy_D_take : MethodName := ⟨RX4, "take", "()I"⟩
abbrev zw_D_take : List Cond := .code zy_D_take zc_D_take 2 (some .int) :: AW
abbrev zc_D_takeTwo : ByteArray := prog_6_method_8_code
def zy_D_takeTwo : MethodName := ⟨RX4, "takeTwo", "()I"⟩
abbrev zw_D_takeTwo : List Cond := .code zy_D_takeTwo zc_D_takeTwo 2 (some .int) :: AW
abbrev zc_D_requireDistance : ByteArray := prog_6_method_9_code
def zy_D_requireDistance : MethodName := ⟨RX4, "requireDistance", "(II)V"⟩
abbrev zw_D_requireDistance : List Cond := .code zy_D_requireDistance zc_D_requireDistance 3 none :: AW
abbrev zc_D_requireRoom : ByteArray := prog_6_method_10_code
def zy_D_requireRoom : MethodName := ⟨RX4, "requireRoom", "(III)V"⟩
abbrev zw_D_requireRoom : List Cond := .code zy_D_requireRoom zc_D_requireRoom 4 none :: AW
abbrev zc_D_copyLiterals : ByteArray := prog_6_method_11_code
def zy_D_copyLiterals : MethodName := ⟨RX4, "copyLiterals", "(I)V"⟩
abbrev zw_D_copyLiterals : List Cond := .code zy_D_copyLiterals zc_D_copyLiterals 3 none :: AW
abbrev zc_D_copyBack : ByteArray := prog_6_method_12_code
def zy_D_copyBack : MethodName := ⟨RX4, "copyBack", "(II)V"⟩
abbrev zw_D_copyBack : List Cond := .code zy_D_copyBack zc_D_copyBack 4 none :: AW
abbrev zc_R_init : ByteArray := prog_7_method_1_code
def zy_R_init : MethodName := ⟨RX5, "<init>", "(I)V"⟩
abbrev zw_R_init : List Cond := .code zy_R_init zc_R_init 2 none :: AW
abbrev zc_R_room : ByteArray := prog_7_method_2_code
def zy_R_room : MethodName := ⟨RX5, "room", "()I"⟩
abbrev zw_R_room : List Cond := .code zy_R_room zc_R_room 1 (some .int) :: AW
abbrev zc_R_add : ByteArray := prog_7_method_3_code
def zy_R_add : MethodName := ⟨RX5, "add", "(I)V"⟩
abbrev zw_R_add : List Cond := .code zy_R_add zc_R_add 2 none :: AW
abbrev zc_R_clear : ByteArray := prog_7_method_4_code
def zy_R_clear : MethodName := ⟨RX5, "clear", "()V"⟩
abbrev zw_R_clear : List Cond := .code zy_R_clear zc_R_clear 1 none :: AW
abbrev zc_R_byteAt : ByteArray := prog_7_method_5_code
def zy_R_byteAt : MethodName := ⟨RX5, "byteAt", "(I)I"⟩
abbrev zw_R_byteAt : List Cond := .code zy_R_byteAt zc_R_byteAt 2 (some .int) :: AW
abbrev zc_R_intAt : ByteArray := prog_7_method_6_code
def zy_R_intAt : MethodName := ⟨RX5, "intAt", "(I)I"⟩
abbrev zw_R_intAt : List Cond := .code zy_R_intAt zc_R_intAt 2 (some .int) :: AW
abbrev zc_R_become : ByteArray := prog_7_method_7_code
def zy_R_become : MethodName := ⟨RX5, "become", "(LPressSuite$Row;)V"⟩
abbrev zw_R_become : List Cond := .code zy_R_become zc_R_become 3 none :: AW
abbrev zc_SR_init : ByteArray := prog_8_method_1_code
def zy_SR_init : MethodName := ⟨RX6, "<init>", "(LPressSuite$Row;LPressSuite$Row;LPressSuite$Row;)V"⟩
abbrev zw_SR_init : List Cond := .code zy_SR_init zc_SR_init 4 none :: AW
abbrev zc_SR_readAll : ByteArray := prog_8_method_2_code
def zy_SR_readAll : MethodName := ⟨RX6, "readAll", "()V"⟩
abbrev zw_SR_readAll : List Cond := .code zy_SR_readAll zc_SR_readAll 3 none :: AW
abbrev zc_SR_readSequence : ByteArray := prog_8_method_3_code
def zy_SR_readSequence : MethodName := ⟨RX6, "readSequence", "()Z"⟩
abbrev zw_SR_readSequence : List Cond := .code zy_SR_readSequence zc_SR_readSequence 7 (some .boolean) :: AW
abbrev zc_SR_takeSum : ByteArray := prog_8_method_4_code
def zy_SR_takeSum : MethodName := ⟨RX6, "takeSum", "(I)I"⟩
abbrev zw_SR_takeSum : List Cond := .code zy_SR_takeSum zc_SR_takeSum 5 (some .int) :: AW
abbrev zc_SW_init : ByteArray := prog_9_method_1_code
def zy_SW_init : MethodName := ⟨RX7, "<init>", "(LPressSuite$Row;LPressSuite$Row;)V"⟩
abbrev zw_SW_init : List Cond := .code zy_SW_init zc_SW_init 3 none :: AW
abbrev zc_SW_begin : ByteArray := prog_9_method_2_code
def zy_SW_begin : MethodName := ⟨RX7, "begin", "()V"⟩
abbrev zw_SW_begin : List Cond := .code zy_SW_begin zc_SW_begin 1 none :: AW
abbrev zc_SW_match : ByteArray := prog_9_method_3_code
def zy_SW_match : MethodName := ⟨RX7, "match", "(IIII)V"⟩
abbrev zw_SW_match : List Cond := .code zy_SW_match zc_SW_match 6 none :: AW
abbrev zc_SW_end : ByteArray := prog_9_method_4_code
def zy_SW_end : MethodName := ⟨RX7, "end", "(I)V"⟩
abbrev zw_SW_end : List Cond := .code zy_SW_end zc_SW_end 2 none :: AW
abbrev zc_SW_writeLiterals : ByteArray := prog_9_method_5_code
def zy_SW_writeLiterals : MethodName := ⟨RX7, "writeLiterals", "(III)V"⟩
abbrev zw_SW_writeLiterals : List Cond := .code zy_SW_writeLiterals zc_SW_writeLiterals 5 none :: AW
abbrev zc_SW_writeSum : ByteArray := prog_9_method_6_code
def zy_SW_writeSum : MethodName := ⟨RX7, "writeSum", "(I)V"⟩
abbrev zw_SW_writeSum : List Cond := .code zy_SW_writeSum zc_SW_writeSum 3 none :: AW
abbrev zc_W_init : ByteArray := prog_10_method_1_code
def zy_W_init : MethodName := ⟨RX8, "<init>", "(LPressSuite$Row;LPressSuite$Row;)V"⟩
abbrev zw_W_init : List Cond := .code zy_W_init zc_W_init 3 none :: AW
abbrev zc_W_writePlain : ByteArray := prog_10_method_5_code
def zy_W_writePlain : MethodName := ⟨RX8, "writePlain", "(II)V"⟩
abbrev zw_W_writePlain : List Cond := .code zy_W_writePlain zc_W_writePlain 4 none :: AW
abbrev zc_X_init : ByteArray := prog_1_method_1_code
def zy_X_init : MethodName := ⟨RX9, "<init>", "()V"⟩
abbrev zw_X_init : List Cond := .code zy_X_init zc_X_init 1 none :: AW
abbrev zc_X_put : ByteArray := prog_1_method_2_code
def zy_X_put : MethodName := ⟨RX9, "put", "(IJI)V"⟩
abbrev zw_X_put : List Cond := .code zy_X_put zc_X_put 7 none :: AW
abbrev zc_X_empty : ByteArray := prog_1_method_3_code
def zy_X_empty : MethodName := ⟨RX9, "empty", "(I)I"⟩
abbrev zw_X_empty : List Cond := .code zy_X_empty zc_X_empty 4 (some .int) :: AW
abbrev zc_X_pack : ByteArray := prog_1_method_4_code
def zy_X_pack : MethodName := ⟨RX9, "pack", "(I)I"⟩
abbrev zw_X_pack : List Cond := .code zy_X_pack zc_X_pack 2 (some .int) :: AW
abbrev zc_X_unpack : ByteArray := prog_1_method_5_code
def zy_X_unpack : MethodName := ⟨RX9, "unpack", "(I)I"⟩
abbrev zw_X_unpack : List Cond := .code zy_X_unpack zc_X_unpack 3 (some .int) :: AW
abbrev zc_X_size : ByteArray := prog_1_method_6_code
def zy_X_size : MethodName := ⟨RX9, "size", "(I)I"⟩
abbrev zw_X_size : List Cond := .code zy_X_size zc_X_size 2 (some .int) :: AW
abbrev zc_X_get : ByteArray := prog_1_method_7_code
def zy_X_get : MethodName := ⟨RX9, "get", "(II)I"⟩
abbrev zw_X_get : List Cond := .code zy_X_get zc_X_get 4 (some .int) :: AW
abbrev zc_X_found : ByteArray := prog_1_method_8_code
def zy_X_found : MethodName := ⟨RX9, "found", "(I)I"⟩
abbrev zw_X_found : List Cond := .code zy_X_found zc_X_found 2 (some .int) :: AW
abbrev zc_X_crc : ByteArray := prog_1_method_9_code
def zy_X_crc : MethodName := ⟨RX9, "crc", "(I)I"⟩
abbrev zw_X_crc : List Cond := .code zy_X_crc zc_X_crc 5 (some .int) :: AW
abbrev zc_X_hash : ByteArray := prog_1_method_10_code
def zy_X_hash : MethodName := ⟨RX9, "hash", "(II)I"⟩
abbrev zw_X_hash : List Cond := .code zy_X_hash zc_X_hash 5 (some .int) :: AW
abbrev zc_X_rowOf : ByteArray := prog_1_method_11_code
def zy_X_rowOf : MethodName := ⟨RX9, "rowOf", "(I)LPressSuite$Row;"⟩
abbrev zw_X_rowOf : List Cond := .code zy_X_rowOf zc_X_rowOf 2 (some (.object "PressSuite$Row")) :: AW
abbrev zc_X_requireFormat : ByteArray := prog_1_method_12_code
def zy_X_requireFormat : MethodName := ⟨RX9, "requireFormat", "(I)V"⟩
abbrev zw_X_requireFormat : List Cond := .code zy_X_requireFormat zc_X_requireFormat 1 none :: AW
abbrev zc_X_crcStep : ByteArray := prog_1_method_13_code
def zy_X_crcStep : MethodName := ⟨RX9, "crcStep", "(I)I"⟩
abbrev zw_X_crcStep : List Cond := .code zy_X_crcStep zc_X_crcStep 3 (some .int) :: AW
abbrev zc_X_mixLanes : ByteArray := prog_1_method_14_code
def zy_X_mixLanes : MethodName := ⟨RX9, "mixLanes", "(LPressSuite$Row;I)I"⟩
abbrev zw_X_mixLanes : List Cond := .code zy_X_mixLanes zc_X_mixLanes 2 (some .int) :: AW
abbrev zc_X_lane : ByteArray := prog_1_method_15_code
def zy_X_lane : MethodName := ⟨RX9, "lane", "(LPressSuite$Row;II)I"⟩
abbrev zw_X_lane : List Cond := .code zy_X_lane zc_X_lane 5 (some .int) :: AW
abbrev zc_X_mixRest : ByteArray := prog_1_method_16_code
def zy_X_mixRest : MethodName := ⟨RX9, "mixRest", "(LPressSuite$Row;I)I"⟩
abbrev zw_X_mixRest : List Cond := .code zy_X_mixRest zc_X_mixRest 5 (some .int) :: AW
abbrev zc_X_finish : ByteArray := prog_1_method_17_code
def zy_X_finish : MethodName := ⟨RX9, "finish", "(I)I"⟩
abbrev zw_X_finish : List Cond := .code zy_X_finish zc_X_finish 2 (some .int) :: AW
abbrev zc_X_turnLeft : ByteArray := prog_1_method_18_code
def zy_X_turnLeft : MethodName := ⟨RX9, "turnLeft", "(II)I"⟩
abbrev zw_X_turnLeft : List Cond := .code zy_X_turnLeft zc_X_turnLeft 2 (some .int) :: AW
abbrev zc_L_put : ByteArray := method_3_code
def zy_L_put : MethodName := ⟨RL, "put", "(LPressSuite;IJI)I"⟩
abbrev zw_L_put : List Cond := .code zy_L_put zc_L_put 6 (some .int) :: AW
abbrev zc_L_empty : ByteArray := method_4_code
def zy_L_empty : MethodName := ⟨RL, "empty", "(LPressSuite;I[J)I"⟩
abbrev zw_L_empty : List Cond := .code zy_L_empty zc_L_empty 4 (some .int) :: AW
abbrev zc_L_pack : ByteArray := method_5_code
def zy_L_pack : MethodName := ⟨RL, "pack", "(LPressSuite;I[J)I"⟩
abbrev zw_L_pack : List Cond := .code zy_L_pack zc_L_pack 4 (some .int) :: AW
abbrev zc_L_unpack : ByteArray := method_6_code
def zy_L_unpack : MethodName := ⟨RL, "unpack", "(LPressSuite;I[J)I"⟩
abbrev zw_L_unpack : List Cond := .code zy_L_unpack zc_L_unpack 4 (some .int) :: AW
abbrev zc_L_size : ByteArray := method_7_code
def zy_L_size : MethodName := ⟨RL, "size", "(LPressSuite;I[J)I"⟩
abbrev zw_L_size : List Cond := .code zy_L_size zc_L_size 4 (some .int) :: AW
abbrev zc_L_get : ByteArray := method_8_code
def zy_L_get : MethodName := ⟨RL, "get", "(LPressSuite;II[J)I"⟩
abbrev zw_L_get : List Cond := .code zy_L_get zc_L_get 5 (some .int) :: AW
abbrev zc_L_found : ByteArray := method_9_code
def zy_L_found : MethodName := ⟨RL, "found", "(LPressSuite;I[J)I"⟩
abbrev zw_L_found : List Cond := .code zy_L_found zc_L_found 4 (some .int) :: AW
abbrev zc_L_crc : ByteArray := method_10_code
def zy_L_crc : MethodName := ⟨RL, "crc", "(LPressSuite;I[J)I"⟩
abbrev zw_L_crc : List Cond := .code zy_L_crc zc_L_crc 4 (some .int) :: AW
abbrev zc_L_hash : ByteArray := method_11_code
def zy_L_hash : MethodName := ⟨RL, "hash", "(LPressSuite;II[J)I"⟩
abbrev zw_L_hash : List Cond := .code zy_L_hash zc_L_hash 5 (some .int) :: AW
abbrev zc_L_law : ByteArray := code
def zy_L_law : MethodName := ⟨RL, "law", "([I)Z"⟩
abbrev zw_L_law : List Cond := .code zy_L_law zc_L_law 7 (some .boolean) :: AW
abbrev zc_M_init : ByteArray := prog_12_method_1_code
def zy_M_init : MethodName := ⟨RX10, "<init>", "()V"⟩
abbrev zw_M_init : List Cond := .code zy_M_init zc_M_init 1 none :: AW
abbrev zc_M_thrown : ByteArray := prog_12_method_2_code
def zy_M_thrown : MethodName := ⟨RX10, "thrown", "()I"⟩
abbrev zw_M_thrown : List Cond := .code zy_M_thrown zc_M_thrown 1 (some .int) :: AW
abbrev zc_M_fails : ByteArray := prog_12_method_3_code
def zy_M_fails : MethodName := ⟨RX10, "fails", "(ZZ)Z"⟩
abbrev zw_M_fails : List Cond := .code zy_M_fails zc_M_fails 3 (some .boolean) :: AW
abbrev zc_M_isRow : ByteArray := prog_12_method_4_code
def zy_M_isRow : MethodName := ⟨RX10, "isRow", "(I)Z"⟩
abbrev zw_M_isRow : List Cond := .code zy_M_isRow zc_M_isRow 1 (some .boolean) :: AW
abbrev zc_M_most : ByteArray := prog_12_method_5_code
def zy_M_most : MethodName := ⟨RX10, "most", "(I)I"⟩
abbrev zw_M_most : List Cond := .code zy_M_most zc_M_most 1 (some .int) :: AW
abbrev zc_M_put : ByteArray := prog_12_method_6_code
def zy_M_put : MethodName := ⟨RX10, "put", "(IJI)V"⟩
abbrev zw_M_put : List Cond := .code zy_M_put zc_M_put 7 none :: AW
abbrev zc_M_empty : ByteArray := prog_12_method_7_code
def zy_M_empty : MethodName := ⟨RX10, "empty", "(I)I"⟩
abbrev zw_M_empty : List Cond := .code zy_M_empty zc_M_empty 3 (some .int) :: AW
abbrev zc_M_size : ByteArray := prog_12_method_8_code
def zy_M_size : MethodName := ⟨RX10, "size", "(I)I"⟩
abbrev zw_M_size : List Cond := .code zy_M_size zc_M_size 2 (some .int) :: AW
abbrev zc_M_get : ByteArray := prog_12_method_9_code
def zy_M_get : MethodName := ⟨RX10, "get", "(II)I"⟩
abbrev zw_M_get : List Cond := .code zy_M_get zc_M_get 4 (some .int) :: AW
abbrev zc_M_found : ByteArray := prog_12_method_10_code
def zy_M_found : MethodName := ⟨RX10, "found", "(I)I"⟩
abbrev zw_M_found : List Cond := .code zy_M_found zc_M_found 2 (some .int) :: AW
abbrev zc_M_four : ByteArray := prog_12_method_11_code
def zy_M_four : MethodName := ⟨RX10, "four", "(IIII)I"⟩
abbrev zw_M_four : List Cond := .code zy_M_four zc_M_four 4 (some .int) :: AW
abbrev zc_M_intAt : ByteArray := prog_12_method_12_code
def zy_M_intAt : MethodName := ⟨RX10, "intAt", "(I)I"⟩
abbrev zw_M_intAt : List Cond := .code zy_M_intAt zc_M_intAt 2 (some .int) :: AW
abbrev zc_M_slot : ByteArray := prog_12_method_13_code
def zy_M_slot : MethodName := ⟨RX10, "slot", "(I)I"⟩
abbrev zw_M_slot : List Cond := .code zy_M_slot zc_M_slot 2 (some .int) :: AW
abbrev zc_M_remembers : ByteArray := prog_12_method_14_code
def zy_M_remembers : MethodName := ⟨RX10, "remembers", "()V"⟩
abbrev zw_M_remembers : List Cond := .code zy_M_remembers zc_M_remembers 2 none :: AW
abbrev zc_M_emit : ByteArray := prog_12_method_15_code
def zy_M_emit : MethodName := ⟨RX10, "emit", "(I)V"⟩
abbrev zw_M_emit : List Cond := .code zy_M_emit zc_M_emit 2 none :: AW
abbrev zc_M_emitLiterals : ByteArray := prog_12_method_16_code
def zy_M_emitLiterals : MethodName := ⟨RX10, "emitLiterals", "(II)V"⟩
abbrev zw_M_emitLiterals : List Cond := .code zy_M_emitLiterals zc_M_emitLiterals 4 none :: AW
abbrev zc_M_emitMore : ByteArray := prog_12_method_17_code
def zy_M_emitMore : MethodName := ⟨RX10, "emitMore", "(I)V"⟩
abbrev zw_M_emitMore : List Cond := .code zy_M_emitMore zc_M_emitMore 3 none :: AW
abbrev zc_M_atMost15 : ByteArray := prog_12_method_18_code
def zy_M_atMost15 : MethodName := ⟨RX10, "atMost15", "(I)I"⟩
abbrev zw_M_atMost15 : List Cond := .code zy_M_atMost15 zc_M_atMost15 1 (some .int) :: AW
abbrev zc_M_sequence : ByteArray := prog_12_method_19_code
def zy_M_sequence : MethodName := ⟨RX10, "sequence", "(IIII)V"⟩
abbrev zw_M_sequence : List Cond := .code zy_M_sequence zc_M_sequence 6 none :: AW
abbrev zc_M_lastSequence : ByteArray := prog_12_method_20_code
def zy_M_lastSequence : MethodName := ⟨RX10, "lastSequence", "(II)V"⟩
abbrev zw_M_lastSequence : List Cond := .code zy_M_lastSequence zc_M_lastSequence 3 none :: AW
abbrev zc_M_literalElement : ByteArray := prog_12_method_21_code
def zy_M_literalElement : MethodName := ⟨RX10, "literalElement", "(II)V"⟩
abbrev zw_M_literalElement : List Cond := .code zy_M_literalElement zc_M_literalElement 4 none :: AW
abbrev zc_M_copyElement : ByteArray := prog_12_method_22_code
def zy_M_copyElement : MethodName := ⟨RX10, "copyElement", "(II)V"⟩
abbrev zw_M_copyElement : List Cond := .code zy_M_copyElement zc_M_copyElement 3 none :: AW
abbrev zc_M_copyElements : ByteArray := prog_12_method_23_code
def zy_M_copyElements : MethodName := ⟨RX10, "copyElements", "(II)V"⟩
abbrev zw_M_copyElements : List Cond := .code zy_M_copyElements zc_M_copyElements 4 none :: AW
abbrev zc_M_same : ByteArray := prog_12_method_24_code
def zy_M_same : MethodName := ⟨RX10, "same", "(II)I"⟩
abbrev zw_M_same : List Cond := .code zy_M_same zc_M_same 4 (some .int) :: AW
abbrev zc_M_packs : ByteArray := prog_12_method_25_code
def zy_M_packs : MethodName := ⟨RX10, "packs", "(I)V"⟩
abbrev zw_M_packs : List Cond := .code zy_M_packs zc_M_packs 7 none :: AW
abbrev zc_M_pack : ByteArray := prog_12_method_26_code
def zy_M_pack : MethodName := ⟨RX10, "pack", "(I)I"⟩
abbrev zw_M_pack : List Cond := .code zy_M_pack zc_M_pack 3 (some .int) :: AW
abbrev zc_M_need : ByteArray := prog_12_method_27_code
def zy_M_need : MethodName := ⟨RX10, "need", "(ZI)V"⟩
abbrev zw_M_need : List Cond := .code zy_M_need zc_M_need 3 none :: AW
abbrev zc_M_next : ByteArray := prog_12_method_28_code
def zy_M_next : MethodName := ⟨RX10, "next", "()I"⟩
abbrev zw_M_next : List Cond := .code zy_M_next zc_M_next 1 (some .int) :: AW
abbrev zc_M_made : ByteArray := prog_12_method_29_code
def zy_M_made : MethodName := ⟨RX10, "made", "()I"⟩
abbrev zw_M_made : List Cond := .code zy_M_made zc_M_made 1 (some .int) :: AW
abbrev zc_M_literals : ByteArray := prog_12_method_30_code
def zy_M_literals : MethodName := ⟨RX10, "literals", "(I)V"⟩
abbrev zw_M_literals : List Cond := .code zy_M_literals zc_M_literals 4 none :: AW
abbrev zc_M_copies : ByteArray := prog_12_method_31_code
def zy_M_copies : MethodName := ⟨RX10, "copies", "(II)V"⟩
abbrev zw_M_copies : List Cond := .code zy_M_copies zc_M_copies 4 none :: AW
abbrev zc_M_more : ByteArray := prog_12_method_32_code
def zy_M_more : MethodName := ⟨RX10, "more", "(I)I"⟩
abbrev zw_M_more : List Cond := .code zy_M_more zc_M_more 4 (some .int) :: AW
abbrev zc_M_readZero : ByteArray := prog_12_method_33_code
def zy_M_readZero : MethodName := ⟨RX10, "readZero", "()V"⟩
abbrev zw_M_readZero : List Cond := .code zy_M_readZero zc_M_readZero 9 none :: AW
abbrev zc_M_element : ByteArray := prog_12_method_34_code
def zy_M_element : MethodName := ⟨RX10, "element", "(I)V"⟩
abbrev zw_M_element : List Cond := .code zy_M_element zc_M_element 8 none :: AW
abbrev zc_M_readOne : ByteArray := prog_12_method_35_code
def zy_M_readOne : MethodName := ⟨RX10, "readOne", "()V"⟩
abbrev zw_M_readOne : List Cond := .code zy_M_readOne zc_M_readOne 3 none :: AW
abbrev zc_M_unpack : ByteArray := prog_12_method_36_code
def zy_M_unpack : MethodName := ⟨RX10, "unpack", "(I)I"⟩
abbrev zw_M_unpack : List Cond := .code zy_M_unpack zc_M_unpack 3 (some .int) :: AW
abbrev zc_M_crc : ByteArray := prog_12_method_37_code
def zy_M_crc : MethodName := ⟨RX10, "crc", "(I)I"⟩
abbrev zw_M_crc : List Cond := .code zy_M_crc zc_M_crc 6 (some .int) :: AW
abbrev zc_M_turn : ByteArray := prog_12_method_38_code
def zy_M_turn : MethodName := ⟨RX10, "turn", "(II)I"⟩
abbrev zw_M_turn : List Cond := .code zy_M_turn zc_M_turn 2 (some .int) :: AW
abbrev zc_M_rowInt : ByteArray := prog_12_method_39_code
def zy_M_rowInt : MethodName := ⟨RX10, "rowInt", "(II)I"⟩
abbrev zw_M_rowInt : List Cond := .code zy_M_rowInt zc_M_rowInt 4 (some .int) :: AW
abbrev zc_M_lane : ByteArray := prog_12_method_40_code
def zy_M_lane : MethodName := ⟨RX10, "lane", "(III)I"⟩
abbrev zw_M_lane : List Cond := .code zy_M_lane zc_M_lane 6 (some .int) :: AW
abbrev zc_M_hash : ByteArray := prog_12_method_41_code
def zy_M_hash : MethodName := ⟨RX10, "hash", "(II)I"⟩
abbrev zw_M_hash : List Cond := .code zy_M_hash zc_M_hash 7 (some .int) :: AW
theorem aw_0 : (Cond.laysFinal RX5 "PressSuite$Row" "bytes" "[B") ∈ AW := aw_of 85 (by decide +kernel) (by decide +kernel)
theorem aw_1 : (Cond.lays RX5 "PressSuite$Row" "count" "I") ∈ AW := aw_of 87 (by decide +kernel) (by decide +kernel)
theorem aw_2 : (Cond.fieldLink RX5 7 "PressSuite$Row" "bytes" "[B") ∈ AW := aw_of 75 (by decide +kernel) (by decide +kernel)
theorem aw_3 : (Cond.fieldLink RX5 13 "PressSuite$Row" "count" "I") ∈ AW := aw_of 77 (by decide +kernel) (by decide +kernel)
theorem aw_4 : (Cond.methodLink RX5 17 zy_R_byteAt) ∈ AW := aw_of 626 (by decide +kernel) (by decide +kernel)
theorem aw_5 : (Cond.instanceMethod zy_R_byteAt) ∈ AW := aw_of 396 (by decide +kernel) (by decide +kernel)
theorem aw_6 : (Cond.selects RX5 zy_R_byteAt zy_R_byteAt) ∈ AW := aw_of 397 (by decide +kernel) (by decide +kernel)
theorem aw_7 : (Cond.initialized RX5) ∈ AW := aw_of 45 (by decide +kernel) (by decide +kernel)
theorem aw_8 : (Cond.code zy_R_byteAt zc_R_byteAt 2 (some .int)) ∈ AW := aw_of 398 (by decide +kernel) (by decide +kernel)
theorem aw_9 : (Cond.methodLink RX5 21 zy_R_clear) ∈ AW := aw_of 625 (by decide +kernel) (by decide +kernel)
theorem aw_10 : (Cond.instanceMethod zy_R_clear) ∈ AW := aw_of 361 (by decide +kernel) (by decide +kernel)
theorem aw_11 : (Cond.selects RX5 zy_R_clear zy_R_clear) ∈ AW := aw_of 362 (by decide +kernel) (by decide +kernel)
theorem aw_12 : (Cond.code zy_R_clear zc_R_clear 1 none) ∈ AW := aw_of 363 (by decide +kernel) (by decide +kernel)
theorem aw_13 : (Cond.methodLink RX5 24 zy_R_add) ∈ AW := aw_of 627 (by decide +kernel) (by decide +kernel)
theorem aw_14 : (Cond.instanceMethod zy_R_add) ∈ AW := aw_of 350 (by decide +kernel) (by decide +kernel)
theorem aw_15 : (Cond.selects RX5 zy_R_add zy_R_add) ∈ AW := aw_of 351 (by decide +kernel) (by decide +kernel)
theorem aw_16 : (Cond.code zy_R_add zc_R_add 2 none) ∈ AW := aw_of 352 (by decide +kernel) (by decide +kernel)
theorem aw_17 : (Cond.laysFinal RX2 "PressSuite$History" "past" "LPressSuite$Row;") ∈ AW := aw_of 105 (by decide +kernel) (by decide +kernel)
theorem aw_18 : (Cond.laysFinal RX2 "PressSuite$History" "plain" "LPressSuite$Row;") ∈ AW := aw_of 107 (by decide +kernel) (by decide +kernel)
theorem aw_19 : (Cond.fieldLink RX2 7 "PressSuite$History" "past" "LPressSuite$Row;") ∈ AW := aw_of 103 (by decide +kernel) (by decide +kernel)
theorem aw_20 : (Cond.fieldLink RX2 13 "PressSuite$History" "plain" "LPressSuite$Row;") ∈ AW := aw_of 104 (by decide +kernel) (by decide +kernel)
theorem aw_21 : (Cond.methodLink RX2 22 zy_R_byteAt) ∈ AW := aw_of 395 (by decide +kernel) (by decide +kernel)
theorem aw_22 : (Cond.methodLink RX2 26 zy_H_byteAt) ∈ AW := aw_of 391 (by decide +kernel) (by decide +kernel)
theorem aw_23 : (Cond.instanceMethod zy_H_byteAt) ∈ AW := aw_of 392 (by decide +kernel) (by decide +kernel)
theorem aw_24 : (Cond.selects RX2 zy_H_byteAt zy_H_byteAt) ∈ AW := aw_of 393 (by decide +kernel) (by decide +kernel)
theorem aw_25 : (Cond.initialized RX2) ∈ AW := aw_of 47 (by decide +kernel) (by decide +kernel)
theorem aw_26 : (Cond.code zy_H_byteAt zc_H_byteAt 2 (some .int)) ∈ AW := aw_of 394 (by decide +kernel) (by decide +kernel)
theorem aw_27 : (Cond.laysFinal RX3 "PressSuite$Packer" "past" "LPressSuite$Row;") ∈ AW := aw_of 119 (by decide +kernel) (by decide +kernel)
theorem aw_28 : (Cond.laysFinal RX3 "PressSuite$Packer" "plain" "LPressSuite$Row;") ∈ AW := aw_of 121 (by decide +kernel) (by decide +kernel)
theorem aw_29 : (Cond.laysFinal RX3 "PressSuite$Packer" "history" "LPressSuite$History;") ∈ AW := aw_of 123 (by decide +kernel) (by decide +kernel)
theorem aw_30 : (Cond.laysFinal RX3 "PressSuite$Packer" "table" "[I") ∈ AW := aw_of 125 (by decide +kernel) (by decide +kernel)
theorem aw_31 : (Cond.lays RX3 "PressSuite$Packer" "anchor" "I") ∈ AW := aw_of 127 (by decide +kernel) (by decide +kernel)
theorem aw_32 : (Cond.lays RX3 "PressSuite$Packer" "matches" "I") ∈ AW := aw_of 129 (by decide +kernel) (by decide +kernel)
theorem aw_33 : (Cond.lays RX3 "PressSuite$Packer" "copied" "I") ∈ AW := aw_of 131 (by decide +kernel) (by decide +kernel)
theorem aw_34 : (Cond.fieldLink RX3 29 "PressSuite$Packer" "anchor" "I") ∈ AW := aw_of 114 (by decide +kernel) (by decide +kernel)
theorem aw_35 : (Cond.fieldLink RX3 33 "PressSuite$Packer" "matches" "I") ∈ AW := aw_of 115 (by decide +kernel) (by decide +kernel)
theorem aw_36 : (Cond.fieldLink RX3 36 "PressSuite$Packer" "copied" "I") ∈ AW := aw_of 117 (by decide +kernel) (by decide +kernel)
theorem aw_37 : (Cond.fieldLink RX3 25 "PressSuite$Packer" "table" "[I") ∈ AW := aw_of 113 (by decide +kernel) (by decide +kernel)
theorem aw_38 : (Cond.fieldLink RX3 7 "PressSuite$Packer" "past" "LPressSuite$Row;") ∈ AW := aw_of 110 (by decide +kernel) (by decide +kernel)
theorem aw_39 : (Cond.fieldLink RX3 21 "PressSuite$Packer" "history" "LPressSuite$History;") ∈ AW := aw_of 112 (by decide +kernel) (by decide +kernel)
theorem aw_40 : (Cond.methodLink RX3 70 zy_H_intAt) ∈ AW := aw_of 387 (by decide +kernel) (by decide +kernel)
theorem aw_41 : (Cond.instanceMethod zy_H_intAt) ∈ AW := aw_of 388 (by decide +kernel) (by decide +kernel)
theorem aw_42 : (Cond.selects RX2 zy_H_intAt zy_H_intAt) ∈ AW := aw_of 389 (by decide +kernel) (by decide +kernel)
theorem aw_43 : (Cond.code zy_H_intAt zc_H_intAt 2 (some .int)) ∈ AW := aw_of 390 (by decide +kernel) (by decide +kernel)
theorem aw_44 : (Cond.constant RX3 87 (-1640531535)) ∈ AW := aw_of 399 (by decide +kernel) (by decide +kernel)
theorem aw_45 : (Cond.methodLink RX3 66 zy_P_exchange) ∈ AW := aw_of 383 (by decide +kernel) (by decide +kernel)
theorem aw_46 : (Cond.instanceMethod zy_P_exchange) ∈ AW := aw_of 385 (by decide +kernel) (by decide +kernel)
theorem aw_47 : (Cond.selects RX3 zy_P_exchange zy_P_exchange) ∈ AW := aw_of 3 (by decide +kernel) (by decide +kernel)
theorem aw_48 : (Cond.initialized RX3) ∈ AW := aw_of 46 (by decide +kernel) (by decide +kernel)
theorem aw_49 : (Cond.code zy_P_exchange zc_P_exchange 4 (some .int)) ∈ AW := aw_of 386 (by decide +kernel) (by decide +kernel)
theorem aw_50 : (Cond.methodLink RX3 39 zy_P_learnPast) ∈ AW := aw_of 379 (by decide +kernel) (by decide +kernel)
theorem aw_51 : (Cond.instanceMethod zy_P_learnPast) ∈ AW := aw_of 381 (by decide +kernel) (by decide +kernel)
theorem aw_52 : (Cond.selects RX3 zy_P_learnPast zy_P_learnPast) ∈ AW := aw_of 2 (by decide +kernel) (by decide +kernel)
theorem aw_53 : (Cond.code zy_P_learnPast zc_P_learnPast 2 none) ∈ AW := aw_of 382 (by decide +kernel) (by decide +kernel)
theorem aw_54 : (Cond.laysFinal RX7 "PressSuite$Writer" "plain" "LPressSuite$Row;") ∈ AW := aw_of 154 (by decide +kernel) (by decide +kernel)
theorem aw_55 : (Cond.laysFinal RX7 "PressSuite$Writer" "out" "LPressSuite$Row;") ∈ AW := aw_of 156 (by decide +kernel) (by decide +kernel)
theorem aw_56 : (Cond.fieldLink RX7 7 "PressSuite$SequenceWriter" "out" "LPressSuite$Row;") ∈ AW := aw_of 152 (by decide +kernel) (by decide +kernel)
theorem aw_57 : (Cond.sameField "PressSuite$SequenceWriter" "PressSuite$Writer" "out" "LPressSuite$Row;") ∈ AW := aw_of 153 (by decide +kernel) (by decide +kernel)
theorem aw_58 : (Cond.methodLink RX7 13 zy_R_clear) ∈ AW := aw_of 411 (by decide +kernel) (by decide +kernel)
theorem aw_59 : (Cond.methodLink RX3 42 ⟨"PressSuite$Writer", "begin", "()V"⟩) ∈ AW := aw_of 400 (by decide +kernel) (by decide +kernel)
theorem aw_60 : (Cond.sameMethod "PressSuite$Writer" "PressSuite$Writer" "begin" "()V") ∈ AW := aw_of 402 (by decide +kernel) (by decide +kernel)
theorem aw_61 : (Cond.selects RX7 ⟨"PressSuite$Writer", "begin", "()V"⟩ zy_SW_begin) ∈ AW := aw_of 408 (by decide +kernel) (by decide +kernel)
theorem aw_62 : (Cond.instanceMethod zy_SW_begin) ∈ AW := aw_of 409 (by decide +kernel) (by decide +kernel)
theorem aw_63 : (Cond.initialized RX7) ∈ AW := aw_of 49 (by decide +kernel) (by decide +kernel)
theorem aw_64 : (Cond.code zy_SW_begin zc_SW_begin 1 none) ∈ AW := aw_of 410 (by decide +kernel) (by decide +kernel)
theorem aw_65 : (Cond.fieldLink RX3 13 "PressSuite$Packer" "plain" "LPressSuite$Row;") ∈ AW := aw_of 111 (by decide +kernel) (by decide +kernel)
theorem aw_66 : (Cond.methodLink RX3 80 zy_H_length) ∈ AW := aw_of 420 (by decide +kernel) (by decide +kernel)
theorem aw_67 : (Cond.instanceMethod zy_H_length) ∈ AW := aw_of 421 (by decide +kernel) (by decide +kernel)
theorem aw_68 : (Cond.selects RX2 zy_H_length zy_H_length) ∈ AW := aw_of 422 (by decide +kernel) (by decide +kernel)
theorem aw_69 : (Cond.code zy_H_length zc_H_length 1 (some .int)) ∈ AW := aw_of 423 (by decide +kernel) (by decide +kernel)
theorem aw_70 : (Cond.methodLink RX3 84 zy_H_byteAt) ∈ AW := aw_of 424 (by decide +kernel) (by decide +kernel)
theorem aw_71 : (Cond.methodLink RX3 73 zy_P_matchLength) ∈ AW := aw_of 416 (by decide +kernel) (by decide +kernel)
theorem aw_72 : (Cond.instanceMethod zy_P_matchLength) ∈ AW := aw_of 418 (by decide +kernel) (by decide +kernel)
theorem aw_73 : (Cond.selects RX3 zy_P_matchLength zy_P_matchLength) ∈ AW := aw_of 5 (by decide +kernel) (by decide +kernel)
theorem aw_74 : (Cond.code zy_P_matchLength zc_P_matchLength 5 (some .int)) ∈ AW := aw_of 419 (by decide +kernel) (by decide +kernel)
theorem aw_75 : (Cond.methodLink RX7 19 Lib.Math.min.name) ∈ AW := aw_of 454 (by decide +kernel) (by decide +kernel)
theorem aw_76 : (Cond.static Lib.Math.min.name) ∈ AW := aw_of 455 (by decide +kernel) (by decide +kernel)
theorem aw_77 : (Cond.initialized "java/lang/Math") ∈ AW := aw_of 60 (by decide +kernel) (by decide +kernel)
theorem aw_78 : (Cond.code Lib.Math.min.name Lib.Math.min.code 2 (some .int)) ∈ AW := aw_of 456 (by decide +kernel) (by decide +kernel)
theorem aw_79 : (Cond.methodLink RX7 29 zy_R_add) ∈ AW := aw_of 461 (by decide +kernel) (by decide +kernel)
theorem aw_80 : (Cond.methodLink RX7 33 zy_SW_writeSum) ∈ AW := aw_of 462 (by decide +kernel) (by decide +kernel)
theorem aw_81 : (Cond.instanceMethod zy_SW_writeSum) ∈ AW := aw_of 464 (by decide +kernel) (by decide +kernel)
theorem aw_82 : (Cond.selects RX7 zy_SW_writeSum zy_SW_writeSum) ∈ AW := aw_of 10 (by decide +kernel) (by decide +kernel)
theorem aw_83 : (Cond.code zy_SW_writeSum zc_SW_writeSum 3 none) ∈ AW := aw_of 465 (by decide +kernel) (by decide +kernel)
theorem aw_84 : (Cond.fieldLink RX8 13 "PressSuite$Writer" "out" "LPressSuite$Row;") ∈ AW := aw_of 149 (by decide +kernel) (by decide +kernel)
theorem aw_85 : (Cond.fieldLink RX8 7 "PressSuite$Writer" "plain" "LPressSuite$Row;") ∈ AW := aw_of 144 (by decide +kernel) (by decide +kernel)
theorem aw_86 : (Cond.methodLink RX8 16 zy_R_byteAt) ∈ AW := aw_of 441 (by decide +kernel) (by decide +kernel)
theorem aw_87 : (Cond.methodLink RX8 22 zy_R_add) ∈ AW := aw_of 442 (by decide +kernel) (by decide +kernel)
theorem aw_88 : (Cond.methodLink RX7 43 ⟨"PressSuite$SequenceWriter", "writePlain", "(II)V"⟩) ∈ AW := aw_of 466 (by decide +kernel) (by decide +kernel)
theorem aw_89 : (Cond.sameMethod "PressSuite$SequenceWriter" "PressSuite$Writer" "writePlain" "(II)V") ∈ AW := aw_of 467 (by decide +kernel) (by decide +kernel)
theorem aw_90 : (Cond.selects RX7 ⟨"PressSuite$SequenceWriter", "writePlain", "(II)V"⟩ zy_W_writePlain) ∈ AW := aw_of 468 (by decide +kernel) (by decide +kernel)
theorem aw_91 : (Cond.instanceMethod zy_W_writePlain) ∈ AW := aw_of 439 (by decide +kernel) (by decide +kernel)
theorem aw_92 : (Cond.initialized RX8) ∈ AW := aw_of 48 (by decide +kernel) (by decide +kernel)
theorem aw_93 : (Cond.code zy_W_writePlain zc_W_writePlain 4 none) ∈ AW := aw_of 440 (by decide +kernel) (by decide +kernel)
theorem aw_94 : (Cond.methodLink RX7 25 zy_SW_writeLiterals) ∈ AW := aw_of 457 (by decide +kernel) (by decide +kernel)
theorem aw_95 : (Cond.instanceMethod zy_SW_writeLiterals) ∈ AW := aw_of 459 (by decide +kernel) (by decide +kernel)
theorem aw_96 : (Cond.selects RX7 zy_SW_writeLiterals zy_SW_writeLiterals) ∈ AW := aw_of 9 (by decide +kernel) (by decide +kernel)
theorem aw_97 : (Cond.code zy_SW_writeLiterals zc_SW_writeLiterals 5 none) ∈ AW := aw_of 460 (by decide +kernel) (by decide +kernel)
theorem aw_98 : (Cond.methodLink RX3 76 ⟨"PressSuite$Writer", "match", "(IIII)V"⟩) ∈ AW := aw_of 425 (by decide +kernel) (by decide +kernel)
theorem aw_99 : (Cond.sameMethod "PressSuite$Writer" "PressSuite$Writer" "match" "(IIII)V") ∈ AW := aw_of 427 (by decide +kernel) (by decide +kernel)
theorem aw_100 : (Cond.selects RX7 ⟨"PressSuite$Writer", "match", "(IIII)V"⟩ zy_SW_match) ∈ AW := aw_of 451 (by decide +kernel) (by decide +kernel)
theorem aw_101 : (Cond.instanceMethod zy_SW_match) ∈ AW := aw_of 452 (by decide +kernel) (by decide +kernel)
theorem aw_102 : (Cond.code zy_SW_match zc_SW_match 6 none) ∈ AW := aw_of 453 (by decide +kernel) (by decide +kernel)
theorem aw_103 : (Cond.methodLink RX3 52 zy_P_copyFrom) ∈ AW := aw_of 412 (by decide +kernel) (by decide +kernel)
theorem aw_104 : (Cond.instanceMethod zy_P_copyFrom) ∈ AW := aw_of 414 (by decide +kernel) (by decide +kernel)
theorem aw_105 : (Cond.selects RX3 zy_P_copyFrom zy_P_copyFrom) ∈ AW := aw_of 4 (by decide +kernel) (by decide +kernel)
theorem aw_106 : (Cond.code zy_P_copyFrom zc_P_copyFrom 6 (some .int)) ∈ AW := aw_of 415 (by decide +kernel) (by decide +kernel)
theorem aw_107 : (Cond.methodLink RX3 56 Lib.Math.max.name) ∈ AW := aw_of 469 (by decide +kernel) (by decide +kernel)
theorem aw_108 : (Cond.static Lib.Math.max.name) ∈ AW := aw_of 470 (by decide +kernel) (by decide +kernel)
theorem aw_109 : (Cond.code Lib.Math.max.name Lib.Math.max.code 2 (some .int)) ∈ AW := aw_of 471 (by decide +kernel) (by decide +kernel)
theorem aw_110 : (Cond.fieldLink RX7 36 "PressSuite$SequenceWriter" "plain" "LPressSuite$Row;") ∈ AW := aw_of 147 (by decide +kernel) (by decide +kernel)
theorem aw_111 : (Cond.sameField "PressSuite$SequenceWriter" "PressSuite$Writer" "plain" "LPressSuite$Row;") ∈ AW := aw_of 148 (by decide +kernel) (by decide +kernel)
theorem aw_112 : (Cond.methodLink RX3 62 ⟨"PressSuite$Writer", "end", "(I)V"⟩) ∈ AW := aw_of 472 (by decide +kernel) (by decide +kernel)
theorem aw_113 : (Cond.sameMethod "PressSuite$Writer" "PressSuite$Writer" "end" "(I)V") ∈ AW := aw_of 474 (by decide +kernel) (by decide +kernel)
theorem aw_114 : (Cond.selects RX7 ⟨"PressSuite$Writer", "end", "(I)V"⟩ zy_SW_end) ∈ AW := aw_of 478 (by decide +kernel) (by decide +kernel)
theorem aw_115 : (Cond.instanceMethod zy_SW_end) ∈ AW := aw_of 479 (by decide +kernel) (by decide +kernel)
theorem aw_116 : (Cond.code zy_SW_end zc_SW_end 2 none) ∈ AW := aw_of 480 (by decide +kernel) (by decide +kernel)
theorem aw_117 : (Cond.laysFinal RX1 "PressSuite$Writer" "plain" "LPressSuite$Row;") ∈ AW := aw_of 165 (by decide +kernel) (by decide +kernel)
theorem aw_118 : (Cond.laysFinal RX1 "PressSuite$Writer" "out" "LPressSuite$Row;") ∈ AW := aw_of 166 (by decide +kernel) (by decide +kernel)
theorem aw_119 : (Cond.fieldLink RX1 7 "PressSuite$ElementWriter" "out" "LPressSuite$Row;") ∈ AW := aw_of 150 (by decide +kernel) (by decide +kernel)
theorem aw_120 : (Cond.sameField "PressSuite$ElementWriter" "PressSuite$Writer" "out" "LPressSuite$Row;") ∈ AW := aw_of 151 (by decide +kernel) (by decide +kernel)
theorem aw_121 : (Cond.methodLink RX1 13 zy_R_clear) ∈ AW := aw_of 406 (by decide +kernel) (by decide +kernel)
theorem aw_122 : (Cond.fieldLink RX1 19 "PressSuite$ElementWriter" "plain" "LPressSuite$Row;") ∈ AW := aw_of 145 (by decide +kernel) (by decide +kernel)
theorem aw_123 : (Cond.sameField "PressSuite$ElementWriter" "PressSuite$Writer" "plain" "LPressSuite$Row;") ∈ AW := aw_of 146 (by decide +kernel) (by decide +kernel)
theorem aw_124 : (Cond.methodLink RX1 26 zy_R_add) ∈ AW := aw_of 407 (by decide +kernel) (by decide +kernel)
theorem aw_125 : (Cond.selects RX1 ⟨"PressSuite$Writer", "begin", "()V"⟩ zy_EW_begin) ∈ AW := aw_of 403 (by decide +kernel) (by decide +kernel)
theorem aw_126 : (Cond.instanceMethod zy_EW_begin) ∈ AW := aw_of 404 (by decide +kernel) (by decide +kernel)
theorem aw_127 : (Cond.initialized RX1) ∈ AW := aw_of 50 (by decide +kernel) (by decide +kernel)
theorem aw_128 : (Cond.code zy_EW_begin zc_EW_begin 2 none) ∈ AW := aw_of 405 (by decide +kernel) (by decide +kernel)
theorem aw_129 : (Cond.methodLink RX1 40 ⟨"PressSuite$ElementWriter", "writePlain", "(II)V"⟩) ∈ AW := aw_of 435 (by decide +kernel) (by decide +kernel)
theorem aw_130 : (Cond.sameMethod "PressSuite$ElementWriter" "PressSuite$Writer" "writePlain" "(II)V") ∈ AW := aw_of 436 (by decide +kernel) (by decide +kernel)
theorem aw_131 : (Cond.selects RX1 ⟨"PressSuite$ElementWriter", "writePlain", "(II)V"⟩ zy_W_writePlain) ∈ AW := aw_of 438 (by decide +kernel) (by decide +kernel)
theorem aw_132 : (Cond.methodLink RX1 30 zy_EW_writeLiterals) ∈ AW := aw_of 431 (by decide +kernel) (by decide +kernel)
theorem aw_133 : (Cond.instanceMethod zy_EW_writeLiterals) ∈ AW := aw_of 433 (by decide +kernel) (by decide +kernel)
theorem aw_134 : (Cond.selects RX1 zy_EW_writeLiterals zy_EW_writeLiterals) ∈ AW := aw_of 6 (by decide +kernel) (by decide +kernel)
theorem aw_135 : (Cond.code zy_EW_writeLiterals zc_EW_writeLiterals 4 none) ∈ AW := aw_of 434 (by decide +kernel) (by decide +kernel)
theorem aw_136 : (Cond.methodLink RX1 34 zy_EW_writeLong) ∈ AW := aw_of 443 (by decide +kernel) (by decide +kernel)
theorem aw_137 : (Cond.instanceMethod zy_EW_writeLong) ∈ AW := aw_of 445 (by decide +kernel) (by decide +kernel)
theorem aw_138 : (Cond.selects RX1 zy_EW_writeLong zy_EW_writeLong) ∈ AW := aw_of 7 (by decide +kernel) (by decide +kernel)
theorem aw_139 : (Cond.code zy_EW_writeLong zc_EW_writeLong 3 none) ∈ AW := aw_of 446 (by decide +kernel) (by decide +kernel)
theorem aw_140 : (Cond.methodLink RX1 37 zy_EW_writeCopy) ∈ AW := aw_of 447 (by decide +kernel) (by decide +kernel)
theorem aw_141 : (Cond.instanceMethod zy_EW_writeCopy) ∈ AW := aw_of 449 (by decide +kernel) (by decide +kernel)
theorem aw_142 : (Cond.selects RX1 zy_EW_writeCopy zy_EW_writeCopy) ∈ AW := aw_of 8 (by decide +kernel) (by decide +kernel)
theorem aw_143 : (Cond.code zy_EW_writeCopy zc_EW_writeCopy 3 none) ∈ AW := aw_of 450 (by decide +kernel) (by decide +kernel)
theorem aw_144 : (Cond.selects RX1 ⟨"PressSuite$Writer", "match", "(IIII)V"⟩ zy_EW_match) ∈ AW := aw_of 428 (by decide +kernel) (by decide +kernel)
theorem aw_145 : (Cond.instanceMethod zy_EW_match) ∈ AW := aw_of 429 (by decide +kernel) (by decide +kernel)
theorem aw_146 : (Cond.code zy_EW_match zc_EW_match 6 none) ∈ AW := aw_of 430 (by decide +kernel) (by decide +kernel)
theorem aw_147 : (Cond.selects RX1 ⟨"PressSuite$Writer", "end", "(I)V"⟩ zy_EW_end) ∈ AW := aw_of 475 (by decide +kernel) (by decide +kernel)
theorem aw_148 : (Cond.instanceMethod zy_EW_end) ∈ AW := aw_of 476 (by decide +kernel) (by decide +kernel)
theorem aw_149 : (Cond.code zy_EW_end zc_EW_end 2 none) ∈ AW := aw_of 477 (by decide +kernel) (by decide +kernel)
theorem aw_150 : (Cond.laysFinal RX6 "PressSuite$Reader" "source" "LPressSuite$Row;") ∈ AW := aw_of 195 (by decide +kernel) (by decide +kernel)
theorem aw_151 : (Cond.laysFinal RX6 "PressSuite$Reader" "draft" "LPressSuite$Row;") ∈ AW := aw_of 197 (by decide +kernel) (by decide +kernel)
theorem aw_152 : (Cond.laysFinal RX6 "PressSuite$Reader" "history" "LPressSuite$History;") ∈ AW := aw_of 199 (by decide +kernel) (by decide +kernel)
theorem aw_153 : (Cond.lays RX6 "PressSuite$Reader" "at" "I") ∈ AW := aw_of 201 (by decide +kernel) (by decide +kernel)
theorem aw_154 : (Cond.lays RX6 "PressSuite$Reader" "refusedAt" "I") ∈ AW := aw_of 203 (by decide +kernel) (by decide +kernel)
theorem aw_155 : (Cond.fieldLink RX6 9 "PressSuite$SequenceReader" "source" "LPressSuite$Row;") ∈ AW := aw_of 180 (by decide +kernel) (by decide +kernel)
theorem aw_156 : (Cond.sameField "PressSuite$SequenceReader" "PressSuite$Reader" "source" "LPressSuite$Row;") ∈ AW := aw_of 181 (by decide +kernel) (by decide +kernel)
theorem aw_157 : (Cond.fieldLink RX6 25 "PressSuite$SequenceReader" "at" "I") ∈ AW := aw_of 188 (by decide +kernel) (by decide +kernel)
theorem aw_158 : (Cond.sameField "PressSuite$SequenceReader" "PressSuite$Reader" "at" "I") ∈ AW := aw_of 189 (by decide +kernel) (by decide +kernel)
theorem aw_159 : (Cond.fieldLink RX4 25 "PressSuite$Reader" "at" "I") ∈ AW := aw_of 190 (by decide +kernel) (by decide +kernel)
theorem aw_160 : (Cond.fieldLink RX4 7 "PressSuite$Reader" "source" "LPressSuite$Row;") ∈ AW := aw_of 179 (by decide +kernel) (by decide +kernel)
theorem aw_161 : (Cond.fieldLink RX4 29 "PressSuite$Reader" "refusedAt" "I") ∈ AW := aw_of 193 (by decide +kernel) (by decide +kernel)
theorem aw_162 : (Cond.methodLink RX4 40 ⟨"PressSuite$Reader", "refuseIf", "(ZI)V"⟩) ∈ AW := aw_of 511 (by decide +kernel) (by decide +kernel)
theorem aw_163 : (Cond.sameMethod "PressSuite$Reader" "PressSuite$Reader" "refuseIf" "(ZI)V") ∈ AW := aw_of 513 (by decide +kernel) (by decide +kernel)
theorem aw_164 : (Cond.selects RX6 ⟨"PressSuite$Reader", "refuseIf", "(ZI)V"⟩ zy_D_refuseIf) ∈ AW := aw_of 515 (by decide +kernel) (by decide +kernel)
theorem aw_165 : (Cond.instanceMethod zy_D_refuseIf) ∈ AW := aw_of 512 (by decide +kernel) (by decide +kernel)
theorem aw_166 : (Cond.initialized RX4) ∈ AW := aw_of 51 (by decide +kernel) (by decide +kernel)
theorem aw_167 : (Cond.code zy_D_refuseIf zc_D_refuseIf 3 none) ∈ AW := aw_of 516 (by decide +kernel) (by decide +kernel)
theorem aw_168 : (Cond.methodLink RX4 44 zy_R_byteAt) ∈ AW := aw_of 517 (by decide +kernel) (by decide +kernel)
theorem aw_169 : (Cond.methodLink RX6 28 ⟨"PressSuite$SequenceReader", "take", "()I"⟩) ∈ AW := aw_of 592 (by decide +kernel) (by decide +kernel)
theorem aw_170 : (Cond.sameMethod "PressSuite$SequenceReader" "PressSuite$Reader" "take" "()I") ∈ AW := aw_of 593 (by decide +kernel) (by decide +kernel)
theorem aw_171 : (Cond.selects RX6 ⟨"PressSuite$SequenceReader", "take", "()I"⟩ zy_D_take) ∈ AW := aw_of 594 (by decide +kernel) (by decide +kernel)
theorem aw_172 : (Cond.instanceMethod zy_D_take) ∈ AW := aw_of 509 (by decide +kernel) (by decide +kernel)
theorem aw_173 : (Cond.code zy_D_take zc_D_take 2 (some .int)) ∈ AW := aw_of 510 (by decide +kernel) (by decide +kernel)
theorem aw_174 : (Cond.methodLink RX6 32 zy_SR_takeSum) ∈ AW := aw_of 595 (by decide +kernel) (by decide +kernel)
theorem aw_175 : (Cond.instanceMethod zy_SR_takeSum) ∈ AW := aw_of 597 (by decide +kernel) (by decide +kernel)
theorem aw_176 : (Cond.selects RX6 zy_SR_takeSum zy_SR_takeSum) ∈ AW := aw_of 17 (by decide +kernel) (by decide +kernel)
theorem aw_177 : (Cond.initialized RX6) ∈ AW := aw_of 52 (by decide +kernel) (by decide +kernel)
theorem aw_178 : (Cond.code zy_SR_takeSum zc_SR_takeSum 5 (some .int)) ∈ AW := aw_of 598 (by decide +kernel) (by decide +kernel)
theorem aw_179 : (Cond.fieldLink RX4 13 "PressSuite$Reader" "draft" "LPressSuite$Row;") ∈ AW := aw_of 184 (by decide +kernel) (by decide +kernel)
theorem aw_180 : (Cond.methodLink RX6 36 ⟨"PressSuite$SequenceReader", "requireRoom", "(III)V"⟩) ∈ AW := aw_of 599 (by decide +kernel) (by decide +kernel)
theorem aw_181 : (Cond.sameMethod "PressSuite$SequenceReader" "PressSuite$Reader" "requireRoom" "(III)V") ∈ AW := aw_of 600 (by decide +kernel) (by decide +kernel)
theorem aw_182 : (Cond.selects RX6 ⟨"PressSuite$SequenceReader", "requireRoom", "(III)V"⟩ zy_D_requireRoom) ∈ AW := aw_of 601 (by decide +kernel) (by decide +kernel)
theorem aw_183 : (Cond.instanceMethod zy_D_requireRoom) ∈ AW := aw_of 546 (by decide +kernel) (by decide +kernel)
theorem aw_184 : (Cond.code zy_D_requireRoom zc_D_requireRoom 4 none) ∈ AW := aw_of 547 (by decide +kernel) (by decide +kernel)
theorem aw_185 : (Cond.methodLink RX4 55 ⟨"PressSuite$Reader", "refused", "()Z"⟩) ∈ AW := aw_of 554 (by decide +kernel) (by decide +kernel)
theorem aw_186 : (Cond.sameMethod "PressSuite$Reader" "PressSuite$Reader" "refused" "()Z") ∈ AW := aw_of 902 (by decide +kernel) (by decide +kernel)
theorem aw_187 : (Cond.selects RX6 ⟨"PressSuite$Reader", "refused", "()Z"⟩ zy_D_refused) ∈ AW := aw_of 904 (by decide +kernel) (by decide +kernel)
theorem aw_188 : (Cond.instanceMethod zy_D_refused) ∈ AW := aw_of 532 (by decide +kernel) (by decide +kernel)
theorem aw_189 : (Cond.code zy_D_refused zc_D_refused 1 (some .boolean)) ∈ AW := aw_of 533 (by decide +kernel) (by decide +kernel)
theorem aw_190 : (Cond.methodLink RX4 48 ⟨"PressSuite$Reader", "take", "()I"⟩) ∈ AW := aw_of 555 (by decide +kernel) (by decide +kernel)
theorem aw_191 : (Cond.sameMethod "PressSuite$Reader" "PressSuite$Reader" "take" "()I") ∈ AW := aw_of 905 (by decide +kernel) (by decide +kernel)
theorem aw_192 : (Cond.selects RX6 ⟨"PressSuite$Reader", "take", "()I"⟩ zy_D_take) ∈ AW := aw_of 907 (by decide +kernel) (by decide +kernel)
theorem aw_193 : (Cond.methodLink RX4 59 zy_R_add) ∈ AW := aw_of 556 (by decide +kernel) (by decide +kernel)
theorem aw_194 : (Cond.methodLink RX6 40 ⟨"PressSuite$SequenceReader", "copyLiterals", "(I)V"⟩) ∈ AW := aw_of 602 (by decide +kernel) (by decide +kernel)
theorem aw_195 : (Cond.sameMethod "PressSuite$SequenceReader" "PressSuite$Reader" "copyLiterals" "(I)V") ∈ AW := aw_of 603 (by decide +kernel) (by decide +kernel)
theorem aw_196 : (Cond.selects RX6 ⟨"PressSuite$SequenceReader", "copyLiterals", "(I)V"⟩ zy_D_copyLiterals) ∈ AW := aw_of 604 (by decide +kernel) (by decide +kernel)
theorem aw_197 : (Cond.instanceMethod zy_D_copyLiterals) ∈ AW := aw_of 552 (by decide +kernel) (by decide +kernel)
theorem aw_198 : (Cond.code zy_D_copyLiterals zc_D_copyLiterals 3 none) ∈ AW := aw_of 553 (by decide +kernel) (by decide +kernel)
theorem aw_199 : (Cond.methodLink RX6 44 ⟨"PressSuite$SequenceReader", "refused", "()Z"⟩) ∈ AW := aw_of 605 (by decide +kernel) (by decide +kernel)
theorem aw_200 : (Cond.sameMethod "PressSuite$SequenceReader" "PressSuite$Reader" "refused" "()Z") ∈ AW := aw_of 606 (by decide +kernel) (by decide +kernel)
theorem aw_201 : (Cond.selects RX6 ⟨"PressSuite$SequenceReader", "refused", "()Z"⟩ zy_D_refused) ∈ AW := aw_of 607 (by decide +kernel) (by decide +kernel)
theorem aw_202 : (Cond.methodLink RX6 47 ⟨"PressSuite$SequenceReader", "atEnd", "()Z"⟩) ∈ AW := aw_of 608 (by decide +kernel) (by decide +kernel)
theorem aw_203 : (Cond.sameMethod "PressSuite$SequenceReader" "PressSuite$Reader" "atEnd" "()Z") ∈ AW := aw_of 609 (by decide +kernel) (by decide +kernel)
theorem aw_204 : (Cond.selects RX6 ⟨"PressSuite$SequenceReader", "atEnd", "()Z"⟩ zy_D_atEnd) ∈ AW := aw_of 610 (by decide +kernel) (by decide +kernel)
theorem aw_205 : (Cond.instanceMethod zy_D_atEnd) ∈ AW := aw_of 526 (by decide +kernel) (by decide +kernel)
theorem aw_206 : (Cond.code zy_D_atEnd zc_D_atEnd 1 (some .boolean)) ∈ AW := aw_of 527 (by decide +kernel) (by decide +kernel)
theorem aw_207 : (Cond.methodLink RX6 50 ⟨"PressSuite$SequenceReader", "takeTwo", "()I"⟩) ∈ AW := aw_of 611 (by decide +kernel) (by decide +kernel)
theorem aw_208 : (Cond.sameMethod "PressSuite$SequenceReader" "PressSuite$Reader" "takeTwo" "()I") ∈ AW := aw_of 612 (by decide +kernel) (by decide +kernel)
theorem aw_209 : (Cond.selects RX6 ⟨"PressSuite$SequenceReader", "takeTwo", "()I"⟩ zy_D_takeTwo) ∈ AW := aw_of 613 (by decide +kernel) (by decide +kernel)
theorem aw_210 : (Cond.instanceMethod zy_D_takeTwo) ∈ AW := aw_of 583 (by decide +kernel) (by decide +kernel)
theorem aw_211 : (Cond.code zy_D_takeTwo zc_D_takeTwo 2 (some .int)) ∈ AW := aw_of 584 (by decide +kernel) (by decide +kernel)
theorem aw_212 : (Cond.fieldLink RX4 21 "PressSuite$Reader" "history" "LPressSuite$History;") ∈ AW := aw_of 187 (by decide +kernel) (by decide +kernel)
theorem aw_213 : (Cond.methodLink RX4 52 zy_H_length) ∈ AW := aw_of 567 (by decide +kernel) (by decide +kernel)
theorem aw_214 : (Cond.methodLink RX6 53 ⟨"PressSuite$SequenceReader", "requireDistance", "(II)V"⟩) ∈ AW := aw_of 614 (by decide +kernel) (by decide +kernel)
theorem aw_215 : (Cond.sameMethod "PressSuite$SequenceReader" "PressSuite$Reader" "requireDistance" "(II)V") ∈ AW := aw_of 615 (by decide +kernel) (by decide +kernel)
theorem aw_216 : (Cond.selects RX6 ⟨"PressSuite$SequenceReader", "requireDistance", "(II)V"⟩ zy_D_requireDistance) ∈ AW := aw_of 616 (by decide +kernel) (by decide +kernel)
theorem aw_217 : (Cond.instanceMethod zy_D_requireDistance) ∈ AW := aw_of 565 (by decide +kernel) (by decide +kernel)
theorem aw_218 : (Cond.code zy_D_requireDistance zc_D_requireDistance 3 none) ∈ AW := aw_of 566 (by decide +kernel) (by decide +kernel)
theorem aw_219 : (Cond.methodLink RX4 63 zy_H_byteAt) ∈ AW := aw_of 574 (by decide +kernel) (by decide +kernel)
theorem aw_220 : (Cond.methodLink RX6 57 ⟨"PressSuite$SequenceReader", "copyBack", "(II)V"⟩) ∈ AW := aw_of 617 (by decide +kernel) (by decide +kernel)
theorem aw_221 : (Cond.sameMethod "PressSuite$SequenceReader" "PressSuite$Reader" "copyBack" "(II)V") ∈ AW := aw_of 618 (by decide +kernel) (by decide +kernel)
theorem aw_222 : (Cond.selects RX6 ⟨"PressSuite$SequenceReader", "copyBack", "(II)V"⟩ zy_D_copyBack) ∈ AW := aw_of 619 (by decide +kernel) (by decide +kernel)
theorem aw_223 : (Cond.instanceMethod zy_D_copyBack) ∈ AW := aw_of 572 (by decide +kernel) (by decide +kernel)
theorem aw_224 : (Cond.code zy_D_copyBack zc_D_copyBack 4 none) ∈ AW := aw_of 573 (by decide +kernel) (by decide +kernel)
theorem aw_225 : (Cond.methodLink RX6 21 zy_SR_readSequence) ∈ AW := aw_of 588 (by decide +kernel) (by decide +kernel)
theorem aw_226 : (Cond.instanceMethod zy_SR_readSequence) ∈ AW := aw_of 590 (by decide +kernel) (by decide +kernel)
theorem aw_227 : (Cond.selects RX6 zy_SR_readSequence zy_SR_readSequence) ∈ AW := aw_of 16 (by decide +kernel) (by decide +kernel)
theorem aw_228 : (Cond.code zy_SR_readSequence zc_SR_readSequence 7 (some .boolean)) ∈ AW := aw_of 591 (by decide +kernel) (by decide +kernel)
theorem aw_229 : (Cond.laysFinal RX0 "PressSuite$Reader" "source" "LPressSuite$Row;") ∈ AW := aw_of 215 (by decide +kernel) (by decide +kernel)
theorem aw_230 : (Cond.laysFinal RX0 "PressSuite$Reader" "draft" "LPressSuite$Row;") ∈ AW := aw_of 216 (by decide +kernel) (by decide +kernel)
theorem aw_231 : (Cond.laysFinal RX0 "PressSuite$Reader" "history" "LPressSuite$History;") ∈ AW := aw_of 217 (by decide +kernel) (by decide +kernel)
theorem aw_232 : (Cond.lays RX0 "PressSuite$Reader" "at" "I") ∈ AW := aw_of 218 (by decide +kernel) (by decide +kernel)
theorem aw_233 : (Cond.lays RX0 "PressSuite$Reader" "refusedAt" "I") ∈ AW := aw_of 219 (by decide +kernel) (by decide +kernel)
theorem aw_234 : (Cond.lays RX0 "PressSuite$ElementReader" "promised" "I") ∈ AW := aw_of 213 (by decide +kernel) (by decide +kernel)
theorem aw_235 : (Cond.selects RX0 ⟨"PressSuite$Reader", "refuseIf", "(ZI)V"⟩ zy_D_refuseIf) ∈ AW := aw_of 514 (by decide +kernel) (by decide +kernel)
theorem aw_236 : (Cond.methodLink RX0 46 ⟨"PressSuite$ElementReader", "take", "()I"⟩) ∈ AW := aw_of 505 (by decide +kernel) (by decide +kernel)
theorem aw_237 : (Cond.sameMethod "PressSuite$ElementReader" "PressSuite$Reader" "take" "()I") ∈ AW := aw_of 506 (by decide +kernel) (by decide +kernel)
theorem aw_238 : (Cond.selects RX0 ⟨"PressSuite$ElementReader", "take", "()I"⟩ zy_D_take) ∈ AW := aw_of 508 (by decide +kernel) (by decide +kernel)
theorem aw_239 : (Cond.fieldLink RX0 49 "PressSuite$ElementReader" "at" "I") ∈ AW := aw_of 191 (by decide +kernel) (by decide +kernel)
theorem aw_240 : (Cond.sameField "PressSuite$ElementReader" "PressSuite$Reader" "at" "I") ∈ AW := aw_of 192 (by decide +kernel) (by decide +kernel)
theorem aw_241 : (Cond.methodLink RX0 42 ⟨"PressSuite$ElementReader", "refuseIf", "(ZI)V"⟩) ∈ AW := aw_of 518 (by decide +kernel) (by decide +kernel)
theorem aw_242 : (Cond.sameMethod "PressSuite$ElementReader" "PressSuite$Reader" "refuseIf" "(ZI)V") ∈ AW := aw_of 519 (by decide +kernel) (by decide +kernel)
theorem aw_243 : (Cond.selects RX0 ⟨"PressSuite$ElementReader", "refuseIf", "(ZI)V"⟩ zy_D_refuseIf) ∈ AW := aw_of 521 (by decide +kernel) (by decide +kernel)
theorem aw_244 : (Cond.methodLink RX0 9 zy_ER_takeSize) ∈ AW := aw_of 501 (by decide +kernel) (by decide +kernel)
theorem aw_245 : (Cond.instanceMethod zy_ER_takeSize) ∈ AW := aw_of 503 (by decide +kernel) (by decide +kernel)
theorem aw_246 : (Cond.selects RX0 zy_ER_takeSize zy_ER_takeSize) ∈ AW := aw_of 11 (by decide +kernel) (by decide +kernel)
theorem aw_247 : (Cond.initialized RX0) ∈ AW := aw_of 53 (by decide +kernel) (by decide +kernel)
theorem aw_248 : (Cond.code zy_ER_takeSize zc_ER_takeSize 4 (some .int)) ∈ AW := aw_of 504 (by decide +kernel) (by decide +kernel)
theorem aw_249 : (Cond.fieldLink RX0 15 "PressSuite$ElementReader" "promised" "I") ∈ AW := aw_of 212 (by decide +kernel) (by decide +kernel)
theorem aw_250 : (Cond.fieldLink RX0 19 "PressSuite$ElementReader" "source" "LPressSuite$Row;") ∈ AW := aw_of 182 (by decide +kernel) (by decide +kernel)
theorem aw_251 : (Cond.sameField "PressSuite$ElementReader" "PressSuite$Reader" "source" "LPressSuite$Row;") ∈ AW := aw_of 183 (by decide +kernel) (by decide +kernel)
theorem aw_252 : (Cond.methodLink RX0 28 ⟨"PressSuite$ElementReader", "atEnd", "()Z"⟩) ∈ AW := aw_of 522 (by decide +kernel) (by decide +kernel)
theorem aw_253 : (Cond.sameMethod "PressSuite$ElementReader" "PressSuite$Reader" "atEnd" "()Z") ∈ AW := aw_of 523 (by decide +kernel) (by decide +kernel)
theorem aw_254 : (Cond.selects RX0 ⟨"PressSuite$ElementReader", "atEnd", "()Z"⟩ zy_D_atEnd) ∈ AW := aw_of 525 (by decide +kernel) (by decide +kernel)
theorem aw_255 : (Cond.methodLink RX0 32 ⟨"PressSuite$ElementReader", "refused", "()Z"⟩) ∈ AW := aw_of 528 (by decide +kernel) (by decide +kernel)
theorem aw_256 : (Cond.sameMethod "PressSuite$ElementReader" "PressSuite$Reader" "refused" "()Z") ∈ AW := aw_of 529 (by decide +kernel) (by decide +kernel)
theorem aw_257 : (Cond.selects RX0 ⟨"PressSuite$ElementReader", "refused", "()Z"⟩ zy_D_refused) ∈ AW := aw_of 531 (by decide +kernel) (by decide +kernel)
theorem aw_258 : (Cond.methodLink RX0 62 ⟨"PressSuite$ElementReader", "requireRoom", "(III)V"⟩) ∈ AW := aw_of 542 (by decide +kernel) (by decide +kernel)
theorem aw_259 : (Cond.sameMethod "PressSuite$ElementReader" "PressSuite$Reader" "requireRoom" "(III)V") ∈ AW := aw_of 543 (by decide +kernel) (by decide +kernel)
theorem aw_260 : (Cond.selects RX0 ⟨"PressSuite$ElementReader", "requireRoom", "(III)V"⟩ zy_D_requireRoom) ∈ AW := aw_of 545 (by decide +kernel) (by decide +kernel)
theorem aw_261 : (Cond.selects RX0 ⟨"PressSuite$Reader", "refused", "()Z"⟩ zy_D_refused) ∈ AW := aw_of 903 (by decide +kernel) (by decide +kernel)
theorem aw_262 : (Cond.selects RX0 ⟨"PressSuite$Reader", "take", "()I"⟩ zy_D_take) ∈ AW := aw_of 906 (by decide +kernel) (by decide +kernel)
theorem aw_263 : (Cond.methodLink RX0 66 ⟨"PressSuite$ElementReader", "copyLiterals", "(I)V"⟩) ∈ AW := aw_of 548 (by decide +kernel) (by decide +kernel)
theorem aw_264 : (Cond.sameMethod "PressSuite$ElementReader" "PressSuite$Reader" "copyLiterals" "(I)V") ∈ AW := aw_of 549 (by decide +kernel) (by decide +kernel)
theorem aw_265 : (Cond.selects RX0 ⟨"PressSuite$ElementReader", "copyLiterals", "(I)V"⟩ zy_D_copyLiterals) ∈ AW := aw_of 551 (by decide +kernel) (by decide +kernel)
theorem aw_266 : (Cond.methodLink RX0 52 zy_ER_readLiterals) ∈ AW := aw_of 538 (by decide +kernel) (by decide +kernel)
theorem aw_267 : (Cond.instanceMethod zy_ER_readLiterals) ∈ AW := aw_of 540 (by decide +kernel) (by decide +kernel)
theorem aw_268 : (Cond.selects RX0 zy_ER_readLiterals zy_ER_readLiterals) ∈ AW := aw_of 13 (by decide +kernel) (by decide +kernel)
theorem aw_269 : (Cond.code zy_ER_readLiterals zc_ER_readLiterals 4 none) ∈ AW := aw_of 541 (by decide +kernel) (by decide +kernel)
theorem aw_270 : (Cond.methodLink RX0 70 ⟨"PressSuite$ElementReader", "requireDistance", "(II)V"⟩) ∈ AW := aw_of 561 (by decide +kernel) (by decide +kernel)
theorem aw_271 : (Cond.sameMethod "PressSuite$ElementReader" "PressSuite$Reader" "requireDistance" "(II)V") ∈ AW := aw_of 562 (by decide +kernel) (by decide +kernel)
theorem aw_272 : (Cond.selects RX0 ⟨"PressSuite$ElementReader", "requireDistance", "(II)V"⟩ zy_D_requireDistance) ∈ AW := aw_of 564 (by decide +kernel) (by decide +kernel)
theorem aw_273 : (Cond.methodLink RX0 73 ⟨"PressSuite$ElementReader", "copyBack", "(II)V"⟩) ∈ AW := aw_of 568 (by decide +kernel) (by decide +kernel)
theorem aw_274 : (Cond.sameMethod "PressSuite$ElementReader" "PressSuite$Reader" "copyBack" "(II)V") ∈ AW := aw_of 569 (by decide +kernel) (by decide +kernel)
theorem aw_275 : (Cond.selects RX0 ⟨"PressSuite$ElementReader", "copyBack", "(II)V"⟩ zy_D_copyBack) ∈ AW := aw_of 571 (by decide +kernel) (by decide +kernel)
theorem aw_276 : (Cond.methodLink RX0 56 zy_ER_readShortCopy) ∈ AW := aw_of 557 (by decide +kernel) (by decide +kernel)
theorem aw_277 : (Cond.instanceMethod zy_ER_readShortCopy) ∈ AW := aw_of 559 (by decide +kernel) (by decide +kernel)
theorem aw_278 : (Cond.selects RX0 zy_ER_readShortCopy zy_ER_readShortCopy) ∈ AW := aw_of 14 (by decide +kernel) (by decide +kernel)
theorem aw_279 : (Cond.code zy_ER_readShortCopy zc_ER_readShortCopy 5 none) ∈ AW := aw_of 560 (by decide +kernel) (by decide +kernel)
theorem aw_280 : (Cond.methodLink RX0 76 ⟨"PressSuite$ElementReader", "takeTwo", "()I"⟩) ∈ AW := aw_of 579 (by decide +kernel) (by decide +kernel)
theorem aw_281 : (Cond.sameMethod "PressSuite$ElementReader" "PressSuite$Reader" "takeTwo" "()I") ∈ AW := aw_of 580 (by decide +kernel) (by decide +kernel)
theorem aw_282 : (Cond.selects RX0 ⟨"PressSuite$ElementReader", "takeTwo", "()I"⟩ zy_D_takeTwo) ∈ AW := aw_of 582 (by decide +kernel) (by decide +kernel)
theorem aw_283 : (Cond.methodLink RX0 59 zy_ER_readLongCopy) ∈ AW := aw_of 575 (by decide +kernel) (by decide +kernel)
theorem aw_284 : (Cond.instanceMethod zy_ER_readLongCopy) ∈ AW := aw_of 577 (by decide +kernel) (by decide +kernel)
theorem aw_285 : (Cond.selects RX0 zy_ER_readLongCopy zy_ER_readLongCopy) ∈ AW := aw_of 15 (by decide +kernel) (by decide +kernel)
theorem aw_286 : (Cond.code zy_ER_readLongCopy zc_ER_readLongCopy 5 none) ∈ AW := aw_of 578 (by decide +kernel) (by decide +kernel)
theorem aw_287 : (Cond.methodLink RX0 35 zy_ER_readElement) ∈ AW := aw_of 534 (by decide +kernel) (by decide +kernel)
theorem aw_288 : (Cond.instanceMethod zy_ER_readElement) ∈ AW := aw_of 536 (by decide +kernel) (by decide +kernel)
theorem aw_289 : (Cond.selects RX0 zy_ER_readElement zy_ER_readElement) ∈ AW := aw_of 12 (by decide +kernel) (by decide +kernel)
theorem aw_290 : (Cond.code zy_ER_readElement zc_ER_readElement 3 none) ∈ AW := aw_of 537 (by decide +kernel) (by decide +kernel)
theorem aw_291 : (Cond.fieldLink RX0 39 "PressSuite$ElementReader" "draft" "LPressSuite$Row;") ∈ AW := aw_of 185 (by decide +kernel) (by decide +kernel)
theorem aw_292 : (Cond.sameField "PressSuite$ElementReader" "PressSuite$Reader" "draft" "LPressSuite$Row;") ∈ AW := aw_of 186 (by decide +kernel) (by decide +kernel)
theorem aw_293 : (Cond.lays RX10 "PressSuiteModel" "thrown" "I") ∈ AW := aw_of 712 (by decide +kernel) (by decide +kernel)
theorem aw_294 : (Cond.laysFinal RX10 "PressSuiteModel" "bytes" "[I") ∈ AW := aw_of 714 (by decide +kernel) (by decide +kernel)
theorem aw_295 : (Cond.laysFinal RX10 "PressSuiteModel" "sizes" "[I") ∈ AW := aw_of 716 (by decide +kernel) (by decide +kernel)
theorem aw_296 : (Cond.lays RX10 "PressSuiteModel" "matches" "I") ∈ AW := aw_of 718 (by decide +kernel) (by decide +kernel)
theorem aw_297 : (Cond.lays RX10 "PressSuiteModel" "copied" "I") ∈ AW := aw_of 720 (by decide +kernel) (by decide +kernel)
theorem aw_298 : (Cond.laysFinal RX10 "PressSuiteModel" "history" "[I") ∈ AW := aw_of 722 (by decide +kernel) (by decide +kernel)
theorem aw_299 : (Cond.lays RX10 "PressSuiteModel" "begin" "I") ∈ AW := aw_of 724 (by decide +kernel) (by decide +kernel)
theorem aw_300 : (Cond.lays RX10 "PressSuiteModel" "end" "I") ∈ AW := aw_of 726 (by decide +kernel) (by decide +kernel)
theorem aw_301 : (Cond.laysFinal RX10 "PressSuiteModel" "table" "[I") ∈ AW := aw_of 728 (by decide +kernel) (by decide +kernel)
theorem aw_302 : (Cond.lays RX10 "PressSuiteModel" "out" "I") ∈ AW := aw_of 730 (by decide +kernel) (by decide +kernel)
theorem aw_303 : (Cond.lays RX10 "PressSuiteModel" "at" "I") ∈ AW := aw_of 732 (by decide +kernel) (by decide +kernel)
theorem aw_304 : (Cond.lays RX10 "PressSuiteModel" "fault" "I") ∈ AW := aw_of 734 (by decide +kernel) (by decide +kernel)
theorem aw_305 : (Cond.fieldLink RX10 22 "PressSuiteModel" "thrown" "I") ∈ AW := aw_of 700 (by decide +kernel) (by decide +kernel)
theorem aw_306 : (Cond.methodLink RX10 26 zy_M_isRow) ∈ AW := aw_of 745 (by decide +kernel) (by decide +kernel)
theorem aw_307 : (Cond.static zy_M_isRow) ∈ AW := aw_of 746 (by decide +kernel) (by decide +kernel)
theorem aw_308 : (Cond.initialized RX10) ∈ AW := aw_of 54 (by decide +kernel) (by decide +kernel)
theorem aw_309 : (Cond.code zy_M_isRow zc_M_isRow 1 (some .boolean)) ∈ AW := aw_of 747 (by decide +kernel) (by decide +kernel)
theorem aw_310 : (Cond.fieldLink RX10 13 "PressSuiteModel" "sizes" "[I") ∈ AW := aw_of 702 (by decide +kernel) (by decide +kernel)
theorem aw_311 : (Cond.methodLink RX10 30 zy_M_most) ∈ AW := aw_of 748 (by decide +kernel) (by decide +kernel)
theorem aw_312 : (Cond.static zy_M_most) ∈ AW := aw_of 749 (by decide +kernel) (by decide +kernel)
theorem aw_313 : (Cond.code zy_M_most zc_M_most 1 (some .int)) ∈ AW := aw_of 750 (by decide +kernel) (by decide +kernel)
theorem aw_314 : (Cond.methodLink RX10 34 zy_M_fails) ∈ AW := aw_of 751 (by decide +kernel) (by decide +kernel)
theorem aw_315 : (Cond.instanceMethod zy_M_fails) ∈ AW := aw_of 753 (by decide +kernel) (by decide +kernel)
theorem aw_316 : (Cond.selects RX10 zy_M_fails zy_M_fails) ∈ AW := aw_of 18 (by decide +kernel) (by decide +kernel)
theorem aw_317 : (Cond.code zy_M_fails zc_M_fails 3 (some .boolean)) ∈ AW := aw_of 754 (by decide +kernel) (by decide +kernel)
theorem aw_318 : (Cond.fieldLink RX10 7 "PressSuiteModel" "bytes" "[I") ∈ AW := aw_of 701 (by decide +kernel) (by decide +kernel)
theorem aw_319 : (Cond.constantLong RX10 38 255) ∈ AW := aw_of 755 (by decide +kernel) (by decide +kernel)
theorem aw_320 : (Cond.fieldLink RX10 43 "PressSuiteModel" "copied" "I") ∈ AW := aw_of 704 (by decide +kernel) (by decide +kernel)
theorem aw_321 : (Cond.fieldLink RX10 40 "PressSuiteModel" "matches" "I") ∈ AW := aw_of 703 (by decide +kernel) (by decide +kernel)
theorem aw_322 : (Cond.fieldLink RX10 16 "PressSuiteModel" "history" "[I") ∈ AW := aw_of 705 (by decide +kernel) (by decide +kernel)
theorem aw_323 : (Cond.methodLink RX10 46 zy_M_four) ∈ AW := aw_of 796 (by decide +kernel) (by decide +kernel)
theorem aw_324 : (Cond.static zy_M_four) ∈ AW := aw_of 797 (by decide +kernel) (by decide +kernel)
theorem aw_325 : (Cond.code zy_M_four zc_M_four 4 (some .int)) ∈ AW := aw_of 798 (by decide +kernel) (by decide +kernel)
theorem aw_326 : (Cond.methodLink RX10 50 zy_M_intAt) ∈ AW := aw_of 792 (by decide +kernel) (by decide +kernel)
theorem aw_327 : (Cond.instanceMethod zy_M_intAt) ∈ AW := aw_of 794 (by decide +kernel) (by decide +kernel)
theorem aw_328 : (Cond.selects RX10 zy_M_intAt zy_M_intAt) ∈ AW := aw_of 23 (by decide +kernel) (by decide +kernel)
theorem aw_329 : (Cond.code zy_M_intAt zc_M_intAt 2 (some .int)) ∈ AW := aw_of 795 (by decide +kernel) (by decide +kernel)
theorem aw_330 : (Cond.constant RX10 53 (-1640531535)) ∈ AW := aw_of 799 (by decide +kernel) (by decide +kernel)
theorem aw_331 : (Cond.fieldLink RX10 54 "PressSuiteModel" "begin" "I") ∈ AW := aw_of 706 (by decide +kernel) (by decide +kernel)
theorem aw_332 : (Cond.fieldLink RX10 57 "PressSuiteModel" "end" "I") ∈ AW := aw_of 707 (by decide +kernel) (by decide +kernel)
theorem aw_333 : (Cond.fieldLink RX10 60 "PressSuiteModel" "out" "I") ∈ AW := aw_of 709 (by decide +kernel) (by decide +kernel)
theorem aw_334 : (Cond.methodLink RX10 63 zy_M_emit) ∈ AW := aw_of 780 (by decide +kernel) (by decide +kernel)
theorem aw_335 : (Cond.instanceMethod zy_M_emit) ∈ AW := aw_of 782 (by decide +kernel) (by decide +kernel)
theorem aw_336 : (Cond.selects RX10 zy_M_emit zy_M_emit) ∈ AW := aw_of 20 (by decide +kernel) (by decide +kernel)
theorem aw_337 : (Cond.code zy_M_emit zc_M_emit 2 none) ∈ AW := aw_of 783 (by decide +kernel) (by decide +kernel)
theorem aw_338 : (Cond.methodLink RX10 67 zy_M_atMost15) ∈ AW := aw_of 808 (by decide +kernel) (by decide +kernel)
theorem aw_339 : (Cond.static zy_M_atMost15) ∈ AW := aw_of 809 (by decide +kernel) (by decide +kernel)
theorem aw_340 : (Cond.code zy_M_atMost15 zc_M_atMost15 1 (some .int)) ∈ AW := aw_of 810 (by decide +kernel) (by decide +kernel)
theorem aw_341 : (Cond.methodLink RX10 70 zy_M_emitMore) ∈ AW := aw_of 811 (by decide +kernel) (by decide +kernel)
theorem aw_342 : (Cond.instanceMethod zy_M_emitMore) ∈ AW := aw_of 813 (by decide +kernel) (by decide +kernel)
theorem aw_343 : (Cond.selects RX10 zy_M_emitMore zy_M_emitMore) ∈ AW := aw_of 26 (by decide +kernel) (by decide +kernel)
theorem aw_344 : (Cond.code zy_M_emitMore zc_M_emitMore 3 none) ∈ AW := aw_of 814 (by decide +kernel) (by decide +kernel)
theorem aw_345 : (Cond.methodLink RX10 73 zy_M_emitLiterals) ∈ AW := aw_of 815 (by decide +kernel) (by decide +kernel)
theorem aw_346 : (Cond.instanceMethod zy_M_emitLiterals) ∈ AW := aw_of 817 (by decide +kernel) (by decide +kernel)
theorem aw_347 : (Cond.selects RX10 zy_M_emitLiterals zy_M_emitLiterals) ∈ AW := aw_of 27 (by decide +kernel) (by decide +kernel)
theorem aw_348 : (Cond.code zy_M_emitLiterals zc_M_emitLiterals 4 none) ∈ AW := aw_of 818 (by decide +kernel) (by decide +kernel)
theorem aw_349 : (Cond.methodLink RX10 77 zy_M_copyElement) ∈ AW := aw_of 827 (by decide +kernel) (by decide +kernel)
theorem aw_350 : (Cond.instanceMethod zy_M_copyElement) ∈ AW := aw_of 829 (by decide +kernel) (by decide +kernel)
theorem aw_351 : (Cond.selects RX10 zy_M_copyElement zy_M_copyElement) ∈ AW := aw_of 30 (by decide +kernel) (by decide +kernel)
theorem aw_352 : (Cond.code zy_M_copyElement zc_M_copyElement 3 none) ∈ AW := aw_of 830 (by decide +kernel) (by decide +kernel)
theorem aw_353 : (Cond.fieldLink RX10 19 "PressSuiteModel" "table" "[I") ∈ AW := aw_of 708 (by decide +kernel) (by decide +kernel)
theorem aw_354 : (Cond.methodLink RX10 80 zy_M_slot) ∈ AW := aw_of 788 (by decide +kernel) (by decide +kernel)
theorem aw_355 : (Cond.instanceMethod zy_M_slot) ∈ AW := aw_of 790 (by decide +kernel) (by decide +kernel)
theorem aw_356 : (Cond.selects RX10 zy_M_slot zy_M_slot) ∈ AW := aw_of 22 (by decide +kernel) (by decide +kernel)
theorem aw_357 : (Cond.code zy_M_slot zc_M_slot 2 (some .int)) ∈ AW := aw_of 791 (by decide +kernel) (by decide +kernel)
theorem aw_358 : (Cond.methodLink RX10 83 zy_M_same) ∈ AW := aw_of 800 (by decide +kernel) (by decide +kernel)
theorem aw_359 : (Cond.instanceMethod zy_M_same) ∈ AW := aw_of 802 (by decide +kernel) (by decide +kernel)
theorem aw_360 : (Cond.selects RX10 zy_M_same zy_M_same) ∈ AW := aw_of 24 (by decide +kernel) (by decide +kernel)
theorem aw_361 : (Cond.code zy_M_same zc_M_same 4 (some .int)) ∈ AW := aw_of 803 (by decide +kernel) (by decide +kernel)
theorem aw_362 : (Cond.methodLink RX10 91 zy_M_literalElement) ∈ AW := aw_of 819 (by decide +kernel) (by decide +kernel)
theorem aw_363 : (Cond.instanceMethod zy_M_literalElement) ∈ AW := aw_of 821 (by decide +kernel) (by decide +kernel)
theorem aw_364 : (Cond.selects RX10 zy_M_literalElement zy_M_literalElement) ∈ AW := aw_of 28 (by decide +kernel) (by decide +kernel)
theorem aw_365 : (Cond.code zy_M_literalElement zc_M_literalElement 4 none) ∈ AW := aw_of 822 (by decide +kernel) (by decide +kernel)
theorem aw_366 : (Cond.methodLink RX10 94 zy_M_copyElements) ∈ AW := aw_of 823 (by decide +kernel) (by decide +kernel)
theorem aw_367 : (Cond.instanceMethod zy_M_copyElements) ∈ AW := aw_of 825 (by decide +kernel) (by decide +kernel)
theorem aw_368 : (Cond.selects RX10 zy_M_copyElements zy_M_copyElements) ∈ AW := aw_of 29 (by decide +kernel) (by decide +kernel)
theorem aw_369 : (Cond.code zy_M_copyElements zc_M_copyElements 4 none) ∈ AW := aw_of 826 (by decide +kernel) (by decide +kernel)
theorem aw_370 : (Cond.methodLink RX10 87 zy_M_sequence) ∈ AW := aw_of 804 (by decide +kernel) (by decide +kernel)
theorem aw_371 : (Cond.instanceMethod zy_M_sequence) ∈ AW := aw_of 806 (by decide +kernel) (by decide +kernel)
theorem aw_372 : (Cond.selects RX10 zy_M_sequence zy_M_sequence) ∈ AW := aw_of 25 (by decide +kernel) (by decide +kernel)
theorem aw_373 : (Cond.code zy_M_sequence zc_M_sequence 6 none) ∈ AW := aw_of 807 (by decide +kernel) (by decide +kernel)
theorem aw_374 : (Cond.methodLink RX10 97 zy_M_lastSequence) ∈ AW := aw_of 831 (by decide +kernel) (by decide +kernel)
theorem aw_375 : (Cond.instanceMethod zy_M_lastSequence) ∈ AW := aw_of 833 (by decide +kernel) (by decide +kernel)
theorem aw_376 : (Cond.selects RX10 zy_M_lastSequence zy_M_lastSequence) ∈ AW := aw_of 31 (by decide +kernel) (by decide +kernel)
theorem aw_377 : (Cond.code zy_M_lastSequence zc_M_lastSequence 3 none) ∈ AW := aw_of 834 (by decide +kernel) (by decide +kernel)
theorem aw_378 : (Cond.methodLink RX10 100 zy_M_remembers) ∈ AW := aw_of 776 (by decide +kernel) (by decide +kernel)
theorem aw_379 : (Cond.instanceMethod zy_M_remembers) ∈ AW := aw_of 778 (by decide +kernel) (by decide +kernel)
theorem aw_380 : (Cond.selects RX10 zy_M_remembers zy_M_remembers) ∈ AW := aw_of 19 (by decide +kernel) (by decide +kernel)
theorem aw_381 : (Cond.code zy_M_remembers zc_M_remembers 2 none) ∈ AW := aw_of 779 (by decide +kernel) (by decide +kernel)
theorem aw_382 : (Cond.methodLink RX10 103 zy_M_packs) ∈ AW := aw_of 784 (by decide +kernel) (by decide +kernel)
theorem aw_383 : (Cond.instanceMethod zy_M_packs) ∈ AW := aw_of 786 (by decide +kernel) (by decide +kernel)
theorem aw_384 : (Cond.selects RX10 zy_M_packs zy_M_packs) ∈ AW := aw_of 21 (by decide +kernel) (by decide +kernel)
theorem aw_385 : (Cond.code zy_M_packs zc_M_packs 7 none) ∈ AW := aw_of 787 (by decide +kernel) (by decide +kernel)
theorem aw_386 : (Cond.fieldLink RX10 106 "PressSuiteModel" "fault" "I") ∈ AW := aw_of 711 (by decide +kernel) (by decide +kernel)
theorem aw_387 : (Cond.fieldLink RX10 109 "PressSuiteModel" "at" "I") ∈ AW := aw_of 710 (by decide +kernel) (by decide +kernel)
theorem aw_388 : (Cond.methodLink RX10 112 zy_M_need) ∈ AW := aw_of 847 (by decide +kernel) (by decide +kernel)
theorem aw_389 : (Cond.instanceMethod zy_M_need) ∈ AW := aw_of 849 (by decide +kernel) (by decide +kernel)
theorem aw_390 : (Cond.selects RX10 zy_M_need zy_M_need) ∈ AW := aw_of 34 (by decide +kernel) (by decide +kernel)
theorem aw_391 : (Cond.code zy_M_need zc_M_need 3 none) ∈ AW := aw_of 850 (by decide +kernel) (by decide +kernel)
theorem aw_392 : (Cond.methodLink RX10 116 zy_M_next) ∈ AW := aw_of 843 (by decide +kernel) (by decide +kernel)
theorem aw_393 : (Cond.instanceMethod zy_M_next) ∈ AW := aw_of 845 (by decide +kernel) (by decide +kernel)
theorem aw_394 : (Cond.selects RX10 zy_M_next zy_M_next) ∈ AW := aw_of 33 (by decide +kernel) (by decide +kernel)
theorem aw_395 : (Cond.code zy_M_next zc_M_next 1 (some .int)) ∈ AW := aw_of 846 (by decide +kernel) (by decide +kernel)
theorem aw_396 : (Cond.methodLink RX10 120 zy_M_more) ∈ AW := aw_of 851 (by decide +kernel) (by decide +kernel)
theorem aw_397 : (Cond.instanceMethod zy_M_more) ∈ AW := aw_of 853 (by decide +kernel) (by decide +kernel)
theorem aw_398 : (Cond.selects RX10 zy_M_more zy_M_more) ∈ AW := aw_of 35 (by decide +kernel) (by decide +kernel)
theorem aw_399 : (Cond.code zy_M_more zc_M_more 4 (some .int)) ∈ AW := aw_of 854 (by decide +kernel) (by decide +kernel)
theorem aw_400 : (Cond.methodLink RX10 123 zy_M_made) ∈ AW := aw_of 855 (by decide +kernel) (by decide +kernel)
theorem aw_401 : (Cond.instanceMethod zy_M_made) ∈ AW := aw_of 857 (by decide +kernel) (by decide +kernel)
theorem aw_402 : (Cond.selects RX10 zy_M_made zy_M_made) ∈ AW := aw_of 36 (by decide +kernel) (by decide +kernel)
theorem aw_403 : (Cond.code zy_M_made zc_M_made 1 (some .int)) ∈ AW := aw_of 858 (by decide +kernel) (by decide +kernel)
theorem aw_404 : (Cond.methodLink RX10 126 zy_M_literals) ∈ AW := aw_of 859 (by decide +kernel) (by decide +kernel)
theorem aw_405 : (Cond.instanceMethod zy_M_literals) ∈ AW := aw_of 861 (by decide +kernel) (by decide +kernel)
theorem aw_406 : (Cond.selects RX10 zy_M_literals zy_M_literals) ∈ AW := aw_of 37 (by decide +kernel) (by decide +kernel)
theorem aw_407 : (Cond.code zy_M_literals zc_M_literals 4 none) ∈ AW := aw_of 862 (by decide +kernel) (by decide +kernel)
theorem aw_408 : (Cond.methodLink RX10 129 zy_M_copies) ∈ AW := aw_of 863 (by decide +kernel) (by decide +kernel)
theorem aw_409 : (Cond.instanceMethod zy_M_copies) ∈ AW := aw_of 865 (by decide +kernel) (by decide +kernel)
theorem aw_410 : (Cond.selects RX10 zy_M_copies zy_M_copies) ∈ AW := aw_of 38 (by decide +kernel) (by decide +kernel)
theorem aw_411 : (Cond.code zy_M_copies zc_M_copies 4 none) ∈ AW := aw_of 866 (by decide +kernel) (by decide +kernel)
theorem aw_412 : (Cond.methodLink RX10 132 zy_M_element) ∈ AW := aw_of 871 (by decide +kernel) (by decide +kernel)
theorem aw_413 : (Cond.instanceMethod zy_M_element) ∈ AW := aw_of 873 (by decide +kernel) (by decide +kernel)
theorem aw_414 : (Cond.selects RX10 zy_M_element zy_M_element) ∈ AW := aw_of 40 (by decide +kernel) (by decide +kernel)
theorem aw_415 : (Cond.code zy_M_element zc_M_element 8 none) ∈ AW := aw_of 874 (by decide +kernel) (by decide +kernel)
theorem aw_416 : (Cond.methodLink RX10 138 zy_M_readOne) ∈ AW := aw_of 867 (by decide +kernel) (by decide +kernel)
theorem aw_417 : (Cond.instanceMethod zy_M_readOne) ∈ AW := aw_of 869 (by decide +kernel) (by decide +kernel)
theorem aw_418 : (Cond.selects RX10 zy_M_readOne zy_M_readOne) ∈ AW := aw_of 39 (by decide +kernel) (by decide +kernel)
theorem aw_419 : (Cond.code zy_M_readOne zc_M_readOne 3 none) ∈ AW := aw_of 870 (by decide +kernel) (by decide +kernel)
theorem aw_420 : (Cond.methodLink RX10 135 zy_M_readZero) ∈ AW := aw_of 839 (by decide +kernel) (by decide +kernel)
theorem aw_421 : (Cond.instanceMethod zy_M_readZero) ∈ AW := aw_of 841 (by decide +kernel) (by decide +kernel)
theorem aw_422 : (Cond.selects RX10 zy_M_readZero zy_M_readZero) ∈ AW := aw_of 32 (by decide +kernel) (by decide +kernel)
theorem aw_423 : (Cond.code zy_M_readZero zc_M_readZero 9 none) ∈ AW := aw_of 842 (by decide +kernel) (by decide +kernel)
theorem aw_424 : (Cond.constant RX10 141 (-2097792136)) ∈ AW := aw_of 879 (by decide +kernel) (by decide +kernel)
theorem aw_425 : (Cond.methodLink RX10 142 zy_M_rowInt) ∈ AW := aw_of 890 (by decide +kernel) (by decide +kernel)
theorem aw_426 : (Cond.instanceMethod zy_M_rowInt) ∈ AW := aw_of 892 (by decide +kernel) (by decide +kernel)
theorem aw_427 : (Cond.selects RX10 zy_M_rowInt zy_M_rowInt) ∈ AW := aw_of 42 (by decide +kernel) (by decide +kernel)
theorem aw_428 : (Cond.code zy_M_rowInt zc_M_rowInt 4 (some .int)) ∈ AW := aw_of 893 (by decide +kernel) (by decide +kernel)
theorem aw_429 : (Cond.constant RX10 145 (-2048144777)) ∈ AW := aw_of 885 (by decide +kernel) (by decide +kernel)
theorem aw_430 : (Cond.methodLink RX10 146 zy_M_turn) ∈ AW := aw_of 894 (by decide +kernel) (by decide +kernel)
theorem aw_431 : (Cond.static zy_M_turn) ∈ AW := aw_of 895 (by decide +kernel) (by decide +kernel)
theorem aw_432 : (Cond.code zy_M_turn zc_M_turn 2 (some .int)) ∈ AW := aw_of 896 (by decide +kernel) (by decide +kernel)
theorem aw_433 : (Cond.constant RX10 149 374761393) ∈ AW := aw_of 884 (by decide +kernel) (by decide +kernel)
theorem aw_434 : (Cond.methodLink RX10 150 zy_M_lane) ∈ AW := aw_of 886 (by decide +kernel) (by decide +kernel)
theorem aw_435 : (Cond.instanceMethod zy_M_lane) ∈ AW := aw_of 888 (by decide +kernel) (by decide +kernel)
theorem aw_436 : (Cond.selects RX10 zy_M_lane zy_M_lane) ∈ AW := aw_of 41 (by decide +kernel) (by decide +kernel)
theorem aw_437 : (Cond.code zy_M_lane zc_M_lane 6 (some .int)) ∈ AW := aw_of 889 (by decide +kernel) (by decide +kernel)
theorem aw_438 : (Cond.constant RX10 154 (-1028477379)) ∈ AW := aw_of 897 (by decide +kernel) (by decide +kernel)
theorem aw_439 : (Cond.constant RX10 155 668265263) ∈ AW := aw_of 898 (by decide +kernel) (by decide +kernel)
theorem aw_440 : (Cond.methodLink RX4 32 zy_R_clear) ∈ AW := aw_of 494 (by decide +kernel) (by decide +kernel)
theorem aw_441 : (Cond.constant RX9 152 (-2097792136)) ∈ AW := aw_of 662 (by decide +kernel) (by decide +kernel)
theorem aw_442 : (Cond.constant RX9 153 (-1640531535)) ∈ AW := aw_of 673 (by decide +kernel) (by decide +kernel)
theorem aw_443 : (Cond.constant RX9 154 (-2048144777)) ∈ AW := aw_of 674 (by decide +kernel) (by decide +kernel)
theorem aw_444 : (Cond.methodLink RX9 163 zy_R_intAt) ∈ AW := aw_of 678 (by decide +kernel) (by decide +kernel)
theorem aw_445 : (Cond.instanceMethod zy_R_intAt) ∈ AW := aw_of 679 (by decide +kernel) (by decide +kernel)
theorem aw_446 : (Cond.selects RX5 zy_R_intAt zy_R_intAt) ∈ AW := aw_of 680 (by decide +kernel) (by decide +kernel)
theorem aw_447 : (Cond.code zy_R_intAt zc_R_intAt 2 (some .int)) ∈ AW := aw_of 681 (by decide +kernel) (by decide +kernel)
theorem aw_448 : (Cond.methodLink RX9 159 zy_X_turnLeft) ∈ AW := aw_of 682 (by decide +kernel) (by decide +kernel)
theorem aw_449 : (Cond.static zy_X_turnLeft) ∈ AW := aw_of 683 (by decide +kernel) (by decide +kernel)
theorem aw_450 : (Cond.initialized RX9) ∈ AW := aw_of 44 (by decide +kernel) (by decide +kernel)
theorem aw_451 : (Cond.code zy_X_turnLeft zc_X_turnLeft 2 (some .int)) ∈ AW := aw_of 684 (by decide +kernel) (by decide +kernel)
theorem aw_452 : (Cond.methodLink RX9 155 zy_X_lane) ∈ AW := aw_of 675 (by decide +kernel) (by decide +kernel)
theorem aw_453 : (Cond.static zy_X_lane) ∈ AW := aw_of 676 (by decide +kernel) (by decide +kernel)
theorem aw_454 : (Cond.code zy_X_lane zc_X_lane 5 (some .int)) ∈ AW := aw_of 677 (by decide +kernel) (by decide +kernel)
theorem aw_455 : (Cond.constant RX9 166 (-1028477379)) ∈ AW := aw_of 689 (by decide +kernel) (by decide +kernel)
theorem aw_456 : (Cond.constant RX9 167 668265263) ∈ AW := aw_of 690 (by decide +kernel) (by decide +kernel)
theorem aw_457 : (Cond.methodLink RX9 122 zy_R_byteAt) ∈ AW := aw_of 643 (by decide +kernel) (by decide +kernel)
theorem aw_458 : (Cond.constant RX9 141 374761393) ∈ AW := aw_of 685 (by decide +kernel) (by decide +kernel)
theorem aw_459 : (Cond.code zy_R_room zc_R_room 1 (some .int)) ∈ AW := aw_of 332 (by decide +kernel) (by decide +kernel)
theorem aw_460 : (Cond.code zy_R_become zc_R_become 3 none) ∈ AW := aw_of 624 (by decide +kernel) (by decide +kernel)
theorem aw_461 : (Cond.code zy_P_run zc_P_run 3 none) ∈ AW := aw_of 378 (by decide +kernel) (by decide +kernel)
theorem aw_462 : (Cond.code zy_SR_readAll zc_SR_readAll 3 none) ∈ AW := aw_of 587 (by decide +kernel) (by decide +kernel)
theorem aw_463 : (Cond.code zy_ER_readAll zc_ER_readAll 2 none) ∈ AW := aw_of 500 (by decide +kernel) (by decide +kernel)
theorem aw_464 : (Cond.code zy_M_thrown zc_M_thrown 1 (some .int)) ∈ AW := aw_of 740 (by decide +kernel) (by decide +kernel)
theorem aw_465 : (Cond.code zy_M_put zc_M_put 7 none) ∈ AW := aw_of 744 (by decide +kernel) (by decide +kernel)
theorem aw_466 : (Cond.code zy_M_empty zc_M_empty 3 (some .int)) ∈ AW := aw_of 759 (by decide +kernel) (by decide +kernel)
theorem aw_467 : (Cond.code zy_M_size zc_M_size 2 (some .int)) ∈ AW := aw_of 763 (by decide +kernel) (by decide +kernel)
theorem aw_468 : (Cond.code zy_M_get zc_M_get 4 (some .int)) ∈ AW := aw_of 767 (by decide +kernel) (by decide +kernel)
theorem aw_469 : (Cond.code zy_M_found zc_M_found 2 (some .int)) ∈ AW := aw_of 771 (by decide +kernel) (by decide +kernel)
theorem aw_470 : (Cond.code zy_M_pack zc_M_pack 3 (some .int)) ∈ AW := aw_of 775 (by decide +kernel) (by decide +kernel)
theorem aw_471 : (Cond.code zy_M_unpack zc_M_unpack 3 (some .int)) ∈ AW := aw_of 838 (by decide +kernel) (by decide +kernel)
theorem aw_472 : (Cond.code zy_M_crc zc_M_crc 6 (some .int)) ∈ AW := aw_of 878 (by decide +kernel) (by decide +kernel)
theorem aw_473 : (Cond.code zy_M_hash zc_M_hash 7 (some .int)) ∈ AW := aw_of 883 (by decide +kernel) (by decide +kernel)
theorem aw_474 : (Cond.code zy_D_rewind zc_D_rewind 1 none) ∈ AW := aw_of 493 (by decide +kernel) (by decide +kernel)
theorem aw_475 : (Cond.code zy_X_crcStep zc_X_crcStep 3 (some .int)) ∈ AW := aw_of 661 (by decide +kernel) (by decide +kernel)
theorem aw_476 : (Cond.code zy_X_mixLanes zc_X_mixLanes 2 (some .int)) ∈ AW := aw_of 672 (by decide +kernel) (by decide +kernel)
theorem aw_477 : (Cond.code zy_X_mixRest zc_X_mixRest 5 (some .int)) ∈ AW := aw_of 688 (by decide +kernel) (by decide +kernel)
theorem aw_478 : (Cond.code zy_X_finish zc_X_finish 2 (some .int)) ∈ AW := aw_of 693 (by decide +kernel) (by decide +kernel)
theorem nw_0 : (Cond.fieldLinkNest RX2 16 "PressSuite$Row" "count" "I" "PressSuite") ∈ NW := nw_of 76 (by decide +kernel) (by decide +kernel)
theorem nw_1 : (Cond.fieldLinkNest RX3 47 "PressSuite$Row" "count" "I" "PressSuite") ∈ NW := nw_of 81 (by decide +kernel) (by decide +kernel)
theorem nw_2 : (Cond.declares ⟨"PressSuite$Writer", "begin", "()V"⟩) ∈ NW := nw_of 401 (by decide +kernel) (by decide +kernel)
theorem nw_3 : (Cond.declares ⟨"PressSuite$Writer", "match", "(IIII)V"⟩) ∈ NW := nw_of 426 (by decide +kernel) (by decide +kernel)
theorem nw_4 : (Cond.fieldLinkNest RX7 39 "PressSuite$Row" "count" "I" "PressSuite") ∈ NW := nw_of 83 (by decide +kernel) (by decide +kernel)
theorem nw_5 : (Cond.declares ⟨"PressSuite$Writer", "end", "(I)V"⟩) ∈ NW := nw_of 473 (by decide +kernel) (by decide +kernel)
theorem nw_6 : (Cond.fieldLinkNest RX1 22 "PressSuite$Row" "count" "I" "PressSuite") ∈ NW := nw_of 79 (by decide +kernel) (by decide +kernel)
theorem nw_7 : (Cond.fieldLinkNest RX6 15 "PressSuite$Row" "count" "I" "PressSuite") ∈ NW := nw_of 78 (by decide +kernel) (by decide +kernel)
theorem nw_8 : (Cond.fieldLinkNest RX4 37 "PressSuite$Row" "count" "I" "PressSuite") ∈ NW := nw_of 84 (by decide +kernel) (by decide +kernel)
theorem nw_9 : (Cond.fieldLinkNest RX0 23 "PressSuite$Row" "count" "I" "PressSuite") ∈ NW := nw_of 80 (by decide +kernel) (by decide +kernel)
theorem nw_10 : (Cond.fieldLinkNest RX9 87 "PressSuite$Row" "count" "I" "PressSuite") ∈ NW := nw_of 82 (by decide +kernel) (by decide +kernel)
theorem uw_5 : ∀ w ∈ u_ws RX5 TX5 2, w ∈ AW := by
  intro w hw
  have e : u_ws RX5 TX5 2 = [Cond.laysFinal RX5 "PressSuite$Row" "bytes" "[B", Cond.lays RX5 "PressSuite$Row" "count" "I"] := rfl
  rw [e] at hw
  simp only [List.mem_cons, List.not_mem_nil, or_false] at hw
  rcases hw with rfl | rfl
  · exact aw_0
  · exact aw_1
theorem uw_2 : ∀ w ∈ u_ws RX2 TX2 2, w ∈ AW := by
  intro w hw
  have e : u_ws RX2 TX2 2 = [Cond.laysFinal RX2 "PressSuite$History" "past" "LPressSuite$Row;", Cond.laysFinal RX2 "PressSuite$History" "plain" "LPressSuite$Row;"] := rfl
  rw [e] at hw
  simp only [List.mem_cons, List.not_mem_nil, or_false] at hw
  rcases hw with rfl | rfl
  · exact aw_17
  · exact aw_18
theorem uw_3 : ∀ w ∈ u_ws RX3 TX3 7, w ∈ AW := by
  intro w hw
  have e : u_ws RX3 TX3 7 = [Cond.laysFinal RX3 "PressSuite$Packer" "past" "LPressSuite$Row;", Cond.laysFinal RX3 "PressSuite$Packer" "plain" "LPressSuite$Row;", Cond.laysFinal RX3 "PressSuite$Packer" "history" "LPressSuite$History;", Cond.laysFinal RX3 "PressSuite$Packer" "table" "[I", Cond.lays RX3 "PressSuite$Packer" "anchor" "I", Cond.lays RX3 "PressSuite$Packer" "matches" "I", Cond.lays RX3 "PressSuite$Packer" "copied" "I"] := rfl
  rw [e] at hw
  simp only [List.mem_cons, List.not_mem_nil, or_false] at hw
  rcases hw with rfl | rfl | rfl | rfl | rfl | rfl | rfl
  · exact aw_27
  · exact aw_28
  · exact aw_29
  · exact aw_30
  · exact aw_31
  · exact aw_32
  · exact aw_33
theorem uw_7 : ∀ w ∈ u_ws RX7 TX7 2, w ∈ AW := by
  intro w hw
  have e : u_ws RX7 TX7 2 = [Cond.laysFinal RX7 "PressSuite$Writer" "plain" "LPressSuite$Row;", Cond.laysFinal RX7 "PressSuite$Writer" "out" "LPressSuite$Row;"] := rfl
  rw [e] at hw
  simp only [List.mem_cons, List.not_mem_nil, or_false] at hw
  rcases hw with rfl | rfl
  · exact aw_54
  · exact aw_55
theorem uw_1 : ∀ w ∈ u_ws RX1 TX1 2, w ∈ AW := by
  intro w hw
  have e : u_ws RX1 TX1 2 = [Cond.laysFinal RX1 "PressSuite$Writer" "plain" "LPressSuite$Row;", Cond.laysFinal RX1 "PressSuite$Writer" "out" "LPressSuite$Row;"] := rfl
  rw [e] at hw
  simp only [List.mem_cons, List.not_mem_nil, or_false] at hw
  rcases hw with rfl | rfl
  · exact aw_117
  · exact aw_118
theorem uw_6 : ∀ w ∈ u_ws RX6 TX6 5, w ∈ AW := by
  intro w hw
  have e : u_ws RX6 TX6 5 = [Cond.laysFinal RX6 "PressSuite$Reader" "source" "LPressSuite$Row;", Cond.laysFinal RX6 "PressSuite$Reader" "draft" "LPressSuite$Row;", Cond.laysFinal RX6 "PressSuite$Reader" "history" "LPressSuite$History;", Cond.lays RX6 "PressSuite$Reader" "at" "I", Cond.lays RX6 "PressSuite$Reader" "refusedAt" "I"] := rfl
  rw [e] at hw
  simp only [List.mem_cons, List.not_mem_nil, or_false] at hw
  rcases hw with rfl | rfl | rfl | rfl | rfl
  · exact aw_150
  · exact aw_151
  · exact aw_152
  · exact aw_153
  · exact aw_154
theorem uw_0 : ∀ w ∈ u_ws RX0 TX0 6, w ∈ AW := by
  intro w hw
  have e : u_ws RX0 TX0 6 = [Cond.laysFinal RX0 "PressSuite$Reader" "source" "LPressSuite$Row;", Cond.laysFinal RX0 "PressSuite$Reader" "draft" "LPressSuite$Row;", Cond.laysFinal RX0 "PressSuite$Reader" "history" "LPressSuite$History;", Cond.lays RX0 "PressSuite$Reader" "at" "I", Cond.lays RX0 "PressSuite$Reader" "refusedAt" "I", Cond.lays RX0 "PressSuite$ElementReader" "promised" "I"] := rfl
  rw [e] at hw
  simp only [List.mem_cons, List.not_mem_nil, or_false] at hw
  rcases hw with rfl | rfl | rfl | rfl | rfl | rfl
  · exact aw_229
  · exact aw_230
  · exact aw_231
  · exact aw_232
  · exact aw_233
  · exact aw_234
theorem uw_10 : ∀ w ∈ u_ws RX10 TXM 12, w ∈ AW := by
  intro w hw
  have e : u_ws RX10 TXM 12 = [Cond.lays RX10 "PressSuiteModel" "thrown" "I", Cond.laysFinal RX10 "PressSuiteModel" "bytes" "[I", Cond.laysFinal RX10 "PressSuiteModel" "sizes" "[I", Cond.lays RX10 "PressSuiteModel" "matches" "I", Cond.lays RX10 "PressSuiteModel" "copied" "I", Cond.laysFinal RX10 "PressSuiteModel" "history" "[I", Cond.lays RX10 "PressSuiteModel" "begin" "I", Cond.lays RX10 "PressSuiteModel" "end" "I", Cond.laysFinal RX10 "PressSuiteModel" "table" "[I", Cond.lays RX10 "PressSuiteModel" "out" "I", Cond.lays RX10 "PressSuiteModel" "at" "I", Cond.lays RX10 "PressSuiteModel" "fault" "I"] := rfl
  rw [e] at hw
  simp only [List.mem_cons, List.not_mem_nil, or_false] at hw
  rcases hw with rfl | rfl | rfl | rfl | rfl | rfl | rfl | rfl | rfl | rfl | rfl | rfl
  · exact aw_293
  · exact aw_294
  · exact aw_295
  · exact aw_296
  · exact aw_297
  · exact aw_298
  · exact aw_299
  · exact aw_300
  · exact aw_301
  · exact aw_302
  · exact aw_303
  · exact aw_304
end
section
/-! The judgement G: W with locals as a list, the world as a list of cells; its rules; contracts CoI, CoV in that form. Own work over the kit's rows. -/
abbrev gT (cB cI cJ : ClassId) : List (ClassId × FieldType) := [(cB, .byte), (cI, .int), (cJ, .long)]
abbrev GC : Type := Program × Launch × Env × Room × State × MethodId × Array Value × List Frame × Method × Code × (State → Prop) × (Nat → Prop)
def G (D : va_G) (nL : Nat) (k : GC) (cells slots pc : Nat) (L : List (Nat × Value)) (st : List Value) (ws : va_W) : Prop := match k with
  | (p, l, e, R, s, m, args, below, meth, c, Q, A) => ∀ (H : Heap) (locs : List Loc) (ls : Array Slot), lv_has ls nL L → va_P D zCl ws H → va_D A ws → va_S A s.heap H locs → W p l e R s m args below meth c H locs cells slots Q (F0 m pc ls st)
def GF (k : GC) (l' : Launch) (R' : Room) (cc : ByteArray) (nL : Nat) (own : String) (D : va_G) (cB cI cJ : ClassId) : Prop := match k with
  | (p, l, e, R, s, m, args, below, meth, c, Q, A) => CallFix p m c cc nL s args AW own ∧ va_K D zCl (gT cB cI cJ) s ∧ NK s ∧ l' = l ∧ R' = R ∧ (∀ q, s.heap.size ≤ q → A q)
def ush (x y : Int32) : Int32 := (x.toUInt32 >>> (y.toUInt32 &&& Int32.toUInt32 31)).toInt32
def lush (x : Int64) (y : Int32) : Int64 := (x.toUInt64 >>> (y.toInt64.toUInt64 &&& Int64.toUInt64 63)).toInt64
def lshl (x : Int64) (y : Int32) : Int64 := x <<< (y.toInt64 &&& 63)
def lshr (x : Int64) (y : Int32) : Int64 := x >>> (y.toInt64 &&& 63)
def bnd {α β : Type} (a : α) (k : α → β) : β := k a
theorem bnd_s {α β : Type} {a : α} {k : α → β} {r : β} (h : bnd a k = r) : ∃ x, x = a ∧ k x = r := ⟨a, rfl, h⟩
def gd {α : Type} (c : Prop) [Decidable c] (x : Option α) : Option α := if c then x else none
theorem gd_s {α : Type} {c : Prop} [Decidable c] {x : Option α} {r : α} (h : gd c x = some r) : c ∧ x = some r := by
  unfold gd at h
  by_cases hc : c
  · rw [if_pos hc] at h; exact ⟨hc, h⟩
  · rw [if_neg hc] at h; cases h
theorem gd_t {α : Type} {c : Prop} [Decidable c] {x : Option α} (h : c) : gd c x = x := if_pos h
theorem iP {α : Type} {c : Prop} [Decidable c] {a b r : α} (h : (if c then a else b) = r) (hc : c) : a = r := by rw [if_pos hc] at h; exact h
theorem iN {α : Type} {c : Prop} [Decidable c] {a b r : α} (h : (if c then a else b) = r) (hc : ¬ c) : b = r := by rw [if_neg hc] at h; exact h
def bc0 {ρ : Type} (o : Option Unit) (k : Unit → Option ρ) : Option ρ := match o with
  | none => none
  | some a => k a
theorem bc0_s {ρ : Type} {o : Option Unit} {k : Unit → Option ρ} {r : ρ} (h : bc0 o k = some r) : o = some () ∧ k () = some r := by
  cases o with
  | none => cases h
  | some a => exact ⟨rfl, h⟩
def bc1 {α ρ : Type} (o : Option α) (k : α → Option ρ) : Option ρ := match o with
  | none => none
  | some a => k a
theorem bc1_s {α ρ : Type} {o : Option α} {k : α → Option ρ} {r : ρ} (h : bc1 o k = some r) : ∃ a, o = some a ∧ k a = some r := by
  cases o with
  | none => cases h
  | some a => exact ⟨a, rfl, h⟩
def bc2 {T0 T1 ρ : Type} (o : Option (T0 × T1)) (k : T0 → T1 → Option ρ) : Option ρ := match o with
  | none => none
  | some (a0, a1) => k a0 a1
theorem bc2_s {T0 T1 ρ : Type} {o : Option (T0 × T1)} {k : T0 → T1 → Option ρ} {r : ρ} (h : bc2 o k = some r) : ∃ a0 a1, o = some (a0, a1) ∧ k a0 a1 = some r := by
  cases o with
  | none => cases h
  | some a =>
    obtain ⟨a0, a1⟩ := a
    exact ⟨a0, a1, rfl, h⟩
theorem inj2 {T0 T1 : Type} {a0 b0 : T0} {a1 b1 : T1} (h : some (a0, a1) = some (b0, b1)) : a0 = b0 ∧ a1 = b1 := by
  cases h
  exact ⟨rfl, rfl⟩
def bc3 {T0 T1 T2 ρ : Type} (o : Option (T0 × T1 × T2)) (k : T0 → T1 → T2 → Option ρ) : Option ρ := match o with
  | none => none
  | some (a0, a1, a2) => k a0 a1 a2
theorem bc3_s {T0 T1 T2 ρ : Type} {o : Option (T0 × T1 × T2)} {k : T0 → T1 → T2 → Option ρ} {r : ρ} (h : bc3 o k = some r) : ∃ a0 a1 a2, o = some (a0, a1, a2) ∧ k a0 a1 a2 = some r := by
  cases o with
  | none => cases h
  | some a =>
    obtain ⟨a0, a1, a2⟩ := a
    exact ⟨a0, a1, a2, rfl, h⟩
theorem inj3 {T0 T1 T2 : Type} {a0 b0 : T0} {a1 b1 : T1} {a2 b2 : T2} (h : some (a0, a1, a2) = some (b0, b1, b2)) : a0 = b0 ∧ a1 = b1 ∧ a2 = b2 := by
  cases h
  exact ⟨rfl, rfl, rfl⟩
def bc4 {T0 T1 T2 T3 ρ : Type} (o : Option (T0 × T1 × T2 × T3)) (k : T0 → T1 → T2 → T3 → Option ρ) : Option ρ := match o with
  | none => none
  | some (a0, a1, a2, a3) => k a0 a1 a2 a3
theorem bc4_s {T0 T1 T2 T3 ρ : Type} {o : Option (T0 × T1 × T2 × T3)} {k : T0 → T1 → T2 → T3 → Option ρ} {r : ρ} (h : bc4 o k = some r) : ∃ a0 a1 a2 a3, o = some (a0, a1, a2, a3) ∧ k a0 a1 a2 a3 = some r := by
  cases o with
  | none => cases h
  | some a =>
    obtain ⟨a0, a1, a2, a3⟩ := a
    exact ⟨a0, a1, a2, a3, rfl, h⟩
theorem inj4 {T0 T1 T2 T3 : Type} {a0 b0 : T0} {a1 b1 : T1} {a2 b2 : T2} {a3 b3 : T3} (h : some (a0, a1, a2, a3) = some (b0, b1, b2, b3)) : a0 = b0 ∧ a1 = b1 ∧ a2 = b2 ∧ a3 = b3 := by
  cases h
  exact ⟨rfl, rfl, rfl, rfl⟩
def bc5 {T0 T1 T2 T3 T4 ρ : Type} (o : Option (T0 × T1 × T2 × T3 × T4)) (k : T0 → T1 → T2 → T3 → T4 → Option ρ) : Option ρ := match o with
  | none => none
  | some (a0, a1, a2, a3, a4) => k a0 a1 a2 a3 a4
theorem bc5_s {T0 T1 T2 T3 T4 ρ : Type} {o : Option (T0 × T1 × T2 × T3 × T4)} {k : T0 → T1 → T2 → T3 → T4 → Option ρ} {r : ρ} (h : bc5 o k = some r) : ∃ a0 a1 a2 a3 a4, o = some (a0, a1, a2, a3, a4) ∧ k a0 a1 a2 a3 a4 = some r := by
  cases o with
  | none => cases h
  | some a =>
    obtain ⟨a0, a1, a2, a3, a4⟩ := a
    exact ⟨a0, a1, a2, a3, a4, rfl, h⟩
theorem inj5 {T0 T1 T2 T3 T4 : Type} {a0 b0 : T0} {a1 b1 : T1} {a2 b2 : T2} {a3 b3 : T3} {a4 b4 : T4} (h : some (a0, a1, a2, a3, a4) = some (b0, b1, b2, b3, b4)) : a0 = b0 ∧ a1 = b1 ∧ a2 = b2 ∧ a3 = b3 ∧ a4 = b4 := by
  cases h
  exact ⟨rfl, rfl, rfl, rfl, rfl⟩
def bc6 {T0 T1 T2 T3 T4 T5 ρ : Type} (o : Option (T0 × T1 × T2 × T3 × T4 × T5)) (k : T0 → T1 → T2 → T3 → T4 → T5 → Option ρ) : Option ρ := match o with
  | none => none
  | some (a0, a1, a2, a3, a4, a5) => k a0 a1 a2 a3 a4 a5
theorem bc6_s {T0 T1 T2 T3 T4 T5 ρ : Type} {o : Option (T0 × T1 × T2 × T3 × T4 × T5)} {k : T0 → T1 → T2 → T3 → T4 → T5 → Option ρ} {r : ρ} (h : bc6 o k = some r) : ∃ a0 a1 a2 a3 a4 a5, o = some (a0, a1, a2, a3, a4, a5) ∧ k a0 a1 a2 a3 a4 a5 = some r := by
  cases o with
  | none => cases h
  | some a =>
    obtain ⟨a0, a1, a2, a3, a4, a5⟩ := a
    exact ⟨a0, a1, a2, a3, a4, a5, rfl, h⟩
theorem inj6 {T0 T1 T2 T3 T4 T5 : Type} {a0 b0 : T0} {a1 b1 : T1} {a2 b2 : T2} {a3 b3 : T3} {a4 b4 : T4} {a5 b5 : T5} (h : some (a0, a1, a2, a3, a4, a5) = some (b0, b1, b2, b3, b4, b5)) : a0 = b0 ∧ a1 = b1 ∧ a2 = b2 ∧ a3 = b3 ∧ a4 = b4 ∧ a5 = b5 := by
  cases h
  exact ⟨rfl, rfl, rfl, rfl, rfl, rfl⟩
def bc7 {T0 T1 T2 T3 T4 T5 T6 ρ : Type} (o : Option (T0 × T1 × T2 × T3 × T4 × T5 × T6)) (k : T0 → T1 → T2 → T3 → T4 → T5 → T6 → Option ρ) : Option ρ := match o with
  | none => none
  | some (a0, a1, a2, a3, a4, a5, a6) => k a0 a1 a2 a3 a4 a5 a6
theorem bc7_s {T0 T1 T2 T3 T4 T5 T6 ρ : Type} {o : Option (T0 × T1 × T2 × T3 × T4 × T5 × T6)} {k : T0 → T1 → T2 → T3 → T4 → T5 → T6 → Option ρ} {r : ρ} (h : bc7 o k = some r) : ∃ a0 a1 a2 a3 a4 a5 a6, o = some (a0, a1, a2, a3, a4, a5, a6) ∧ k a0 a1 a2 a3 a4 a5 a6 = some r := by
  cases o with
  | none => cases h
  | some a =>
    obtain ⟨a0, a1, a2, a3, a4, a5, a6⟩ := a
    exact ⟨a0, a1, a2, a3, a4, a5, a6, rfl, h⟩
theorem inj7 {T0 T1 T2 T3 T4 T5 T6 : Type} {a0 b0 : T0} {a1 b1 : T1} {a2 b2 : T2} {a3 b3 : T3} {a4 b4 : T4} {a5 b5 : T5} {a6 b6 : T6} (h : some (a0, a1, a2, a3, a4, a5, a6) = some (b0, b1, b2, b3, b4, b5, b6)) : a0 = b0 ∧ a1 = b1 ∧ a2 = b2 ∧ a3 = b3 ∧ a4 = b4 ∧ a5 = b5 ∧ a6 = b6 := by
  cases h
  exact ⟨rfl, rfl, rfl, rfl, rfl, rfl, rfl⟩
def bc8 {T0 T1 T2 T3 T4 T5 T6 T7 ρ : Type} (o : Option (T0 × T1 × T2 × T3 × T4 × T5 × T6 × T7)) (k : T0 → T1 → T2 → T3 → T4 → T5 → T6 → T7 → Option ρ) : Option ρ := match o with
  | none => none
  | some (a0, a1, a2, a3, a4, a5, a6, a7) => k a0 a1 a2 a3 a4 a5 a6 a7
theorem bc8_s {T0 T1 T2 T3 T4 T5 T6 T7 ρ : Type} {o : Option (T0 × T1 × T2 × T3 × T4 × T5 × T6 × T7)} {k : T0 → T1 → T2 → T3 → T4 → T5 → T6 → T7 → Option ρ} {r : ρ} (h : bc8 o k = some r) : ∃ a0 a1 a2 a3 a4 a5 a6 a7, o = some (a0, a1, a2, a3, a4, a5, a6, a7) ∧ k a0 a1 a2 a3 a4 a5 a6 a7 = some r := by
  cases o with
  | none => cases h
  | some a =>
    obtain ⟨a0, a1, a2, a3, a4, a5, a6, a7⟩ := a
    exact ⟨a0, a1, a2, a3, a4, a5, a6, a7, rfl, h⟩
theorem inj8 {T0 T1 T2 T3 T4 T5 T6 T7 : Type} {a0 b0 : T0} {a1 b1 : T1} {a2 b2 : T2} {a3 b3 : T3} {a4 b4 : T4} {a5 b5 : T5} {a6 b6 : T6} {a7 b7 : T7} (h : some (a0, a1, a2, a3, a4, a5, a6, a7) = some (b0, b1, b2, b3, b4, b5, b6, b7)) : a0 = b0 ∧ a1 = b1 ∧ a2 = b2 ∧ a3 = b3 ∧ a4 = b4 ∧ a5 = b5 ∧ a6 = b6 ∧ a7 = b7 := by
  cases h
  exact ⟨rfl, rfl, rfl, rfl, rfl, rfl, rfl, rfl⟩
def bc9 {T0 T1 T2 T3 T4 T5 T6 T7 T8 ρ : Type} (o : Option (T0 × T1 × T2 × T3 × T4 × T5 × T6 × T7 × T8)) (k : T0 → T1 → T2 → T3 → T4 → T5 → T6 → T7 → T8 → Option ρ) : Option ρ := match o with
  | none => none
  | some (a0, a1, a2, a3, a4, a5, a6, a7, a8) => k a0 a1 a2 a3 a4 a5 a6 a7 a8
theorem bc9_s {T0 T1 T2 T3 T4 T5 T6 T7 T8 ρ : Type} {o : Option (T0 × T1 × T2 × T3 × T4 × T5 × T6 × T7 × T8)} {k : T0 → T1 → T2 → T3 → T4 → T5 → T6 → T7 → T8 → Option ρ} {r : ρ} (h : bc9 o k = some r) : ∃ a0 a1 a2 a3 a4 a5 a6 a7 a8, o = some (a0, a1, a2, a3, a4, a5, a6, a7, a8) ∧ k a0 a1 a2 a3 a4 a5 a6 a7 a8 = some r := by
  cases o with
  | none => cases h
  | some a =>
    obtain ⟨a0, a1, a2, a3, a4, a5, a6, a7, a8⟩ := a
    exact ⟨a0, a1, a2, a3, a4, a5, a6, a7, a8, rfl, h⟩
theorem inj9 {T0 T1 T2 T3 T4 T5 T6 T7 T8 : Type} {a0 b0 : T0} {a1 b1 : T1} {a2 b2 : T2} {a3 b3 : T3} {a4 b4 : T4} {a5 b5 : T5} {a6 b6 : T6} {a7 b7 : T7} {a8 b8 : T8} (h : some (a0, a1, a2, a3, a4, a5, a6, a7, a8) = some (b0, b1, b2, b3, b4, b5, b6, b7, b8)) : a0 = b0 ∧ a1 = b1 ∧ a2 = b2 ∧ a3 = b3 ∧ a4 = b4 ∧ a5 = b5 ∧ a6 = b6 ∧ a7 = b7 ∧ a8 = b8 := by
  cases h
  exact ⟨rfl, rfl, rfl, rfl, rfl, rfl, rfl, rfl, rfl⟩
def bc10 {T0 T1 T2 T3 T4 T5 T6 T7 T8 T9 ρ : Type} (o : Option (T0 × T1 × T2 × T3 × T4 × T5 × T6 × T7 × T8 × T9)) (k : T0 → T1 → T2 → T3 → T4 → T5 → T6 → T7 → T8 → T9 → Option ρ) : Option ρ := match o with
  | none => none
  | some (a0, a1, a2, a3, a4, a5, a6, a7, a8, a9) => k a0 a1 a2 a3 a4 a5 a6 a7 a8 a9
theorem bc10_s {T0 T1 T2 T3 T4 T5 T6 T7 T8 T9 ρ : Type} {o : Option (T0 × T1 × T2 × T3 × T4 × T5 × T6 × T7 × T8 × T9)} {k : T0 → T1 → T2 → T3 → T4 → T5 → T6 → T7 → T8 → T9 → Option ρ} {r : ρ} (h : bc10 o k = some r) : ∃ a0 a1 a2 a3 a4 a5 a6 a7 a8 a9, o = some (a0, a1, a2, a3, a4, a5, a6, a7, a8, a9) ∧ k a0 a1 a2 a3 a4 a5 a6 a7 a8 a9 = some r := by
  cases o with
  | none => cases h
  | some a =>
    obtain ⟨a0, a1, a2, a3, a4, a5, a6, a7, a8, a9⟩ := a
    exact ⟨a0, a1, a2, a3, a4, a5, a6, a7, a8, a9, rfl, h⟩
theorem inj10 {T0 T1 T2 T3 T4 T5 T6 T7 T8 T9 : Type} {a0 b0 : T0} {a1 b1 : T1} {a2 b2 : T2} {a3 b3 : T3} {a4 b4 : T4} {a5 b5 : T5} {a6 b6 : T6} {a7 b7 : T7} {a8 b8 : T8} {a9 b9 : T9} (h : some (a0, a1, a2, a3, a4, a5, a6, a7, a8, a9) = some (b0, b1, b2, b3, b4, b5, b6, b7, b8, b9)) : a0 = b0 ∧ a1 = b1 ∧ a2 = b2 ∧ a3 = b3 ∧ a4 = b4 ∧ a5 = b5 ∧ a6 = b6 ∧ a7 = b7 ∧ a8 = b8 ∧ a9 = b9 := by
  cases h
  exact ⟨rfl, rfl, rfl, rfl, rfl, rfl, rfl, rfl, rfl, rfl⟩
def bc11 {T0 T1 T2 T3 T4 T5 T6 T7 T8 T9 T10 ρ : Type} (o : Option (T0 × T1 × T2 × T3 × T4 × T5 × T6 × T7 × T8 × T9 × T10)) (k : T0 → T1 → T2 → T3 → T4 → T5 → T6 → T7 → T8 → T9 → T10 → Option ρ) : Option ρ := match o with
  | none => none
  | some (a0, a1, a2, a3, a4, a5, a6, a7, a8, a9, a10) => k a0 a1 a2 a3 a4 a5 a6 a7 a8 a9 a10
theorem bc11_s {T0 T1 T2 T3 T4 T5 T6 T7 T8 T9 T10 ρ : Type} {o : Option (T0 × T1 × T2 × T3 × T4 × T5 × T6 × T7 × T8 × T9 × T10)} {k : T0 → T1 → T2 → T3 → T4 → T5 → T6 → T7 → T8 → T9 → T10 → Option ρ} {r : ρ} (h : bc11 o k = some r) : ∃ a0 a1 a2 a3 a4 a5 a6 a7 a8 a9 a10, o = some (a0, a1, a2, a3, a4, a5, a6, a7, a8, a9, a10) ∧ k a0 a1 a2 a3 a4 a5 a6 a7 a8 a9 a10 = some r := by
  cases o with
  | none => cases h
  | some a =>
    obtain ⟨a0, a1, a2, a3, a4, a5, a6, a7, a8, a9, a10⟩ := a
    exact ⟨a0, a1, a2, a3, a4, a5, a6, a7, a8, a9, a10, rfl, h⟩
theorem inj11 {T0 T1 T2 T3 T4 T5 T6 T7 T8 T9 T10 : Type} {a0 b0 : T0} {a1 b1 : T1} {a2 b2 : T2} {a3 b3 : T3} {a4 b4 : T4} {a5 b5 : T5} {a6 b6 : T6} {a7 b7 : T7} {a8 b8 : T8} {a9 b9 : T9} {a10 b10 : T10} (h : some (a0, a1, a2, a3, a4, a5, a6, a7, a8, a9, a10) = some (b0, b1, b2, b3, b4, b5, b6, b7, b8, b9, b10)) : a0 = b0 ∧ a1 = b1 ∧ a2 = b2 ∧ a3 = b3 ∧ a4 = b4 ∧ a5 = b5 ∧ a6 = b6 ∧ a7 = b7 ∧ a8 = b8 ∧ a9 = b9 ∧ a10 = b10 := by
  cases h
  exact ⟨rfl, rfl, rfl, rfl, rfl, rfl, rfl, rfl, rfl, rfl, rfl⟩
def bc12 {T0 T1 T2 T3 T4 T5 T6 T7 T8 T9 T10 T11 ρ : Type} (o : Option (T0 × T1 × T2 × T3 × T4 × T5 × T6 × T7 × T8 × T9 × T10 × T11)) (k : T0 → T1 → T2 → T3 → T4 → T5 → T6 → T7 → T8 → T9 → T10 → T11 → Option ρ) : Option ρ := match o with
  | none => none
  | some (a0, a1, a2, a3, a4, a5, a6, a7, a8, a9, a10, a11) => k a0 a1 a2 a3 a4 a5 a6 a7 a8 a9 a10 a11
theorem bc12_s {T0 T1 T2 T3 T4 T5 T6 T7 T8 T9 T10 T11 ρ : Type} {o : Option (T0 × T1 × T2 × T3 × T4 × T5 × T6 × T7 × T8 × T9 × T10 × T11)} {k : T0 → T1 → T2 → T3 → T4 → T5 → T6 → T7 → T8 → T9 → T10 → T11 → Option ρ} {r : ρ} (h : bc12 o k = some r) : ∃ a0 a1 a2 a3 a4 a5 a6 a7 a8 a9 a10 a11, o = some (a0, a1, a2, a3, a4, a5, a6, a7, a8, a9, a10, a11) ∧ k a0 a1 a2 a3 a4 a5 a6 a7 a8 a9 a10 a11 = some r := by
  cases o with
  | none => cases h
  | some a =>
    obtain ⟨a0, a1, a2, a3, a4, a5, a6, a7, a8, a9, a10, a11⟩ := a
    exact ⟨a0, a1, a2, a3, a4, a5, a6, a7, a8, a9, a10, a11, rfl, h⟩
theorem inj12 {T0 T1 T2 T3 T4 T5 T6 T7 T8 T9 T10 T11 : Type} {a0 b0 : T0} {a1 b1 : T1} {a2 b2 : T2} {a3 b3 : T3} {a4 b4 : T4} {a5 b5 : T5} {a6 b6 : T6} {a7 b7 : T7} {a8 b8 : T8} {a9 b9 : T9} {a10 b10 : T10} {a11 b11 : T11} (h : some (a0, a1, a2, a3, a4, a5, a6, a7, a8, a9, a10, a11) = some (b0, b1, b2, b3, b4, b5, b6, b7, b8, b9, b10, b11)) : a0 = b0 ∧ a1 = b1 ∧ a2 = b2 ∧ a3 = b3 ∧ a4 = b4 ∧ a5 = b5 ∧ a6 = b6 ∧ a7 = b7 ∧ a8 = b8 ∧ a9 = b9 ∧ a10 = b10 ∧ a11 = b11 := by
  cases h
  exact ⟨rfl, rfl, rfl, rfl, rfl, rfl, rfl, rfl, rfl, rfl, rfl, rfl⟩
theorem bc1_e {α ρ : Type} (a : α) (k : α → Option ρ) : bc1 (some a) k = k a := rfl
theorem bc2_e {T0 T1 ρ : Type} (a0 : T0) (a1 : T1) (k : T0 → T1 → Option ρ) : bc2 (some (a0, a1)) k = k a0 a1 := rfl
theorem bc3_e {T0 T1 T2 ρ : Type} (a0 : T0) (a1 : T1) (a2 : T2) (k : T0 → T1 → T2 → Option ρ) : bc3 (some (a0, a1, a2)) k = k a0 a1 a2 := rfl
theorem bc4_e {T0 T1 T2 T3 ρ : Type} (a0 : T0) (a1 : T1) (a2 : T2) (a3 : T3) (k : T0 → T1 → T2 → T3 → Option ρ) : bc4 (some (a0, a1, a2, a3)) k = k a0 a1 a2 a3 := rfl
theorem bc5_e {T0 T1 T2 T3 T4 ρ : Type} (a0 : T0) (a1 : T1) (a2 : T2) (a3 : T3) (a4 : T4) (k : T0 → T1 → T2 → T3 → T4 → Option ρ) : bc5 (some (a0, a1, a2, a3, a4)) k = k a0 a1 a2 a3 a4 := rfl
theorem bc6_e {T0 T1 T2 T3 T4 T5 ρ : Type} (a0 : T0) (a1 : T1) (a2 : T2) (a3 : T3) (a4 : T4) (a5 : T5) (k : T0 → T1 → T2 → T3 → T4 → T5 → Option ρ) : bc6 (some (a0, a1, a2, a3, a4, a5)) k = k a0 a1 a2 a3 a4 a5 := rfl
theorem bc7_e {T0 T1 T2 T3 T4 T5 T6 ρ : Type} (a0 : T0) (a1 : T1) (a2 : T2) (a3 : T3) (a4 : T4) (a5 : T5) (a6 : T6) (k : T0 → T1 → T2 → T3 → T4 → T5 → T6 → Option ρ) : bc7 (some (a0, a1, a2, a3, a4, a5, a6)) k = k a0 a1 a2 a3 a4 a5 a6 := rfl
theorem bc8_e {T0 T1 T2 T3 T4 T5 T6 T7 ρ : Type} (a0 : T0) (a1 : T1) (a2 : T2) (a3 : T3) (a4 : T4) (a5 : T5) (a6 : T6) (a7 : T7) (k : T0 → T1 → T2 → T3 → T4 → T5 → T6 → T7 → Option ρ) : bc8 (some (a0, a1, a2, a3, a4, a5, a6, a7)) k = k a0 a1 a2 a3 a4 a5 a6 a7 := rfl
theorem bc9_e {T0 T1 T2 T3 T4 T5 T6 T7 T8 ρ : Type} (a0 : T0) (a1 : T1) (a2 : T2) (a3 : T3) (a4 : T4) (a5 : T5) (a6 : T6) (a7 : T7) (a8 : T8) (k : T0 → T1 → T2 → T3 → T4 → T5 → T6 → T7 → T8 → Option ρ) : bc9 (some (a0, a1, a2, a3, a4, a5, a6, a7, a8)) k = k a0 a1 a2 a3 a4 a5 a6 a7 a8 := rfl
theorem bc10_e {T0 T1 T2 T3 T4 T5 T6 T7 T8 T9 ρ : Type} (a0 : T0) (a1 : T1) (a2 : T2) (a3 : T3) (a4 : T4) (a5 : T5) (a6 : T6) (a7 : T7) (a8 : T8) (a9 : T9) (k : T0 → T1 → T2 → T3 → T4 → T5 → T6 → T7 → T8 → T9 → Option ρ) : bc10 (some (a0, a1, a2, a3, a4, a5, a6, a7, a8, a9)) k = k a0 a1 a2 a3 a4 a5 a6 a7 a8 a9 := rfl
theorem bc11_e {T0 T1 T2 T3 T4 T5 T6 T7 T8 T9 T10 ρ : Type} (a0 : T0) (a1 : T1) (a2 : T2) (a3 : T3) (a4 : T4) (a5 : T5) (a6 : T6) (a7 : T7) (a8 : T8) (a9 : T9) (a10 : T10) (k : T0 → T1 → T2 → T3 → T4 → T5 → T6 → T7 → T8 → T9 → T10 → Option ρ) : bc11 (some (a0, a1, a2, a3, a4, a5, a6, a7, a8, a9, a10)) k = k a0 a1 a2 a3 a4 a5 a6 a7 a8 a9 a10 := rfl
theorem bc12_e {T0 T1 T2 T3 T4 T5 T6 T7 T8 T9 T10 T11 ρ : Type} (a0 : T0) (a1 : T1) (a2 : T2) (a3 : T3) (a4 : T4) (a5 : T5) (a6 : T6) (a7 : T7) (a8 : T8) (a9 : T9) (a10 : T10) (a11 : T11) (k : T0 → T1 → T2 → T3 → T4 → T5 → T6 → T7 → T8 → T9 → T10 → T11 → Option ρ) : bc12 (some (a0, a1, a2, a3, a4, a5, a6, a7, a8, a9, a10, a11)) k = k a0 a1 a2 a3 a4 a5 a6 a7 a8 a9 a10 a11 := rfl
theorem bc1_id {α : Type} (o : Option α) : bc1 o (fun a => some a) = o := by cases o <;> rfl
theorem bc2_id {α β : Type} (o : Option (α × β)) : bc2 o (fun a b => some (a, b)) = o := by
  cases o with
  | none => rfl
  | some x => rfl
theorem bc2_as {α β γ δ ρ : Type} (o : Option (α × β)) (f : α → β → Option (γ × δ)) (g : γ → δ → Option ρ) : bc2 (bc2 o f) g = bc2 o (fun a b => bc2 (f a b) g) := by
  cases o with
  | none => rfl
  | some x => rfl
theorem bc3_id {α β γ : Type} (o : Option (α × β × γ)) : bc3 o (fun a b c => some (a, b, c)) = o := by
  cases o with
  | none => rfl
  | some x => rfl
theorem bc4_id {α β γ δ : Type} (o : Option (α × β × γ × δ)) : bc4 o (fun a b c d => some (a, b, c, d)) = o := by
  cases o with
  | none => rfl
  | some x => rfl
theorem hf0 {R : Room} : 0 ≤ R.cells ∧ 0 ≤ R.slots := ⟨Nat.zero_le _, Nat.zero_le _⟩
section GR
variable {k : GC} {l : Launch} {R : Room} {cc : ByteArray} {nL : Nat} {own : String} {D : va_G} {cB cI cJ : ClassId} {cells slots pc : Nat} {L L' : List (Nat × Value)} {st : List Value} {ws ws' : va_W}
theorem G_lv (is : List Nat) (hs : lv_pick L is = L') (kk : G D nL k cells slots pc L' st ws) : G D nL k cells slots pc L st ws := by
  obtain ⟨p, l, e, R, s, m, args, below, meth, c, Q, A⟩ := k
  exact fun H locs ls h1 h2 h3 h4 => kk H locs ls (lv_sub h1 is hs) h2 h3 h4
theorem G_topi {x y : Int32} (h : y = x) (kk : G D nL k cells slots pc L (.int y :: st) ws) : G D nL k cells slots pc L (.int x :: st) ws := h ▸ kk
theorem G_topj {x y : Int64} (h : y = x) (kk : G D nL k cells slots pc L (.long y :: st) ws) : G D nL k cells slots pc L (.long x :: st) ws := h ▸ kk
theorem G_iload_n (F : GF k l R cc nL own D cB cI cJ) {j i : Nat} {q : Fin 4} {x : Int32} (d : decode cc pc = .ok (.iload_n q, 1)) (hi : (q : Nat) = i) (hj : L[j]? = some (i, .int x)) (kk : G D nL k cells slots (pc + 1) L (.int x :: st) ws) : G D nL k cells slots pc L st ws := by
  obtain ⟨p, l, e, R, s, m, args, below, meth, c, Q, A⟩ := k
  exact fun H locs ls h1 h2 h3 h4 => lv_iload_n F.1.1 F.1.2.1 d hi (lv_at h1 j hj) (kk H locs ls h1 h2 h3 h4)
theorem G_iload (F : GF k l R cc nL own D cB cI cJ) {j i : Nat} {x : Int32} (d : decode cc pc = .ok (.iload i, 2)) (hj : L[j]? = some (i, .int x)) (kk : G D nL k cells slots (pc + 2) L (.int x :: st) ws) : G D nL k cells slots pc L st ws := by
  obtain ⟨p, l, e, R, s, m, args, below, meth, c, Q, A⟩ := k
  exact fun H locs ls h1 h2 h3 h4 => lv_iload F.1.1 F.1.2.1 d (lv_at h1 j hj) (kk H locs ls h1 h2 h3 h4)
theorem G_lload_n (F : GF k l R cc nL own D cB cI cJ) {j i : Nat} {q : Fin 4} {x : Int64} (d : decode cc pc = .ok (.lload_n q, 1)) (hi : (q : Nat) = i) (hj : L[j]? = some (i, .long x)) (kk : G D nL k cells slots (pc + 1) L (.long x :: st) ws) : G D nL k cells slots pc L st ws := by
  obtain ⟨p, l, e, R, s, m, args, below, meth, c, Q, A⟩ := k
  exact fun H locs ls h1 h2 h3 h4 => lv_lload_n F.1.1 F.1.2.1 d hi (lv_at h1 j hj) (kk H locs ls h1 h2 h3 h4)
theorem G_lload (F : GF k l R cc nL own D cB cI cJ) {j i : Nat} {x : Int64} (d : decode cc pc = .ok (.lload i, 2)) (hj : L[j]? = some (i, .long x)) (kk : G D nL k cells slots (pc + 2) L (.long x :: st) ws) : G D nL k cells slots pc L st ws := by
  obtain ⟨p, l, e, R, s, m, args, below, meth, c, Q, A⟩ := k
  exact fun H locs ls h1 h2 h3 h4 => lv_lload F.1.1 F.1.2.1 d (lv_at h1 j hj) (kk H locs ls h1 h2 h3 h4)
theorem G_aload_n (F : GF k l R cc nL own D cB cI cJ) {j i : Nat} {q : Fin 4} {x : Nat} (d : decode cc pc = .ok (.aload_n q, 1)) (hi : (q : Nat) = i) (hj : L[j]? = some (i, .ref x)) (kk : G D nL k cells slots (pc + 1) L (.ref x :: st) ws) : G D nL k cells slots pc L st ws := by
  obtain ⟨p, l, e, R, s, m, args, below, meth, c, Q, A⟩ := k
  exact fun H locs ls h1 h2 h3 h4 => lv_aload_n F.1.1 F.1.2.1 d hi (lv_at h1 j hj) (kk H locs ls h1 h2 h3 h4)
theorem G_aload (F : GF k l R cc nL own D cB cI cJ) {j i : Nat} {x : Nat} (d : decode cc pc = .ok (.aload i, 2)) (hj : L[j]? = some (i, .ref x)) (kk : G D nL k cells slots (pc + 2) L (.ref x :: st) ws) : G D nL k cells slots pc L st ws := by
  obtain ⟨p, l, e, R, s, m, args, below, meth, c, Q, A⟩ := k
  exact fun H locs ls h1 h2 h3 h4 => lv_aload F.1.1 F.1.2.1 d (lv_at h1 j hj) (kk H locs ls h1 h2 h3 h4)
theorem G_istore_n (F : GF k l R cc nL own D cB cI cJ) {i : Nat} {q : Fin 4} {x : Int32} (d : decode cc pc = .ok (.istore_n q, 1)) (hi : (q : Nat) = i) (hn : i < nL) (hl : (i, Value.int x) :: L.filter (fun q => !(q.1 == i) && !(q.1 + 1 == i && q.2.category == 2)) = L') (kk : G D nL k cells slots (pc + 1) L' st ws) : G D nL k cells slots pc L (.int x :: st) ws := by
  obtain ⟨p, l, e, R, s, m, args, below, meth, c, Q, A⟩ := k
  exact fun H locs ls h1 h2 h3 h4 => lv_istore_n F.1.1 F.1.2.1 d hi h1 hn hl (fun ls' h1' => kk H locs ls' h1' h2 h3 h4)
theorem G_istore (F : GF k l R cc nL own D cB cI cJ) {i : Nat} {x : Int32} (d : decode cc pc = .ok (.istore i, 2)) (hn : i < nL) (hl : (i, Value.int x) :: L.filter (fun q => !(q.1 == i) && !(q.1 + 1 == i && q.2.category == 2)) = L') (kk : G D nL k cells slots (pc + 2) L' st ws) : G D nL k cells slots pc L (.int x :: st) ws := by
  obtain ⟨p, l, e, R, s, m, args, below, meth, c, Q, A⟩ := k
  exact fun H locs ls h1 h2 h3 h4 => lv_istore F.1.1 F.1.2.1 d h1 hn hl (fun ls' h1' => kk H locs ls' h1' h2 h3 h4)
theorem G_lstore_n (F : GF k l R cc nL own D cB cI cJ) {i : Nat} {q : Fin 4} {x : Int64} (d : decode cc pc = .ok (.lstore_n q, 1)) (hi : (q : Nat) = i) (hn : i + 1 < nL) (hl : (i, Value.long x) :: L.filter (fun q => !(q.1 == i) && (!(q.1 == i + 1) && !(q.1 + 1 == i && q.2.category == 2))) = L') (kk : G D nL k cells slots (pc + 1) L' st ws) : G D nL k cells slots pc L (.long x :: st) ws := by
  obtain ⟨p, l, e, R, s, m, args, below, meth, c, Q, A⟩ := k
  exact fun H locs ls h1 h2 h3 h4 => lv_lstore_n F.1.1 F.1.2.1 d hi h1 hn hl (fun ls' h1' => kk H locs ls' h1' h2 h3 h4)
theorem G_lstore (F : GF k l R cc nL own D cB cI cJ) {i : Nat} {x : Int64} (d : decode cc pc = .ok (.lstore i, 2)) (hn : i + 1 < nL) (hl : (i, Value.long x) :: L.filter (fun q => !(q.1 == i) && (!(q.1 == i + 1) && !(q.1 + 1 == i && q.2.category == 2))) = L') (kk : G D nL k cells slots (pc + 2) L' st ws) : G D nL k cells slots pc L (.long x :: st) ws := by
  obtain ⟨p, l, e, R, s, m, args, below, meth, c, Q, A⟩ := k
  exact fun H locs ls h1 h2 h3 h4 => lv_lstore F.1.1 F.1.2.1 d h1 hn hl (fun ls' h1' => kk H locs ls' h1' h2 h3 h4)
theorem G_astore_n (F : GF k l R cc nL own D cB cI cJ) {i : Nat} {q : Fin 4} {x : Nat} (d : decode cc pc = .ok (.astore_n q, 1)) (hi : (q : Nat) = i) (hn : i < nL) (hl : (i, Value.ref x) :: L.filter (fun q => !(q.1 == i) && !(q.1 + 1 == i && q.2.category == 2)) = L') (kk : G D nL k cells slots (pc + 1) L' st ws) : G D nL k cells slots pc L (.ref x :: st) ws := by
  obtain ⟨p, l, e, R, s, m, args, below, meth, c, Q, A⟩ := k
  exact fun H locs ls h1 h2 h3 h4 => lv_astore_n F.1.1 F.1.2.1 d hi h1 hn hl (fun ls' h1' => kk H locs ls' h1' h2 h3 h4)
theorem G_astore (F : GF k l R cc nL own D cB cI cJ) {i : Nat} {x : Nat} (d : decode cc pc = .ok (.astore i, 2)) (hn : i < nL) (hl : (i, Value.ref x) :: L.filter (fun q => !(q.1 == i) && !(q.1 + 1 == i && q.2.category == 2)) = L') (kk : G D nL k cells slots (pc + 2) L' st ws) : G D nL k cells slots pc L (.ref x :: st) ws := by
  obtain ⟨p, l, e, R, s, m, args, below, meth, c, Q, A⟩ := k
  exact fun H locs ls h1 h2 h3 h4 => lv_astore F.1.1 F.1.2.1 d h1 hn hl (fun ls' h1' => kk H locs ls' h1' h2 h3 h4)
theorem G_iinc (F : GF k l R cc nL own D cB cI cJ) {i j : Nat} {n : Int} {x v w : Int32} (d : decode cc pc = .ok (.iinc i n, 3)) (hj : L[j]? = some (i, .int x)) (hw : Int32.ofInt n = w) (hv : v = x + w) (hn : i < nL) (hl : (i, Value.int v) :: L.filter (fun q => !(q.1 == i) && !(q.1 + 1 == i && q.2.category == 2)) = L') (kk : G D nL k cells slots (pc + 3) L' st ws) : G D nL k cells slots pc L st ws := by
  obtain ⟨p, l, e, R, s, m, args, below, meth, c, Q, A⟩ := k
  exact fun H locs ls h1 h2 h3 h4 => lv_iinc F.1.1 F.1.2.1 d h1 hj (by rw [hw, hv]) hn hl (fun ls' h1' => kk H locs ls' h1' h2 h3 h4)
theorem G_iinc_w (F : GF k l R cc nL own D cB cI cJ) {i j : Nat} {n : Int} {x v w : Int32} (d : decode cc pc = .ok (.iinc i n, 6)) (hj : L[j]? = some (i, .int x)) (hw : Int32.ofInt n = w) (hv : v = x + w) (hn : i < nL) (hl : (i, Value.int v) :: L.filter (fun q => !(q.1 == i) && !(q.1 + 1 == i && q.2.category == 2)) = L') (kk : G D nL k cells slots (pc + 6) L' st ws) : G D nL k cells slots pc L st ws := by
  obtain ⟨p, l, e, R, s, m, args, below, meth, c, Q, A⟩ := k
  exact fun H locs ls h1 h2 h3 h4 => lv_iincW F.1.1 F.1.2.1 d h1 hj (by rw [hw, hv]) hn hl (fun ls' h1' => kk H locs ls' h1' h2 h3 h4)
theorem G_iconst (F : GF k l R cc nL own D cB cI cJ) {n : Int} {v : Int32} (d : decode cc pc = .ok (.iconst n, 1)) (hv : Int32.ofInt n = v) (kk : G D nL k cells slots (pc + 1) L (.int v :: st) ws) : G D nL k cells slots pc L st ws := by
  obtain ⟨p, l, e, R, s, m, args, below, meth, c, Q, A⟩ := k
  exact fun H locs ls h1 h2 h3 h4 => lv_iconst F.1.1 F.1.2.1 d hv (kk H locs ls h1 h2 h3 h4)
theorem G_bipush (F : GF k l R cc nL own D cB cI cJ) {n : Int} {v : Int32} (d : decode cc pc = .ok (.bipush n, 2)) (hv : (Int8.ofInt n).toInt32 = v) (kk : G D nL k cells slots (pc + 2) L (.int v :: st) ws) : G D nL k cells slots pc L st ws := by
  obtain ⟨p, l, e, R, s, m, args, below, meth, c, Q, A⟩ := k
  exact fun H locs ls h1 h2 h3 h4 => lv_bipush F.1.1 F.1.2.1 d hv (kk H locs ls h1 h2 h3 h4)
theorem G_sipush (F : GF k l R cc nL own D cB cI cJ) {n : Int} {v : Int32} (d : decode cc pc = .ok (.sipush n, 3)) (hv : (Int16.ofInt n).toInt32 = v) (kk : G D nL k cells slots (pc + 3) L (.int v :: st) ws) : G D nL k cells slots pc L st ws := by
  obtain ⟨p, l, e, R, s, m, args, below, meth, c, Q, A⟩ := k
  exact fun H locs ls h1 h2 h3 h4 => lv_sipush F.1.1 F.1.2.1 d hv (kk H locs ls h1 h2 h3 h4)
theorem G_ldc (F : GF k l R cc nL own D cB cI cJ) {index : Nat} {v : Int32} (hc : Cond.constant own index v ∈ AW) (d : decode cc pc = .ok (.ldc index, 2)) (kk : G D nL k cells slots (pc + 2) L (.int v :: st) ws) : G D nL k cells slots pc L st ws := by
  obtain ⟨p, l, e, R, s, m, args, below, meth, c, Q, A⟩ := k
  exact fun H locs ls h1 h2 h3 h4 => lv_ldc F.1.1 F.1.2.1 F.1.2.2.2.1 (F.1.2.2.2.2 _ hc) d (kk H locs ls h1 h2 h3 h4)
theorem G_ldc2 (F : GF k l R cc nL own D cB cI cJ) {index : Nat} {v : Int64} (hc : Cond.constantLong own index v ∈ AW) (d : decode cc pc = .ok (.ldc2_w index, 3)) (kk : G D nL k cells slots (pc + 3) L (.long v :: st) ws) : G D nL k cells slots pc L st ws := by
  obtain ⟨p, l, e, R, s, m, args, below, meth, c, Q, A⟩ := k
  exact fun H locs ls h1 h2 h3 h4 => lv_ldc2 F.1.1 F.1.2.1 F.1.2.2.2.1 (F.1.2.2.2.2 _ hc) d (kk H locs ls h1 h2 h3 h4)
theorem G_iadd (F : GF k l R cc nL own D cB cI cJ) {x y : Int32} (d : decode cc pc = .ok (.iadd, 1)) (kk : G D nL k cells slots (pc + 1) L (.int (x + y) :: st) ws) : G D nL k cells slots pc L (.int y :: .int x :: st) ws := by
  obtain ⟨p, l, e, R, s, m, args, below, meth, c, Q, A⟩ := k
  exact fun H locs ls h1 h2 h3 h4 => lv_iadd F.1.1 F.1.2.1 d (kk H locs ls h1 h2 h3 h4)
theorem G_isub (F : GF k l R cc nL own D cB cI cJ) {x y : Int32} (d : decode cc pc = .ok (.isub, 1)) (kk : G D nL k cells slots (pc + 1) L (.int (x - y) :: st) ws) : G D nL k cells slots pc L (.int y :: .int x :: st) ws := by
  obtain ⟨p, l, e, R, s, m, args, below, meth, c, Q, A⟩ := k
  exact fun H locs ls h1 h2 h3 h4 => lv_isub F.1.1 F.1.2.1 d (kk H locs ls h1 h2 h3 h4)
theorem G_imul (F : GF k l R cc nL own D cB cI cJ) {x y : Int32} (d : decode cc pc = .ok (.imul, 1)) (kk : G D nL k cells slots (pc + 1) L (.int (x * y) :: st) ws) : G D nL k cells slots pc L (.int y :: .int x :: st) ws := by
  obtain ⟨p, l, e, R, s, m, args, below, meth, c, Q, A⟩ := k
  exact fun H locs ls h1 h2 h3 h4 => lv_imul F.1.1 F.1.2.1 d (kk H locs ls h1 h2 h3 h4)
theorem G_iand (F : GF k l R cc nL own D cB cI cJ) {x y : Int32} (d : decode cc pc = .ok (.iand, 1)) (kk : G D nL k cells slots (pc + 1) L (.int (x &&& y) :: st) ws) : G D nL k cells slots pc L (.int y :: .int x :: st) ws := by
  obtain ⟨p, l, e, R, s, m, args, below, meth, c, Q, A⟩ := k
  exact fun H locs ls h1 h2 h3 h4 => lv_iand F.1.1 F.1.2.1 d (kk H locs ls h1 h2 h3 h4)
theorem G_ior (F : GF k l R cc nL own D cB cI cJ) {x y : Int32} (d : decode cc pc = .ok (.ior, 1)) (kk : G D nL k cells slots (pc + 1) L (.int (x ||| y) :: st) ws) : G D nL k cells slots pc L (.int y :: .int x :: st) ws := by
  obtain ⟨p, l, e, R, s, m, args, below, meth, c, Q, A⟩ := k
  exact fun H locs ls h1 h2 h3 h4 => lv_ior F.1.1 F.1.2.1 d (kk H locs ls h1 h2 h3 h4)
theorem G_ixor (F : GF k l R cc nL own D cB cI cJ) {x y : Int32} (d : decode cc pc = .ok (.ixor, 1)) (kk : G D nL k cells slots (pc + 1) L (.int (x ^^^ y) :: st) ws) : G D nL k cells slots pc L (.int y :: .int x :: st) ws := by
  obtain ⟨p, l, e, R, s, m, args, below, meth, c, Q, A⟩ := k
  exact fun H locs ls h1 h2 h3 h4 => lv_ixor F.1.1 F.1.2.1 d (kk H locs ls h1 h2 h3 h4)
theorem G_ishl (F : GF k l R cc nL own D cB cI cJ) {x y : Int32} (d : decode cc pc = .ok (.ishl, 1)) (kk : G D nL k cells slots (pc + 1) L (.int (x <<< (y &&& 31)) :: st) ws) : G D nL k cells slots pc L (.int y :: .int x :: st) ws := by
  obtain ⟨p, l, e, R, s, m, args, below, meth, c, Q, A⟩ := k
  exact fun H locs ls h1 h2 h3 h4 => lv_ishl F.1.1 F.1.2.1 d (kk H locs ls h1 h2 h3 h4)
theorem G_ishr (F : GF k l R cc nL own D cB cI cJ) {x y : Int32} (d : decode cc pc = .ok (.ishr, 1)) (kk : G D nL k cells slots (pc + 1) L (.int (x >>> (y &&& 31)) :: st) ws) : G D nL k cells slots pc L (.int y :: .int x :: st) ws := by
  obtain ⟨p, l, e, R, s, m, args, below, meth, c, Q, A⟩ := k
  exact fun H locs ls h1 h2 h3 h4 => lv_ishr F.1.1 F.1.2.1 d (kk H locs ls h1 h2 h3 h4)
theorem G_ladd (F : GF k l R cc nL own D cB cI cJ) {x y : Int64} (d : decode cc pc = .ok (.ladd, 1)) (kk : G D nL k cells slots (pc + 1) L (.long (x + y) :: st) ws) : G D nL k cells slots pc L (.long y :: .long x :: st) ws := by
  obtain ⟨p, l, e, R, s, m, args, below, meth, c, Q, A⟩ := k
  exact fun H locs ls h1 h2 h3 h4 => lv_ladd F.1.1 F.1.2.1 d (kk H locs ls h1 h2 h3 h4)
theorem G_land (F : GF k l R cc nL own D cB cI cJ) {x y : Int64} (d : decode cc pc = .ok (.land, 1)) (kk : G D nL k cells slots (pc + 1) L (.long (x &&& y) :: st) ws) : G D nL k cells slots pc L (.long y :: .long x :: st) ws := by
  obtain ⟨p, l, e, R, s, m, args, below, meth, c, Q, A⟩ := k
  exact fun H locs ls h1 h2 h3 h4 => lv_land F.1.1 F.1.2.1 d (kk H locs ls h1 h2 h3 h4)
theorem G_lor (F : GF k l R cc nL own D cB cI cJ) {x y : Int64} (d : decode cc pc = .ok (.lor, 1)) (kk : G D nL k cells slots (pc + 1) L (.long (x ||| y) :: st) ws) : G D nL k cells slots pc L (.long y :: .long x :: st) ws := by
  obtain ⟨p, l, e, R, s, m, args, below, meth, c, Q, A⟩ := k
  exact fun H locs ls h1 h2 h3 h4 => lv_lor F.1.1 F.1.2.1 d (kk H locs ls h1 h2 h3 h4)
theorem G_idiv (F : GF k l R cc nL own D cB cI cJ) {x y : Int32} (d : decode cc pc = .ok (.idiv, 1)) (hne : ¬ y = 0) (kk : G D nL k cells slots (pc + 1) L (.int (x / y) :: st) ws) : G D nL k cells slots pc L (.int y :: .int x :: st) ws := by
  obtain ⟨p, l, e, R, s, m, args, below, meth, c, Q, A⟩ := k
  exact fun H locs ls h1 h2 h3 h4 => lv_idiv F.1.1 F.1.2.1 d hne (kk H locs ls h1 h2 h3 h4)
theorem G_iushr (F : GF k l R cc nL own D cB cI cJ) {x y : Int32} (d : decode cc pc = .ok (.iushr, 1)) (kk : G D nL k cells slots (pc + 1) L (.int (ush x y) :: st) ws) : G D nL k cells slots pc L (.int y :: .int x :: st) ws := by
  obtain ⟨p, l, e, R, s, m, args, below, meth, c, Q, A⟩ := k
  exact fun H locs ls h1 h2 h3 h4 => lv_iushr F.1.1 F.1.2.1 d rfl (kk H locs ls h1 h2 h3 h4)
theorem G_lshl (F : GF k l R cc nL own D cB cI cJ) {x : Int64} {y : Int32} (d : decode cc pc = .ok (.lshl, 1)) (kk : G D nL k cells slots (pc + 1) L (.long (lshl x y) :: st) ws) : G D nL k cells slots pc L (.int y :: .long x :: st) ws := by
  obtain ⟨p, l, e, R, s, m, args, below, meth, c, Q, A⟩ := k
  exact fun H locs ls h1 h2 h3 h4 => lv_lshl F.1.1 F.1.2.1 d rfl (kk H locs ls h1 h2 h3 h4)
theorem G_lshr (F : GF k l R cc nL own D cB cI cJ) {x : Int64} {y : Int32} (d : decode cc pc = .ok (.lshr, 1)) (kk : G D nL k cells slots (pc + 1) L (.long (lshr x y) :: st) ws) : G D nL k cells slots pc L (.int y :: .long x :: st) ws := by
  obtain ⟨p, l, e, R, s, m, args, below, meth, c, Q, A⟩ := k
  exact fun H locs ls h1 h2 h3 h4 => lv_lshr F.1.1 F.1.2.1 d rfl (kk H locs ls h1 h2 h3 h4)
theorem G_lushr (F : GF k l R cc nL own D cB cI cJ) {x : Int64} {y : Int32} (d : decode cc pc = .ok (.lushr, 1)) (kk : G D nL k cells slots (pc + 1) L (.long (lush x y) :: st) ws) : G D nL k cells slots pc L (.int y :: .long x :: st) ws := by
  obtain ⟨p, l, e, R, s, m, args, below, meth, c, Q, A⟩ := k
  exact fun H locs ls h1 h2 h3 h4 => lv_lushr F.1.1 F.1.2.1 d rfl (kk H locs ls h1 h2 h3 h4)
theorem G_i2b (F : GF k l R cc nL own D cB cI cJ) {x : Int32} (d : decode cc pc = .ok (.i2b, 1)) (kk : G D nL k cells slots (pc + 1) L (.int x.toInt8.toInt32 :: st) ws) : G D nL k cells slots pc L (.int x :: st) ws := by
  obtain ⟨p, l, e, R, s, m, args, below, meth, c, Q, A⟩ := k
  exact fun H locs ls h1 h2 h3 h4 => lv_i2b F.1.1 F.1.2.1 d rfl (kk H locs ls h1 h2 h3 h4)
theorem G_i2l (F : GF k l R cc nL own D cB cI cJ) {x : Int32} (d : decode cc pc = .ok (.i2l, 1)) (kk : G D nL k cells slots (pc + 1) L (.long x.toInt64 :: st) ws) : G D nL k cells slots pc L (.int x :: st) ws := by
  obtain ⟨p, l, e, R, s, m, args, below, meth, c, Q, A⟩ := k
  exact fun H locs ls h1 h2 h3 h4 => lv_i2l F.1.1 F.1.2.1 d rfl (kk H locs ls h1 h2 h3 h4)
theorem G_l2i (F : GF k l R cc nL own D cB cI cJ) {x : Int64} (d : decode cc pc = .ok (.l2i, 1)) (kk : G D nL k cells slots (pc + 1) L (.int x.toInt32 :: st) ws) : G D nL k cells slots pc L (.long x :: st) ws := by
  obtain ⟨p, l, e, R, s, m, args, below, meth, c, Q, A⟩ := k
  exact fun H locs ls h1 h2 h3 h4 => lv_l2i F.1.1 F.1.2.1 d rfl (kk H locs ls h1 h2 h3 h4)
theorem G_lcmp (F : GF k l R cc nL own D cB cI cJ) {x y : Int64} (d : decode cc pc = .ok (.lcmp, 1)) (kk : G D nL k cells slots (pc + 1) L (.int (lg_cmp x y) :: st) ws) : G D nL k cells slots pc L (.long y :: .long x :: st) ws := by
  obtain ⟨p, l, e, R, s, m, args, below, meth, c, Q, A⟩ := k
  exact fun H locs ls h1 h2 h3 h4 => W.lcmp F.1.1 F.1.2.1 d (kk H locs ls h1 h2 h3 h4)
theorem G_dup (F : GF k l R cc nL own D cB cI cJ) {v : Value} (d : decode cc pc = .ok (.dup, 1)) (hv : v.category = 1) (kk : G D nL k cells slots (pc + 1) L (v :: v :: st) ws) : G D nL k cells slots pc L (v :: st) ws := by
  obtain ⟨p, l, e, R, s, m, args, below, meth, c, Q, A⟩ := k
  exact fun H locs ls h1 h2 h3 h4 => lv_dup F.1.1 F.1.2.1 d hv (kk H locs ls h1 h2 h3 h4)
theorem G_pop (F : GF k l R cc nL own D cB cI cJ) {v : Value} (d : decode cc pc = .ok (.pop, 1)) (hv : v.category = 1) (kk : G D nL k cells slots (pc + 1) L st ws) : G D nL k cells slots pc L (v :: st) ws := by
  obtain ⟨p, l, e, R, s, m, args, below, meth, c, Q, A⟩ := k
  exact fun H locs ls h1 h2 h3 h4 => lv_pop F.1.1 F.1.2.1 d hv (kk H locs ls h1 h2 h3 h4)
theorem G_dup2 (F : GF k l R cc nL own D cB cI cJ) {v w : Value} (d : decode cc pc = .ok (.dup2, 1)) (hv : v.category = 1) (hw : w.category = 1) (kk : G D nL k cells slots (pc + 1) L (v :: w :: v :: w :: st) ws) : G D nL k cells slots pc L (v :: w :: st) ws := by
  obtain ⟨p, l, e, R, s, m, args, below, meth, c, Q, A⟩ := k
  exact fun H locs ls h1 h2 h3 h4 => lv_dup2_11 F.1.1 F.1.2.1 d hv hw (kk H locs ls h1 h2 h3 h4)
theorem G_goto (F : GF k l R cc nL own D cB cI cJ) {off : Int} {tgt : Nat} (d : decode cc pc = .ok (.goto off, 3)) (ht : (pc : Int) + off = (tgt : Int)) (kk : G D nL k cells slots tgt L st ws) : G D nL k cells slots pc L st ws := by
  obtain ⟨p, l, e, R, s, m, args, below, meth, c, Q, A⟩ := k
  exact fun H locs ls h1 h2 h3 h4 => lv_goto F.1.1 F.1.2.1 d ht (kk H locs ls h1 h2 h3 h4)
theorem G_icmp_eq (F : GF k l R cc nL own D cB cI cJ) {x y : Int32} {off : Int} {tgt : Nat} (d : decode cc pc = .ok (.if_icmp .eq off, 3)) (ht : (pc : Int) + off = (tgt : Int)) (kt : x = y → G D nL k cells slots tgt L st ws) (kf : ¬ x = y → G D nL k cells slots (pc + 3) L st ws) : G D nL k cells slots pc L (.int y :: .int x :: st) ws := by
  obtain ⟨p, l, e, R, s, m, args, below, meth, c, Q, A⟩ := k
  exact fun H locs ls h1 h2 h3 h4 => lv_icmp_eq F.1.1 F.1.2.1 d ht (fun z => kt z H locs ls h1 h2 h3 h4) (fun z => kf z H locs ls h1 h2 h3 h4)
theorem G_if_eq (F : GF k l R cc nL own D cB cI cJ) {x : Int32} {off : Int} {tgt : Nat} (d : decode cc pc = .ok (.ifCond .eq off, 3)) (ht : (pc : Int) + off = (tgt : Int)) (kt : x = 0 → G D nL k cells slots tgt L st ws) (kf : ¬ x = 0 → G D nL k cells slots (pc + 3) L st ws) : G D nL k cells slots pc L (.int x :: st) ws := by
  obtain ⟨p, l, e, R, s, m, args, below, meth, c, Q, A⟩ := k
  exact fun H locs ls h1 h2 h3 h4 => lv_if_eq F.1.1 F.1.2.1 d ht (fun z => kt z H locs ls h1 h2 h3 h4) (fun z => kf z H locs ls h1 h2 h3 h4)
theorem G_icmp_ne (F : GF k l R cc nL own D cB cI cJ) {x y : Int32} {off : Int} {tgt : Nat} (d : decode cc pc = .ok (.if_icmp .ne off, 3)) (ht : (pc : Int) + off = (tgt : Int)) (kt : ¬ x = y → G D nL k cells slots tgt L st ws) (kf : x = y → G D nL k cells slots (pc + 3) L st ws) : G D nL k cells slots pc L (.int y :: .int x :: st) ws := by
  obtain ⟨p, l, e, R, s, m, args, below, meth, c, Q, A⟩ := k
  exact fun H locs ls h1 h2 h3 h4 => lv_icmp_ne F.1.1 F.1.2.1 d ht (fun z => kt z H locs ls h1 h2 h3 h4) (fun z => kf z H locs ls h1 h2 h3 h4)
theorem G_if_ne (F : GF k l R cc nL own D cB cI cJ) {x : Int32} {off : Int} {tgt : Nat} (d : decode cc pc = .ok (.ifCond .ne off, 3)) (ht : (pc : Int) + off = (tgt : Int)) (kt : ¬ x = 0 → G D nL k cells slots tgt L st ws) (kf : x = 0 → G D nL k cells slots (pc + 3) L st ws) : G D nL k cells slots pc L (.int x :: st) ws := by
  obtain ⟨p, l, e, R, s, m, args, below, meth, c, Q, A⟩ := k
  exact fun H locs ls h1 h2 h3 h4 => lv_if_ne F.1.1 F.1.2.1 d ht (fun z => kt z H locs ls h1 h2 h3 h4) (fun z => kf z H locs ls h1 h2 h3 h4)
theorem G_icmp_lt (F : GF k l R cc nL own D cB cI cJ) {x y : Int32} {off : Int} {tgt : Nat} (d : decode cc pc = .ok (.if_icmp .lt off, 3)) (ht : (pc : Int) + off = (tgt : Int)) (kt : x < y → G D nL k cells slots tgt L st ws) (kf : ¬ x < y → G D nL k cells slots (pc + 3) L st ws) : G D nL k cells slots pc L (.int y :: .int x :: st) ws := by
  obtain ⟨p, l, e, R, s, m, args, below, meth, c, Q, A⟩ := k
  exact fun H locs ls h1 h2 h3 h4 => lv_icmp_lt F.1.1 F.1.2.1 d ht (fun z => kt z H locs ls h1 h2 h3 h4) (fun z => kf z H locs ls h1 h2 h3 h4)
theorem G_if_lt (F : GF k l R cc nL own D cB cI cJ) {x : Int32} {off : Int} {tgt : Nat} (d : decode cc pc = .ok (.ifCond .lt off, 3)) (ht : (pc : Int) + off = (tgt : Int)) (kt : x < 0 → G D nL k cells slots tgt L st ws) (kf : ¬ x < 0 → G D nL k cells slots (pc + 3) L st ws) : G D nL k cells slots pc L (.int x :: st) ws := by
  obtain ⟨p, l, e, R, s, m, args, below, meth, c, Q, A⟩ := k
  exact fun H locs ls h1 h2 h3 h4 => lv_if_lt F.1.1 F.1.2.1 d ht (fun z => kt z H locs ls h1 h2 h3 h4) (fun z => kf z H locs ls h1 h2 h3 h4)
theorem G_icmp_ge (F : GF k l R cc nL own D cB cI cJ) {x y : Int32} {off : Int} {tgt : Nat} (d : decode cc pc = .ok (.if_icmp .ge off, 3)) (ht : (pc : Int) + off = (tgt : Int)) (kt : y ≤ x → G D nL k cells slots tgt L st ws) (kf : ¬ y ≤ x → G D nL k cells slots (pc + 3) L st ws) : G D nL k cells slots pc L (.int y :: .int x :: st) ws := by
  obtain ⟨p, l, e, R, s, m, args, below, meth, c, Q, A⟩ := k
  exact fun H locs ls h1 h2 h3 h4 => lv_icmp_ge F.1.1 F.1.2.1 d ht (fun z => kt z H locs ls h1 h2 h3 h4) (fun z => kf z H locs ls h1 h2 h3 h4)
theorem G_if_ge (F : GF k l R cc nL own D cB cI cJ) {x : Int32} {off : Int} {tgt : Nat} (d : decode cc pc = .ok (.ifCond .ge off, 3)) (ht : (pc : Int) + off = (tgt : Int)) (kt : 0 ≤ x → G D nL k cells slots tgt L st ws) (kf : ¬ 0 ≤ x → G D nL k cells slots (pc + 3) L st ws) : G D nL k cells slots pc L (.int x :: st) ws := by
  obtain ⟨p, l, e, R, s, m, args, below, meth, c, Q, A⟩ := k
  exact fun H locs ls h1 h2 h3 h4 => lv_if_ge F.1.1 F.1.2.1 d ht (fun z => kt z H locs ls h1 h2 h3 h4) (fun z => kf z H locs ls h1 h2 h3 h4)
theorem G_icmp_gt (F : GF k l R cc nL own D cB cI cJ) {x y : Int32} {off : Int} {tgt : Nat} (d : decode cc pc = .ok (.if_icmp .gt off, 3)) (ht : (pc : Int) + off = (tgt : Int)) (kt : y < x → G D nL k cells slots tgt L st ws) (kf : ¬ y < x → G D nL k cells slots (pc + 3) L st ws) : G D nL k cells slots pc L (.int y :: .int x :: st) ws := by
  obtain ⟨p, l, e, R, s, m, args, below, meth, c, Q, A⟩ := k
  exact fun H locs ls h1 h2 h3 h4 => lv_icmp_gt F.1.1 F.1.2.1 d ht (fun z => kt z H locs ls h1 h2 h3 h4) (fun z => kf z H locs ls h1 h2 h3 h4)
theorem G_if_gt (F : GF k l R cc nL own D cB cI cJ) {x : Int32} {off : Int} {tgt : Nat} (d : decode cc pc = .ok (.ifCond .gt off, 3)) (ht : (pc : Int) + off = (tgt : Int)) (kt : 0 < x → G D nL k cells slots tgt L st ws) (kf : ¬ 0 < x → G D nL k cells slots (pc + 3) L st ws) : G D nL k cells slots pc L (.int x :: st) ws := by
  obtain ⟨p, l, e, R, s, m, args, below, meth, c, Q, A⟩ := k
  exact fun H locs ls h1 h2 h3 h4 => lv_if_gt F.1.1 F.1.2.1 d ht (fun z => kt z H locs ls h1 h2 h3 h4) (fun z => kf z H locs ls h1 h2 h3 h4)
theorem G_icmp_le (F : GF k l R cc nL own D cB cI cJ) {x y : Int32} {off : Int} {tgt : Nat} (d : decode cc pc = .ok (.if_icmp .le off, 3)) (ht : (pc : Int) + off = (tgt : Int)) (kt : x ≤ y → G D nL k cells slots tgt L st ws) (kf : ¬ x ≤ y → G D nL k cells slots (pc + 3) L st ws) : G D nL k cells slots pc L (.int y :: .int x :: st) ws := by
  obtain ⟨p, l, e, R, s, m, args, below, meth, c, Q, A⟩ := k
  exact fun H locs ls h1 h2 h3 h4 => lv_icmp_le F.1.1 F.1.2.1 d ht (fun z => kt z H locs ls h1 h2 h3 h4) (fun z => kf z H locs ls h1 h2 h3 h4)
theorem G_if_le (F : GF k l R cc nL own D cB cI cJ) {x : Int32} {off : Int} {tgt : Nat} (d : decode cc pc = .ok (.ifCond .le off, 3)) (ht : (pc : Int) + off = (tgt : Int)) (kt : x ≤ 0 → G D nL k cells slots tgt L st ws) (kf : ¬ x ≤ 0 → G D nL k cells slots (pc + 3) L st ws) : G D nL k cells slots pc L (.int x :: st) ws := by
  obtain ⟨p, l, e, R, s, m, args, below, meth, c, Q, A⟩ := k
  exact fun H locs ls h1 h2 h3 h4 => lv_if_le F.1.1 F.1.2.1 d ht (fun z => kt z H locs ls h1 h2 h3 h4) (fun z => kf z H locs ls h1 h2 h3 h4)
theorem G_iaload (F : GF k l R cc nL own D cB cI cJ) {q a n : Nat} {f : Nat → Int32} {i : Int32} (d : decode cc pc = .ok (.iaload, 1)) (ha : ws[q]? = some (a, .inl (cI, n, .inl f))) (hin : ¬ (i < 0 ∨ n ≤ i.toNatClampNeg)) (kk : G D nL k cells slots (pc + 1) L (.int (f i.toNatClampNeg) :: st) ws) : G D nL k cells slots pc L (.int i :: .ref a :: st) ws := by
  obtain ⟨p, l, e, R, s, m, args, below, meth, c, Q, A⟩ := k
  exact fun H locs ls h1 h2 h3 h4 => va_iald F.1.1 F.1.2.1 F.2.1 h2 q 1 ha rfl hin d (kk H locs ls h1 h2 h3 h4)
theorem G_baload (F : GF k l R cc nL own D cB cI cJ) {q a n : Nat} {f : Nat → Int32} {i : Int32} (d : decode cc pc = .ok (.baload, 1)) (ha : ws[q]? = some (a, .inl (cB, n, .inl f))) (hin : ¬ (i < 0 ∨ n ≤ i.toNatClampNeg)) (kk : G D nL k cells slots (pc + 1) L (.int (f i.toNatClampNeg) :: st) ws) : G D nL k cells slots pc L (.int i :: .ref a :: st) ws := by
  obtain ⟨p, l, e, R, s, m, args, below, meth, c, Q, A⟩ := k
  exact fun H locs ls h1 h2 h3 h4 => va_bald F.1.1 F.1.2.1 F.2.1 h2 q 0 ha rfl hin d (kk H locs ls h1 h2 h3 h4)
theorem G_laload (F : GF k l R cc nL own D cB cI cJ) {q a n : Nat} {f : Nat → Int64} {i : Int32} (d : decode cc pc = .ok (.laload, 1)) (ha : ws[q]? = some (a, .inl (cJ, n, .inr (.inl f)))) (hin : ¬ (i < 0 ∨ n ≤ i.toNatClampNeg)) (kk : G D nL k cells slots (pc + 1) L (.long (f i.toNatClampNeg) :: st) ws) : G D nL k cells slots pc L (.int i :: .ref a :: st) ws := by
  obtain ⟨p, l, e, R, s, m, args, below, meth, c, Q, A⟩ := k
  exact fun H locs ls h1 h2 h3 h4 => va_lald F.1.1 F.1.2.1 F.2.1 h2 q 2 ha rfl hin d (kk H locs ls h1 h2 h3 h4)
theorem G_iastore (F : GF k l R cc nL own D cB cI cJ) {q a n : Nat} {f f' : Nat → Int32} {i : Int32} {x : Int32} (d : decode cc pc = .ok (.iastore, 1)) (ha : ws[q]? = some (a, .inl (cI, n, .inl f))) (hin : ¬ (i < 0 ∨ n ≤ i.toNatClampNeg)) (hf : f' = upd f i.toNatClampNeg x) (hw : ws.set q (a, .inl (cI, n, .inl f')) = ws') (kk : G D nL k cells slots (pc + 1) L st ws') : G D nL k cells slots pc L (.int x :: .int i :: .ref a :: st) ws := by
  obtain ⟨p, l, e, R, s, m, args, below, meth, c, Q, A⟩ := k
  subst hf
  subst hw
  exact fun H locs ls h1 h2 h3 h4 => va_iast F.1.1 F.1.2.1 F.2.1 h2 h3 h4 q 1 ha rfl hin d (fun H1 locs1 g2 g3 g4 => kk H1 locs1 ls h1 g2 g3 g4)
theorem G_bastore (F : GF k l R cc nL own D cB cI cJ) {q a n : Nat} {f f' : Nat → Int32} {i : Int32} {x : Int32} (d : decode cc pc = .ok (.bastore, 1)) (ha : ws[q]? = some (a, .inl (cB, n, .inl f))) (hin : ¬ (i < 0 ∨ n ≤ i.toNatClampNeg)) (hf : f' = upd f i.toNatClampNeg (vp_nar .byte x)) (hw : ws.set q (a, .inl (cB, n, .inl f')) = ws') (kk : G D nL k cells slots (pc + 1) L st ws') : G D nL k cells slots pc L (.int x :: .int i :: .ref a :: st) ws := by
  obtain ⟨p, l, e, R, s, m, args, below, meth, c, Q, A⟩ := k
  subst hf
  subst hw
  exact fun H locs ls h1 h2 h3 h4 => va_bast F.1.1 F.1.2.1 F.2.1 h2 h3 h4 q 0 ha rfl hin d (fun H1 locs1 g2 g3 g4 => kk H1 locs1 ls h1 g2 g3 g4)
theorem G_lastore (F : GF k l R cc nL own D cB cI cJ) {q a n : Nat} {f f' : Nat → Int64} {i : Int32} {x : Int64} (d : decode cc pc = .ok (.lastore, 1)) (ha : ws[q]? = some (a, .inl (cJ, n, .inr (.inl f)))) (hin : ¬ (i < 0 ∨ n ≤ i.toNatClampNeg)) (hf : f' = vp_updL f i.toNatClampNeg x) (hw : ws.set q (a, .inl (cJ, n, .inr (.inl f'))) = ws') (kk : G D nL k cells slots (pc + 1) L st ws') : G D nL k cells slots pc L (.long x :: .int i :: .ref a :: st) ws := by
  obtain ⟨p, l, e, R, s, m, args, below, meth, c, Q, A⟩ := k
  subst hf
  subst hw
  exact fun H locs ls h1 h2 h3 h4 => va_last F.1.1 F.1.2.1 F.2.1 h2 h3 h4 q 2 ha rfl hin d (fun H1 locs1 g2 g3 g4 => kk H1 locs1 ls h1 g2 g3 g4)
theorem G_alenB (F : GF k l R cc nL own D cB cI cJ) {q a : Nat} {x : vp_A} (d : decode cc pc = .ok (.arraylength, 1)) (ha : ws[q]? = some (a, .inl (cB, x))) (kk : G D nL k cells slots (pc + 1) L (.int (Int32.ofNat x.1) :: st) ws) : G D nL k cells slots pc L (.ref a :: st) ws := by
  obtain ⟨p, l, e, R, s, m, args, below, meth, c, Q, A⟩ := k
  exact fun H locs ls h1 h2 h3 h4 => va_alen F.1.1 F.1.2.1 F.2.1 h2 q 0 ha rfl rfl d (kk H locs ls h1 h2 h3 h4)
theorem G_alenI (F : GF k l R cc nL own D cB cI cJ) {q a : Nat} {x : vp_A} (d : decode cc pc = .ok (.arraylength, 1)) (ha : ws[q]? = some (a, .inl (cI, x))) (kk : G D nL k cells slots (pc + 1) L (.int (Int32.ofNat x.1) :: st) ws) : G D nL k cells slots pc L (.ref a :: st) ws := by
  obtain ⟨p, l, e, R, s, m, args, below, meth, c, Q, A⟩ := k
  exact fun H locs ls h1 h2 h3 h4 => va_alen F.1.1 F.1.2.1 F.2.1 h2 q 1 ha rfl rfl d (kk H locs ls h1 h2 h3 h4)
theorem G_alenJ (F : GF k l R cc nL own D cB cI cJ) {q a : Nat} {x : vp_A} (d : decode cc pc = .ok (.arraylength, 1)) (ha : ws[q]? = some (a, .inl (cJ, x))) (kk : G D nL k cells slots (pc + 1) L (.int (Int32.ofNat x.1) :: st) ws) : G D nL k cells slots pc L (.ref a :: st) ws := by
  obtain ⟨p, l, e, R, s, m, args, below, meth, c, Q, A⟩ := k
  exact fun H locs ls h1 h2 h3 h4 => va_alen F.1.1 F.1.2.1 F.2.1 h2 q 2 ha rfl rfl d (kk H locs ls h1 h2 h3 h4)
def FA (own : String) (index ci j : Nat) (C : String) (T : u_T) (N : Nat) : Prop := (∀ w ∈ u_ws C T N, w ∈ AW) ∧ zCl[ci]? = some (C, T, N) ∧ j < N ∧ ∃ ref : String, (Cond.fieldLink own index ref (T j).2.1 (T j).2.2.1 ∈ AW ∨ ∃ host : String, Cond.fieldLinkNest own index ref (T j).2.1 (T j).2.2.1 host ∈ NW) ∧ (ref = (T j).1 ∨ Cond.sameField ref (T j).1 (T j).2.1 (T j).2.2.1 ∈ AW)
theorem FA_same {T : u_T} {j : Nat} {ref : String} {ar : Array Value} {s : State} (hts : ∀ w ∈ AW, w.before ar s = true) (h : ref = (T j).1 ∨ Cond.sameField ref (T j).1 (T j).2.1 (T j).2.2.1 ∈ AW) : ∀ x, s.fieldFound? (T j).1 (T j).2.1 (T j).2.2.1 = some x → s.fieldFound? ref (T j).2.1 (T j).2.2.1 = some x := by
  rcases h with h | h
  · subst h; exact fun _ h => h
  · exact fun x hx => u_same (hts _ h) x hx
theorem G_get (F : GF k l R cc nL own D cB cI cJ) {index ci j : Nat} {C : String} {T : u_T} {N : Nat} (fa : FA own index ci j C T N) {q a : Nat} {fs : List Value} {v : Value} (d : decode cc pc = .ok (.getfield index, 3)) (he : ws[q]? = some (a, .inr (ci, fs))) (hv : fs[j]? = some v) (kk : G D nL k cells slots (pc + 3) L (v :: st) ws) : G D nL k cells slots pc L (.ref a :: st) ws := by
  obtain ⟨p, l0, e, R0, s, m, args, below, meth, c, Q, A⟩ := k
  obtain ⟨hin, hc, hj, ref, hl, hs⟩ := fa
  obtain ⟨⟨hx, hb, hml, hown, hts⟩, hK, hN, -⟩ := F
  rcases hl with hl | ⟨host, hl⟩
  · exact fun H locs ls h1 h2 h3 h4 => va_get hx hb hts hin hown hK h2 q he hc j hj (hts _ hl) (FA_same hts hs) hv d (kk H locs ls h1 h2 h3 h4)
  · exact fun H locs ls h1 h2 h3 h4 => va_getN hx hb hts hin hown hK h2 q he hc j hj (va_Nw.use rfl (hN _ hl)) (FA_same hts hs) hv d (kk H locs ls h1 h2 h3 h4)
def FP (own : String) (index ci j : Nat) (C : String) (T : u_T) (N : Nat) : Prop := FA own index ci j C T N ∧ (∃ ty0 : Nat → FieldType, ∀ k, k < N → parseFieldDescriptor (T k).2.2.1 = some (ty0 k)) ∧ (∀ a, a < N → ∀ b, b < N → a ≠ b → (T a).2.1 ≠ (T b).2.1) ∧ (T j).2.2.2 = false ∧ parseFieldDescriptor (T j).2.2.1 = some .int
theorem G_put (F : GF k l R cc nL own D cB cI cJ) {index ci j : Nat} {C : String} {T : u_T} {N : Nat} (fp : FP own index ci j C T N) {q a : Nat} {fs : List Value} {v : Int32} (d : decode cc pc = .ok (.putfield index, 3)) (he : ws[q]? = some (a, .inr (ci, fs))) (hl : j < fs.length) (hw : ws.set q (a, .inr (ci, fs.set j (.int v))) = ws') (kk : G D nL k cells slots (pc + 3) L st ws') : G D nL k cells slots pc L (.int v :: .ref a :: st) ws := by
  obtain ⟨p, l0, e, R0, s, m, args, below, meth, c, Q, A⟩ := k
  obtain ⟨⟨hin, hc, hj, ref, hlk, hs⟩, ⟨ty0, hty⟩, hnm, hfin, hd⟩ := fp
  obtain ⟨⟨hx, hb, hml, hown, hts⟩, hK, hN, -⟩ := F
  subst hw
  rcases hlk with hk | ⟨host, hk⟩
  · exact fun H locs ls h1 h2 h3 h4 => va_put hx hb hts hin ty0 hty hnm hown hK h2 h3 h4 q he hc j hj (hts _ hk) (FA_same hts hs) hfin hd rfl rfl hl d (fun H1 locs1 g2 g3 g4 => kk H1 locs1 ls h1 g2 g3 g4)
  · exact fun H locs ls h1 h2 h3 h4 => va_putN hx hb hts hin ty0 hty hnm hown hK h2 h3 h4 q he hc j hj (va_Nw.use rfl (hN _ hk)) (FA_same hts hs) hfin hd rfl rfl hl d (fun H1 locs1 g2 g3 g4 => kk H1 locs1 ls h1 g2 g3 g4)
end GR
def setsW : va_W → List Nat → va_W → va_W
  | ws, [], _ => ws
  | ws, _ :: _, [] => ws
  | ws, i :: is, c :: cs => setsW (ws.set i c) is cs
theorem setsW_at : ∀ (is : List Nat) (cs ws : va_W) (k : Nat) (q : Nat × va_E), is.length = cs.length → (setsW ws is cs)[k]? = some q → (∃ j : Nat, cs[j]? = some q ∧ is[j]? = some k) ∨ (ws[k]? = some q ∧ k ∉ is)
  | [], cs, ws, k, q, _, h => Or.inr ⟨by simpa [setsW] using h, by simp⟩
  | i :: is, [], ws, k, q, hl, h => by simp at hl
  | i :: is, c :: cs, ws, k, q, hl, h => by
    have h1 : (setsW (ws.set i c) is cs)[k]? = some q := h
    rcases setsW_at is cs (ws.set i c) k q (by simpa using hl) h1 with ⟨j, a, b⟩ | ⟨a, b⟩
    · exact Or.inl ⟨j + 1, by simpa using a, by simpa using b⟩
    · by_cases hk : k = i
      · subst hk
        have hlt : k < ws.length := by
          have := (List.getElem?_eq_some_iff.mp a).1
          simpa using this
        rw [List.getElem?_set_self hlt] at a
        exact Or.inl ⟨0, by simpa using a, by simp⟩
      · rw [List.getElem?_set_ne (Ne.symm hk)] at a
        exact Or.inr ⟨a, by simp [hk, b]⟩
theorem map_at {f : Nat → Option (Nat × va_E)} {is : List Nat} {w : va_W} (h : is.map f = w.map some) {j : Nat} {q : Nat × va_E} (hq : w[j]? = some q) : ∃ i, is[j]? = some i ∧ f i = some q := by
  have h1 : (is.map f)[j]? = some (some q) := by rw [h, List.getElem?_map, hq]; rfl
  rw [List.getElem?_map] at h1
  cases hi : is[j]? with
  | none => rw [hi] at h1; cases h1
  | some i => rw [hi] at h1; exact ⟨i, rfl, Option.some.inj h1⟩
theorem map_fm {f : Nat → Option (Nat × va_E)} : ∀ {is : List Nat} {w : va_W}, is.map f = w.map some → is.filterMap f = w
  | [], [], _ => rfl
  | [], _ :: _, h => by simp at h
  | _ :: _, [], h => by simp at h
  | i :: is, q :: w, h => by
    simp only [List.map_cons, List.cons.injEq] at h
    rw [List.filterMap_cons, h.1, map_fm h.2]
theorem wj {A0 : Nat → Prop} {D : va_G} {cl : List vw_C} {ws w0 w1 ws' : va_W} {H H1 : Heap} (hP : va_P D cl ws H) (hD : va_D A0 ws) (isC : List Nat) (hC : isC.map (fun i => ws[i]?) = w0.map some) (ha : w1.map Prod.fst = w0.map Prod.fst) (hw : setsW ws isC w1 = ws') (hk : ∀ q : Nat, q < H.size → ¬ va_A w0 H.size q → H1[q]? = H[q]?) (hP1 : va_P D cl w1 H1) : va_P D cl ws' H1 ∧ va_D A0 ws' := by
  have l0 : isC.length = w0.length := by have := congrArg List.length hC; simpa using this
  have l1 : w1.length = w0.length := by have := congrArg List.length ha; simpa using this
  subst hw
  have key : ∀ (k : Nat) (q : Nat × va_E), (setsW ws isC w1)[k]? = some q → ∃ q0, ws[k]? = some q0 ∧ q0.1 = q.1 := by
    intro k q hq
    rcases setsW_at isC w1 ws k q (l0.trans l1.symm) hq with ⟨j, a, b⟩ | ⟨a, -⟩
    · have h1 : (w0.map Prod.fst)[j]? = some q.1 := by rw [← ha, List.getElem?_map, a]; rfl
      rw [List.getElem?_map] at h1
      cases h0 : w0[j]? with
      | none => rw [h0] at h1; cases h1
      | some q0 =>
        rw [h0] at h1
        obtain ⟨i, h2, h3⟩ := map_at hC h0
        rw [b] at h2
        cases h2
        exact ⟨q0, h3, Option.some.inj h1⟩
    · exact ⟨q, a, rfl⟩
  refine ⟨fun k q hq => ?_, fun i j x y hi hj hxy => ?_, fun k q hq => ?_⟩
  · rcases setsW_at isC w1 ws k q (l0.trans l1.symm) hq with ⟨j, a, b⟩ | ⟨a, b⟩
    · exact hP1 j q a
    · refine (hP k q a).kept (hk q.1 (hP k q a).lt ?_)
      rintro (⟨j, e, h⟩ | h)
      · obtain ⟨i, h2, h3⟩ := map_at hC h
        have := hD.1 k i q (q.1, e) a h3 rfl
        subst this
        exact b (List.mem_of_getElem? h2)
      · exact absurd (hP k q a).lt (by omega)
  · obtain ⟨x0, h1, h2⟩ := key i x hi
    obtain ⟨y0, h3, h4⟩ := key j y hj
    exact hD.1 i j x0 y0 h1 h3 (h2.trans (hxy.trans h4.symm))
  · obtain ⟨q0, h1, h2⟩ := key k q hq
    rw [← h2]
    exact hD.2 k q0 h1
theorem wj0 {A0 : Nat → Prop} {D : va_G} {cl : List vw_C} {ws w0 : va_W} {H H1 : Heap} (hP : va_P D cl ws H) (hD : va_D A0 ws) (isC : List Nat) (hC : isC.map (fun i => ws[i]?) = w0.map some) (hk : ∀ q : Nat, q < H.size → ¬ va_A w0 H.size q → H1[q]? = H[q]?) (hP1 : va_P D cl w0 H1) : va_P D cl ws H1 := by
  intro k q a
  by_cases hA : va_A w0 H.size q.1
  · rcases hA with ⟨j, e, h⟩ | h
    · obtain ⟨i, h2, h3⟩ := map_at hC h
      have := hD.1 k i q (q.1, e) a h3 rfl
      subst this
      have h4 : some q = some (q.1, e) := a.symm.trans h3
      rw [Option.some.inj h4]
      exact hP1 j (q.1, e) h
    · exact absurd (hP k q a).lt (by omega)
  · exact (hP k q a).kept (hk q.1 (hP k q a).lt hA)
def KP (D : va_G) (cB cI cJ : ClassId) (av : List Value) (w0 : va_W) (sz : Nat) : Array Value → State → Prop := va_Pc av (fun U => U.heap.size = sz ∧ va_P D zCl w0 U.heap ∧ va_K D zCl (gT cB cI cJ) U ∧ va_D (fun _ => True) w0 ∧ NK U)
def KB (D : va_G) (cB cI cJ : ClassId) (w0 : va_W) (sz : Nat) (w1 : va_W) : Unit → State → Prop := fun _ t => va_P D zCl w1 t.heap ∧ va_K D zCl (gT cB cI cJ) t ∧ va_D (va_A w0 sz) w1
def CoI (l : Launch) (y : MethodName) (wy : List Cond) (rm : Room) (D : va_G) (cB cI cJ : ClassId) (av : List Value) (w0 : va_W) (r : Int32) (w1 : va_W) : Prop := ∀ sz : Nat, Met l y wy rm (KP D cB cI cJ av w0 sz) (va_Qi (fun (x : Int32) (_ : Unit) => x = r) (KB D cB cI cJ w0 sz w1) (va_A w0 sz)) 0 0 (va_A w0 sz)
def CoV (l : Launch) (y : MethodName) (wy : List Cond) (rm : Room) (D : va_G) (cB cI cJ : ClassId) (av : List Value) (w0 : va_W) (w1 : va_W) : Prop := ∀ sz : Nat, Met l y wy rm (KP D cB cI cJ av w0 sz) (va_Qv (fun (_ : Unit) => True) (KB D cB cI cJ w0 sz w1) (va_A w0 sz)) 0 0 (va_A w0 sz)
theorem KP_blind {D : va_G} {cB cI cJ : ClassId} {av : List Value} {w0 : va_W} {sz : Nat} : FrameBlind (KP D cB cI cJ av w0 sz) := by
  intro a U g mk q
  obtain ⟨q0, q1, qP, qK, qD, qN⟩ := q
  exact ⟨q0, q1, qP, va_K.moved (u := U) (U := U.calling g mk a) (Vm.Alike.refl U.vm) qK, qD, NK_same (u := U) (U := U.calling g mk a) rfl qN⟩
theorem goodA {ls : List Cond} (h : ∀ w ∈ ls, w ∈ AW) : GoodIn AW ls := fun w hw => ⟨h w hw, aw_good w (h w hw)⟩

theorem CoI.ofG {l : Launch} {y : MethodName} {cc : ByteArray} {maxL : Nat} {own : String} {rm : Room} {D : va_G} {cB cI cJ : ClassId} {av : List Value} {w0 : va_W} {r : Int32} {w1 : va_W} {L0 : List (Nat × Value)} {Ts : List Cond} (hy : plainName y.cls = true) (hw : Ts = .code y cc maxL (some .int) :: AW) (ho : y.cls = own) (ha : w1.map Prod.fst = w0.map Prod.fst) (hrm : True) (hL : (lg_sl av).length ≤ maxL) (hl0 : lv_args 0 av = L0)
    (body : ∀ k : GC, GF k l rm cc maxL own D cB cI cJ → (∀ (pc : Nat) (L : List (Nat × Value)), decode cc pc = .ok (.ireturn, 1) → G D maxL k 0 0 pc L [.int r] w1) → G D maxL k 0 0 0 L0 [] w0) : CoI l y Ts rm D cB cI cJ av w0 r w1 := by
  intro sz
  refine Met.ofW (cc := cc) (maxL := maxL) (ret := (some .int)) hy hw ?_
  intro p e s m args below meth c s₁ B hml hv
  obtain ⟨rfl, hsz, hP, hK, hD0, hN⟩ := hv
  have hx := B.exec
  have hb := B.bytes
  have hr := B.returns
  have hts := atoms_spec (ws := Ts) B.pre
  have hown : s.vm.findClass own = some m.cls := by rw [← ho]; exact findClass_of_methodNamed B.named
  have hlocks := B.notSynchronized
  subst hsz
  have hD := hD0.self (sz := s.heap.size)
  have hA : ∀ q : Nat, s.heap.size ≤ q → va_A w0 s.heap.size q := fun q h => Or.inr h
  have hS : va_S (va_A w0 s.heap.size) s.heap s.heap [] := va_S.rf
  have hl := lv_entry av (n := maxL) hL
  rw [lg_entry_eq]
  rw [hl0] at hl
  have addr : va_D (va_A w0 s.heap.size) w1 := by
    have key : ∀ (k : Nat) (q : Nat × va_E), w1[k]? = some q → ∃ q0, w0[k]? = some q0 ∧ q0.1 = q.1 := by
      intro k q hq
      have h1 : (w0.map Prod.fst)[k]? = some q.1 := by rw [← ha, List.getElem?_map, hq]; rfl
      rw [List.getElem?_map] at h1
      cases h0 : w0[k]? with
      | none => rw [h0] at h1; cases h1
      | some q0 => rw [h0] at h1; exact ⟨q0, rfl, Option.some.inj h1⟩
    refine ⟨fun i j x y hi hj hxy => ?_, fun k q hq => ?_⟩
    · obtain ⟨x0, h1, h2⟩ := key i x hi
      obtain ⟨y0, h3, h4⟩ := key j y hj
      exact hD.1 i j x0 y0 h1 h3 (h2.trans (hxy.trans h4.symm))
    · obtain ⟨q0, h1, h2⟩ := key k q hq
      rw [← h2]
      exact hD.2 k q0 h1
  refine body (p, l, e, (headSpec Ts rm).room, s, m, av.toArray, below, meth, c, _, va_A w0 s.heap.size) ⟨⟨hx, hb, hml, hown, fun w h => hts w (by rw [hw]; exact List.mem_cons_of_mem _ h)⟩, hK, hN, rfl, rfl, hA⟩ ?_ s.heap [] _ hl hP hD hS
  intro pc L d H locs ls h1 h2 h3 h4
  exact W.iret hx hb hr (fun t ht hW => ⟨⟨r, (), rfl, rfl, by rw [ht]; exact h2, va_K.moved hW.alike hK, addr⟩, h4.F ht⟩) h4.2.2 d
theorem CoZ.ofG {l : Launch} {y : MethodName} {cc : ByteArray} {maxL : Nat} {own : String} {rm : Room} {D : va_G} {cB cI cJ : ClassId} {av : List Value} {w0 : va_W} {r : Int32} {w1 : va_W} {L0 : List (Nat × Value)} {Ts : List Cond} (hy : plainName y.cls = true) (hw : Ts = .code y cc maxL (some .boolean) :: AW) (ho : y.cls = own) (ha : w1.map Prod.fst = w0.map Prod.fst) (hrm : True) (hL : (lg_sl av).length ≤ maxL) (hl0 : lv_args 0 av = L0)
    (body : ∀ k : GC, GF k l rm cc maxL own D cB cI cJ → (∀ (pc : Nat) (L : List (Nat × Value)), decode cc pc = .ok (.ireturn, 1) → narrow .boolean (.int r) = .int r → G D maxL k 0 0 pc L [.int r] w1) → G D maxL k 0 0 0 L0 [] w0) : CoI l y Ts rm D cB cI cJ av w0 r w1 := by
  intro sz
  refine Met.ofW (cc := cc) (maxL := maxL) (ret := (some .boolean)) hy hw ?_
  intro p e s m args below meth c s₁ B hml hv
  obtain ⟨rfl, hsz, hP, hK, hD0, hN⟩ := hv
  have hx := B.exec
  have hb := B.bytes
  have hr := B.returns
  have hts := atoms_spec (ws := Ts) B.pre
  have hown : s.vm.findClass own = some m.cls := by rw [← ho]; exact findClass_of_methodNamed B.named
  have hlocks := B.notSynchronized
  subst hsz
  have hD := hD0.self (sz := s.heap.size)
  have hA : ∀ q : Nat, s.heap.size ≤ q → va_A w0 s.heap.size q := fun q h => Or.inr h
  have hS : va_S (va_A w0 s.heap.size) s.heap s.heap [] := va_S.rf
  have hl := lv_entry av (n := maxL) hL
  rw [lg_entry_eq]
  rw [hl0] at hl
  have addr : va_D (va_A w0 s.heap.size) w1 := by
    have key : ∀ (k : Nat) (q : Nat × va_E), w1[k]? = some q → ∃ q0, w0[k]? = some q0 ∧ q0.1 = q.1 := by
      intro k q hq
      have h1 : (w0.map Prod.fst)[k]? = some q.1 := by rw [← ha, List.getElem?_map, hq]; rfl
      rw [List.getElem?_map] at h1
      cases h0 : w0[k]? with
      | none => rw [h0] at h1; cases h1
      | some q0 => rw [h0] at h1; exact ⟨q0, rfl, Option.some.inj h1⟩
    refine ⟨fun i j x y hi hj hxy => ?_, fun k q hq => ?_⟩
    · obtain ⟨x0, h1, h2⟩ := key i x hi
      obtain ⟨y0, h3, h4⟩ := key j y hj
      exact hD.1 i j x0 y0 h1 h3 (h2.trans (hxy.trans h4.symm))
    · obtain ⟨q0, h1, h2⟩ := key k q hq
      rw [← h2]
      exact hD.2 k q0 h1
  refine body (p, l, e, (headSpec Ts rm).room, s, m, av.toArray, below, meth, c, _, va_A w0 s.heap.size) ⟨⟨hx, hb, hml, hown, fun w h => hts w (by rw [hw]; exact List.mem_cons_of_mem _ h)⟩, hK, hN, rfl, rfl, hA⟩ ?_ s.heap [] _ hl hP hD hS
  intro pc L d hz H locs ls h1 h2 h3 h4
  exact W.zret hx hb hr hz (fun t ht hW => ⟨⟨r, (), rfl, rfl, by rw [ht]; exact h2, va_K.moved hW.alike hK, addr⟩, h4.F ht⟩) h4.2.2 d
theorem CoV.ofG {l : Launch} {y : MethodName} {cc : ByteArray} {maxL : Nat} {own : String} {rm : Room} {D : va_G} {cB cI cJ : ClassId} {av : List Value} {w0 : va_W} {w1 : va_W} {L0 : List (Nat × Value)} {Ts : List Cond} (hy : plainName y.cls = true) (hw : Ts = .code y cc maxL none :: AW) (ho : y.cls = own) (ha : w1.map Prod.fst = w0.map Prod.fst) (hrm : True) (hL : (lg_sl av).length ≤ maxL) (hl0 : lv_args 0 av = L0)
    (body : ∀ k : GC, GF k l rm cc maxL own D cB cI cJ → (∀ (pc : Nat) (L : List (Nat × Value)), decode cc pc = .ok (.return_, 1) → G D maxL k 0 0 pc L [] w1) → G D maxL k 0 0 0 L0 [] w0) : CoV l y Ts rm D cB cI cJ av w0 w1 := by
  intro sz
  refine Met.ofW (cc := cc) (maxL := maxL) (ret := none) hy hw ?_
  intro p e s m args below meth c s₁ B hml hv
  obtain ⟨rfl, hsz, hP, hK, hD0, hN⟩ := hv
  have hx := B.exec
  have hb := B.bytes
  have hr := B.returns
  have hts := atoms_spec (ws := Ts) B.pre
  have hown : s.vm.findClass own = some m.cls := by rw [← ho]; exact findClass_of_methodNamed B.named
  have hlocks := B.notSynchronized
  subst hsz
  have hD := hD0.self (sz := s.heap.size)
  have hA : ∀ q : Nat, s.heap.size ≤ q → va_A w0 s.heap.size q := fun q h => Or.inr h
  have hS : va_S (va_A w0 s.heap.size) s.heap s.heap [] := va_S.rf
  have hl := lv_entry av (n := maxL) hL
  rw [lg_entry_eq]
  rw [hl0] at hl
  have addr : va_D (va_A w0 s.heap.size) w1 := by
    have key : ∀ (k : Nat) (q : Nat × va_E), w1[k]? = some q → ∃ q0, w0[k]? = some q0 ∧ q0.1 = q.1 := by
      intro k q hq
      have h1 : (w0.map Prod.fst)[k]? = some q.1 := by rw [← ha, List.getElem?_map, hq]; rfl
      rw [List.getElem?_map] at h1
      cases h0 : w0[k]? with
      | none => rw [h0] at h1; cases h1
      | some q0 => rw [h0] at h1; exact ⟨q0, rfl, Option.some.inj h1⟩
    refine ⟨fun i j x y hi hj hxy => ?_, fun k q hq => ?_⟩
    · obtain ⟨x0, h1, h2⟩ := key i x hi
      obtain ⟨y0, h3, h4⟩ := key j y hj
      exact hD.1 i j x0 y0 h1 h3 (h2.trans (hxy.trans h4.symm))
    · obtain ⟨q0, h1, h2⟩ := key k q hq
      rw [← h2]
      exact hD.2 k q0 h1
  refine body (p, l, e, (headSpec Ts rm).room, s, m, av.toArray, below, meth, c, _, va_A w0 s.heap.size) ⟨⟨hx, hb, hml, hown, fun w h => hts w (by rw [hw]; exact List.mem_cons_of_mem _ h)⟩, hK, hN, rfl, rfl, hA⟩ ?_ s.heap [] _ hl hP hD hS
  intro pc L d H locs ls h1 h2 h3 h4
  exact W.vret hx hb hr (fun t ht hW => ⟨⟨(), rfl, trivial, by rw [ht]; exact h2, va_K.moved hW.alike hK, addr⟩, h4.F ht⟩) h4.2.2 d
section GR2
variable {k : GC} {l : Launch} {R : Room} {cc : ByteArray} {nL : Nat} {own : String} {D : va_G} {cB cI cJ : ClassId} {cells slots pc : Nat} {L L' : List (Nat × Value)} {st : List Value} {ws ws' : va_W}
theorem G_calliV0 (F : GF k l R cc nL own D cB cI cJ) {y : MethodName} {bytes : ByteArray} {maxL n index : Nat} {ret : Option FieldType} {rm : Room} {As : List Value} {w0 : va_W} {r : Int32} {q0 ci b : Nat} {fs : List Value} (hM : CoI l y (.code y bytes maxL ret :: AW) rm D cB cI cJ (.ref b :: As) w0 r w0) {rest : List Value} (isC : List Nat) (hC : isC.map (fun i => ws[i]?) = w0.map some) (hnd : va_nd isC = true) (he : ws[q0]? = some (b, .inr (ci, fs))) (cv : Cond.methodLink own index y ∈ AW ∧ Cond.instanceMethod y ∈ AW ∧ Cond.selects y.cls y y ∈ AW ∧ Cond.initialized y.cls ∈ AW ∧ Cond.code y bytes maxL ret ∈ AW ∧ (∃ (T : u_T) (N : Nat), zCl[ci]? = some (y.cls, T, N)) ∧ y.cls ≠ "java/lang/invoke/MethodHandle" ∧ y.cls ≠ "java/lang/invoke/VarHandle" ∧ (parseMethodDescriptor y.desc).map (fun d => d.parameters.length) = some n) (hrc : rm.cells = 0) (hrs : rm.slots = 0) (hR : rm.frames + 1 ≤ R.frames ∧ 8 + (maxL + 11) + rm.locals ≤ R.locals) (hf : cells ≤ R.cells ∧ slots ≤ R.slots) (hn : As.length = n) (h8 : (rest.map fun v => v.category).sum ≤ 8) (d : decode cc pc = .ok (.invokevirtual index, 3)) (hst : st = (As.reverse ++ .ref b :: rest)) (kk : G D nL k cells slots (pc + 3) L (.int r :: rest) ws) : G D nL k cells slots pc L st ws := by
  obtain ⟨p, l0, e, R0, s, m, args, below, meth, c, Q, A⟩ := k
  subst hst
  obtain ⟨c1, c2, c3, c4, c5, ⟨T, N, hc⟩, hd⟩ := cv
  obtain ⟨⟨hx, hb, hml, hown, hts⟩, hK, hN, rfl, rfl, hA⟩ := F
  have hT : GoodIn AW (wsV own index y.cls y (.code y bytes maxL ret :: AW)) := goodA (by
    intro w hw
    simp only [wsV, List.cons_append, List.nil_append, List.mem_cons] at hw
    rcases hw with rfl | rfl | rfl | rfl | rfl | hw <;> assumption)
  have cw := cwV (R := R) n hts hT rfl hrc hrs ⟨rfl, hd⟩ hR
  intro H locs ls h1 h2 h3 h4
  have hPc := h2.sub (ws' := w0) isC (map_fm hC)
  have hDc := h3.sub (ws' := w0) isC hnd hC
  have hFc := va_free (wc := w0) h3 h4 hA isC hC
  refine va_calli (va_runV (rest := rest) ⟨hx, hb, hml, hown, hts⟩ (hM H.size) cw ⟨KP_blind, va_recv hK h2 hc he, fun U hU hW => ?_⟩ rfl hn h1.1 rfl (lv_room h8) d hf) h4 (fun q _ h => hFc q h) hFc (fun r2 u t H1 locs1 ht hvm hpost hB hz1 hk1 hS => ?_)
  · exact ⟨rfl, by rw [hU], by rw [hU]; exact hPc, va_K.moved hW.alike hK, hDc.weaken (fun _ _ _ _ => trivial), NK_warm hW hN⟩
  · obtain ⟨hP1, hK1, hD1⟩ := hB
    rw [ht] at hP1
    subst hpost
    exact kk H1 locs1 ls h1 (wj0 h2 h3 isC hC hk1 hP1) h3 hS
theorem G_calliV (F : GF k l R cc nL own D cB cI cJ) {y : MethodName} {bytes : ByteArray} {maxL n index : Nat} {ret : Option FieldType} {rm : Room} {As : List Value} {w0 w1 : va_W} {r : Int32} {q0 ci b : Nat} {fs : List Value} (hM : CoI l y (.code y bytes maxL ret :: AW) rm D cB cI cJ (.ref b :: As) w0 r w1) {rest : List Value} (isC : List Nat) (hC : isC.map (fun i => ws[i]?) = w0.map some) (hnd : va_nd isC = true) (ha : w1.map Prod.fst = w0.map Prod.fst) (hw : setsW ws isC w1 = ws') (he : ws[q0]? = some (b, .inr (ci, fs))) (cv : Cond.methodLink own index y ∈ AW ∧ Cond.instanceMethod y ∈ AW ∧ Cond.selects y.cls y y ∈ AW ∧ Cond.initialized y.cls ∈ AW ∧ Cond.code y bytes maxL ret ∈ AW ∧ (∃ (T : u_T) (N : Nat), zCl[ci]? = some (y.cls, T, N)) ∧ y.cls ≠ "java/lang/invoke/MethodHandle" ∧ y.cls ≠ "java/lang/invoke/VarHandle" ∧ (parseMethodDescriptor y.desc).map (fun d => d.parameters.length) = some n) (hrc : rm.cells = 0) (hrs : rm.slots = 0) (hR : rm.frames + 1 ≤ R.frames ∧ 8 + (maxL + 11) + rm.locals ≤ R.locals) (hf : cells ≤ R.cells ∧ slots ≤ R.slots) (hn : As.length = n) (h8 : (rest.map fun v => v.category).sum ≤ 8) (d : decode cc pc = .ok (.invokevirtual index, 3)) (hst : st = (As.reverse ++ .ref b :: rest)) (kk : G D nL k cells slots (pc + 3) L (.int r :: rest) ws') : G D nL k cells slots pc L st ws := by
  obtain ⟨p, l0, e, R0, s, m, args, below, meth, c, Q, A⟩ := k
  subst hst
  obtain ⟨c1, c2, c3, c4, c5, ⟨T, N, hc⟩, hd⟩ := cv
  obtain ⟨⟨hx, hb, hml, hown, hts⟩, hK, hN, rfl, rfl, hA⟩ := F
  have hT : GoodIn AW (wsV own index y.cls y (.code y bytes maxL ret :: AW)) := goodA (by
    intro w hw
    simp only [wsV, List.cons_append, List.nil_append, List.mem_cons] at hw
    rcases hw with rfl | rfl | rfl | rfl | rfl | hw <;> assumption)
  have cw := cwV (R := R) n hts hT rfl hrc hrs ⟨rfl, hd⟩ hR
  intro H locs ls h1 h2 h3 h4
  have hPc := h2.sub (ws' := w0) isC (map_fm hC)
  have hDc := h3.sub (ws' := w0) isC hnd hC
  have hFc := va_free (wc := w0) h3 h4 hA isC hC
  refine va_calli (va_runV (rest := rest) ⟨hx, hb, hml, hown, hts⟩ (hM H.size) cw ⟨KP_blind, va_recv hK h2 hc he, fun U hU hW => ?_⟩ rfl hn h1.1 rfl (lv_room h8) d hf) h4 (fun q _ h => hFc q h) hFc (fun r2 u t H1 locs1 ht hvm hpost hB hz1 hk1 hS => ?_)
  · exact ⟨rfl, by rw [hU], by rw [hU]; exact hPc, va_K.moved hW.alike hK, hDc.weaken (fun _ _ _ _ => trivial), NK_warm hW hN⟩
  · obtain ⟨hP1, hK1, hD1⟩ := hB
    rw [ht] at hP1
    subst hpost
    obtain ⟨hP2, hD2⟩ := wj h2 h3 isC hC ha hw hk1 hP1
    exact kk H1 locs1 ls h1 hP2 hD2 hS
theorem G_callvV0 (F : GF k l R cc nL own D cB cI cJ) {y : MethodName} {bytes : ByteArray} {maxL n index : Nat} {ret : Option FieldType} {rm : Room} {As : List Value} {w0 : va_W} {q0 ci b : Nat} {fs : List Value} (hM : CoV l y (.code y bytes maxL ret :: AW) rm D cB cI cJ (.ref b :: As) w0 w0) {rest : List Value} (isC : List Nat) (hC : isC.map (fun i => ws[i]?) = w0.map some) (hnd : va_nd isC = true) (he : ws[q0]? = some (b, .inr (ci, fs))) (cv : Cond.methodLink own index y ∈ AW ∧ Cond.instanceMethod y ∈ AW ∧ Cond.selects y.cls y y ∈ AW ∧ Cond.initialized y.cls ∈ AW ∧ Cond.code y bytes maxL ret ∈ AW ∧ (∃ (T : u_T) (N : Nat), zCl[ci]? = some (y.cls, T, N)) ∧ y.cls ≠ "java/lang/invoke/MethodHandle" ∧ y.cls ≠ "java/lang/invoke/VarHandle" ∧ (parseMethodDescriptor y.desc).map (fun d => d.parameters.length) = some n) (hrc : rm.cells = 0) (hrs : rm.slots = 0) (hR : rm.frames + 1 ≤ R.frames ∧ 8 + (maxL + 11) + rm.locals ≤ R.locals) (hf : cells ≤ R.cells ∧ slots ≤ R.slots) (hn : As.length = n) (h8 : (rest.map fun v => v.category).sum ≤ 8) (d : decode cc pc = .ok (.invokevirtual index, 3)) (hst : st = (As.reverse ++ .ref b :: rest)) (kk : G D nL k cells slots (pc + 3) L rest ws) : G D nL k cells slots pc L st ws := by
  obtain ⟨p, l0, e, R0, s, m, args, below, meth, c, Q, A⟩ := k
  subst hst
  obtain ⟨c1, c2, c3, c4, c5, ⟨T, N, hc⟩, hd⟩ := cv
  obtain ⟨⟨hx, hb, hml, hown, hts⟩, hK, hN, rfl, rfl, hA⟩ := F
  have hT : GoodIn AW (wsV own index y.cls y (.code y bytes maxL ret :: AW)) := goodA (by
    intro w hw
    simp only [wsV, List.cons_append, List.nil_append, List.mem_cons] at hw
    rcases hw with rfl | rfl | rfl | rfl | rfl | hw <;> assumption)
  have cw := cwV (R := R) n hts hT rfl hrc hrs ⟨rfl, hd⟩ hR
  intro H locs ls h1 h2 h3 h4
  have hPc := h2.sub (ws' := w0) isC (map_fm hC)
  have hDc := h3.sub (ws' := w0) isC hnd hC
  have hFc := va_free (wc := w0) h3 h4 hA isC hC
  refine va_callv (va_runV (rest := rest) ⟨hx, hb, hml, hown, hts⟩ (hM H.size) cw ⟨KP_blind, va_recv hK h2 hc he, fun U hU hW => ?_⟩ rfl hn h1.1 rfl (lv_room h8) d hf) h4 (fun q _ h => hFc q h) hFc (fun u t H1 locs1 ht hvm hpost hB hz1 hk1 hS => ?_)
  · exact ⟨rfl, by rw [hU], by rw [hU]; exact hPc, va_K.moved hW.alike hK, hDc.weaken (fun _ _ _ _ => trivial), NK_warm hW hN⟩
  · obtain ⟨hP1, hK1, hD1⟩ := hB
    rw [ht] at hP1
    exact kk H1 locs1 ls h1 (wj0 h2 h3 isC hC hk1 hP1) h3 hS
theorem G_callvV (F : GF k l R cc nL own D cB cI cJ) {y : MethodName} {bytes : ByteArray} {maxL n index : Nat} {ret : Option FieldType} {rm : Room} {As : List Value} {w0 w1 : va_W} {q0 ci b : Nat} {fs : List Value} (hM : CoV l y (.code y bytes maxL ret :: AW) rm D cB cI cJ (.ref b :: As) w0 w1) {rest : List Value} (isC : List Nat) (hC : isC.map (fun i => ws[i]?) = w0.map some) (hnd : va_nd isC = true) (ha : w1.map Prod.fst = w0.map Prod.fst) (hw : setsW ws isC w1 = ws') (he : ws[q0]? = some (b, .inr (ci, fs))) (cv : Cond.methodLink own index y ∈ AW ∧ Cond.instanceMethod y ∈ AW ∧ Cond.selects y.cls y y ∈ AW ∧ Cond.initialized y.cls ∈ AW ∧ Cond.code y bytes maxL ret ∈ AW ∧ (∃ (T : u_T) (N : Nat), zCl[ci]? = some (y.cls, T, N)) ∧ y.cls ≠ "java/lang/invoke/MethodHandle" ∧ y.cls ≠ "java/lang/invoke/VarHandle" ∧ (parseMethodDescriptor y.desc).map (fun d => d.parameters.length) = some n) (hrc : rm.cells = 0) (hrs : rm.slots = 0) (hR : rm.frames + 1 ≤ R.frames ∧ 8 + (maxL + 11) + rm.locals ≤ R.locals) (hf : cells ≤ R.cells ∧ slots ≤ R.slots) (hn : As.length = n) (h8 : (rest.map fun v => v.category).sum ≤ 8) (d : decode cc pc = .ok (.invokevirtual index, 3)) (hst : st = (As.reverse ++ .ref b :: rest)) (kk : G D nL k cells slots (pc + 3) L rest ws') : G D nL k cells slots pc L st ws := by
  obtain ⟨p, l0, e, R0, s, m, args, below, meth, c, Q, A⟩ := k
  subst hst
  obtain ⟨c1, c2, c3, c4, c5, ⟨T, N, hc⟩, hd⟩ := cv
  obtain ⟨⟨hx, hb, hml, hown, hts⟩, hK, hN, rfl, rfl, hA⟩ := F
  have hT : GoodIn AW (wsV own index y.cls y (.code y bytes maxL ret :: AW)) := goodA (by
    intro w hw
    simp only [wsV, List.cons_append, List.nil_append, List.mem_cons] at hw
    rcases hw with rfl | rfl | rfl | rfl | rfl | hw <;> assumption)
  have cw := cwV (R := R) n hts hT rfl hrc hrs ⟨rfl, hd⟩ hR
  intro H locs ls h1 h2 h3 h4
  have hPc := h2.sub (ws' := w0) isC (map_fm hC)
  have hDc := h3.sub (ws' := w0) isC hnd hC
  have hFc := va_free (wc := w0) h3 h4 hA isC hC
  refine va_callv (va_runV (rest := rest) ⟨hx, hb, hml, hown, hts⟩ (hM H.size) cw ⟨KP_blind, va_recv hK h2 hc he, fun U hU hW => ?_⟩ rfl hn h1.1 rfl (lv_room h8) d hf) h4 (fun q _ h => hFc q h) hFc (fun u t H1 locs1 ht hvm hpost hB hz1 hk1 hS => ?_)
  · exact ⟨rfl, by rw [hU], by rw [hU]; exact hPc, va_K.moved hW.alike hK, hDc.weaken (fun _ _ _ _ => trivial), NK_warm hW hN⟩
  · obtain ⟨hP1, hK1, hD1⟩ := hB
    rw [ht] at hP1
    obtain ⟨hP2, hD2⟩ := wj h2 h3 isC hC ha hw hk1 hP1
    exact kk H1 locs1 ls h1 hP2 hD2 hS
theorem G_calliU0 (F : GF k l R cc nL own D cB cI cJ) {y : MethodName} {bytes : ByteArray} {maxL n index : Nat} {ret : Option FieldType} {rm : Room} {As : List Value} {w0 : va_W} {r : Int32} {q0 ci b : Nat} {fs : List Value} (hM : CoI l y (.code y bytes maxL ret :: AW) rm D cB cI cJ (.ref b :: As) w0 r w0) {rest : List Value} (isC : List Nat) (hC : isC.map (fun i => ws[i]?) = w0.map some) (hnd : va_nd isC = true) (he : ws[q0]? = some (b, .inr (ci, fs))) {x : MethodName} {owner C : String} (cv : Cond.methodLink own index x ∈ AW ∧ Cond.sameMethod x.cls owner x.name x.desc ∈ AW ∧ Cond.selects C x y ∈ AW ∧ Cond.instanceMethod y ∈ AW ∧ Cond.initialized y.cls ∈ AW ∧ Cond.code y bytes maxL ret ∈ AW ∧ (∃ (T : u_T) (N : Nat), zCl[ci]? = some (C, T, N)) ∧ y = ⟨owner, x.name, x.desc⟩ ∧ owner ≠ "java/lang/invoke/MethodHandle" ∧ owner ≠ "java/lang/invoke/VarHandle" ∧ (parseMethodDescriptor x.desc).map (fun d => d.parameters.length) = some n) (hrc : rm.cells = 0) (hrs : rm.slots = 0) (hR : rm.frames + 1 ≤ R.frames ∧ 8 + (maxL + 11) + rm.locals ≤ R.locals) (hf : cells ≤ R.cells ∧ slots ≤ R.slots) (hn : As.length = n) (h8 : (rest.map fun v => v.category).sum ≤ 8) (d : decode cc pc = .ok (.invokevirtual index, 3)) (hst : st = (As.reverse ++ .ref b :: rest)) (kk : G D nL k cells slots (pc + 3) L (.int r :: rest) ws) : G D nL k cells slots pc L st ws := by
  obtain ⟨p, l0, e, R0, s, m, args, below, meth, c, Q, A⟩ := k
  subst hst
  obtain ⟨c1, c2, c3, c4, c5, c6, ⟨T, N, hc⟩, hyx, hd⟩ := cv
  obtain ⟨⟨hx, hb, hml, hown, hts⟩, hK, hN, rfl, rfl, hA⟩ := F
  have hT : GoodIn AW (va_wsU own index C owner x y (.code y bytes maxL ret :: AW)) := goodA (by
    intro w hw
    simp only [va_wsU, List.cons_append, List.nil_append, List.mem_cons] at hw
    rcases hw with rfl | rfl | rfl | rfl | rfl | rfl | hw <;> assumption)
  have cw := va_cwU (R := R) n hts hT rfl hrc hrs hyx hd hR
  intro H locs ls h1 h2 h3 h4
  have hPc := h2.sub (ws' := w0) isC (map_fm hC)
  have hDc := h3.sub (ws' := w0) isC hnd hC
  have hFc := va_free (wc := w0) h3 h4 hA isC hC
  refine va_calli (va_runU (rest := rest) ⟨hx, hb, hml, hown, hts⟩ (hM H.size) cw ⟨KP_blind, va_recv hK h2 hc he, fun U hU hW => ?_⟩ rfl hn h1.1 rfl (lv_room h8) d hf) h4 (fun q _ h => hFc q h) hFc (fun r2 u t H1 locs1 ht hvm hpost hB hz1 hk1 hS => ?_)
  · exact ⟨rfl, by rw [hU], by rw [hU]; exact hPc, va_K.moved hW.alike hK, hDc.weaken (fun _ _ _ _ => trivial), NK_warm hW hN⟩
  · obtain ⟨hP1, hK1, hD1⟩ := hB
    rw [ht] at hP1
    subst hpost
    exact kk H1 locs1 ls h1 (wj0 h2 h3 isC hC hk1 hP1) h3 hS
theorem G_calliU (F : GF k l R cc nL own D cB cI cJ) {y : MethodName} {bytes : ByteArray} {maxL n index : Nat} {ret : Option FieldType} {rm : Room} {As : List Value} {w0 w1 : va_W} {r : Int32} {q0 ci b : Nat} {fs : List Value} (hM : CoI l y (.code y bytes maxL ret :: AW) rm D cB cI cJ (.ref b :: As) w0 r w1) {rest : List Value} (isC : List Nat) (hC : isC.map (fun i => ws[i]?) = w0.map some) (hnd : va_nd isC = true) (ha : w1.map Prod.fst = w0.map Prod.fst) (hw : setsW ws isC w1 = ws') (he : ws[q0]? = some (b, .inr (ci, fs))) {x : MethodName} {owner C : String} (cv : Cond.methodLink own index x ∈ AW ∧ Cond.sameMethod x.cls owner x.name x.desc ∈ AW ∧ Cond.selects C x y ∈ AW ∧ Cond.instanceMethod y ∈ AW ∧ Cond.initialized y.cls ∈ AW ∧ Cond.code y bytes maxL ret ∈ AW ∧ (∃ (T : u_T) (N : Nat), zCl[ci]? = some (C, T, N)) ∧ y = ⟨owner, x.name, x.desc⟩ ∧ owner ≠ "java/lang/invoke/MethodHandle" ∧ owner ≠ "java/lang/invoke/VarHandle" ∧ (parseMethodDescriptor x.desc).map (fun d => d.parameters.length) = some n) (hrc : rm.cells = 0) (hrs : rm.slots = 0) (hR : rm.frames + 1 ≤ R.frames ∧ 8 + (maxL + 11) + rm.locals ≤ R.locals) (hf : cells ≤ R.cells ∧ slots ≤ R.slots) (hn : As.length = n) (h8 : (rest.map fun v => v.category).sum ≤ 8) (d : decode cc pc = .ok (.invokevirtual index, 3)) (hst : st = (As.reverse ++ .ref b :: rest)) (kk : G D nL k cells slots (pc + 3) L (.int r :: rest) ws') : G D nL k cells slots pc L st ws := by
  obtain ⟨p, l0, e, R0, s, m, args, below, meth, c, Q, A⟩ := k
  subst hst
  obtain ⟨c1, c2, c3, c4, c5, c6, ⟨T, N, hc⟩, hyx, hd⟩ := cv
  obtain ⟨⟨hx, hb, hml, hown, hts⟩, hK, hN, rfl, rfl, hA⟩ := F
  have hT : GoodIn AW (va_wsU own index C owner x y (.code y bytes maxL ret :: AW)) := goodA (by
    intro w hw
    simp only [va_wsU, List.cons_append, List.nil_append, List.mem_cons] at hw
    rcases hw with rfl | rfl | rfl | rfl | rfl | rfl | hw <;> assumption)
  have cw := va_cwU (R := R) n hts hT rfl hrc hrs hyx hd hR
  intro H locs ls h1 h2 h3 h4
  have hPc := h2.sub (ws' := w0) isC (map_fm hC)
  have hDc := h3.sub (ws' := w0) isC hnd hC
  have hFc := va_free (wc := w0) h3 h4 hA isC hC
  refine va_calli (va_runU (rest := rest) ⟨hx, hb, hml, hown, hts⟩ (hM H.size) cw ⟨KP_blind, va_recv hK h2 hc he, fun U hU hW => ?_⟩ rfl hn h1.1 rfl (lv_room h8) d hf) h4 (fun q _ h => hFc q h) hFc (fun r2 u t H1 locs1 ht hvm hpost hB hz1 hk1 hS => ?_)
  · exact ⟨rfl, by rw [hU], by rw [hU]; exact hPc, va_K.moved hW.alike hK, hDc.weaken (fun _ _ _ _ => trivial), NK_warm hW hN⟩
  · obtain ⟨hP1, hK1, hD1⟩ := hB
    rw [ht] at hP1
    subst hpost
    obtain ⟨hP2, hD2⟩ := wj h2 h3 isC hC ha hw hk1 hP1
    exact kk H1 locs1 ls h1 hP2 hD2 hS
theorem G_callvU0 (F : GF k l R cc nL own D cB cI cJ) {y : MethodName} {bytes : ByteArray} {maxL n index : Nat} {ret : Option FieldType} {rm : Room} {As : List Value} {w0 : va_W} {q0 ci b : Nat} {fs : List Value} (hM : CoV l y (.code y bytes maxL ret :: AW) rm D cB cI cJ (.ref b :: As) w0 w0) {rest : List Value} (isC : List Nat) (hC : isC.map (fun i => ws[i]?) = w0.map some) (hnd : va_nd isC = true) (he : ws[q0]? = some (b, .inr (ci, fs))) {x : MethodName} {owner C : String} (cv : Cond.methodLink own index x ∈ AW ∧ Cond.sameMethod x.cls owner x.name x.desc ∈ AW ∧ Cond.selects C x y ∈ AW ∧ Cond.instanceMethod y ∈ AW ∧ Cond.initialized y.cls ∈ AW ∧ Cond.code y bytes maxL ret ∈ AW ∧ (∃ (T : u_T) (N : Nat), zCl[ci]? = some (C, T, N)) ∧ y = ⟨owner, x.name, x.desc⟩ ∧ owner ≠ "java/lang/invoke/MethodHandle" ∧ owner ≠ "java/lang/invoke/VarHandle" ∧ (parseMethodDescriptor x.desc).map (fun d => d.parameters.length) = some n) (hrc : rm.cells = 0) (hrs : rm.slots = 0) (hR : rm.frames + 1 ≤ R.frames ∧ 8 + (maxL + 11) + rm.locals ≤ R.locals) (hf : cells ≤ R.cells ∧ slots ≤ R.slots) (hn : As.length = n) (h8 : (rest.map fun v => v.category).sum ≤ 8) (d : decode cc pc = .ok (.invokevirtual index, 3)) (hst : st = (As.reverse ++ .ref b :: rest)) (kk : G D nL k cells slots (pc + 3) L rest ws) : G D nL k cells slots pc L st ws := by
  obtain ⟨p, l0, e, R0, s, m, args, below, meth, c, Q, A⟩ := k
  subst hst
  obtain ⟨c1, c2, c3, c4, c5, c6, ⟨T, N, hc⟩, hyx, hd⟩ := cv
  obtain ⟨⟨hx, hb, hml, hown, hts⟩, hK, hN, rfl, rfl, hA⟩ := F
  have hT : GoodIn AW (va_wsU own index C owner x y (.code y bytes maxL ret :: AW)) := goodA (by
    intro w hw
    simp only [va_wsU, List.cons_append, List.nil_append, List.mem_cons] at hw
    rcases hw with rfl | rfl | rfl | rfl | rfl | rfl | hw <;> assumption)
  have cw := va_cwU (R := R) n hts hT rfl hrc hrs hyx hd hR
  intro H locs ls h1 h2 h3 h4
  have hPc := h2.sub (ws' := w0) isC (map_fm hC)
  have hDc := h3.sub (ws' := w0) isC hnd hC
  have hFc := va_free (wc := w0) h3 h4 hA isC hC
  refine va_callv (va_runU (rest := rest) ⟨hx, hb, hml, hown, hts⟩ (hM H.size) cw ⟨KP_blind, va_recv hK h2 hc he, fun U hU hW => ?_⟩ rfl hn h1.1 rfl (lv_room h8) d hf) h4 (fun q _ h => hFc q h) hFc (fun u t H1 locs1 ht hvm hpost hB hz1 hk1 hS => ?_)
  · exact ⟨rfl, by rw [hU], by rw [hU]; exact hPc, va_K.moved hW.alike hK, hDc.weaken (fun _ _ _ _ => trivial), NK_warm hW hN⟩
  · obtain ⟨hP1, hK1, hD1⟩ := hB
    rw [ht] at hP1
    exact kk H1 locs1 ls h1 (wj0 h2 h3 isC hC hk1 hP1) h3 hS
theorem G_callvU (F : GF k l R cc nL own D cB cI cJ) {y : MethodName} {bytes : ByteArray} {maxL n index : Nat} {ret : Option FieldType} {rm : Room} {As : List Value} {w0 w1 : va_W} {q0 ci b : Nat} {fs : List Value} (hM : CoV l y (.code y bytes maxL ret :: AW) rm D cB cI cJ (.ref b :: As) w0 w1) {rest : List Value} (isC : List Nat) (hC : isC.map (fun i => ws[i]?) = w0.map some) (hnd : va_nd isC = true) (ha : w1.map Prod.fst = w0.map Prod.fst) (hw : setsW ws isC w1 = ws') (he : ws[q0]? = some (b, .inr (ci, fs))) {x : MethodName} {owner C : String} (cv : Cond.methodLink own index x ∈ AW ∧ Cond.sameMethod x.cls owner x.name x.desc ∈ AW ∧ Cond.selects C x y ∈ AW ∧ Cond.instanceMethod y ∈ AW ∧ Cond.initialized y.cls ∈ AW ∧ Cond.code y bytes maxL ret ∈ AW ∧ (∃ (T : u_T) (N : Nat), zCl[ci]? = some (C, T, N)) ∧ y = ⟨owner, x.name, x.desc⟩ ∧ owner ≠ "java/lang/invoke/MethodHandle" ∧ owner ≠ "java/lang/invoke/VarHandle" ∧ (parseMethodDescriptor x.desc).map (fun d => d.parameters.length) = some n) (hrc : rm.cells = 0) (hrs : rm.slots = 0) (hR : rm.frames + 1 ≤ R.frames ∧ 8 + (maxL + 11) + rm.locals ≤ R.locals) (hf : cells ≤ R.cells ∧ slots ≤ R.slots) (hn : As.length = n) (h8 : (rest.map fun v => v.category).sum ≤ 8) (d : decode cc pc = .ok (.invokevirtual index, 3)) (hst : st = (As.reverse ++ .ref b :: rest)) (kk : G D nL k cells slots (pc + 3) L rest ws') : G D nL k cells slots pc L st ws := by
  obtain ⟨p, l0, e, R0, s, m, args, below, meth, c, Q, A⟩ := k
  subst hst
  obtain ⟨c1, c2, c3, c4, c5, c6, ⟨T, N, hc⟩, hyx, hd⟩ := cv
  obtain ⟨⟨hx, hb, hml, hown, hts⟩, hK, hN, rfl, rfl, hA⟩ := F
  have hT : GoodIn AW (va_wsU own index C owner x y (.code y bytes maxL ret :: AW)) := goodA (by
    intro w hw
    simp only [va_wsU, List.cons_append, List.nil_append, List.mem_cons] at hw
    rcases hw with rfl | rfl | rfl | rfl | rfl | rfl | hw <;> assumption)
  have cw := va_cwU (R := R) n hts hT rfl hrc hrs hyx hd hR
  intro H locs ls h1 h2 h3 h4
  have hPc := h2.sub (ws' := w0) isC (map_fm hC)
  have hDc := h3.sub (ws' := w0) isC hnd hC
  have hFc := va_free (wc := w0) h3 h4 hA isC hC
  refine va_callv (va_runU (rest := rest) ⟨hx, hb, hml, hown, hts⟩ (hM H.size) cw ⟨KP_blind, va_recv hK h2 hc he, fun U hU hW => ?_⟩ rfl hn h1.1 rfl (lv_room h8) d hf) h4 (fun q _ h => hFc q h) hFc (fun u t H1 locs1 ht hvm hpost hB hz1 hk1 hS => ?_)
  · exact ⟨rfl, by rw [hU], by rw [hU]; exact hPc, va_K.moved hW.alike hK, hDc.weaken (fun _ _ _ _ => trivial), NK_warm hW hN⟩
  · obtain ⟨hP1, hK1, hD1⟩ := hB
    rw [ht] at hP1
    obtain ⟨hP2, hD2⟩ := wj h2 h3 isC hC ha hw hk1 hP1
    exact kk H1 locs1 ls h1 hP2 hD2 hS
theorem G_calliA0 (F : GF k l R cc nL own D cB cI cJ) {y : MethodName} {bytes : ByteArray} {maxL n index : Nat} {ret : Option FieldType} {rm : Room} {As : List Value} {w0 : va_W} {r : Int32} {q0 ci b : Nat} {fs : List Value} (hM : CoI l y (.code y bytes maxL ret :: AW) rm D cB cI cJ (.ref b :: As) w0 r w0) {rest : List Value} (isC : List Nat) (hC : isC.map (fun i => ws[i]?) = w0.map some) (hnd : va_nd isC = true) (he : ws[q0]? = some (b, .inr (ci, fs))) {x : MethodName} {owner C : String} (cv : Cond.methodLink own index x ∈ AW ∧ Cond.sameMethod x.cls owner x.name x.desc ∈ AW ∧ Cond.selects C x y ∈ AW ∧ Cond.instanceMethod y ∈ AW ∧ Cond.initialized y.cls ∈ AW ∧ Cond.code y bytes maxL ret ∈ AW ∧ (∃ (T : u_T) (N : Nat), zCl[ci]? = some (C, T, N)) ∧ Cond.declares ⟨owner, x.name, x.desc⟩ ∈ NW ∧ owner ≠ "java/lang/invoke/MethodHandle" ∧ owner ≠ "java/lang/invoke/VarHandle" ∧ (parseMethodDescriptor x.desc).map (fun d => d.parameters.length) = some n) (hrc : rm.cells = 0) (hrs : rm.slots = 0) (hR : rm.frames + 1 ≤ R.frames ∧ 8 + (maxL + 11) + rm.locals ≤ R.locals) (hf : cells ≤ R.cells ∧ slots ≤ R.slots) (hn : As.length = n) (h8 : (rest.map fun v => v.category).sum ≤ 8) (d : decode cc pc = .ok (.invokevirtual index, 3)) (hst : st = (As.reverse ++ .ref b :: rest)) (kk : G D nL k cells slots (pc + 3) L (.int r :: rest) ws) : G D nL k cells slots pc L st ws := by
  obtain ⟨p, l0, e, R0, s, m, args, below, meth, c, Q, A⟩ := k
  subst hst
  obtain ⟨c1, c2, c3, c4, c5, c6, ⟨T, N, hc⟩, hz, hd⟩ := cv
  obtain ⟨⟨hx, hb, hml, hown, hts⟩, hK, hN, rfl, rfl, hA⟩ := F
  have hT : GoodIn AW (va_wsU own index C owner x y (.code y bytes maxL ret :: AW)) := goodA (by
    intro w hw
    simp only [va_wsU, List.cons_append, List.nil_append, List.mem_cons] at hw
    rcases hw with rfl | rfl | rfl | rfl | rfl | rfl | hw <;> assumption)
  have cw := va_cwA (R := R) n hts hT rfl hrc hrs (hN _ hz) hd hR
  intro H locs ls h1 h2 h3 h4
  have hPc := h2.sub (ws' := w0) isC (map_fm hC)
  have hDc := h3.sub (ws' := w0) isC hnd hC
  have hFc := va_free (wc := w0) h3 h4 hA isC hC
  refine va_calli (va_runU (rest := rest) ⟨hx, hb, hml, hown, hts⟩ (hM H.size) cw ⟨KP_blind, va_recv hK h2 hc he, fun U hU hW => ?_⟩ rfl hn h1.1 rfl (lv_room h8) d hf) h4 (fun q _ h => hFc q h) hFc (fun r2 u t H1 locs1 ht hvm hpost hB hz1 hk1 hS => ?_)
  · exact ⟨rfl, by rw [hU], by rw [hU]; exact hPc, va_K.moved hW.alike hK, hDc.weaken (fun _ _ _ _ => trivial), NK_warm hW hN⟩
  · obtain ⟨hP1, hK1, hD1⟩ := hB
    rw [ht] at hP1
    subst hpost
    exact kk H1 locs1 ls h1 (wj0 h2 h3 isC hC hk1 hP1) h3 hS
theorem G_calliA (F : GF k l R cc nL own D cB cI cJ) {y : MethodName} {bytes : ByteArray} {maxL n index : Nat} {ret : Option FieldType} {rm : Room} {As : List Value} {w0 w1 : va_W} {r : Int32} {q0 ci b : Nat} {fs : List Value} (hM : CoI l y (.code y bytes maxL ret :: AW) rm D cB cI cJ (.ref b :: As) w0 r w1) {rest : List Value} (isC : List Nat) (hC : isC.map (fun i => ws[i]?) = w0.map some) (hnd : va_nd isC = true) (ha : w1.map Prod.fst = w0.map Prod.fst) (hw : setsW ws isC w1 = ws') (he : ws[q0]? = some (b, .inr (ci, fs))) {x : MethodName} {owner C : String} (cv : Cond.methodLink own index x ∈ AW ∧ Cond.sameMethod x.cls owner x.name x.desc ∈ AW ∧ Cond.selects C x y ∈ AW ∧ Cond.instanceMethod y ∈ AW ∧ Cond.initialized y.cls ∈ AW ∧ Cond.code y bytes maxL ret ∈ AW ∧ (∃ (T : u_T) (N : Nat), zCl[ci]? = some (C, T, N)) ∧ Cond.declares ⟨owner, x.name, x.desc⟩ ∈ NW ∧ owner ≠ "java/lang/invoke/MethodHandle" ∧ owner ≠ "java/lang/invoke/VarHandle" ∧ (parseMethodDescriptor x.desc).map (fun d => d.parameters.length) = some n) (hrc : rm.cells = 0) (hrs : rm.slots = 0) (hR : rm.frames + 1 ≤ R.frames ∧ 8 + (maxL + 11) + rm.locals ≤ R.locals) (hf : cells ≤ R.cells ∧ slots ≤ R.slots) (hn : As.length = n) (h8 : (rest.map fun v => v.category).sum ≤ 8) (d : decode cc pc = .ok (.invokevirtual index, 3)) (hst : st = (As.reverse ++ .ref b :: rest)) (kk : G D nL k cells slots (pc + 3) L (.int r :: rest) ws') : G D nL k cells slots pc L st ws := by
  obtain ⟨p, l0, e, R0, s, m, args, below, meth, c, Q, A⟩ := k
  subst hst
  obtain ⟨c1, c2, c3, c4, c5, c6, ⟨T, N, hc⟩, hz, hd⟩ := cv
  obtain ⟨⟨hx, hb, hml, hown, hts⟩, hK, hN, rfl, rfl, hA⟩ := F
  have hT : GoodIn AW (va_wsU own index C owner x y (.code y bytes maxL ret :: AW)) := goodA (by
    intro w hw
    simp only [va_wsU, List.cons_append, List.nil_append, List.mem_cons] at hw
    rcases hw with rfl | rfl | rfl | rfl | rfl | rfl | hw <;> assumption)
  have cw := va_cwA (R := R) n hts hT rfl hrc hrs (hN _ hz) hd hR
  intro H locs ls h1 h2 h3 h4
  have hPc := h2.sub (ws' := w0) isC (map_fm hC)
  have hDc := h3.sub (ws' := w0) isC hnd hC
  have hFc := va_free (wc := w0) h3 h4 hA isC hC
  refine va_calli (va_runU (rest := rest) ⟨hx, hb, hml, hown, hts⟩ (hM H.size) cw ⟨KP_blind, va_recv hK h2 hc he, fun U hU hW => ?_⟩ rfl hn h1.1 rfl (lv_room h8) d hf) h4 (fun q _ h => hFc q h) hFc (fun r2 u t H1 locs1 ht hvm hpost hB hz1 hk1 hS => ?_)
  · exact ⟨rfl, by rw [hU], by rw [hU]; exact hPc, va_K.moved hW.alike hK, hDc.weaken (fun _ _ _ _ => trivial), NK_warm hW hN⟩
  · obtain ⟨hP1, hK1, hD1⟩ := hB
    rw [ht] at hP1
    subst hpost
    obtain ⟨hP2, hD2⟩ := wj h2 h3 isC hC ha hw hk1 hP1
    exact kk H1 locs1 ls h1 hP2 hD2 hS
theorem G_callvA0 (F : GF k l R cc nL own D cB cI cJ) {y : MethodName} {bytes : ByteArray} {maxL n index : Nat} {ret : Option FieldType} {rm : Room} {As : List Value} {w0 : va_W} {q0 ci b : Nat} {fs : List Value} (hM : CoV l y (.code y bytes maxL ret :: AW) rm D cB cI cJ (.ref b :: As) w0 w0) {rest : List Value} (isC : List Nat) (hC : isC.map (fun i => ws[i]?) = w0.map some) (hnd : va_nd isC = true) (he : ws[q0]? = some (b, .inr (ci, fs))) {x : MethodName} {owner C : String} (cv : Cond.methodLink own index x ∈ AW ∧ Cond.sameMethod x.cls owner x.name x.desc ∈ AW ∧ Cond.selects C x y ∈ AW ∧ Cond.instanceMethod y ∈ AW ∧ Cond.initialized y.cls ∈ AW ∧ Cond.code y bytes maxL ret ∈ AW ∧ (∃ (T : u_T) (N : Nat), zCl[ci]? = some (C, T, N)) ∧ Cond.declares ⟨owner, x.name, x.desc⟩ ∈ NW ∧ owner ≠ "java/lang/invoke/MethodHandle" ∧ owner ≠ "java/lang/invoke/VarHandle" ∧ (parseMethodDescriptor x.desc).map (fun d => d.parameters.length) = some n) (hrc : rm.cells = 0) (hrs : rm.slots = 0) (hR : rm.frames + 1 ≤ R.frames ∧ 8 + (maxL + 11) + rm.locals ≤ R.locals) (hf : cells ≤ R.cells ∧ slots ≤ R.slots) (hn : As.length = n) (h8 : (rest.map fun v => v.category).sum ≤ 8) (d : decode cc pc = .ok (.invokevirtual index, 3)) (hst : st = (As.reverse ++ .ref b :: rest)) (kk : G D nL k cells slots (pc + 3) L rest ws) : G D nL k cells slots pc L st ws := by
  obtain ⟨p, l0, e, R0, s, m, args, below, meth, c, Q, A⟩ := k
  subst hst
  obtain ⟨c1, c2, c3, c4, c5, c6, ⟨T, N, hc⟩, hz, hd⟩ := cv
  obtain ⟨⟨hx, hb, hml, hown, hts⟩, hK, hN, rfl, rfl, hA⟩ := F
  have hT : GoodIn AW (va_wsU own index C owner x y (.code y bytes maxL ret :: AW)) := goodA (by
    intro w hw
    simp only [va_wsU, List.cons_append, List.nil_append, List.mem_cons] at hw
    rcases hw with rfl | rfl | rfl | rfl | rfl | rfl | hw <;> assumption)
  have cw := va_cwA (R := R) n hts hT rfl hrc hrs (hN _ hz) hd hR
  intro H locs ls h1 h2 h3 h4
  have hPc := h2.sub (ws' := w0) isC (map_fm hC)
  have hDc := h3.sub (ws' := w0) isC hnd hC
  have hFc := va_free (wc := w0) h3 h4 hA isC hC
  refine va_callv (va_runU (rest := rest) ⟨hx, hb, hml, hown, hts⟩ (hM H.size) cw ⟨KP_blind, va_recv hK h2 hc he, fun U hU hW => ?_⟩ rfl hn h1.1 rfl (lv_room h8) d hf) h4 (fun q _ h => hFc q h) hFc (fun u t H1 locs1 ht hvm hpost hB hz1 hk1 hS => ?_)
  · exact ⟨rfl, by rw [hU], by rw [hU]; exact hPc, va_K.moved hW.alike hK, hDc.weaken (fun _ _ _ _ => trivial), NK_warm hW hN⟩
  · obtain ⟨hP1, hK1, hD1⟩ := hB
    rw [ht] at hP1
    exact kk H1 locs1 ls h1 (wj0 h2 h3 isC hC hk1 hP1) h3 hS
theorem G_callvA (F : GF k l R cc nL own D cB cI cJ) {y : MethodName} {bytes : ByteArray} {maxL n index : Nat} {ret : Option FieldType} {rm : Room} {As : List Value} {w0 w1 : va_W} {q0 ci b : Nat} {fs : List Value} (hM : CoV l y (.code y bytes maxL ret :: AW) rm D cB cI cJ (.ref b :: As) w0 w1) {rest : List Value} (isC : List Nat) (hC : isC.map (fun i => ws[i]?) = w0.map some) (hnd : va_nd isC = true) (ha : w1.map Prod.fst = w0.map Prod.fst) (hw : setsW ws isC w1 = ws') (he : ws[q0]? = some (b, .inr (ci, fs))) {x : MethodName} {owner C : String} (cv : Cond.methodLink own index x ∈ AW ∧ Cond.sameMethod x.cls owner x.name x.desc ∈ AW ∧ Cond.selects C x y ∈ AW ∧ Cond.instanceMethod y ∈ AW ∧ Cond.initialized y.cls ∈ AW ∧ Cond.code y bytes maxL ret ∈ AW ∧ (∃ (T : u_T) (N : Nat), zCl[ci]? = some (C, T, N)) ∧ Cond.declares ⟨owner, x.name, x.desc⟩ ∈ NW ∧ owner ≠ "java/lang/invoke/MethodHandle" ∧ owner ≠ "java/lang/invoke/VarHandle" ∧ (parseMethodDescriptor x.desc).map (fun d => d.parameters.length) = some n) (hrc : rm.cells = 0) (hrs : rm.slots = 0) (hR : rm.frames + 1 ≤ R.frames ∧ 8 + (maxL + 11) + rm.locals ≤ R.locals) (hf : cells ≤ R.cells ∧ slots ≤ R.slots) (hn : As.length = n) (h8 : (rest.map fun v => v.category).sum ≤ 8) (d : decode cc pc = .ok (.invokevirtual index, 3)) (hst : st = (As.reverse ++ .ref b :: rest)) (kk : G D nL k cells slots (pc + 3) L rest ws') : G D nL k cells slots pc L st ws := by
  obtain ⟨p, l0, e, R0, s, m, args, below, meth, c, Q, A⟩ := k
  subst hst
  obtain ⟨c1, c2, c3, c4, c5, c6, ⟨T, N, hc⟩, hz, hd⟩ := cv
  obtain ⟨⟨hx, hb, hml, hown, hts⟩, hK, hN, rfl, rfl, hA⟩ := F
  have hT : GoodIn AW (va_wsU own index C owner x y (.code y bytes maxL ret :: AW)) := goodA (by
    intro w hw
    simp only [va_wsU, List.cons_append, List.nil_append, List.mem_cons] at hw
    rcases hw with rfl | rfl | rfl | rfl | rfl | rfl | hw <;> assumption)
  have cw := va_cwA (R := R) n hts hT rfl hrc hrs (hN _ hz) hd hR
  intro H locs ls h1 h2 h3 h4
  have hPc := h2.sub (ws' := w0) isC (map_fm hC)
  have hDc := h3.sub (ws' := w0) isC hnd hC
  have hFc := va_free (wc := w0) h3 h4 hA isC hC
  refine va_callv (va_runU (rest := rest) ⟨hx, hb, hml, hown, hts⟩ (hM H.size) cw ⟨KP_blind, va_recv hK h2 hc he, fun U hU hW => ?_⟩ rfl hn h1.1 rfl (lv_room h8) d hf) h4 (fun q _ h => hFc q h) hFc (fun u t H1 locs1 ht hvm hpost hB hz1 hk1 hS => ?_)
  · exact ⟨rfl, by rw [hU], by rw [hU]; exact hPc, va_K.moved hW.alike hK, hDc.weaken (fun _ _ _ _ => trivial), NK_warm hW hN⟩
  · obtain ⟨hP1, hK1, hD1⟩ := hB
    rw [ht] at hP1
    obtain ⟨hP2, hD2⟩ := wj h2 h3 isC hC ha hw hk1 hP1
    exact kk H1 locs1 ls h1 hP2 hD2 hS
theorem G_calliS0 (F : GF k l R cc nL own D cB cI cJ) {y : MethodName} {bytes : ByteArray} {maxL n index : Nat} {ret : Option FieldType} {rm : Room} {As : List Value} {w0 : va_W} {r : Int32} (hM : CoI l y (.code y bytes maxL ret :: AW) rm D cB cI cJ As w0 r w0) {rest : List Value} (isC : List Nat) (hC : isC.map (fun i => ws[i]?) = w0.map some) (hnd : va_nd isC = true) (cv : Cond.methodLink own index y ∈ AW ∧ Cond.static y ∈ AW ∧ Cond.initialized own ∈ AW ∧ Cond.code y bytes maxL ret ∈ AW ∧ y.cls = own ∧ y.cls ≠ "java/lang/invoke/MethodHandle" ∧ y.cls ≠ "java/lang/invoke/VarHandle" ∧ (parseMethodDescriptor y.desc).map (fun d => d.parameters.length) = some n) (hrc : rm.cells = 0) (hrs : rm.slots = 0) (hR : rm.frames + 1 ≤ R.frames ∧ 8 + (maxL + 11) + rm.locals ≤ R.locals) (hf : cells ≤ R.cells ∧ slots ≤ R.slots) (hn : As.length = n) (h8 : (rest.map fun v => v.category).sum ≤ 8) (d : decode cc pc = .ok (.invokestatic index, 3)) (hst : st = (As.reverse ++ rest)) (kk : G D nL k cells slots (pc + 3) L (.int r :: rest) ws) : G D nL k cells slots pc L st ws := by
  obtain ⟨p, l0, e, R0, s, m, args, below, meth, c, Q, A⟩ := k
  subst hst
  obtain ⟨c1, c2, c3, c4, hd⟩ := cv
  obtain ⟨⟨hx, hb, hml, hown, hts⟩, hK, hN, rfl, rfl, hA⟩ := F
  have hT : GoodIn AW (wsS own index y (.code y bytes maxL ret :: AW)) := goodA (by
    intro w hw
    simp only [wsS, List.cons_append, List.nil_append, List.mem_cons] at hw
    rcases hw with rfl | rfl | rfl | rfl | hw <;> assumption)
  have cw := cwS (R := R) n hts hT rfl hrc hrs hd hR
  intro H locs ls h1 h2 h3 h4
  have hPc := h2.sub (ws' := w0) isC (map_fm hC)
  have hDc := h3.sub (ws' := w0) isC hnd hC
  have hFc := va_free (wc := w0) h3 h4 hA isC hC
  refine va_calli (va_runS (rest := rest) ⟨hx, hb, hml, hown, hts⟩ (hM H.size) cw ⟨KP_blind, fun U hU hW => ?_⟩ rfl hn h1.1 rfl (lv_room h8) d hf) h4 (fun q _ h => hFc q h) hFc (fun r2 u t H1 locs1 ht hvm hpost hB hz1 hk1 hS => ?_)
  · exact ⟨rfl, by rw [hU], by rw [hU]; exact hPc, va_K.moved hW.alike hK, hDc.weaken (fun _ _ _ _ => trivial), NK_warm hW hN⟩
  · obtain ⟨hP1, hK1, hD1⟩ := hB
    rw [ht] at hP1
    subst hpost
    exact kk H1 locs1 ls h1 (wj0 h2 h3 isC hC hk1 hP1) h3 hS
theorem G_calliS (F : GF k l R cc nL own D cB cI cJ) {y : MethodName} {bytes : ByteArray} {maxL n index : Nat} {ret : Option FieldType} {rm : Room} {As : List Value} {w0 w1 : va_W} {r : Int32} (hM : CoI l y (.code y bytes maxL ret :: AW) rm D cB cI cJ As w0 r w1) {rest : List Value} (isC : List Nat) (hC : isC.map (fun i => ws[i]?) = w0.map some) (hnd : va_nd isC = true) (ha : w1.map Prod.fst = w0.map Prod.fst) (hw : setsW ws isC w1 = ws') (cv : Cond.methodLink own index y ∈ AW ∧ Cond.static y ∈ AW ∧ Cond.initialized own ∈ AW ∧ Cond.code y bytes maxL ret ∈ AW ∧ y.cls = own ∧ y.cls ≠ "java/lang/invoke/MethodHandle" ∧ y.cls ≠ "java/lang/invoke/VarHandle" ∧ (parseMethodDescriptor y.desc).map (fun d => d.parameters.length) = some n) (hrc : rm.cells = 0) (hrs : rm.slots = 0) (hR : rm.frames + 1 ≤ R.frames ∧ 8 + (maxL + 11) + rm.locals ≤ R.locals) (hf : cells ≤ R.cells ∧ slots ≤ R.slots) (hn : As.length = n) (h8 : (rest.map fun v => v.category).sum ≤ 8) (d : decode cc pc = .ok (.invokestatic index, 3)) (hst : st = (As.reverse ++ rest)) (kk : G D nL k cells slots (pc + 3) L (.int r :: rest) ws') : G D nL k cells slots pc L st ws := by
  obtain ⟨p, l0, e, R0, s, m, args, below, meth, c, Q, A⟩ := k
  subst hst
  obtain ⟨c1, c2, c3, c4, hd⟩ := cv
  obtain ⟨⟨hx, hb, hml, hown, hts⟩, hK, hN, rfl, rfl, hA⟩ := F
  have hT : GoodIn AW (wsS own index y (.code y bytes maxL ret :: AW)) := goodA (by
    intro w hw
    simp only [wsS, List.cons_append, List.nil_append, List.mem_cons] at hw
    rcases hw with rfl | rfl | rfl | rfl | hw <;> assumption)
  have cw := cwS (R := R) n hts hT rfl hrc hrs hd hR
  intro H locs ls h1 h2 h3 h4
  have hPc := h2.sub (ws' := w0) isC (map_fm hC)
  have hDc := h3.sub (ws' := w0) isC hnd hC
  have hFc := va_free (wc := w0) h3 h4 hA isC hC
  refine va_calli (va_runS (rest := rest) ⟨hx, hb, hml, hown, hts⟩ (hM H.size) cw ⟨KP_blind, fun U hU hW => ?_⟩ rfl hn h1.1 rfl (lv_room h8) d hf) h4 (fun q _ h => hFc q h) hFc (fun r2 u t H1 locs1 ht hvm hpost hB hz1 hk1 hS => ?_)
  · exact ⟨rfl, by rw [hU], by rw [hU]; exact hPc, va_K.moved hW.alike hK, hDc.weaken (fun _ _ _ _ => trivial), NK_warm hW hN⟩
  · obtain ⟨hP1, hK1, hD1⟩ := hB
    rw [ht] at hP1
    subst hpost
    obtain ⟨hP2, hD2⟩ := wj h2 h3 isC hC ha hw hk1 hP1
    exact kk H1 locs1 ls h1 hP2 hD2 hS
theorem G_callvS0 (F : GF k l R cc nL own D cB cI cJ) {y : MethodName} {bytes : ByteArray} {maxL n index : Nat} {ret : Option FieldType} {rm : Room} {As : List Value} {w0 : va_W} (hM : CoV l y (.code y bytes maxL ret :: AW) rm D cB cI cJ As w0 w0) {rest : List Value} (isC : List Nat) (hC : isC.map (fun i => ws[i]?) = w0.map some) (hnd : va_nd isC = true) (cv : Cond.methodLink own index y ∈ AW ∧ Cond.static y ∈ AW ∧ Cond.initialized own ∈ AW ∧ Cond.code y bytes maxL ret ∈ AW ∧ y.cls = own ∧ y.cls ≠ "java/lang/invoke/MethodHandle" ∧ y.cls ≠ "java/lang/invoke/VarHandle" ∧ (parseMethodDescriptor y.desc).map (fun d => d.parameters.length) = some n) (hrc : rm.cells = 0) (hrs : rm.slots = 0) (hR : rm.frames + 1 ≤ R.frames ∧ 8 + (maxL + 11) + rm.locals ≤ R.locals) (hf : cells ≤ R.cells ∧ slots ≤ R.slots) (hn : As.length = n) (h8 : (rest.map fun v => v.category).sum ≤ 8) (d : decode cc pc = .ok (.invokestatic index, 3)) (hst : st = (As.reverse ++ rest)) (kk : G D nL k cells slots (pc + 3) L rest ws) : G D nL k cells slots pc L st ws := by
  obtain ⟨p, l0, e, R0, s, m, args, below, meth, c, Q, A⟩ := k
  subst hst
  obtain ⟨c1, c2, c3, c4, hd⟩ := cv
  obtain ⟨⟨hx, hb, hml, hown, hts⟩, hK, hN, rfl, rfl, hA⟩ := F
  have hT : GoodIn AW (wsS own index y (.code y bytes maxL ret :: AW)) := goodA (by
    intro w hw
    simp only [wsS, List.cons_append, List.nil_append, List.mem_cons] at hw
    rcases hw with rfl | rfl | rfl | rfl | hw <;> assumption)
  have cw := cwS (R := R) n hts hT rfl hrc hrs hd hR
  intro H locs ls h1 h2 h3 h4
  have hPc := h2.sub (ws' := w0) isC (map_fm hC)
  have hDc := h3.sub (ws' := w0) isC hnd hC
  have hFc := va_free (wc := w0) h3 h4 hA isC hC
  refine va_callv (va_runS (rest := rest) ⟨hx, hb, hml, hown, hts⟩ (hM H.size) cw ⟨KP_blind, fun U hU hW => ?_⟩ rfl hn h1.1 rfl (lv_room h8) d hf) h4 (fun q _ h => hFc q h) hFc (fun u t H1 locs1 ht hvm hpost hB hz1 hk1 hS => ?_)
  · exact ⟨rfl, by rw [hU], by rw [hU]; exact hPc, va_K.moved hW.alike hK, hDc.weaken (fun _ _ _ _ => trivial), NK_warm hW hN⟩
  · obtain ⟨hP1, hK1, hD1⟩ := hB
    rw [ht] at hP1
    exact kk H1 locs1 ls h1 (wj0 h2 h3 isC hC hk1 hP1) h3 hS
theorem G_callvS (F : GF k l R cc nL own D cB cI cJ) {y : MethodName} {bytes : ByteArray} {maxL n index : Nat} {ret : Option FieldType} {rm : Room} {As : List Value} {w0 w1 : va_W} (hM : CoV l y (.code y bytes maxL ret :: AW) rm D cB cI cJ As w0 w1) {rest : List Value} (isC : List Nat) (hC : isC.map (fun i => ws[i]?) = w0.map some) (hnd : va_nd isC = true) (ha : w1.map Prod.fst = w0.map Prod.fst) (hw : setsW ws isC w1 = ws') (cv : Cond.methodLink own index y ∈ AW ∧ Cond.static y ∈ AW ∧ Cond.initialized own ∈ AW ∧ Cond.code y bytes maxL ret ∈ AW ∧ y.cls = own ∧ y.cls ≠ "java/lang/invoke/MethodHandle" ∧ y.cls ≠ "java/lang/invoke/VarHandle" ∧ (parseMethodDescriptor y.desc).map (fun d => d.parameters.length) = some n) (hrc : rm.cells = 0) (hrs : rm.slots = 0) (hR : rm.frames + 1 ≤ R.frames ∧ 8 + (maxL + 11) + rm.locals ≤ R.locals) (hf : cells ≤ R.cells ∧ slots ≤ R.slots) (hn : As.length = n) (h8 : (rest.map fun v => v.category).sum ≤ 8) (d : decode cc pc = .ok (.invokestatic index, 3)) (hst : st = (As.reverse ++ rest)) (kk : G D nL k cells slots (pc + 3) L rest ws') : G D nL k cells slots pc L st ws := by
  obtain ⟨p, l0, e, R0, s, m, args, below, meth, c, Q, A⟩ := k
  subst hst
  obtain ⟨c1, c2, c3, c4, hd⟩ := cv
  obtain ⟨⟨hx, hb, hml, hown, hts⟩, hK, hN, rfl, rfl, hA⟩ := F
  have hT : GoodIn AW (wsS own index y (.code y bytes maxL ret :: AW)) := goodA (by
    intro w hw
    simp only [wsS, List.cons_append, List.nil_append, List.mem_cons] at hw
    rcases hw with rfl | rfl | rfl | rfl | hw <;> assumption)
  have cw := cwS (R := R) n hts hT rfl hrc hrs hd hR
  intro H locs ls h1 h2 h3 h4
  have hPc := h2.sub (ws' := w0) isC (map_fm hC)
  have hDc := h3.sub (ws' := w0) isC hnd hC
  have hFc := va_free (wc := w0) h3 h4 hA isC hC
  refine va_callv (va_runS (rest := rest) ⟨hx, hb, hml, hown, hts⟩ (hM H.size) cw ⟨KP_blind, fun U hU hW => ?_⟩ rfl hn h1.1 rfl (lv_room h8) d hf) h4 (fun q _ h => hFc q h) hFc (fun u t H1 locs1 ht hvm hpost hB hz1 hk1 hS => ?_)
  · exact ⟨rfl, by rw [hU], by rw [hU]; exact hPc, va_K.moved hW.alike hK, hDc.weaken (fun _ _ _ _ => trivial), NK_warm hW hN⟩
  · obtain ⟨hP1, hK1, hD1⟩ := hB
    rw [ht] at hP1
    obtain ⟨hP2, hD2⟩ := wj h2 h3 isC hC ha hw hk1 hP1
    exact kk H1 locs1 ls h1 hP2 hD2 hS
theorem G_mmax (F : GF k l R cc nL own D cB cI cJ) {index : Nat} {x y v : Int32} (cv : Cond.methodLink own index Lib.Math.max.name ∈ AW ∧ Cond.static Lib.Math.max.name ∈ AW ∧ Cond.initialized "java/lang/Math" ∈ AW ∧ Cond.code Lib.Math.max.name Lib.Math.max.code 2 (some .int) ∈ AW) (d : decode cc pc = .ok (.invokestatic index, 3)) (hv : v = if x < y then y else x) (hR : 1 ≤ R.frames ∧ 21 ≤ R.locals) (hf : cells ≤ R.cells ∧ slots ≤ R.slots) (h8 : (st.map fun v => v.category).sum ≤ 8) (kk : G D nL k cells slots (pc + 3) L (.int v :: st) ws) : G D nL k cells slots pc L (.int y :: .int x :: st) ws := by
  obtain ⟨p, l0, e, R0, s, m, args, below, meth, c, Q, A⟩ := k
  obtain ⟨c1, c2, c3, c4⟩ := cv
  obtain ⟨⟨hx, hb, hml, hown, hts⟩, hK, hN, rfl, rfl, hA⟩ := F
  subst hv
  intro H locs ls h1 h2 h3 h4
  exact va_mmax hx hb (hml.trans h1.1.symm) hown (hts _ c1) (hts _ c2) (hts _ c3) (hts _ c4) hR.1 (by omega) hf.1 hf.2 d (kk H locs ls h1 h2 h3 h4)
theorem G_mmin (F : GF k l R cc nL own D cB cI cJ) {index : Nat} {x y v : Int32} (cv : Cond.methodLink own index Lib.Math.min.name ∈ AW ∧ Cond.static Lib.Math.min.name ∈ AW ∧ Cond.initialized "java/lang/Math" ∈ AW ∧ Cond.code Lib.Math.min.name Lib.Math.min.code 2 (some .int) ∈ AW) (d : decode cc pc = .ok (.invokestatic index, 3)) (hv : v = if y < x then y else x) (hR : 1 ≤ R.frames ∧ 21 ≤ R.locals) (hf : cells ≤ R.cells ∧ slots ≤ R.slots) (h8 : (st.map fun v => v.category).sum ≤ 8) (kk : G D nL k cells slots (pc + 3) L (.int v :: st) ws) : G D nL k cells slots pc L (.int y :: .int x :: st) ws := by
  obtain ⟨p, l0, e, R0, s, m, args, below, meth, c, Q, A⟩ := k
  obtain ⟨c1, c2, c3, c4⟩ := cv
  obtain ⟨⟨hx, hb, hml, hown, hts⟩, hK, hN, rfl, rfl, hA⟩ := F
  subst hv
  intro H locs ls h1 h2 h3 h4
  exact va_mmin hx hb (hml.trans h1.1.symm) hown (hts _ c1) (hts _ c2) (hts _ c3) (hts _ c4) hR.1 (by omega) hf.1 hf.2 d (kk H locs ls h1 h2 h3 h4)
theorem G_tsw3 (F : GF k l R cc nL own D cB cI cJ) {x : Int32} {dflt o0 o1 o2 : Int} {len : Nat} (t0 t1 t2 td : Nat) (d : decode cc pc = .ok (.tableswitch dflt 0 2 #[o0, o1, o2], len)) (h0 : (pc : Int) + o0 = (t0 : Int)) (h1 : (pc : Int) + o1 = (t1 : Int)) (h2 : (pc : Int) + o2 = (t2 : Int)) (hd : (pc : Int) + dflt = (td : Int)) (k0 : x = 0 → G D nL k cells slots t0 L st ws) (k1 : ¬ x = 0 → x = 1 → G D nL k cells slots t1 L st ws) (k2 : ¬ x = 0 → ¬ x = 1 → x = 2 → G D nL k cells slots t2 L st ws) (kd : ¬ x = 0 → ¬ x = 1 → ¬ x = 2 → G D nL k cells slots td L st ws) : G D nL k cells slots pc L (.int x :: st) ws := by
  obtain ⟨p, l0, e, R0, s, m, args, below, meth, c, Q, A⟩ := k
  intro H locs ls g1 g2 g3 g4
  by_cases e0 : x = 0
  · refine lv_tableIn F.1.1 F.1.2.1 d (off := o0) (tgt := t0) ?_ ?_ ?_ h0 (k0  e0 H locs ls g1 g2 g3 g4)
    · rw [e0]; decide
    · rw [e0]; decide
    · rw [e0]; rfl
  by_cases e1 : x = 1
  · refine lv_tableIn F.1.1 F.1.2.1 d (off := o1) (tgt := t1) ?_ ?_ ?_ h1 (k1 e0 e1 H locs ls g1 g2 g3 g4)
    · rw [e1]; decide
    · rw [e1]; decide
    · rw [e1]; rfl
  by_cases e2 : x = 2
  · refine lv_tableIn F.1.1 F.1.2.1 d (off := o2) (tgt := t2) ?_ ?_ ?_ h2 (k2 e0 e1 e2 H locs ls g1 g2 g3 g4)
    · rw [e2]; decide
    · rw [e2]; decide
    · rw [e2]; rfl
  refine lv_tableOut F.1.1 F.1.2.1 d (tgt := td) ?_ hd (kd e0 e1 e2 H locs ls g1 g2 g3 g4)
  have f0 := lv_neT e0 (a := 0) (by decide)
  have f1 := lv_neT e1 (a := 1) (by decide)
  have f2 := lv_neT e2 (a := 2) (by decide)
  omega
theorem G_tsw9 (F : GF k l R cc nL own D cB cI cJ) {x : Int32} {dflt o0 o1 o2 o3 o4 o5 o6 o7 o8 : Int} {len : Nat} (t0 t1 t2 t3 t4 t5 t6 t7 t8 td : Nat) (d : decode cc pc = .ok (.tableswitch dflt 0 8 #[o0, o1, o2, o3, o4, o5, o6, o7, o8], len)) (h0 : (pc : Int) + o0 = (t0 : Int)) (h1 : (pc : Int) + o1 = (t1 : Int)) (h2 : (pc : Int) + o2 = (t2 : Int)) (h3 : (pc : Int) + o3 = (t3 : Int)) (h4 : (pc : Int) + o4 = (t4 : Int)) (h5 : (pc : Int) + o5 = (t5 : Int)) (h6 : (pc : Int) + o6 = (t6 : Int)) (h7 : (pc : Int) + o7 = (t7 : Int)) (h8 : (pc : Int) + o8 = (t8 : Int)) (hd : (pc : Int) + dflt = (td : Int)) (k0 : x = 0 → G D nL k cells slots t0 L st ws) (k1 : ¬ x = 0 → x = 1 → G D nL k cells slots t1 L st ws) (k2 : ¬ x = 0 → ¬ x = 1 → x = 2 → G D nL k cells slots t2 L st ws) (k3 : ¬ x = 0 → ¬ x = 1 → ¬ x = 2 → x = 3 → G D nL k cells slots t3 L st ws) (k4 : ¬ x = 0 → ¬ x = 1 → ¬ x = 2 → ¬ x = 3 → x = 4 → G D nL k cells slots t4 L st ws) (k5 : ¬ x = 0 → ¬ x = 1 → ¬ x = 2 → ¬ x = 3 → ¬ x = 4 → x = 5 → G D nL k cells slots t5 L st ws) (k6 : ¬ x = 0 → ¬ x = 1 → ¬ x = 2 → ¬ x = 3 → ¬ x = 4 → ¬ x = 5 → x = 6 → G D nL k cells slots t6 L st ws) (k7 : ¬ x = 0 → ¬ x = 1 → ¬ x = 2 → ¬ x = 3 → ¬ x = 4 → ¬ x = 5 → ¬ x = 6 → x = 7 → G D nL k cells slots t7 L st ws) (k8 : ¬ x = 0 → ¬ x = 1 → ¬ x = 2 → ¬ x = 3 → ¬ x = 4 → ¬ x = 5 → ¬ x = 6 → ¬ x = 7 → x = 8 → G D nL k cells slots t8 L st ws) (kd : ¬ x = 0 → ¬ x = 1 → ¬ x = 2 → ¬ x = 3 → ¬ x = 4 → ¬ x = 5 → ¬ x = 6 → ¬ x = 7 → ¬ x = 8 → G D nL k cells slots td L st ws) : G D nL k cells slots pc L (.int x :: st) ws := by
  obtain ⟨p, l0, e, R0, s, m, args, below, meth, c, Q, A⟩ := k
  intro H locs ls g1 g2 g3 g4
  by_cases e0 : x = 0
  · refine lv_tableIn F.1.1 F.1.2.1 d (off := o0) (tgt := t0) ?_ ?_ ?_ h0 (k0  e0 H locs ls g1 g2 g3 g4)
    · rw [e0]; decide
    · rw [e0]; decide
    · rw [e0]; rfl
  by_cases e1 : x = 1
  · refine lv_tableIn F.1.1 F.1.2.1 d (off := o1) (tgt := t1) ?_ ?_ ?_ h1 (k1 e0 e1 H locs ls g1 g2 g3 g4)
    · rw [e1]; decide
    · rw [e1]; decide
    · rw [e1]; rfl
  by_cases e2 : x = 2
  · refine lv_tableIn F.1.1 F.1.2.1 d (off := o2) (tgt := t2) ?_ ?_ ?_ h2 (k2 e0 e1 e2 H locs ls g1 g2 g3 g4)
    · rw [e2]; decide
    · rw [e2]; decide
    · rw [e2]; rfl
  by_cases e3 : x = 3
  · refine lv_tableIn F.1.1 F.1.2.1 d (off := o3) (tgt := t3) ?_ ?_ ?_ h3 (k3 e0 e1 e2 e3 H locs ls g1 g2 g3 g4)
    · rw [e3]; decide
    · rw [e3]; decide
    · rw [e3]; rfl
  by_cases e4 : x = 4
  · refine lv_tableIn F.1.1 F.1.2.1 d (off := o4) (tgt := t4) ?_ ?_ ?_ h4 (k4 e0 e1 e2 e3 e4 H locs ls g1 g2 g3 g4)
    · rw [e4]; decide
    · rw [e4]; decide
    · rw [e4]; rfl
  by_cases e5 : x = 5
  · refine lv_tableIn F.1.1 F.1.2.1 d (off := o5) (tgt := t5) ?_ ?_ ?_ h5 (k5 e0 e1 e2 e3 e4 e5 H locs ls g1 g2 g3 g4)
    · rw [e5]; decide
    · rw [e5]; decide
    · rw [e5]; rfl
  by_cases e6 : x = 6
  · refine lv_tableIn F.1.1 F.1.2.1 d (off := o6) (tgt := t6) ?_ ?_ ?_ h6 (k6 e0 e1 e2 e3 e4 e5 e6 H locs ls g1 g2 g3 g4)
    · rw [e6]; decide
    · rw [e6]; decide
    · rw [e6]; rfl
  by_cases e7 : x = 7
  · refine lv_tableIn F.1.1 F.1.2.1 d (off := o7) (tgt := t7) ?_ ?_ ?_ h7 (k7 e0 e1 e2 e3 e4 e5 e6 e7 H locs ls g1 g2 g3 g4)
    · rw [e7]; decide
    · rw [e7]; decide
    · rw [e7]; rfl
  by_cases e8 : x = 8
  · refine lv_tableIn F.1.1 F.1.2.1 d (off := o8) (tgt := t8) ?_ ?_ ?_ h8 (k8 e0 e1 e2 e3 e4 e5 e6 e7 e8 H locs ls g1 g2 g3 g4)
    · rw [e8]; decide
    · rw [e8]; decide
    · rw [e8]; rfl
  refine lv_tableOut F.1.1 F.1.2.1 d (tgt := td) ?_ hd (kd e0 e1 e2 e3 e4 e5 e6 e7 e8 H locs ls g1 g2 g3 g4)
  have f0 := lv_neT e0 (a := 0) (by decide)
  have f1 := lv_neT e1 (a := 1) (by decide)
  have f2 := lv_neT e2 (a := 2) (by decide)
  have f3 := lv_neT e3 (a := 3) (by decide)
  have f4 := lv_neT e4 (a := 4) (by decide)
  have f5 := lv_neT e5 (a := 5) (by decide)
  have f6 := lv_neT e6 (a := 6) (by decide)
  have f7 := lv_neT e7 (a := 7) (by decide)
  have f8 := lv_neT e8 (a := 8) (by decide)
  omega
end GR2
end
section
theorem zd_ER_readAll_0 : decode zc_ER_readAll 0 = .ok (.aload_n 0, 1) := by decide +kernel
theorem zd_ER_readAll_1 : decode zc_ER_readAll 1 = .ok (.aload_n 0, 1) := by decide +kernel
theorem zd_ER_readAll_2 : decode zc_ER_readAll 2 = .ok (.invokevirtual 9, 3) := by decide +kernel
theorem zd_ER_readAll_5 : decode zc_ER_readAll 5 = .ok (.putfield 15, 3) := by decide +kernel
theorem zd_ER_readAll_8 : decode zc_ER_readAll 8 = .ok (.iconst 0, 1) := by decide +kernel
theorem zd_ER_readAll_9 : decode zc_ER_readAll 9 = .ok (.istore_n 1, 1) := by decide +kernel
theorem zd_ER_readAll_10 : decode zc_ER_readAll 10 = .ok (.iload_n 1, 1) := by decide +kernel
theorem zd_ER_readAll_11 : decode zc_ER_readAll 11 = .ok (.aload_n 0, 1) := by decide +kernel
theorem zd_ER_readAll_12 : decode zc_ER_readAll 12 = .ok (.getfield 19, 3) := by decide +kernel
theorem zd_ER_readAll_15 : decode zc_ER_readAll 15 = .ok (.getfield 23, 3) := by decide +kernel
theorem zd_ER_readAll_18 : decode zc_ER_readAll 18 = .ok (.if_icmp .ge 27, 3) := by decide +kernel
theorem zd_ER_readAll_21 : decode zc_ER_readAll 21 = .ok (.aload_n 0, 1) := by decide +kernel
theorem zd_ER_readAll_22 : decode zc_ER_readAll 22 = .ok (.invokevirtual 28, 3) := by decide +kernel
theorem zd_ER_readAll_25 : decode zc_ER_readAll 25 = .ok (.ifCond .ne 20, 3) := by decide +kernel
theorem zd_ER_readAll_28 : decode zc_ER_readAll 28 = .ok (.aload_n 0, 1) := by decide +kernel
theorem zd_ER_readAll_29 : decode zc_ER_readAll 29 = .ok (.invokevirtual 32, 3) := by decide +kernel
theorem zd_ER_readAll_32 : decode zc_ER_readAll 32 = .ok (.ifCond .ne 13, 3) := by decide +kernel
theorem zd_ER_readAll_35 : decode zc_ER_readAll 35 = .ok (.aload_n 0, 1) := by decide +kernel
theorem zd_ER_readAll_36 : decode zc_ER_readAll 36 = .ok (.invokevirtual 35, 3) := by decide +kernel
theorem zd_ER_readAll_39 : decode zc_ER_readAll 39 = .ok (.iinc 1 1, 3) := by decide +kernel
theorem zd_ER_readAll_42 : decode zc_ER_readAll 42 = .ok (.goto (-32), 3) := by decide +kernel
theorem zd_ER_readAll_45 : decode zc_ER_readAll 45 = .ok (.aload_n 0, 1) := by decide +kernel
theorem zd_ER_readAll_46 : decode zc_ER_readAll 46 = .ok (.aload_n 0, 1) := by decide +kernel
theorem zd_ER_readAll_47 : decode zc_ER_readAll 47 = .ok (.getfield 39, 3) := by decide +kernel
theorem zd_ER_readAll_50 : decode zc_ER_readAll 50 = .ok (.getfield 23, 3) := by decide +kernel
theorem zd_ER_readAll_53 : decode zc_ER_readAll 53 = .ok (.aload_n 0, 1) := by decide +kernel
theorem zd_ER_readAll_54 : decode zc_ER_readAll 54 = .ok (.getfield 15, 3) := by decide +kernel
theorem zd_ER_readAll_57 : decode zc_ER_readAll 57 = .ok (.if_icmp .ge 7, 3) := by decide +kernel
theorem zd_ER_readAll_60 : decode zc_ER_readAll 60 = .ok (.iconst 1, 1) := by decide +kernel
theorem zd_ER_readAll_61 : decode zc_ER_readAll 61 = .ok (.goto 4, 3) := by decide +kernel
theorem zd_ER_readAll_64 : decode zc_ER_readAll 64 = .ok (.iconst 0, 1) := by decide +kernel
theorem zd_ER_readAll_65 : decode zc_ER_readAll 65 = .ok (.aload_n 0, 1) := by decide +kernel
theorem zd_ER_readAll_66 : decode zc_ER_readAll 66 = .ok (.getfield 19, 3) := by decide +kernel
theorem zd_ER_readAll_69 : decode zc_ER_readAll 69 = .ok (.getfield 23, 3) := by decide +kernel
theorem zd_ER_readAll_72 : decode zc_ER_readAll 72 = .ok (.invokevirtual 42, 3) := by decide +kernel
theorem zd_ER_readAll_75 : decode zc_ER_readAll 75 = .ok (.return_, 1) := by decide +kernel
theorem zd_ER_takeSize_0 : decode zc_ER_takeSize 0 = .ok (.aload_n 0, 1) := by decide +kernel
theorem zd_ER_takeSize_1 : decode zc_ER_takeSize 1 = .ok (.invokevirtual 46, 3) := by decide +kernel
theorem zd_ER_takeSize_4 : decode zc_ER_takeSize 4 = .ok (.istore_n 1, 1) := by decide +kernel
theorem zd_ER_takeSize_5 : decode zc_ER_takeSize 5 = .ok (.iload_n 1, 1) := by decide +kernel
theorem zd_ER_takeSize_6 : decode zc_ER_takeSize 6 = .ok (.bipush 127, 2) := by decide +kernel
theorem zd_ER_takeSize_8 : decode zc_ER_takeSize 8 = .ok (.if_icmp .gt 5, 3) := by decide +kernel
theorem zd_ER_takeSize_11 : decode zc_ER_takeSize 11 = .ok (.iload_n 1, 1) := by decide +kernel
theorem zd_ER_takeSize_12 : decode zc_ER_takeSize 12 = .ok (.ireturn, 1) := by decide +kernel
theorem zd_ER_takeSize_13 : decode zc_ER_takeSize 13 = .ok (.aload_n 0, 1) := by decide +kernel
theorem zd_ER_takeSize_14 : decode zc_ER_takeSize 14 = .ok (.invokevirtual 46, 3) := by decide +kernel
theorem zd_ER_takeSize_17 : decode zc_ER_takeSize 17 = .ok (.istore_n 2, 1) := by decide +kernel
theorem zd_ER_takeSize_18 : decode zc_ER_takeSize 18 = .ok (.aload_n 0, 1) := by decide +kernel
theorem zd_ER_takeSize_19 : decode zc_ER_takeSize 19 = .ok (.iload_n 2, 1) := by decide +kernel
theorem zd_ER_takeSize_20 : decode zc_ER_takeSize 20 = .ok (.bipush 127, 2) := by decide +kernel
theorem zd_ER_takeSize_22 : decode zc_ER_takeSize 22 = .ok (.if_icmp .le 7, 3) := by decide +kernel
theorem zd_ER_takeSize_25 : decode zc_ER_takeSize 25 = .ok (.iconst 1, 1) := by decide +kernel
theorem zd_ER_takeSize_26 : decode zc_ER_takeSize 26 = .ok (.goto 4, 3) := by decide +kernel
theorem zd_ER_takeSize_29 : decode zc_ER_takeSize 29 = .ok (.iconst 0, 1) := by decide +kernel
theorem zd_ER_takeSize_30 : decode zc_ER_takeSize 30 = .ok (.aload_n 0, 1) := by decide +kernel
theorem zd_ER_takeSize_31 : decode zc_ER_takeSize 31 = .ok (.getfield 49, 3) := by decide +kernel
theorem zd_ER_takeSize_34 : decode zc_ER_takeSize 34 = .ok (.iconst 1, 1) := by decide +kernel
theorem zd_ER_takeSize_35 : decode zc_ER_takeSize 35 = .ok (.isub, 1) := by decide +kernel
theorem zd_ER_takeSize_36 : decode zc_ER_takeSize 36 = .ok (.invokevirtual 42, 3) := by decide +kernel
theorem zd_ER_takeSize_39 : decode zc_ER_takeSize 39 = .ok (.iload_n 1, 1) := by decide +kernel
theorem zd_ER_takeSize_40 : decode zc_ER_takeSize 40 = .ok (.bipush 127, 2) := by decide +kernel
theorem zd_ER_takeSize_42 : decode zc_ER_takeSize 42 = .ok (.iand, 1) := by decide +kernel
theorem zd_ER_takeSize_43 : decode zc_ER_takeSize 43 = .ok (.iload_n 2, 1) := by decide +kernel
theorem zd_ER_takeSize_44 : decode zc_ER_takeSize 44 = .ok (.bipush 7, 2) := by decide +kernel
theorem zd_ER_takeSize_46 : decode zc_ER_takeSize 46 = .ok (.ishl, 1) := by decide +kernel
theorem zd_ER_takeSize_47 : decode zc_ER_takeSize 47 = .ok (.ior, 1) := by decide +kernel
theorem zd_ER_takeSize_48 : decode zc_ER_takeSize 48 = .ok (.istore_n 3, 1) := by decide +kernel
theorem zd_ER_takeSize_49 : decode zc_ER_takeSize 49 = .ok (.aload_n 0, 1) := by decide +kernel
theorem zd_ER_takeSize_50 : decode zc_ER_takeSize 50 = .ok (.iload_n 3, 1) := by decide +kernel
theorem zd_ER_takeSize_51 : decode zc_ER_takeSize 51 = .ok (.sipush 160, 3) := by decide +kernel
theorem zd_ER_takeSize_54 : decode zc_ER_takeSize 54 = .ok (.if_icmp .le 7, 3) := by decide +kernel
theorem zd_ER_takeSize_57 : decode zc_ER_takeSize 57 = .ok (.iconst 1, 1) := by decide +kernel
theorem zd_ER_takeSize_58 : decode zc_ER_takeSize 58 = .ok (.goto 4, 3) := by decide +kernel
theorem zd_ER_takeSize_61 : decode zc_ER_takeSize 61 = .ok (.iconst 0, 1) := by decide +kernel
theorem zd_ER_takeSize_62 : decode zc_ER_takeSize 62 = .ok (.aload_n 0, 1) := by decide +kernel
theorem zd_ER_takeSize_63 : decode zc_ER_takeSize 63 = .ok (.getfield 49, 3) := by decide +kernel
theorem zd_ER_takeSize_66 : decode zc_ER_takeSize 66 = .ok (.iconst 1, 1) := by decide +kernel
theorem zd_ER_takeSize_67 : decode zc_ER_takeSize 67 = .ok (.isub, 1) := by decide +kernel
theorem zd_ER_takeSize_68 : decode zc_ER_takeSize 68 = .ok (.invokevirtual 42, 3) := by decide +kernel
theorem zd_ER_takeSize_71 : decode zc_ER_takeSize 71 = .ok (.iload_n 3, 1) := by decide +kernel
theorem zd_ER_takeSize_72 : decode zc_ER_takeSize 72 = .ok (.ireturn, 1) := by decide +kernel
theorem zd_ER_readElement_0 : decode zc_ER_readElement 0 = .ok (.aload_n 0, 1) := by decide +kernel
theorem zd_ER_readElement_1 : decode zc_ER_readElement 1 = .ok (.getfield 49, 3) := by decide +kernel
theorem zd_ER_readElement_4 : decode zc_ER_readElement 4 = .ok (.istore_n 1, 1) := by decide +kernel
theorem zd_ER_readElement_5 : decode zc_ER_readElement 5 = .ok (.aload_n 0, 1) := by decide +kernel
theorem zd_ER_readElement_6 : decode zc_ER_readElement 6 = .ok (.invokevirtual 46, 3) := by decide +kernel
theorem zd_ER_readElement_9 : decode zc_ER_readElement 9 = .ok (.istore_n 2, 1) := by decide +kernel
theorem zd_ER_readElement_10 : decode zc_ER_readElement 10 = .ok (.iload_n 2, 1) := by decide +kernel
theorem zd_ER_readElement_11 : decode zc_ER_readElement 11 = .ok (.iconst 3, 1) := by decide +kernel
theorem zd_ER_readElement_12 : decode zc_ER_readElement 12 = .ok (.iand, 1) := by decide +kernel
theorem zd_ER_readElement_13 : decode zc_ER_readElement 13 = .ok (.tableswitch 56 0 2 #[27, 38, 47], 27) := by decide +kernel
theorem zd_ER_readElement_40 : decode zc_ER_readElement 40 = .ok (.aload_n 0, 1) := by decide +kernel
theorem zd_ER_readElement_41 : decode zc_ER_readElement 41 = .ok (.iload_n 2, 1) := by decide +kernel
theorem zd_ER_readElement_42 : decode zc_ER_readElement 42 = .ok (.iconst 2, 1) := by decide +kernel
theorem zd_ER_readElement_43 : decode zc_ER_readElement 43 = .ok (.ishr, 1) := by decide +kernel
theorem zd_ER_readElement_44 : decode zc_ER_readElement 44 = .ok (.iload_n 1, 1) := by decide +kernel
theorem zd_ER_readElement_45 : decode zc_ER_readElement 45 = .ok (.invokevirtual 52, 3) := by decide +kernel
theorem zd_ER_readElement_48 : decode zc_ER_readElement 48 = .ok (.goto 27, 3) := by decide +kernel
theorem zd_ER_readElement_51 : decode zc_ER_readElement 51 = .ok (.aload_n 0, 1) := by decide +kernel
theorem zd_ER_readElement_52 : decode zc_ER_readElement 52 = .ok (.iload_n 2, 1) := by decide +kernel
theorem zd_ER_readElement_53 : decode zc_ER_readElement 53 = .ok (.iload_n 1, 1) := by decide +kernel
theorem zd_ER_readElement_54 : decode zc_ER_readElement 54 = .ok (.invokevirtual 56, 3) := by decide +kernel
theorem zd_ER_readElement_57 : decode zc_ER_readElement 57 = .ok (.goto 18, 3) := by decide +kernel
theorem zd_ER_readElement_60 : decode zc_ER_readElement 60 = .ok (.aload_n 0, 1) := by decide +kernel
theorem zd_ER_readElement_61 : decode zc_ER_readElement 61 = .ok (.iload_n 2, 1) := by decide +kernel
theorem zd_ER_readElement_62 : decode zc_ER_readElement 62 = .ok (.iload_n 1, 1) := by decide +kernel
theorem zd_ER_readElement_63 : decode zc_ER_readElement 63 = .ok (.invokevirtual 59, 3) := by decide +kernel
theorem zd_ER_readElement_66 : decode zc_ER_readElement 66 = .ok (.goto 9, 3) := by decide +kernel
theorem zd_ER_readElement_69 : decode zc_ER_readElement 69 = .ok (.aload_n 0, 1) := by decide +kernel
theorem zd_ER_readElement_70 : decode zc_ER_readElement 70 = .ok (.iconst 1, 1) := by decide +kernel
theorem zd_ER_readElement_71 : decode zc_ER_readElement 71 = .ok (.iload_n 1, 1) := by decide +kernel
theorem zd_ER_readElement_72 : decode zc_ER_readElement 72 = .ok (.invokevirtual 42, 3) := by decide +kernel
theorem zd_ER_readElement_75 : decode zc_ER_readElement 75 = .ok (.return_, 1) := by decide +kernel
theorem zd_ER_readLiterals_0 : decode zc_ER_readLiterals 0 = .ok (.aload_n 0, 1) := by decide +kernel
theorem zd_ER_readLiterals_1 : decode zc_ER_readLiterals 1 = .ok (.iload_n 1, 1) := by decide +kernel
theorem zd_ER_readLiterals_2 : decode zc_ER_readLiterals 2 = .ok (.bipush 60, 2) := by decide +kernel
theorem zd_ER_readLiterals_4 : decode zc_ER_readLiterals 4 = .ok (.if_icmp .le 7, 3) := by decide +kernel
theorem zd_ER_readLiterals_7 : decode zc_ER_readLiterals 7 = .ok (.iconst 1, 1) := by decide +kernel
theorem zd_ER_readLiterals_8 : decode zc_ER_readLiterals 8 = .ok (.goto 4, 3) := by decide +kernel
theorem zd_ER_readLiterals_11 : decode zc_ER_readLiterals 11 = .ok (.iconst 0, 1) := by decide +kernel
theorem zd_ER_readLiterals_12 : decode zc_ER_readLiterals 12 = .ok (.iload_n 2, 1) := by decide +kernel
theorem zd_ER_readLiterals_13 : decode zc_ER_readLiterals 13 = .ok (.invokevirtual 42, 3) := by decide +kernel
theorem zd_ER_readLiterals_16 : decode zc_ER_readLiterals 16 = .ok (.iload_n 1, 1) := by decide +kernel
theorem zd_ER_readLiterals_17 : decode zc_ER_readLiterals 17 = .ok (.bipush 60, 2) := by decide +kernel
theorem zd_ER_readLiterals_19 : decode zc_ER_readLiterals 19 = .ok (.if_icmp .ne 10, 3) := by decide +kernel
theorem zd_ER_readLiterals_22 : decode zc_ER_readLiterals 22 = .ok (.aload_n 0, 1) := by decide +kernel
theorem zd_ER_readLiterals_23 : decode zc_ER_readLiterals 23 = .ok (.invokevirtual 46, 3) := by decide +kernel
theorem zd_ER_readLiterals_26 : decode zc_ER_readLiterals 26 = .ok (.goto 4, 3) := by decide +kernel
theorem zd_ER_readLiterals_29 : decode zc_ER_readLiterals 29 = .ok (.iload_n 1, 1) := by decide +kernel
theorem zd_ER_readLiterals_30 : decode zc_ER_readLiterals 30 = .ok (.istore_n 3, 1) := by decide +kernel
theorem zd_ER_readLiterals_31 : decode zc_ER_readLiterals 31 = .ok (.aload_n 0, 1) := by decide +kernel
theorem zd_ER_readLiterals_32 : decode zc_ER_readLiterals 32 = .ok (.iload_n 3, 1) := by decide +kernel
theorem zd_ER_readLiterals_33 : decode zc_ER_readLiterals 33 = .ok (.iconst 1, 1) := by decide +kernel
theorem zd_ER_readLiterals_34 : decode zc_ER_readLiterals 34 = .ok (.iadd, 1) := by decide +kernel
theorem zd_ER_readLiterals_35 : decode zc_ER_readLiterals 35 = .ok (.aload_n 0, 1) := by decide +kernel
theorem zd_ER_readLiterals_36 : decode zc_ER_readLiterals 36 = .ok (.getfield 15, 3) := by decide +kernel
theorem zd_ER_readLiterals_39 : decode zc_ER_readLiterals 39 = .ok (.iload_n 2, 1) := by decide +kernel
theorem zd_ER_readLiterals_40 : decode zc_ER_readLiterals 40 = .ok (.invokevirtual 62, 3) := by decide +kernel
theorem zd_ER_readLiterals_43 : decode zc_ER_readLiterals 43 = .ok (.aload_n 0, 1) := by decide +kernel
theorem zd_ER_readLiterals_44 : decode zc_ER_readLiterals 44 = .ok (.iload_n 3, 1) := by decide +kernel
theorem zd_ER_readLiterals_45 : decode zc_ER_readLiterals 45 = .ok (.iconst 1, 1) := by decide +kernel
theorem zd_ER_readLiterals_46 : decode zc_ER_readLiterals 46 = .ok (.iadd, 1) := by decide +kernel
theorem zd_ER_readLiterals_47 : decode zc_ER_readLiterals 47 = .ok (.invokevirtual 66, 3) := by decide +kernel
theorem zd_ER_readLiterals_50 : decode zc_ER_readLiterals 50 = .ok (.return_, 1) := by decide +kernel
theorem zd_ER_readShortCopy_0 : decode zc_ER_readShortCopy 0 = .ok (.iload_n 1, 1) := by decide +kernel
theorem zd_ER_readShortCopy_1 : decode zc_ER_readShortCopy 1 = .ok (.iconst 5, 1) := by decide +kernel
theorem zd_ER_readShortCopy_2 : decode zc_ER_readShortCopy 2 = .ok (.ishr, 1) := by decide +kernel
theorem zd_ER_readShortCopy_3 : decode zc_ER_readShortCopy 3 = .ok (.sipush 256, 3) := by decide +kernel
theorem zd_ER_readShortCopy_6 : decode zc_ER_readShortCopy 6 = .ok (.imul, 1) := by decide +kernel
theorem zd_ER_readShortCopy_7 : decode zc_ER_readShortCopy 7 = .ok (.aload_n 0, 1) := by decide +kernel
theorem zd_ER_readShortCopy_8 : decode zc_ER_readShortCopy 8 = .ok (.invokevirtual 46, 3) := by decide +kernel
theorem zd_ER_readShortCopy_11 : decode zc_ER_readShortCopy 11 = .ok (.iadd, 1) := by decide +kernel
theorem zd_ER_readShortCopy_12 : decode zc_ER_readShortCopy 12 = .ok (.istore_n 3, 1) := by decide +kernel
theorem zd_ER_readShortCopy_13 : decode zc_ER_readShortCopy 13 = .ok (.aload_n 0, 1) := by decide +kernel
theorem zd_ER_readShortCopy_14 : decode zc_ER_readShortCopy 14 = .ok (.iload_n 3, 1) := by decide +kernel
theorem zd_ER_readShortCopy_15 : decode zc_ER_readShortCopy 15 = .ok (.iload_n 2, 1) := by decide +kernel
theorem zd_ER_readShortCopy_16 : decode zc_ER_readShortCopy 16 = .ok (.invokevirtual 70, 3) := by decide +kernel
theorem zd_ER_readShortCopy_19 : decode zc_ER_readShortCopy 19 = .ok (.iload_n 1, 1) := by decide +kernel
theorem zd_ER_readShortCopy_20 : decode zc_ER_readShortCopy 20 = .ok (.iconst 2, 1) := by decide +kernel
theorem zd_ER_readShortCopy_21 : decode zc_ER_readShortCopy 21 = .ok (.ishr, 1) := by decide +kernel
theorem zd_ER_readShortCopy_22 : decode zc_ER_readShortCopy 22 = .ok (.bipush 7, 2) := by decide +kernel
theorem zd_ER_readShortCopy_24 : decode zc_ER_readShortCopy 24 = .ok (.iand, 1) := by decide +kernel
theorem zd_ER_readShortCopy_25 : decode zc_ER_readShortCopy 25 = .ok (.iconst 4, 1) := by decide +kernel
theorem zd_ER_readShortCopy_26 : decode zc_ER_readShortCopy 26 = .ok (.iadd, 1) := by decide +kernel
theorem zd_ER_readShortCopy_27 : decode zc_ER_readShortCopy 27 = .ok (.istore 4, 2) := by decide +kernel
theorem zd_ER_readShortCopy_29 : decode zc_ER_readShortCopy 29 = .ok (.aload_n 0, 1) := by decide +kernel
theorem zd_ER_readShortCopy_30 : decode zc_ER_readShortCopy 30 = .ok (.iload 4, 2) := by decide +kernel
theorem zd_ER_readShortCopy_32 : decode zc_ER_readShortCopy 32 = .ok (.aload_n 0, 1) := by decide +kernel
theorem zd_ER_readShortCopy_33 : decode zc_ER_readShortCopy 33 = .ok (.getfield 15, 3) := by decide +kernel
theorem zd_ER_readShortCopy_36 : decode zc_ER_readShortCopy 36 = .ok (.iload_n 2, 1) := by decide +kernel
theorem zd_ER_readShortCopy_37 : decode zc_ER_readShortCopy 37 = .ok (.invokevirtual 62, 3) := by decide +kernel
theorem zd_ER_readShortCopy_40 : decode zc_ER_readShortCopy 40 = .ok (.aload_n 0, 1) := by decide +kernel
theorem zd_ER_readShortCopy_41 : decode zc_ER_readShortCopy 41 = .ok (.iload_n 3, 1) := by decide +kernel
theorem zd_ER_readShortCopy_42 : decode zc_ER_readShortCopy 42 = .ok (.iload 4, 2) := by decide +kernel
theorem zd_ER_readShortCopy_44 : decode zc_ER_readShortCopy 44 = .ok (.invokevirtual 73, 3) := by decide +kernel
theorem zd_ER_readShortCopy_47 : decode zc_ER_readShortCopy 47 = .ok (.return_, 1) := by decide +kernel
theorem zd_ER_readLongCopy_0 : decode zc_ER_readLongCopy 0 = .ok (.aload_n 0, 1) := by decide +kernel
theorem zd_ER_readLongCopy_1 : decode zc_ER_readLongCopy 1 = .ok (.invokevirtual 76, 3) := by decide +kernel
theorem zd_ER_readLongCopy_4 : decode zc_ER_readLongCopy 4 = .ok (.istore_n 3, 1) := by decide +kernel
theorem zd_ER_readLongCopy_5 : decode zc_ER_readLongCopy 5 = .ok (.aload_n 0, 1) := by decide +kernel
theorem zd_ER_readLongCopy_6 : decode zc_ER_readLongCopy 6 = .ok (.iload_n 3, 1) := by decide +kernel
theorem zd_ER_readLongCopy_7 : decode zc_ER_readLongCopy 7 = .ok (.iload_n 2, 1) := by decide +kernel
theorem zd_ER_readLongCopy_8 : decode zc_ER_readLongCopy 8 = .ok (.iconst 1, 1) := by decide +kernel
theorem zd_ER_readLongCopy_9 : decode zc_ER_readLongCopy 9 = .ok (.iadd, 1) := by decide +kernel
theorem zd_ER_readLongCopy_10 : decode zc_ER_readLongCopy 10 = .ok (.invokevirtual 70, 3) := by decide +kernel
theorem zd_ER_readLongCopy_13 : decode zc_ER_readLongCopy 13 = .ok (.iload_n 1, 1) := by decide +kernel
theorem zd_ER_readLongCopy_14 : decode zc_ER_readLongCopy 14 = .ok (.iconst 2, 1) := by decide +kernel
theorem zd_ER_readLongCopy_15 : decode zc_ER_readLongCopy 15 = .ok (.ishr, 1) := by decide +kernel
theorem zd_ER_readLongCopy_16 : decode zc_ER_readLongCopy 16 = .ok (.iconst 1, 1) := by decide +kernel
theorem zd_ER_readLongCopy_17 : decode zc_ER_readLongCopy 17 = .ok (.iadd, 1) := by decide +kernel
theorem zd_ER_readLongCopy_18 : decode zc_ER_readLongCopy 18 = .ok (.istore 4, 2) := by decide +kernel
theorem zd_ER_readLongCopy_20 : decode zc_ER_readLongCopy 20 = .ok (.aload_n 0, 1) := by decide +kernel
theorem zd_ER_readLongCopy_21 : decode zc_ER_readLongCopy 21 = .ok (.iload 4, 2) := by decide +kernel
theorem zd_ER_readLongCopy_23 : decode zc_ER_readLongCopy 23 = .ok (.aload_n 0, 1) := by decide +kernel
theorem zd_ER_readLongCopy_24 : decode zc_ER_readLongCopy 24 = .ok (.getfield 15, 3) := by decide +kernel
theorem zd_ER_readLongCopy_27 : decode zc_ER_readLongCopy 27 = .ok (.iload_n 2, 1) := by decide +kernel
theorem zd_ER_readLongCopy_28 : decode zc_ER_readLongCopy 28 = .ok (.invokevirtual 62, 3) := by decide +kernel
theorem zd_ER_readLongCopy_31 : decode zc_ER_readLongCopy 31 = .ok (.aload_n 0, 1) := by decide +kernel
theorem zd_ER_readLongCopy_32 : decode zc_ER_readLongCopy 32 = .ok (.iload_n 3, 1) := by decide +kernel
theorem zd_ER_readLongCopy_33 : decode zc_ER_readLongCopy 33 = .ok (.iload 4, 2) := by decide +kernel
theorem zd_ER_readLongCopy_35 : decode zc_ER_readLongCopy 35 = .ok (.invokevirtual 73, 3) := by decide +kernel
theorem zd_ER_readLongCopy_38 : decode zc_ER_readLongCopy 38 = .ok (.return_, 1) := by decide +kernel
theorem zd_EW_begin_0 : decode zc_EW_begin 0 = .ok (.aload_n 0, 1) := by decide +kernel
theorem zd_EW_begin_1 : decode zc_EW_begin 1 = .ok (.getfield 7, 3) := by decide +kernel
theorem zd_EW_begin_4 : decode zc_EW_begin 4 = .ok (.invokevirtual 13, 3) := by decide +kernel
theorem zd_EW_begin_7 : decode zc_EW_begin 7 = .ok (.aload_n 0, 1) := by decide +kernel
theorem zd_EW_begin_8 : decode zc_EW_begin 8 = .ok (.getfield 19, 3) := by decide +kernel
theorem zd_EW_begin_11 : decode zc_EW_begin 11 = .ok (.getfield 22, 3) := by decide +kernel
theorem zd_EW_begin_14 : decode zc_EW_begin 14 = .ok (.istore_n 1, 1) := by decide +kernel
theorem zd_EW_begin_15 : decode zc_EW_begin 15 = .ok (.iload_n 1, 1) := by decide +kernel
theorem zd_EW_begin_16 : decode zc_EW_begin 16 = .ok (.bipush 127, 2) := by decide +kernel
theorem zd_EW_begin_18 : decode zc_EW_begin 18 = .ok (.if_icmp .le 26, 3) := by decide +kernel
theorem zd_EW_begin_21 : decode zc_EW_begin 21 = .ok (.aload_n 0, 1) := by decide +kernel
theorem zd_EW_begin_22 : decode zc_EW_begin 22 = .ok (.getfield 7, 3) := by decide +kernel
theorem zd_EW_begin_25 : decode zc_EW_begin 25 = .ok (.iload_n 1, 1) := by decide +kernel
theorem zd_EW_begin_26 : decode zc_EW_begin 26 = .ok (.bipush 127, 2) := by decide +kernel
theorem zd_EW_begin_28 : decode zc_EW_begin 28 = .ok (.iand, 1) := by decide +kernel
theorem zd_EW_begin_29 : decode zc_EW_begin 29 = .ok (.sipush 128, 3) := by decide +kernel
theorem zd_EW_begin_32 : decode zc_EW_begin 32 = .ok (.ior, 1) := by decide +kernel
theorem zd_EW_begin_33 : decode zc_EW_begin 33 = .ok (.invokevirtual 26, 3) := by decide +kernel
theorem zd_EW_begin_36 : decode zc_EW_begin 36 = .ok (.iload_n 1, 1) := by decide +kernel
theorem zd_EW_begin_37 : decode zc_EW_begin 37 = .ok (.bipush 7, 2) := by decide +kernel
theorem zd_EW_begin_39 : decode zc_EW_begin 39 = .ok (.iushr, 1) := by decide +kernel
theorem zd_EW_begin_40 : decode zc_EW_begin 40 = .ok (.istore_n 1, 1) := by decide +kernel
theorem zd_EW_begin_41 : decode zc_EW_begin 41 = .ok (.goto (-26), 3) := by decide +kernel
theorem zd_EW_begin_44 : decode zc_EW_begin 44 = .ok (.aload_n 0, 1) := by decide +kernel
theorem zd_EW_begin_45 : decode zc_EW_begin 45 = .ok (.getfield 7, 3) := by decide +kernel
theorem zd_EW_begin_48 : decode zc_EW_begin 48 = .ok (.iload_n 1, 1) := by decide +kernel
theorem zd_EW_begin_49 : decode zc_EW_begin 49 = .ok (.invokevirtual 26, 3) := by decide +kernel
theorem zd_EW_begin_52 : decode zc_EW_begin 52 = .ok (.return_, 1) := by decide +kernel
theorem zd_EW_match_0 : decode zc_EW_match 0 = .ok (.aload_n 0, 1) := by decide +kernel
theorem zd_EW_match_1 : decode zc_EW_match 1 = .ok (.iload_n 1, 1) := by decide +kernel
theorem zd_EW_match_2 : decode zc_EW_match 2 = .ok (.iload_n 2, 1) := by decide +kernel
theorem zd_EW_match_3 : decode zc_EW_match 3 = .ok (.invokevirtual 30, 3) := by decide +kernel
theorem zd_EW_match_6 : decode zc_EW_match 6 = .ok (.iload 4, 2) := by decide +kernel
theorem zd_EW_match_8 : decode zc_EW_match 8 = .ok (.istore 5, 2) := by decide +kernel
theorem zd_EW_match_10 : decode zc_EW_match 10 = .ok (.iload 5, 2) := by decide +kernel
theorem zd_EW_match_12 : decode zc_EW_match 12 = .ok (.bipush 68, 2) := by decide +kernel
theorem zd_EW_match_14 : decode zc_EW_match 14 = .ok (.if_icmp .lt 16, 3) := by decide +kernel
theorem zd_EW_match_17 : decode zc_EW_match 17 = .ok (.aload_n 0, 1) := by decide +kernel
theorem zd_EW_match_18 : decode zc_EW_match 18 = .ok (.iload_n 3, 1) := by decide +kernel
theorem zd_EW_match_19 : decode zc_EW_match 19 = .ok (.bipush 64, 2) := by decide +kernel
theorem zd_EW_match_21 : decode zc_EW_match 21 = .ok (.invokevirtual 34, 3) := by decide +kernel
theorem zd_EW_match_24 : decode zc_EW_match 24 = .ok (.iinc 5 (-64), 3) := by decide +kernel
theorem zd_EW_match_27 : decode zc_EW_match 27 = .ok (.goto (-17), 3) := by decide +kernel
theorem zd_EW_match_30 : decode zc_EW_match 30 = .ok (.iload 5, 2) := by decide +kernel
theorem zd_EW_match_32 : decode zc_EW_match 32 = .ok (.bipush 64, 2) := by decide +kernel
theorem zd_EW_match_34 : decode zc_EW_match 34 = .ok (.if_icmp .le 13, 3) := by decide +kernel
theorem zd_EW_match_37 : decode zc_EW_match 37 = .ok (.aload_n 0, 1) := by decide +kernel
theorem zd_EW_match_38 : decode zc_EW_match 38 = .ok (.iload_n 3, 1) := by decide +kernel
theorem zd_EW_match_39 : decode zc_EW_match 39 = .ok (.bipush 60, 2) := by decide +kernel
theorem zd_EW_match_41 : decode zc_EW_match 41 = .ok (.invokevirtual 34, 3) := by decide +kernel
theorem zd_EW_match_44 : decode zc_EW_match 44 = .ok (.iinc 5 (-60), 3) := by decide +kernel
theorem zd_EW_match_47 : decode zc_EW_match 47 = .ok (.aload_n 0, 1) := by decide +kernel
theorem zd_EW_match_48 : decode zc_EW_match 48 = .ok (.iload_n 3, 1) := by decide +kernel
theorem zd_EW_match_49 : decode zc_EW_match 49 = .ok (.iload 5, 2) := by decide +kernel
theorem zd_EW_match_51 : decode zc_EW_match 51 = .ok (.invokevirtual 37, 3) := by decide +kernel
theorem zd_EW_match_54 : decode zc_EW_match 54 = .ok (.return_, 1) := by decide +kernel
theorem zd_EW_end_0 : decode zc_EW_end 0 = .ok (.aload_n 0, 1) := by decide +kernel
theorem zd_EW_end_1 : decode zc_EW_end 1 = .ok (.iload_n 1, 1) := by decide +kernel
theorem zd_EW_end_2 : decode zc_EW_end 2 = .ok (.aload_n 0, 1) := by decide +kernel
theorem zd_EW_end_3 : decode zc_EW_end 3 = .ok (.getfield 19, 3) := by decide +kernel
theorem zd_EW_end_6 : decode zc_EW_end 6 = .ok (.getfield 22, 3) := by decide +kernel
theorem zd_EW_end_9 : decode zc_EW_end 9 = .ok (.invokevirtual 30, 3) := by decide +kernel
theorem zd_EW_end_12 : decode zc_EW_end 12 = .ok (.return_, 1) := by decide +kernel
theorem zd_EW_writeLiterals_0 : decode zc_EW_writeLiterals 0 = .ok (.iload_n 1, 1) := by decide +kernel
theorem zd_EW_writeLiterals_1 : decode zc_EW_writeLiterals 1 = .ok (.iload_n 2, 1) := by decide +kernel
theorem zd_EW_writeLiterals_2 : decode zc_EW_writeLiterals 2 = .ok (.if_icmp .lt 4, 3) := by decide +kernel
theorem zd_EW_writeLiterals_5 : decode zc_EW_writeLiterals 5 = .ok (.return_, 1) := by decide +kernel
theorem zd_EW_writeLiterals_6 : decode zc_EW_writeLiterals 6 = .ok (.iload_n 2, 1) := by decide +kernel
theorem zd_EW_writeLiterals_7 : decode zc_EW_writeLiterals 7 = .ok (.iload_n 1, 1) := by decide +kernel
theorem zd_EW_writeLiterals_8 : decode zc_EW_writeLiterals 8 = .ok (.isub, 1) := by decide +kernel
theorem zd_EW_writeLiterals_9 : decode zc_EW_writeLiterals 9 = .ok (.iconst 1, 1) := by decide +kernel
theorem zd_EW_writeLiterals_10 : decode zc_EW_writeLiterals 10 = .ok (.isub, 1) := by decide +kernel
theorem zd_EW_writeLiterals_11 : decode zc_EW_writeLiterals 11 = .ok (.istore_n 3, 1) := by decide +kernel
theorem zd_EW_writeLiterals_12 : decode zc_EW_writeLiterals 12 = .ok (.iload_n 3, 1) := by decide +kernel
theorem zd_EW_writeLiterals_13 : decode zc_EW_writeLiterals 13 = .ok (.bipush 60, 2) := by decide +kernel
theorem zd_EW_writeLiterals_15 : decode zc_EW_writeLiterals 15 = .ok (.if_icmp .ge 16, 3) := by decide +kernel
theorem zd_EW_writeLiterals_18 : decode zc_EW_writeLiterals 18 = .ok (.aload_n 0, 1) := by decide +kernel
theorem zd_EW_writeLiterals_19 : decode zc_EW_writeLiterals 19 = .ok (.getfield 7, 3) := by decide +kernel
theorem zd_EW_writeLiterals_22 : decode zc_EW_writeLiterals 22 = .ok (.iload_n 3, 1) := by decide +kernel
theorem zd_EW_writeLiterals_23 : decode zc_EW_writeLiterals 23 = .ok (.iconst 2, 1) := by decide +kernel
theorem zd_EW_writeLiterals_24 : decode zc_EW_writeLiterals 24 = .ok (.ishl, 1) := by decide +kernel
theorem zd_EW_writeLiterals_25 : decode zc_EW_writeLiterals 25 = .ok (.invokevirtual 26, 3) := by decide +kernel
theorem zd_EW_writeLiterals_28 : decode zc_EW_writeLiterals 28 = .ok (.goto 21, 3) := by decide +kernel
theorem zd_EW_writeLiterals_31 : decode zc_EW_writeLiterals 31 = .ok (.aload_n 0, 1) := by decide +kernel
theorem zd_EW_writeLiterals_32 : decode zc_EW_writeLiterals 32 = .ok (.getfield 7, 3) := by decide +kernel
theorem zd_EW_writeLiterals_35 : decode zc_EW_writeLiterals 35 = .ok (.sipush 240, 3) := by decide +kernel
theorem zd_EW_writeLiterals_38 : decode zc_EW_writeLiterals 38 = .ok (.invokevirtual 26, 3) := by decide +kernel
theorem zd_EW_writeLiterals_41 : decode zc_EW_writeLiterals 41 = .ok (.aload_n 0, 1) := by decide +kernel
theorem zd_EW_writeLiterals_42 : decode zc_EW_writeLiterals 42 = .ok (.getfield 7, 3) := by decide +kernel
theorem zd_EW_writeLiterals_45 : decode zc_EW_writeLiterals 45 = .ok (.iload_n 3, 1) := by decide +kernel
theorem zd_EW_writeLiterals_46 : decode zc_EW_writeLiterals 46 = .ok (.invokevirtual 26, 3) := by decide +kernel
theorem zd_EW_writeLiterals_49 : decode zc_EW_writeLiterals 49 = .ok (.aload_n 0, 1) := by decide +kernel
theorem zd_EW_writeLiterals_50 : decode zc_EW_writeLiterals 50 = .ok (.iload_n 1, 1) := by decide +kernel
theorem zd_EW_writeLiterals_51 : decode zc_EW_writeLiterals 51 = .ok (.iload_n 2, 1) := by decide +kernel
theorem zd_EW_writeLiterals_52 : decode zc_EW_writeLiterals 52 = .ok (.invokevirtual 40, 3) := by decide +kernel
theorem zd_EW_writeLiterals_55 : decode zc_EW_writeLiterals 55 = .ok (.return_, 1) := by decide +kernel
theorem zd_EW_writeCopy_0 : decode zc_EW_writeCopy 0 = .ok (.iload_n 2, 1) := by decide +kernel
theorem zd_EW_writeCopy_1 : decode zc_EW_writeCopy 1 = .ok (.iconst 4, 1) := by decide +kernel
theorem zd_EW_writeCopy_2 : decode zc_EW_writeCopy 2 = .ok (.if_icmp .lt 48, 3) := by decide +kernel
theorem zd_EW_writeCopy_5 : decode zc_EW_writeCopy 5 = .ok (.iload_n 2, 1) := by decide +kernel
theorem zd_EW_writeCopy_6 : decode zc_EW_writeCopy 6 = .ok (.bipush 11, 2) := by decide +kernel
theorem zd_EW_writeCopy_8 : decode zc_EW_writeCopy 8 = .ok (.if_icmp .gt 42, 3) := by decide +kernel
theorem zd_EW_writeCopy_11 : decode zc_EW_writeCopy 11 = .ok (.iload_n 1, 1) := by decide +kernel
theorem zd_EW_writeCopy_12 : decode zc_EW_writeCopy 12 = .ok (.sipush 2048, 3) := by decide +kernel
theorem zd_EW_writeCopy_15 : decode zc_EW_writeCopy 15 = .ok (.if_icmp .ge 35, 3) := by decide +kernel
theorem zd_EW_writeCopy_18 : decode zc_EW_writeCopy 18 = .ok (.aload_n 0, 1) := by decide +kernel
theorem zd_EW_writeCopy_19 : decode zc_EW_writeCopy 19 = .ok (.getfield 7, 3) := by decide +kernel
theorem zd_EW_writeCopy_22 : decode zc_EW_writeCopy 22 = .ok (.iload_n 1, 1) := by decide +kernel
theorem zd_EW_writeCopy_23 : decode zc_EW_writeCopy 23 = .ok (.bipush 8, 2) := by decide +kernel
theorem zd_EW_writeCopy_25 : decode zc_EW_writeCopy 25 = .ok (.ishr, 1) := by decide +kernel
theorem zd_EW_writeCopy_26 : decode zc_EW_writeCopy 26 = .ok (.iconst 5, 1) := by decide +kernel
theorem zd_EW_writeCopy_27 : decode zc_EW_writeCopy 27 = .ok (.ishl, 1) := by decide +kernel
theorem zd_EW_writeCopy_28 : decode zc_EW_writeCopy 28 = .ok (.iload_n 2, 1) := by decide +kernel
theorem zd_EW_writeCopy_29 : decode zc_EW_writeCopy 29 = .ok (.iconst 4, 1) := by decide +kernel
theorem zd_EW_writeCopy_30 : decode zc_EW_writeCopy 30 = .ok (.isub, 1) := by decide +kernel
theorem zd_EW_writeCopy_31 : decode zc_EW_writeCopy 31 = .ok (.iconst 2, 1) := by decide +kernel
theorem zd_EW_writeCopy_32 : decode zc_EW_writeCopy 32 = .ok (.ishl, 1) := by decide +kernel
theorem zd_EW_writeCopy_33 : decode zc_EW_writeCopy 33 = .ok (.ior, 1) := by decide +kernel
theorem zd_EW_writeCopy_34 : decode zc_EW_writeCopy 34 = .ok (.iconst 1, 1) := by decide +kernel
theorem zd_EW_writeCopy_35 : decode zc_EW_writeCopy 35 = .ok (.ior, 1) := by decide +kernel
theorem zd_EW_writeCopy_36 : decode zc_EW_writeCopy 36 = .ok (.invokevirtual 26, 3) := by decide +kernel
theorem zd_EW_writeCopy_39 : decode zc_EW_writeCopy 39 = .ok (.aload_n 0, 1) := by decide +kernel
theorem zd_EW_writeCopy_40 : decode zc_EW_writeCopy 40 = .ok (.getfield 7, 3) := by decide +kernel
theorem zd_EW_writeCopy_43 : decode zc_EW_writeCopy 43 = .ok (.iload_n 1, 1) := by decide +kernel
theorem zd_EW_writeCopy_44 : decode zc_EW_writeCopy 44 = .ok (.invokevirtual 26, 3) := by decide +kernel
theorem zd_EW_writeCopy_47 : decode zc_EW_writeCopy 47 = .ok (.goto 9, 3) := by decide +kernel
theorem zd_EW_writeCopy_50 : decode zc_EW_writeCopy 50 = .ok (.aload_n 0, 1) := by decide +kernel
theorem zd_EW_writeCopy_51 : decode zc_EW_writeCopy 51 = .ok (.iload_n 1, 1) := by decide +kernel
theorem zd_EW_writeCopy_52 : decode zc_EW_writeCopy 52 = .ok (.iload_n 2, 1) := by decide +kernel
theorem zd_EW_writeCopy_53 : decode zc_EW_writeCopy 53 = .ok (.invokevirtual 34, 3) := by decide +kernel
theorem zd_EW_writeCopy_56 : decode zc_EW_writeCopy 56 = .ok (.return_, 1) := by decide +kernel
theorem zd_EW_writeLong_0 : decode zc_EW_writeLong 0 = .ok (.aload_n 0, 1) := by decide +kernel
theorem zd_EW_writeLong_1 : decode zc_EW_writeLong 1 = .ok (.getfield 7, 3) := by decide +kernel
theorem zd_EW_writeLong_4 : decode zc_EW_writeLong 4 = .ok (.iload_n 2, 1) := by decide +kernel
theorem zd_EW_writeLong_5 : decode zc_EW_writeLong 5 = .ok (.iconst 1, 1) := by decide +kernel
theorem zd_EW_writeLong_6 : decode zc_EW_writeLong 6 = .ok (.isub, 1) := by decide +kernel
theorem zd_EW_writeLong_7 : decode zc_EW_writeLong 7 = .ok (.iconst 2, 1) := by decide +kernel
theorem zd_EW_writeLong_8 : decode zc_EW_writeLong 8 = .ok (.ishl, 1) := by decide +kernel
theorem zd_EW_writeLong_9 : decode zc_EW_writeLong 9 = .ok (.iconst 2, 1) := by decide +kernel
theorem zd_EW_writeLong_10 : decode zc_EW_writeLong 10 = .ok (.ior, 1) := by decide +kernel
theorem zd_EW_writeLong_11 : decode zc_EW_writeLong 11 = .ok (.invokevirtual 26, 3) := by decide +kernel
theorem zd_EW_writeLong_14 : decode zc_EW_writeLong 14 = .ok (.aload_n 0, 1) := by decide +kernel
theorem zd_EW_writeLong_15 : decode zc_EW_writeLong 15 = .ok (.getfield 7, 3) := by decide +kernel
theorem zd_EW_writeLong_18 : decode zc_EW_writeLong 18 = .ok (.iload_n 1, 1) := by decide +kernel
theorem zd_EW_writeLong_19 : decode zc_EW_writeLong 19 = .ok (.invokevirtual 26, 3) := by decide +kernel
theorem zd_EW_writeLong_22 : decode zc_EW_writeLong 22 = .ok (.aload_n 0, 1) := by decide +kernel
theorem zd_EW_writeLong_23 : decode zc_EW_writeLong 23 = .ok (.getfield 7, 3) := by decide +kernel
theorem zd_EW_writeLong_26 : decode zc_EW_writeLong 26 = .ok (.iload_n 1, 1) := by decide +kernel
theorem zd_EW_writeLong_27 : decode zc_EW_writeLong 27 = .ok (.bipush 8, 2) := by decide +kernel
theorem zd_EW_writeLong_29 : decode zc_EW_writeLong 29 = .ok (.ishr, 1) := by decide +kernel
theorem zd_EW_writeLong_30 : decode zc_EW_writeLong 30 = .ok (.invokevirtual 26, 3) := by decide +kernel
theorem zd_EW_writeLong_33 : decode zc_EW_writeLong 33 = .ok (.return_, 1) := by decide +kernel
theorem zd_H_length_0 : decode zc_H_length 0 = .ok (.aload_n 0, 1) := by decide +kernel
theorem zd_H_length_1 : decode zc_H_length 1 = .ok (.getfield 7, 3) := by decide +kernel
theorem zd_H_length_4 : decode zc_H_length 4 = .ok (.getfield 16, 3) := by decide +kernel
theorem zd_H_length_7 : decode zc_H_length 7 = .ok (.aload_n 0, 1) := by decide +kernel
theorem zd_H_length_8 : decode zc_H_length 8 = .ok (.getfield 13, 3) := by decide +kernel
theorem zd_H_length_11 : decode zc_H_length 11 = .ok (.getfield 16, 3) := by decide +kernel
theorem zd_H_length_14 : decode zc_H_length 14 = .ok (.iadd, 1) := by decide +kernel
theorem zd_H_length_15 : decode zc_H_length 15 = .ok (.ireturn, 1) := by decide +kernel
theorem zd_H_byteAt_0 : decode zc_H_byteAt 0 = .ok (.iload_n 1, 1) := by decide +kernel
theorem zd_H_byteAt_1 : decode zc_H_byteAt 1 = .ok (.aload_n 0, 1) := by decide +kernel
theorem zd_H_byteAt_2 : decode zc_H_byteAt 2 = .ok (.getfield 7, 3) := by decide +kernel
theorem zd_H_byteAt_5 : decode zc_H_byteAt 5 = .ok (.getfield 16, 3) := by decide +kernel
theorem zd_H_byteAt_8 : decode zc_H_byteAt 8 = .ok (.if_icmp .ge 14, 3) := by decide +kernel
theorem zd_H_byteAt_11 : decode zc_H_byteAt 11 = .ok (.aload_n 0, 1) := by decide +kernel
theorem zd_H_byteAt_12 : decode zc_H_byteAt 12 = .ok (.getfield 7, 3) := by decide +kernel
theorem zd_H_byteAt_15 : decode zc_H_byteAt 15 = .ok (.iload_n 1, 1) := by decide +kernel
theorem zd_H_byteAt_16 : decode zc_H_byteAt 16 = .ok (.invokevirtual 22, 3) := by decide +kernel
theorem zd_H_byteAt_19 : decode zc_H_byteAt 19 = .ok (.goto 19, 3) := by decide +kernel
theorem zd_H_byteAt_22 : decode zc_H_byteAt 22 = .ok (.aload_n 0, 1) := by decide +kernel
theorem zd_H_byteAt_23 : decode zc_H_byteAt 23 = .ok (.getfield 13, 3) := by decide +kernel
theorem zd_H_byteAt_26 : decode zc_H_byteAt 26 = .ok (.iload_n 1, 1) := by decide +kernel
theorem zd_H_byteAt_27 : decode zc_H_byteAt 27 = .ok (.aload_n 0, 1) := by decide +kernel
theorem zd_H_byteAt_28 : decode zc_H_byteAt 28 = .ok (.getfield 7, 3) := by decide +kernel
theorem zd_H_byteAt_31 : decode zc_H_byteAt 31 = .ok (.getfield 16, 3) := by decide +kernel
theorem zd_H_byteAt_34 : decode zc_H_byteAt 34 = .ok (.isub, 1) := by decide +kernel
theorem zd_H_byteAt_35 : decode zc_H_byteAt 35 = .ok (.invokevirtual 22, 3) := by decide +kernel
theorem zd_H_byteAt_38 : decode zc_H_byteAt 38 = .ok (.ireturn, 1) := by decide +kernel
theorem zd_H_intAt_0 : decode zc_H_intAt 0 = .ok (.aload_n 0, 1) := by decide +kernel
theorem zd_H_intAt_1 : decode zc_H_intAt 1 = .ok (.iload_n 1, 1) := by decide +kernel
theorem zd_H_intAt_2 : decode zc_H_intAt 2 = .ok (.invokevirtual 26, 3) := by decide +kernel
theorem zd_H_intAt_5 : decode zc_H_intAt 5 = .ok (.aload_n 0, 1) := by decide +kernel
theorem zd_H_intAt_6 : decode zc_H_intAt 6 = .ok (.iload_n 1, 1) := by decide +kernel
theorem zd_H_intAt_7 : decode zc_H_intAt 7 = .ok (.iconst 1, 1) := by decide +kernel
theorem zd_H_intAt_8 : decode zc_H_intAt 8 = .ok (.iadd, 1) := by decide +kernel
theorem zd_H_intAt_9 : decode zc_H_intAt 9 = .ok (.invokevirtual 26, 3) := by decide +kernel
theorem zd_H_intAt_12 : decode zc_H_intAt 12 = .ok (.bipush 8, 2) := by decide +kernel
theorem zd_H_intAt_14 : decode zc_H_intAt 14 = .ok (.ishl, 1) := by decide +kernel
theorem zd_H_intAt_15 : decode zc_H_intAt 15 = .ok (.ior, 1) := by decide +kernel
theorem zd_H_intAt_16 : decode zc_H_intAt 16 = .ok (.aload_n 0, 1) := by decide +kernel
theorem zd_H_intAt_17 : decode zc_H_intAt 17 = .ok (.iload_n 1, 1) := by decide +kernel
theorem zd_H_intAt_18 : decode zc_H_intAt 18 = .ok (.iconst 2, 1) := by decide +kernel
theorem zd_H_intAt_19 : decode zc_H_intAt 19 = .ok (.iadd, 1) := by decide +kernel
theorem zd_H_intAt_20 : decode zc_H_intAt 20 = .ok (.invokevirtual 26, 3) := by decide +kernel
theorem zd_H_intAt_23 : decode zc_H_intAt 23 = .ok (.bipush 16, 2) := by decide +kernel
theorem zd_H_intAt_25 : decode zc_H_intAt 25 = .ok (.ishl, 1) := by decide +kernel
theorem zd_H_intAt_26 : decode zc_H_intAt 26 = .ok (.ior, 1) := by decide +kernel
theorem zd_H_intAt_27 : decode zc_H_intAt 27 = .ok (.aload_n 0, 1) := by decide +kernel
theorem zd_H_intAt_28 : decode zc_H_intAt 28 = .ok (.iload_n 1, 1) := by decide +kernel
theorem zd_H_intAt_29 : decode zc_H_intAt 29 = .ok (.iconst 3, 1) := by decide +kernel
theorem zd_H_intAt_30 : decode zc_H_intAt 30 = .ok (.iadd, 1) := by decide +kernel
theorem zd_H_intAt_31 : decode zc_H_intAt 31 = .ok (.invokevirtual 26, 3) := by decide +kernel
theorem zd_H_intAt_34 : decode zc_H_intAt 34 = .ok (.bipush 24, 2) := by decide +kernel
theorem zd_H_intAt_36 : decode zc_H_intAt 36 = .ok (.ishl, 1) := by decide +kernel
theorem zd_H_intAt_37 : decode zc_H_intAt 37 = .ok (.ior, 1) := by decide +kernel
theorem zd_H_intAt_38 : decode zc_H_intAt 38 = .ok (.ireturn, 1) := by decide +kernel
theorem zd_P_run_0 : decode zc_P_run 0 = .ok (.aload_n 0, 1) := by decide +kernel
theorem zd_P_run_1 : decode zc_P_run 1 = .ok (.iconst 0, 1) := by decide +kernel
theorem zd_P_run_2 : decode zc_P_run 2 = .ok (.putfield 29, 3) := by decide +kernel
theorem zd_P_run_5 : decode zc_P_run 5 = .ok (.aload_n 0, 1) := by decide +kernel
theorem zd_P_run_6 : decode zc_P_run 6 = .ok (.iconst 0, 1) := by decide +kernel
theorem zd_P_run_7 : decode zc_P_run 7 = .ok (.putfield 33, 3) := by decide +kernel
theorem zd_P_run_10 : decode zc_P_run 10 = .ok (.aload_n 0, 1) := by decide +kernel
theorem zd_P_run_11 : decode zc_P_run 11 = .ok (.iconst 0, 1) := by decide +kernel
theorem zd_P_run_12 : decode zc_P_run 12 = .ok (.putfield 36, 3) := by decide +kernel
theorem zd_P_run_15 : decode zc_P_run 15 = .ok (.aload_n 0, 1) := by decide +kernel
theorem zd_P_run_16 : decode zc_P_run 16 = .ok (.invokevirtual 39, 3) := by decide +kernel
theorem zd_P_run_19 : decode zc_P_run 19 = .ok (.aload_n 1, 1) := by decide +kernel
theorem zd_P_run_20 : decode zc_P_run 20 = .ok (.invokevirtual 42, 3) := by decide +kernel
theorem zd_P_run_23 : decode zc_P_run 23 = .ok (.iconst 0, 1) := by decide +kernel
theorem zd_P_run_24 : decode zc_P_run 24 = .ok (.istore_n 2, 1) := by decide +kernel
theorem zd_P_run_25 : decode zc_P_run 25 = .ok (.iload_n 2, 1) := by decide +kernel
theorem zd_P_run_26 : decode zc_P_run 26 = .ok (.bipush 12, 2) := by decide +kernel
theorem zd_P_run_28 : decode zc_P_run 28 = .ok (.iadd, 1) := by decide +kernel
theorem zd_P_run_29 : decode zc_P_run 29 = .ok (.aload_n 0, 1) := by decide +kernel
theorem zd_P_run_30 : decode zc_P_run 30 = .ok (.getfield 13, 3) := by decide +kernel
theorem zd_P_run_33 : decode zc_P_run 33 = .ok (.getfield 47, 3) := by decide +kernel
theorem zd_P_run_36 : decode zc_P_run 36 = .ok (.if_icmp .gt 19, 3) := by decide +kernel
theorem zd_P_run_39 : decode zc_P_run 39 = .ok (.iload_n 2, 1) := by decide +kernel
theorem zd_P_run_40 : decode zc_P_run 40 = .ok (.iconst 1, 1) := by decide +kernel
theorem zd_P_run_41 : decode zc_P_run 41 = .ok (.aload_n 0, 1) := by decide +kernel
theorem zd_P_run_42 : decode zc_P_run 42 = .ok (.iload_n 2, 1) := by decide +kernel
theorem zd_P_run_43 : decode zc_P_run 43 = .ok (.aload_n 1, 1) := by decide +kernel
theorem zd_P_run_44 : decode zc_P_run 44 = .ok (.invokevirtual 52, 3) := by decide +kernel
theorem zd_P_run_47 : decode zc_P_run 47 = .ok (.invokestatic 56, 3) := by decide +kernel
theorem zd_P_run_50 : decode zc_P_run 50 = .ok (.iadd, 1) := by decide +kernel
theorem zd_P_run_51 : decode zc_P_run 51 = .ok (.istore_n 2, 1) := by decide +kernel
theorem zd_P_run_52 : decode zc_P_run 52 = .ok (.goto (-27), 3) := by decide +kernel
theorem zd_P_run_55 : decode zc_P_run 55 = .ok (.aload_n 1, 1) := by decide +kernel
theorem zd_P_run_56 : decode zc_P_run 56 = .ok (.aload_n 0, 1) := by decide +kernel
theorem zd_P_run_57 : decode zc_P_run 57 = .ok (.getfield 29, 3) := by decide +kernel
theorem zd_P_run_60 : decode zc_P_run 60 = .ok (.invokevirtual 62, 3) := by decide +kernel
theorem zd_P_run_63 : decode zc_P_run 63 = .ok (.return_, 1) := by decide +kernel
theorem zd_P_learnPast_0 : decode zc_P_learnPast 0 = .ok (.iconst 0, 1) := by decide +kernel
theorem zd_P_learnPast_1 : decode zc_P_learnPast 1 = .ok (.istore_n 1, 1) := by decide +kernel
theorem zd_P_learnPast_2 : decode zc_P_learnPast 2 = .ok (.iload_n 1, 1) := by decide +kernel
theorem zd_P_learnPast_3 : decode zc_P_learnPast 3 = .ok (.aload_n 0, 1) := by decide +kernel
theorem zd_P_learnPast_4 : decode zc_P_learnPast 4 = .ok (.getfield 25, 3) := by decide +kernel
theorem zd_P_learnPast_7 : decode zc_P_learnPast 7 = .ok (.arraylength, 1) := by decide +kernel
theorem zd_P_learnPast_8 : decode zc_P_learnPast 8 = .ok (.if_icmp .ge 16, 3) := by decide +kernel
theorem zd_P_learnPast_11 : decode zc_P_learnPast 11 = .ok (.aload_n 0, 1) := by decide +kernel
theorem zd_P_learnPast_12 : decode zc_P_learnPast 12 = .ok (.getfield 25, 3) := by decide +kernel
theorem zd_P_learnPast_15 : decode zc_P_learnPast 15 = .ok (.iload_n 1, 1) := by decide +kernel
theorem zd_P_learnPast_16 : decode zc_P_learnPast 16 = .ok (.iconst (-1), 1) := by decide +kernel
theorem zd_P_learnPast_17 : decode zc_P_learnPast 17 = .ok (.iastore, 1) := by decide +kernel
theorem zd_P_learnPast_18 : decode zc_P_learnPast 18 = .ok (.iinc 1 1, 3) := by decide +kernel
theorem zd_P_learnPast_21 : decode zc_P_learnPast 21 = .ok (.goto (-19), 3) := by decide +kernel
theorem zd_P_learnPast_24 : decode zc_P_learnPast 24 = .ok (.iconst 0, 1) := by decide +kernel
theorem zd_P_learnPast_25 : decode zc_P_learnPast 25 = .ok (.istore_n 1, 1) := by decide +kernel
theorem zd_P_learnPast_26 : decode zc_P_learnPast 26 = .ok (.iload_n 1, 1) := by decide +kernel
theorem zd_P_learnPast_27 : decode zc_P_learnPast 27 = .ok (.iconst 4, 1) := by decide +kernel
theorem zd_P_learnPast_28 : decode zc_P_learnPast 28 = .ok (.iadd, 1) := by decide +kernel
theorem zd_P_learnPast_29 : decode zc_P_learnPast 29 = .ok (.aload_n 0, 1) := by decide +kernel
theorem zd_P_learnPast_30 : decode zc_P_learnPast 30 = .ok (.getfield 7, 3) := by decide +kernel
theorem zd_P_learnPast_33 : decode zc_P_learnPast 33 = .ok (.getfield 47, 3) := by decide +kernel
theorem zd_P_learnPast_36 : decode zc_P_learnPast 36 = .ok (.if_icmp .gt 15, 3) := by decide +kernel
theorem zd_P_learnPast_39 : decode zc_P_learnPast 39 = .ok (.aload_n 0, 1) := by decide +kernel
theorem zd_P_learnPast_40 : decode zc_P_learnPast 40 = .ok (.iload_n 1, 1) := by decide +kernel
theorem zd_P_learnPast_41 : decode zc_P_learnPast 41 = .ok (.invokevirtual 66, 3) := by decide +kernel
theorem zd_P_learnPast_44 : decode zc_P_learnPast 44 = .ok (.pop, 1) := by decide +kernel
theorem zd_P_learnPast_45 : decode zc_P_learnPast 45 = .ok (.iinc 1 1, 3) := by decide +kernel
theorem zd_P_learnPast_48 : decode zc_P_learnPast 48 = .ok (.goto (-22), 3) := by decide +kernel
theorem zd_P_learnPast_51 : decode zc_P_learnPast 51 = .ok (.return_, 1) := by decide +kernel
theorem zd_P_copyFrom_0 : decode zc_P_copyFrom 0 = .ok (.aload_n 0, 1) := by decide +kernel
theorem zd_P_copyFrom_1 : decode zc_P_copyFrom 1 = .ok (.getfield 7, 3) := by decide +kernel
theorem zd_P_copyFrom_4 : decode zc_P_copyFrom 4 = .ok (.getfield 47, 3) := by decide +kernel
theorem zd_P_copyFrom_7 : decode zc_P_copyFrom 7 = .ok (.iload_n 1, 1) := by decide +kernel
theorem zd_P_copyFrom_8 : decode zc_P_copyFrom 8 = .ok (.iadd, 1) := by decide +kernel
theorem zd_P_copyFrom_9 : decode zc_P_copyFrom 9 = .ok (.istore_n 3, 1) := by decide +kernel
theorem zd_P_copyFrom_10 : decode zc_P_copyFrom 10 = .ok (.aload_n 0, 1) := by decide +kernel
theorem zd_P_copyFrom_11 : decode zc_P_copyFrom 11 = .ok (.iload_n 3, 1) := by decide +kernel
theorem zd_P_copyFrom_12 : decode zc_P_copyFrom 12 = .ok (.invokevirtual 66, 3) := by decide +kernel
theorem zd_P_copyFrom_15 : decode zc_P_copyFrom 15 = .ok (.istore 4, 2) := by decide +kernel
theorem zd_P_copyFrom_17 : decode zc_P_copyFrom 17 = .ok (.iload 4, 2) := by decide +kernel
theorem zd_P_copyFrom_19 : decode zc_P_copyFrom 19 = .ok (.iconst (-1), 1) := by decide +kernel
theorem zd_P_copyFrom_20 : decode zc_P_copyFrom 20 = .ok (.if_icmp .eq 23, 3) := by decide +kernel
theorem zd_P_copyFrom_23 : decode zc_P_copyFrom 23 = .ok (.aload_n 0, 1) := by decide +kernel
theorem zd_P_copyFrom_24 : decode zc_P_copyFrom 24 = .ok (.getfield 21, 3) := by decide +kernel
theorem zd_P_copyFrom_27 : decode zc_P_copyFrom 27 = .ok (.iload 4, 2) := by decide +kernel
theorem zd_P_copyFrom_29 : decode zc_P_copyFrom 29 = .ok (.invokevirtual 70, 3) := by decide +kernel
theorem zd_P_copyFrom_32 : decode zc_P_copyFrom 32 = .ok (.aload_n 0, 1) := by decide +kernel
theorem zd_P_copyFrom_33 : decode zc_P_copyFrom 33 = .ok (.getfield 21, 3) := by decide +kernel
theorem zd_P_copyFrom_36 : decode zc_P_copyFrom 36 = .ok (.iload_n 3, 1) := by decide +kernel
theorem zd_P_copyFrom_37 : decode zc_P_copyFrom 37 = .ok (.invokevirtual 70, 3) := by decide +kernel
theorem zd_P_copyFrom_40 : decode zc_P_copyFrom 40 = .ok (.if_icmp .eq 5, 3) := by decide +kernel
theorem zd_P_copyFrom_43 : decode zc_P_copyFrom 43 = .ok (.iconst 0, 1) := by decide +kernel
theorem zd_P_copyFrom_44 : decode zc_P_copyFrom 44 = .ok (.ireturn, 1) := by decide +kernel
theorem zd_P_copyFrom_45 : decode zc_P_copyFrom 45 = .ok (.aload_n 0, 1) := by decide +kernel
theorem zd_P_copyFrom_46 : decode zc_P_copyFrom 46 = .ok (.iload 4, 2) := by decide +kernel
theorem zd_P_copyFrom_48 : decode zc_P_copyFrom 48 = .ok (.iload_n 3, 1) := by decide +kernel
theorem zd_P_copyFrom_49 : decode zc_P_copyFrom 49 = .ok (.invokevirtual 73, 3) := by decide +kernel
theorem zd_P_copyFrom_52 : decode zc_P_copyFrom 52 = .ok (.istore 5, 2) := by decide +kernel
theorem zd_P_copyFrom_54 : decode zc_P_copyFrom 54 = .ok (.aload_n 2, 1) := by decide +kernel
theorem zd_P_copyFrom_55 : decode zc_P_copyFrom 55 = .ok (.aload_n 0, 1) := by decide +kernel
theorem zd_P_copyFrom_56 : decode zc_P_copyFrom 56 = .ok (.getfield 29, 3) := by decide +kernel
theorem zd_P_copyFrom_59 : decode zc_P_copyFrom 59 = .ok (.iload_n 1, 1) := by decide +kernel
theorem zd_P_copyFrom_60 : decode zc_P_copyFrom 60 = .ok (.iload_n 3, 1) := by decide +kernel
theorem zd_P_copyFrom_61 : decode zc_P_copyFrom 61 = .ok (.iload 4, 2) := by decide +kernel
theorem zd_P_copyFrom_63 : decode zc_P_copyFrom 63 = .ok (.isub, 1) := by decide +kernel
theorem zd_P_copyFrom_64 : decode zc_P_copyFrom 64 = .ok (.iload 5, 2) := by decide +kernel
theorem zd_P_copyFrom_66 : decode zc_P_copyFrom 66 = .ok (.invokevirtual 76, 3) := by decide +kernel
theorem zd_P_copyFrom_69 : decode zc_P_copyFrom 69 = .ok (.aload_n 0, 1) := by decide +kernel
theorem zd_P_copyFrom_70 : decode zc_P_copyFrom 70 = .ok (.iload_n 1, 1) := by decide +kernel
theorem zd_P_copyFrom_71 : decode zc_P_copyFrom 71 = .ok (.iload 5, 2) := by decide +kernel
theorem zd_P_copyFrom_73 : decode zc_P_copyFrom 73 = .ok (.iadd, 1) := by decide +kernel
theorem zd_P_copyFrom_74 : decode zc_P_copyFrom 74 = .ok (.putfield 29, 3) := by decide +kernel
theorem zd_P_copyFrom_77 : decode zc_P_copyFrom 77 = .ok (.aload_n 0, 1) := by decide +kernel
theorem zd_P_copyFrom_78 : decode zc_P_copyFrom 78 = .ok (.dup, 1) := by decide +kernel
theorem zd_P_copyFrom_79 : decode zc_P_copyFrom 79 = .ok (.getfield 33, 3) := by decide +kernel
theorem zd_P_copyFrom_82 : decode zc_P_copyFrom 82 = .ok (.iconst 1, 1) := by decide +kernel
theorem zd_P_copyFrom_83 : decode zc_P_copyFrom 83 = .ok (.iadd, 1) := by decide +kernel
theorem zd_P_copyFrom_84 : decode zc_P_copyFrom 84 = .ok (.putfield 33, 3) := by decide +kernel
theorem zd_P_copyFrom_87 : decode zc_P_copyFrom 87 = .ok (.aload_n 0, 1) := by decide +kernel
theorem zd_P_copyFrom_88 : decode zc_P_copyFrom 88 = .ok (.dup, 1) := by decide +kernel
theorem zd_P_copyFrom_89 : decode zc_P_copyFrom 89 = .ok (.getfield 36, 3) := by decide +kernel
theorem zd_P_copyFrom_92 : decode zc_P_copyFrom 92 = .ok (.iload 5, 2) := by decide +kernel
theorem zd_P_copyFrom_94 : decode zc_P_copyFrom 94 = .ok (.iadd, 1) := by decide +kernel
theorem zd_P_copyFrom_95 : decode zc_P_copyFrom 95 = .ok (.putfield 36, 3) := by decide +kernel
theorem zd_P_copyFrom_98 : decode zc_P_copyFrom 98 = .ok (.iload 5, 2) := by decide +kernel
theorem zd_P_copyFrom_100 : decode zc_P_copyFrom 100 = .ok (.ireturn, 1) := by decide +kernel
theorem zd_P_matchLength_0 : decode zc_P_matchLength 0 = .ok (.aload_n 0, 1) := by decide +kernel
theorem zd_P_matchLength_1 : decode zc_P_matchLength 1 = .ok (.getfield 21, 3) := by decide +kernel
theorem zd_P_matchLength_4 : decode zc_P_matchLength 4 = .ok (.invokevirtual 80, 3) := by decide +kernel
theorem zd_P_matchLength_7 : decode zc_P_matchLength 7 = .ok (.iconst 5, 1) := by decide +kernel
theorem zd_P_matchLength_8 : decode zc_P_matchLength 8 = .ok (.isub, 1) := by decide +kernel
theorem zd_P_matchLength_9 : decode zc_P_matchLength 9 = .ok (.iload_n 2, 1) := by decide +kernel
theorem zd_P_matchLength_10 : decode zc_P_matchLength 10 = .ok (.isub, 1) := by decide +kernel
theorem zd_P_matchLength_11 : decode zc_P_matchLength 11 = .ok (.istore_n 3, 1) := by decide +kernel
theorem zd_P_matchLength_12 : decode zc_P_matchLength 12 = .ok (.iconst 0, 1) := by decide +kernel
theorem zd_P_matchLength_13 : decode zc_P_matchLength 13 = .ok (.istore 4, 2) := by decide +kernel
theorem zd_P_matchLength_15 : decode zc_P_matchLength 15 = .ok (.iload 4, 2) := by decide +kernel
theorem zd_P_matchLength_17 : decode zc_P_matchLength 17 = .ok (.iload_n 3, 1) := by decide +kernel
theorem zd_P_matchLength_18 : decode zc_P_matchLength 18 = .ok (.if_icmp .ge 34, 3) := by decide +kernel
theorem zd_P_matchLength_21 : decode zc_P_matchLength 21 = .ok (.aload_n 0, 1) := by decide +kernel
theorem zd_P_matchLength_22 : decode zc_P_matchLength 22 = .ok (.getfield 21, 3) := by decide +kernel
theorem zd_P_matchLength_25 : decode zc_P_matchLength 25 = .ok (.iload_n 1, 1) := by decide +kernel
theorem zd_P_matchLength_26 : decode zc_P_matchLength 26 = .ok (.iload 4, 2) := by decide +kernel
theorem zd_P_matchLength_28 : decode zc_P_matchLength 28 = .ok (.iadd, 1) := by decide +kernel
theorem zd_P_matchLength_29 : decode zc_P_matchLength 29 = .ok (.invokevirtual 84, 3) := by decide +kernel
theorem zd_P_matchLength_32 : decode zc_P_matchLength 32 = .ok (.aload_n 0, 1) := by decide +kernel
theorem zd_P_matchLength_33 : decode zc_P_matchLength 33 = .ok (.getfield 21, 3) := by decide +kernel
theorem zd_P_matchLength_36 : decode zc_P_matchLength 36 = .ok (.iload_n 2, 1) := by decide +kernel
theorem zd_P_matchLength_37 : decode zc_P_matchLength 37 = .ok (.iload 4, 2) := by decide +kernel
theorem zd_P_matchLength_39 : decode zc_P_matchLength 39 = .ok (.iadd, 1) := by decide +kernel
theorem zd_P_matchLength_40 : decode zc_P_matchLength 40 = .ok (.invokevirtual 84, 3) := by decide +kernel
theorem zd_P_matchLength_43 : decode zc_P_matchLength 43 = .ok (.if_icmp .ne 9, 3) := by decide +kernel
theorem zd_P_matchLength_46 : decode zc_P_matchLength 46 = .ok (.iinc 4 1, 3) := by decide +kernel
theorem zd_P_matchLength_49 : decode zc_P_matchLength 49 = .ok (.goto (-34), 3) := by decide +kernel
theorem zd_P_matchLength_52 : decode zc_P_matchLength 52 = .ok (.iload 4, 2) := by decide +kernel
theorem zd_P_matchLength_54 : decode zc_P_matchLength 54 = .ok (.ireturn, 1) := by decide +kernel
theorem zd_P_exchange_0 : decode zc_P_exchange 0 = .ok (.aload_n 0, 1) := by decide +kernel
theorem zd_P_exchange_1 : decode zc_P_exchange 1 = .ok (.getfield 21, 3) := by decide +kernel
theorem zd_P_exchange_4 : decode zc_P_exchange 4 = .ok (.iload_n 1, 1) := by decide +kernel
theorem zd_P_exchange_5 : decode zc_P_exchange 5 = .ok (.invokevirtual 70, 3) := by decide +kernel
theorem zd_P_exchange_8 : decode zc_P_exchange 8 = .ok (.ldc 87, 2) := by decide +kernel
theorem zd_P_exchange_10 : decode zc_P_exchange 10 = .ok (.imul, 1) := by decide +kernel
theorem zd_P_exchange_11 : decode zc_P_exchange 11 = .ok (.bipush 27, 2) := by decide +kernel
theorem zd_P_exchange_13 : decode zc_P_exchange 13 = .ok (.iushr, 1) := by decide +kernel
theorem zd_P_exchange_14 : decode zc_P_exchange 14 = .ok (.istore_n 2, 1) := by decide +kernel
theorem zd_P_exchange_15 : decode zc_P_exchange 15 = .ok (.iload_n 2, 1) := by decide +kernel
theorem zd_P_exchange_16 : decode zc_P_exchange 16 = .ok (.ifCond .lt 12, 3) := by decide +kernel
theorem zd_P_exchange_19 : decode zc_P_exchange 19 = .ok (.iload_n 2, 1) := by decide +kernel
theorem zd_P_exchange_20 : decode zc_P_exchange 20 = .ok (.aload_n 0, 1) := by decide +kernel
theorem zd_P_exchange_21 : decode zc_P_exchange 21 = .ok (.getfield 25, 3) := by decide +kernel
theorem zd_P_exchange_24 : decode zc_P_exchange 24 = .ok (.arraylength, 1) := by decide +kernel
theorem zd_P_exchange_25 : decode zc_P_exchange 25 = .ok (.if_icmp .lt 5, 3) := by decide +kernel
theorem zd_P_exchange_28 : decode zc_P_exchange 28 = .ok (.iconst (-1), 1) := by decide +kernel
theorem zd_P_exchange_29 : decode zc_P_exchange 29 = .ok (.ireturn, 1) := by decide +kernel
theorem zd_P_exchange_30 : decode zc_P_exchange 30 = .ok (.aload_n 0, 1) := by decide +kernel
theorem zd_P_exchange_31 : decode zc_P_exchange 31 = .ok (.getfield 25, 3) := by decide +kernel
theorem zd_P_exchange_34 : decode zc_P_exchange 34 = .ok (.iload_n 2, 1) := by decide +kernel
theorem zd_P_exchange_35 : decode zc_P_exchange 35 = .ok (.iaload, 1) := by decide +kernel
theorem zd_P_exchange_36 : decode zc_P_exchange 36 = .ok (.istore_n 3, 1) := by decide +kernel
theorem zd_P_exchange_37 : decode zc_P_exchange 37 = .ok (.aload_n 0, 1) := by decide +kernel
theorem zd_P_exchange_38 : decode zc_P_exchange 38 = .ok (.getfield 25, 3) := by decide +kernel
theorem zd_P_exchange_41 : decode zc_P_exchange 41 = .ok (.iload_n 2, 1) := by decide +kernel
theorem zd_P_exchange_42 : decode zc_P_exchange 42 = .ok (.iload_n 1, 1) := by decide +kernel
theorem zd_P_exchange_43 : decode zc_P_exchange 43 = .ok (.iastore, 1) := by decide +kernel
theorem zd_P_exchange_44 : decode zc_P_exchange 44 = .ok (.iload_n 3, 1) := by decide +kernel
theorem zd_P_exchange_45 : decode zc_P_exchange 45 = .ok (.ireturn, 1) := by decide +kernel
theorem zd_D_rewind_0 : decode zc_D_rewind 0 = .ok (.aload_n 0, 1) := by decide +kernel
theorem zd_D_rewind_1 : decode zc_D_rewind 1 = .ok (.iconst 0, 1) := by decide +kernel
theorem zd_D_rewind_2 : decode zc_D_rewind 2 = .ok (.putfield 25, 3) := by decide +kernel
theorem zd_D_rewind_5 : decode zc_D_rewind 5 = .ok (.aload_n 0, 1) := by decide +kernel
theorem zd_D_rewind_6 : decode zc_D_rewind 6 = .ok (.iconst (-1), 1) := by decide +kernel
theorem zd_D_rewind_7 : decode zc_D_rewind 7 = .ok (.putfield 29, 3) := by decide +kernel
theorem zd_D_rewind_10 : decode zc_D_rewind 10 = .ok (.aload_n 0, 1) := by decide +kernel
theorem zd_D_rewind_11 : decode zc_D_rewind 11 = .ok (.getfield 13, 3) := by decide +kernel
theorem zd_D_rewind_14 : decode zc_D_rewind 14 = .ok (.invokevirtual 32, 3) := by decide +kernel
theorem zd_D_rewind_17 : decode zc_D_rewind 17 = .ok (.return_, 1) := by decide +kernel
theorem zd_D_refused_0 : decode zc_D_refused 0 = .ok (.aload_n 0, 1) := by decide +kernel
theorem zd_D_refused_1 : decode zc_D_refused 1 = .ok (.getfield 29, 3) := by decide +kernel
theorem zd_D_refused_4 : decode zc_D_refused 4 = .ok (.iconst (-1), 1) := by decide +kernel
theorem zd_D_refused_5 : decode zc_D_refused 5 = .ok (.if_icmp .eq 7, 3) := by decide +kernel
theorem zd_D_refused_8 : decode zc_D_refused 8 = .ok (.iconst 1, 1) := by decide +kernel
theorem zd_D_refused_9 : decode zc_D_refused 9 = .ok (.goto 4, 3) := by decide +kernel
theorem zd_D_refused_12 : decode zc_D_refused 12 = .ok (.iconst 0, 1) := by decide +kernel
theorem zd_D_refused_13 : decode zc_D_refused 13 = .ok (.ireturn, 1) := by decide +kernel
theorem zd_D_atEnd_0 : decode zc_D_atEnd 0 = .ok (.aload_n 0, 1) := by decide +kernel
theorem zd_D_atEnd_1 : decode zc_D_atEnd 1 = .ok (.getfield 25, 3) := by decide +kernel
theorem zd_D_atEnd_4 : decode zc_D_atEnd 4 = .ok (.aload_n 0, 1) := by decide +kernel
theorem zd_D_atEnd_5 : decode zc_D_atEnd 5 = .ok (.getfield 7, 3) := by decide +kernel
theorem zd_D_atEnd_8 : decode zc_D_atEnd 8 = .ok (.getfield 37, 3) := by decide +kernel
theorem zd_D_atEnd_11 : decode zc_D_atEnd 11 = .ok (.if_icmp .lt 7, 3) := by decide +kernel
theorem zd_D_atEnd_14 : decode zc_D_atEnd 14 = .ok (.iconst 1, 1) := by decide +kernel
theorem zd_D_atEnd_15 : decode zc_D_atEnd 15 = .ok (.goto 4, 3) := by decide +kernel
theorem zd_D_atEnd_18 : decode zc_D_atEnd 18 = .ok (.iconst 0, 1) := by decide +kernel
theorem zd_D_atEnd_19 : decode zc_D_atEnd 19 = .ok (.ireturn, 1) := by decide +kernel
theorem zd_D_refuseIf_0 : decode zc_D_refuseIf 0 = .ok (.iload_n 1, 1) := by decide +kernel
theorem zd_D_refuseIf_1 : decode zc_D_refuseIf 1 = .ok (.ifCond .eq 16, 3) := by decide +kernel
theorem zd_D_refuseIf_4 : decode zc_D_refuseIf 4 = .ok (.aload_n 0, 1) := by decide +kernel
theorem zd_D_refuseIf_5 : decode zc_D_refuseIf 5 = .ok (.getfield 29, 3) := by decide +kernel
theorem zd_D_refuseIf_8 : decode zc_D_refuseIf 8 = .ok (.iconst (-1), 1) := by decide +kernel
theorem zd_D_refuseIf_9 : decode zc_D_refuseIf 9 = .ok (.if_icmp .ne 8, 3) := by decide +kernel
theorem zd_D_refuseIf_12 : decode zc_D_refuseIf 12 = .ok (.aload_n 0, 1) := by decide +kernel
theorem zd_D_refuseIf_13 : decode zc_D_refuseIf 13 = .ok (.iload_n 2, 1) := by decide +kernel
theorem zd_D_refuseIf_14 : decode zc_D_refuseIf 14 = .ok (.putfield 29, 3) := by decide +kernel
theorem zd_D_refuseIf_17 : decode zc_D_refuseIf 17 = .ok (.return_, 1) := by decide +kernel
theorem zd_D_take_0 : decode zc_D_take 0 = .ok (.aload_n 0, 1) := by decide +kernel
theorem zd_D_take_1 : decode zc_D_take 1 = .ok (.aload_n 0, 1) := by decide +kernel
theorem zd_D_take_2 : decode zc_D_take 2 = .ok (.getfield 25, 3) := by decide +kernel
theorem zd_D_take_5 : decode zc_D_take 5 = .ok (.aload_n 0, 1) := by decide +kernel
theorem zd_D_take_6 : decode zc_D_take 6 = .ok (.getfield 7, 3) := by decide +kernel
theorem zd_D_take_9 : decode zc_D_take 9 = .ok (.getfield 37, 3) := by decide +kernel
theorem zd_D_take_12 : decode zc_D_take 12 = .ok (.if_icmp .lt 7, 3) := by decide +kernel
theorem zd_D_take_15 : decode zc_D_take 15 = .ok (.iconst 1, 1) := by decide +kernel
theorem zd_D_take_16 : decode zc_D_take 16 = .ok (.goto 4, 3) := by decide +kernel
theorem zd_D_take_19 : decode zc_D_take 19 = .ok (.iconst 0, 1) := by decide +kernel
theorem zd_D_take_20 : decode zc_D_take 20 = .ok (.aload_n 0, 1) := by decide +kernel
theorem zd_D_take_21 : decode zc_D_take 21 = .ok (.getfield 7, 3) := by decide +kernel
theorem zd_D_take_24 : decode zc_D_take 24 = .ok (.getfield 37, 3) := by decide +kernel
theorem zd_D_take_27 : decode zc_D_take 27 = .ok (.invokevirtual 40, 3) := by decide +kernel
theorem zd_D_take_30 : decode zc_D_take 30 = .ok (.aload_n 0, 1) := by decide +kernel
theorem zd_D_take_31 : decode zc_D_take 31 = .ok (.getfield 29, 3) := by decide +kernel
theorem zd_D_take_34 : decode zc_D_take 34 = .ok (.iconst (-1), 1) := by decide +kernel
theorem zd_D_take_35 : decode zc_D_take 35 = .ok (.if_icmp .eq 5, 3) := by decide +kernel
theorem zd_D_take_38 : decode zc_D_take 38 = .ok (.iconst 0, 1) := by decide +kernel
theorem zd_D_take_39 : decode zc_D_take 39 = .ok (.ireturn, 1) := by decide +kernel
theorem zd_D_take_40 : decode zc_D_take 40 = .ok (.aload_n 0, 1) := by decide +kernel
theorem zd_D_take_41 : decode zc_D_take 41 = .ok (.getfield 7, 3) := by decide +kernel
theorem zd_D_take_44 : decode zc_D_take 44 = .ok (.aload_n 0, 1) := by decide +kernel
theorem zd_D_take_45 : decode zc_D_take 45 = .ok (.getfield 25, 3) := by decide +kernel
theorem zd_D_take_48 : decode zc_D_take 48 = .ok (.invokevirtual 44, 3) := by decide +kernel
theorem zd_D_take_51 : decode zc_D_take 51 = .ok (.istore_n 1, 1) := by decide +kernel
theorem zd_D_take_52 : decode zc_D_take 52 = .ok (.aload_n 0, 1) := by decide +kernel
theorem zd_D_take_53 : decode zc_D_take 53 = .ok (.dup, 1) := by decide +kernel
theorem zd_D_take_54 : decode zc_D_take 54 = .ok (.getfield 25, 3) := by decide +kernel
theorem zd_D_take_57 : decode zc_D_take 57 = .ok (.iconst 1, 1) := by decide +kernel
theorem zd_D_take_58 : decode zc_D_take 58 = .ok (.iadd, 1) := by decide +kernel
theorem zd_D_take_59 : decode zc_D_take 59 = .ok (.putfield 25, 3) := by decide +kernel
theorem zd_D_take_62 : decode zc_D_take 62 = .ok (.iload_n 1, 1) := by decide +kernel
theorem zd_D_take_63 : decode zc_D_take 63 = .ok (.ireturn, 1) := by decide +kernel
theorem zd_D_takeTwo_0 : decode zc_D_takeTwo 0 = .ok (.aload_n 0, 1) := by decide +kernel
theorem zd_D_takeTwo_1 : decode zc_D_takeTwo 1 = .ok (.invokevirtual 48, 3) := by decide +kernel
theorem zd_D_takeTwo_4 : decode zc_D_takeTwo 4 = .ok (.istore_n 1, 1) := by decide +kernel
theorem zd_D_takeTwo_5 : decode zc_D_takeTwo 5 = .ok (.iload_n 1, 1) := by decide +kernel
theorem zd_D_takeTwo_6 : decode zc_D_takeTwo 6 = .ok (.aload_n 0, 1) := by decide +kernel
theorem zd_D_takeTwo_7 : decode zc_D_takeTwo 7 = .ok (.invokevirtual 48, 3) := by decide +kernel
theorem zd_D_takeTwo_10 : decode zc_D_takeTwo 10 = .ok (.bipush 8, 2) := by decide +kernel
theorem zd_D_takeTwo_12 : decode zc_D_takeTwo 12 = .ok (.ishl, 1) := by decide +kernel
theorem zd_D_takeTwo_13 : decode zc_D_takeTwo 13 = .ok (.ior, 1) := by decide +kernel
theorem zd_D_takeTwo_14 : decode zc_D_takeTwo 14 = .ok (.ireturn, 1) := by decide +kernel
theorem zd_D_requireDistance_0 : decode zc_D_requireDistance 0 = .ok (.aload_n 0, 1) := by decide +kernel
theorem zd_D_requireDistance_1 : decode zc_D_requireDistance 1 = .ok (.iload_n 1, 1) := by decide +kernel
theorem zd_D_requireDistance_2 : decode zc_D_requireDistance 2 = .ok (.ifCond .eq 14, 3) := by decide +kernel
theorem zd_D_requireDistance_5 : decode zc_D_requireDistance 5 = .ok (.iload_n 1, 1) := by decide +kernel
theorem zd_D_requireDistance_6 : decode zc_D_requireDistance 6 = .ok (.aload_n 0, 1) := by decide +kernel
theorem zd_D_requireDistance_7 : decode zc_D_requireDistance 7 = .ok (.getfield 21, 3) := by decide +kernel
theorem zd_D_requireDistance_10 : decode zc_D_requireDistance 10 = .ok (.invokevirtual 52, 3) := by decide +kernel
theorem zd_D_requireDistance_13 : decode zc_D_requireDistance 13 = .ok (.if_icmp .le 7, 3) := by decide +kernel
theorem zd_D_requireDistance_16 : decode zc_D_requireDistance 16 = .ok (.iconst 1, 1) := by decide +kernel
theorem zd_D_requireDistance_17 : decode zc_D_requireDistance 17 = .ok (.goto 4, 3) := by decide +kernel
theorem zd_D_requireDistance_20 : decode zc_D_requireDistance 20 = .ok (.iconst 0, 1) := by decide +kernel
theorem zd_D_requireDistance_21 : decode zc_D_requireDistance 21 = .ok (.iload_n 2, 1) := by decide +kernel
theorem zd_D_requireDistance_22 : decode zc_D_requireDistance 22 = .ok (.invokevirtual 40, 3) := by decide +kernel
theorem zd_D_requireDistance_25 : decode zc_D_requireDistance 25 = .ok (.return_, 1) := by decide +kernel
theorem zd_D_requireRoom_0 : decode zc_D_requireRoom 0 = .ok (.aload_n 0, 1) := by decide +kernel
theorem zd_D_requireRoom_1 : decode zc_D_requireRoom 1 = .ok (.aload_n 0, 1) := by decide +kernel
theorem zd_D_requireRoom_2 : decode zc_D_requireRoom 2 = .ok (.getfield 13, 3) := by decide +kernel
theorem zd_D_requireRoom_5 : decode zc_D_requireRoom 5 = .ok (.getfield 37, 3) := by decide +kernel
theorem zd_D_requireRoom_8 : decode zc_D_requireRoom 8 = .ok (.iload_n 1, 1) := by decide +kernel
theorem zd_D_requireRoom_9 : decode zc_D_requireRoom 9 = .ok (.iadd, 1) := by decide +kernel
theorem zd_D_requireRoom_10 : decode zc_D_requireRoom 10 = .ok (.iload_n 2, 1) := by decide +kernel
theorem zd_D_requireRoom_11 : decode zc_D_requireRoom 11 = .ok (.if_icmp .le 7, 3) := by decide +kernel
theorem zd_D_requireRoom_14 : decode zc_D_requireRoom 14 = .ok (.iconst 1, 1) := by decide +kernel
theorem zd_D_requireRoom_15 : decode zc_D_requireRoom 15 = .ok (.goto 4, 3) := by decide +kernel
theorem zd_D_requireRoom_18 : decode zc_D_requireRoom 18 = .ok (.iconst 0, 1) := by decide +kernel
theorem zd_D_requireRoom_19 : decode zc_D_requireRoom 19 = .ok (.iload_n 3, 1) := by decide +kernel
theorem zd_D_requireRoom_20 : decode zc_D_requireRoom 20 = .ok (.invokevirtual 40, 3) := by decide +kernel
theorem zd_D_requireRoom_23 : decode zc_D_requireRoom 23 = .ok (.return_, 1) := by decide +kernel
theorem zd_D_copyLiterals_0 : decode zc_D_copyLiterals 0 = .ok (.iconst 0, 1) := by decide +kernel
theorem zd_D_copyLiterals_1 : decode zc_D_copyLiterals 1 = .ok (.istore_n 2, 1) := by decide +kernel
theorem zd_D_copyLiterals_2 : decode zc_D_copyLiterals 2 = .ok (.iload_n 2, 1) := by decide +kernel
theorem zd_D_copyLiterals_3 : decode zc_D_copyLiterals 3 = .ok (.iload_n 1, 1) := by decide +kernel
theorem zd_D_copyLiterals_4 : decode zc_D_copyLiterals 4 = .ok (.if_icmp .ge 27, 3) := by decide +kernel
theorem zd_D_copyLiterals_7 : decode zc_D_copyLiterals 7 = .ok (.aload_n 0, 1) := by decide +kernel
theorem zd_D_copyLiterals_8 : decode zc_D_copyLiterals 8 = .ok (.invokevirtual 55, 3) := by decide +kernel
theorem zd_D_copyLiterals_11 : decode zc_D_copyLiterals 11 = .ok (.ifCond .ne 20, 3) := by decide +kernel
theorem zd_D_copyLiterals_14 : decode zc_D_copyLiterals 14 = .ok (.aload_n 0, 1) := by decide +kernel
theorem zd_D_copyLiterals_15 : decode zc_D_copyLiterals 15 = .ok (.getfield 13, 3) := by decide +kernel
theorem zd_D_copyLiterals_18 : decode zc_D_copyLiterals 18 = .ok (.aload_n 0, 1) := by decide +kernel
theorem zd_D_copyLiterals_19 : decode zc_D_copyLiterals 19 = .ok (.invokevirtual 48, 3) := by decide +kernel
theorem zd_D_copyLiterals_22 : decode zc_D_copyLiterals 22 = .ok (.invokevirtual 59, 3) := by decide +kernel
theorem zd_D_copyLiterals_25 : decode zc_D_copyLiterals 25 = .ok (.iinc 2 1, 3) := by decide +kernel
theorem zd_D_copyLiterals_28 : decode zc_D_copyLiterals 28 = .ok (.goto (-26), 3) := by decide +kernel
theorem zd_D_copyLiterals_31 : decode zc_D_copyLiterals 31 = .ok (.return_, 1) := by decide +kernel
theorem zd_D_copyBack_0 : decode zc_D_copyBack 0 = .ok (.iconst 0, 1) := by decide +kernel
theorem zd_D_copyBack_1 : decode zc_D_copyBack 1 = .ok (.istore_n 3, 1) := by decide +kernel
theorem zd_D_copyBack_2 : decode zc_D_copyBack 2 = .ok (.iload_n 3, 1) := by decide +kernel
theorem zd_D_copyBack_3 : decode zc_D_copyBack 3 = .ok (.iload_n 2, 1) := by decide +kernel
theorem zd_D_copyBack_4 : decode zc_D_copyBack 4 = .ok (.if_icmp .ge 39, 3) := by decide +kernel
theorem zd_D_copyBack_7 : decode zc_D_copyBack 7 = .ok (.aload_n 0, 1) := by decide +kernel
theorem zd_D_copyBack_8 : decode zc_D_copyBack 8 = .ok (.invokevirtual 55, 3) := by decide +kernel
theorem zd_D_copyBack_11 : decode zc_D_copyBack 11 = .ok (.ifCond .ne 32, 3) := by decide +kernel
theorem zd_D_copyBack_14 : decode zc_D_copyBack 14 = .ok (.aload_n 0, 1) := by decide +kernel
theorem zd_D_copyBack_15 : decode zc_D_copyBack 15 = .ok (.getfield 13, 3) := by decide +kernel
theorem zd_D_copyBack_18 : decode zc_D_copyBack 18 = .ok (.aload_n 0, 1) := by decide +kernel
theorem zd_D_copyBack_19 : decode zc_D_copyBack 19 = .ok (.getfield 21, 3) := by decide +kernel
theorem zd_D_copyBack_22 : decode zc_D_copyBack 22 = .ok (.aload_n 0, 1) := by decide +kernel
theorem zd_D_copyBack_23 : decode zc_D_copyBack 23 = .ok (.getfield 21, 3) := by decide +kernel
theorem zd_D_copyBack_26 : decode zc_D_copyBack 26 = .ok (.invokevirtual 52, 3) := by decide +kernel
theorem zd_D_copyBack_29 : decode zc_D_copyBack 29 = .ok (.iload_n 1, 1) := by decide +kernel
theorem zd_D_copyBack_30 : decode zc_D_copyBack 30 = .ok (.isub, 1) := by decide +kernel
theorem zd_D_copyBack_31 : decode zc_D_copyBack 31 = .ok (.invokevirtual 63, 3) := by decide +kernel
theorem zd_D_copyBack_34 : decode zc_D_copyBack 34 = .ok (.invokevirtual 59, 3) := by decide +kernel
theorem zd_D_copyBack_37 : decode zc_D_copyBack 37 = .ok (.iinc 3 1, 3) := by decide +kernel
theorem zd_D_copyBack_40 : decode zc_D_copyBack 40 = .ok (.goto (-38), 3) := by decide +kernel
theorem zd_D_copyBack_43 : decode zc_D_copyBack 43 = .ok (.return_, 1) := by decide +kernel
theorem zd_R_room_0 : decode zc_R_room 0 = .ok (.aload_n 0, 1) := by decide +kernel
theorem zd_R_room_1 : decode zc_R_room 1 = .ok (.getfield 7, 3) := by decide +kernel
theorem zd_R_room_4 : decode zc_R_room 4 = .ok (.arraylength, 1) := by decide +kernel
theorem zd_R_room_5 : decode zc_R_room 5 = .ok (.aload_n 0, 1) := by decide +kernel
theorem zd_R_room_6 : decode zc_R_room 6 = .ok (.getfield 13, 3) := by decide +kernel
theorem zd_R_room_9 : decode zc_R_room 9 = .ok (.isub, 1) := by decide +kernel
end
section
theorem zd_R_room_10 : decode zc_R_room 10 = .ok (.ireturn, 1) := by decide +kernel
theorem zd_R_add_0 : decode zc_R_add 0 = .ok (.aload_n 0, 1) := by decide +kernel
theorem zd_R_add_1 : decode zc_R_add 1 = .ok (.getfield 13, 3) := by decide +kernel
theorem zd_R_add_4 : decode zc_R_add 4 = .ok (.ifCond .lt 36, 3) := by decide +kernel
theorem zd_R_add_7 : decode zc_R_add 7 = .ok (.aload_n 0, 1) := by decide +kernel
theorem zd_R_add_8 : decode zc_R_add 8 = .ok (.getfield 13, 3) := by decide +kernel
theorem zd_R_add_11 : decode zc_R_add 11 = .ok (.aload_n 0, 1) := by decide +kernel
theorem zd_R_add_12 : decode zc_R_add 12 = .ok (.getfield 7, 3) := by decide +kernel
theorem zd_R_add_15 : decode zc_R_add 15 = .ok (.arraylength, 1) := by decide +kernel
theorem zd_R_add_16 : decode zc_R_add 16 = .ok (.if_icmp .ge 24, 3) := by decide +kernel
theorem zd_R_add_19 : decode zc_R_add 19 = .ok (.aload_n 0, 1) := by decide +kernel
theorem zd_R_add_20 : decode zc_R_add 20 = .ok (.getfield 7, 3) := by decide +kernel
theorem zd_R_add_23 : decode zc_R_add 23 = .ok (.aload_n 0, 1) := by decide +kernel
theorem zd_R_add_24 : decode zc_R_add 24 = .ok (.getfield 13, 3) := by decide +kernel
theorem zd_R_add_27 : decode zc_R_add 27 = .ok (.iload_n 1, 1) := by decide +kernel
theorem zd_R_add_28 : decode zc_R_add 28 = .ok (.i2b, 1) := by decide +kernel
theorem zd_R_add_29 : decode zc_R_add 29 = .ok (.bastore, 1) := by decide +kernel
theorem zd_R_add_30 : decode zc_R_add 30 = .ok (.aload_n 0, 1) := by decide +kernel
theorem zd_R_add_31 : decode zc_R_add 31 = .ok (.dup, 1) := by decide +kernel
theorem zd_R_add_32 : decode zc_R_add 32 = .ok (.getfield 13, 3) := by decide +kernel
theorem zd_R_add_35 : decode zc_R_add 35 = .ok (.iconst 1, 1) := by decide +kernel
theorem zd_R_add_36 : decode zc_R_add 36 = .ok (.iadd, 1) := by decide +kernel
theorem zd_R_add_37 : decode zc_R_add 37 = .ok (.putfield 13, 3) := by decide +kernel
theorem zd_R_add_40 : decode zc_R_add 40 = .ok (.return_, 1) := by decide +kernel
theorem zd_R_clear_0 : decode zc_R_clear 0 = .ok (.aload_n 0, 1) := by decide +kernel
theorem zd_R_clear_1 : decode zc_R_clear 1 = .ok (.iconst 0, 1) := by decide +kernel
theorem zd_R_clear_2 : decode zc_R_clear 2 = .ok (.putfield 13, 3) := by decide +kernel
theorem zd_R_clear_5 : decode zc_R_clear 5 = .ok (.return_, 1) := by decide +kernel
theorem zd_R_byteAt_0 : decode zc_R_byteAt 0 = .ok (.iload_n 1, 1) := by decide +kernel
theorem zd_R_byteAt_1 : decode zc_R_byteAt 1 = .ok (.ifCond .lt 33, 3) := by decide +kernel
theorem zd_R_byteAt_4 : decode zc_R_byteAt 4 = .ok (.iload_n 1, 1) := by decide +kernel
theorem zd_R_byteAt_5 : decode zc_R_byteAt 5 = .ok (.aload_n 0, 1) := by decide +kernel
theorem zd_R_byteAt_6 : decode zc_R_byteAt 6 = .ok (.getfield 13, 3) := by decide +kernel
theorem zd_R_byteAt_9 : decode zc_R_byteAt 9 = .ok (.if_icmp .ge 25, 3) := by decide +kernel
theorem zd_R_byteAt_12 : decode zc_R_byteAt 12 = .ok (.iload_n 1, 1) := by decide +kernel
theorem zd_R_byteAt_13 : decode zc_R_byteAt 13 = .ok (.aload_n 0, 1) := by decide +kernel
theorem zd_R_byteAt_14 : decode zc_R_byteAt 14 = .ok (.getfield 7, 3) := by decide +kernel
theorem zd_R_byteAt_17 : decode zc_R_byteAt 17 = .ok (.arraylength, 1) := by decide +kernel
theorem zd_R_byteAt_18 : decode zc_R_byteAt 18 = .ok (.if_icmp .ge 16, 3) := by decide +kernel
theorem zd_R_byteAt_21 : decode zc_R_byteAt 21 = .ok (.aload_n 0, 1) := by decide +kernel
theorem zd_R_byteAt_22 : decode zc_R_byteAt 22 = .ok (.getfield 7, 3) := by decide +kernel
theorem zd_R_byteAt_25 : decode zc_R_byteAt 25 = .ok (.iload_n 1, 1) := by decide +kernel
theorem zd_R_byteAt_26 : decode zc_R_byteAt 26 = .ok (.baload, 1) := by decide +kernel
theorem zd_R_byteAt_27 : decode zc_R_byteAt 27 = .ok (.sipush 255, 3) := by decide +kernel
theorem zd_R_byteAt_30 : decode zc_R_byteAt 30 = .ok (.iand, 1) := by decide +kernel
theorem zd_R_byteAt_31 : decode zc_R_byteAt 31 = .ok (.goto 4, 3) := by decide +kernel
theorem zd_R_byteAt_34 : decode zc_R_byteAt 34 = .ok (.iconst 0, 1) := by decide +kernel
theorem zd_R_byteAt_35 : decode zc_R_byteAt 35 = .ok (.ireturn, 1) := by decide +kernel
theorem zd_R_intAt_0 : decode zc_R_intAt 0 = .ok (.aload_n 0, 1) := by decide +kernel
theorem zd_R_intAt_1 : decode zc_R_intAt 1 = .ok (.iload_n 1, 1) := by decide +kernel
theorem zd_R_intAt_2 : decode zc_R_intAt 2 = .ok (.invokevirtual 17, 3) := by decide +kernel
theorem zd_R_intAt_5 : decode zc_R_intAt 5 = .ok (.aload_n 0, 1) := by decide +kernel
theorem zd_R_intAt_6 : decode zc_R_intAt 6 = .ok (.iload_n 1, 1) := by decide +kernel
theorem zd_R_intAt_7 : decode zc_R_intAt 7 = .ok (.iconst 1, 1) := by decide +kernel
theorem zd_R_intAt_8 : decode zc_R_intAt 8 = .ok (.iadd, 1) := by decide +kernel
theorem zd_R_intAt_9 : decode zc_R_intAt 9 = .ok (.invokevirtual 17, 3) := by decide +kernel
theorem zd_R_intAt_12 : decode zc_R_intAt 12 = .ok (.bipush 8, 2) := by decide +kernel
theorem zd_R_intAt_14 : decode zc_R_intAt 14 = .ok (.ishl, 1) := by decide +kernel
theorem zd_R_intAt_15 : decode zc_R_intAt 15 = .ok (.ior, 1) := by decide +kernel
theorem zd_R_intAt_16 : decode zc_R_intAt 16 = .ok (.aload_n 0, 1) := by decide +kernel
theorem zd_R_intAt_17 : decode zc_R_intAt 17 = .ok (.iload_n 1, 1) := by decide +kernel
theorem zd_R_intAt_18 : decode zc_R_intAt 18 = .ok (.iconst 2, 1) := by decide +kernel
theorem zd_R_intAt_19 : decode zc_R_intAt 19 = .ok (.iadd, 1) := by decide +kernel
theorem zd_R_intAt_20 : decode zc_R_intAt 20 = .ok (.invokevirtual 17, 3) := by decide +kernel
theorem zd_R_intAt_23 : decode zc_R_intAt 23 = .ok (.bipush 16, 2) := by decide +kernel
theorem zd_R_intAt_25 : decode zc_R_intAt 25 = .ok (.ishl, 1) := by decide +kernel
theorem zd_R_intAt_26 : decode zc_R_intAt 26 = .ok (.ior, 1) := by decide +kernel
theorem zd_R_intAt_27 : decode zc_R_intAt 27 = .ok (.aload_n 0, 1) := by decide +kernel
theorem zd_R_intAt_28 : decode zc_R_intAt 28 = .ok (.iload_n 1, 1) := by decide +kernel
theorem zd_R_intAt_29 : decode zc_R_intAt 29 = .ok (.iconst 3, 1) := by decide +kernel
theorem zd_R_intAt_30 : decode zc_R_intAt 30 = .ok (.iadd, 1) := by decide +kernel
theorem zd_R_intAt_31 : decode zc_R_intAt 31 = .ok (.invokevirtual 17, 3) := by decide +kernel
theorem zd_R_intAt_34 : decode zc_R_intAt 34 = .ok (.bipush 24, 2) := by decide +kernel
theorem zd_R_intAt_36 : decode zc_R_intAt 36 = .ok (.ishl, 1) := by decide +kernel
theorem zd_R_intAt_37 : decode zc_R_intAt 37 = .ok (.ior, 1) := by decide +kernel
theorem zd_R_intAt_38 : decode zc_R_intAt 38 = .ok (.ireturn, 1) := by decide +kernel
theorem zd_R_become_0 : decode zc_R_become 0 = .ok (.aload_n 0, 1) := by decide +kernel
theorem zd_R_become_1 : decode zc_R_become 1 = .ok (.invokevirtual 21, 3) := by decide +kernel
theorem zd_R_become_4 : decode zc_R_become 4 = .ok (.iconst 0, 1) := by decide +kernel
theorem zd_R_become_5 : decode zc_R_become 5 = .ok (.istore_n 2, 1) := by decide +kernel
theorem zd_R_become_6 : decode zc_R_become 6 = .ok (.iload_n 2, 1) := by decide +kernel
theorem zd_R_become_7 : decode zc_R_become 7 = .ok (.aload_n 1, 1) := by decide +kernel
theorem zd_R_become_8 : decode zc_R_become 8 = .ok (.getfield 13, 3) := by decide +kernel
theorem zd_R_become_11 : decode zc_R_become 11 = .ok (.if_icmp .ge 18, 3) := by decide +kernel
theorem zd_R_become_14 : decode zc_R_become 14 = .ok (.aload_n 0, 1) := by decide +kernel
theorem zd_R_become_15 : decode zc_R_become 15 = .ok (.aload_n 1, 1) := by decide +kernel
theorem zd_R_become_16 : decode zc_R_become 16 = .ok (.iload_n 2, 1) := by decide +kernel
theorem zd_R_become_17 : decode zc_R_become 17 = .ok (.invokevirtual 17, 3) := by decide +kernel
theorem zd_R_become_20 : decode zc_R_become 20 = .ok (.invokevirtual 24, 3) := by decide +kernel
theorem zd_R_become_23 : decode zc_R_become 23 = .ok (.iinc 2 1, 3) := by decide +kernel
theorem zd_R_become_26 : decode zc_R_become 26 = .ok (.goto (-20), 3) := by decide +kernel
theorem zd_R_become_29 : decode zc_R_become 29 = .ok (.return_, 1) := by decide +kernel
theorem zd_SR_readAll_0 : decode zc_SR_readAll 0 = .ok (.iconst 1, 1) := by decide +kernel
theorem zd_SR_readAll_1 : decode zc_SR_readAll 1 = .ok (.istore_n 1, 1) := by decide +kernel
theorem zd_SR_readAll_2 : decode zc_SR_readAll 2 = .ok (.iconst 0, 1) := by decide +kernel
theorem zd_SR_readAll_3 : decode zc_SR_readAll 3 = .ok (.istore_n 2, 1) := by decide +kernel
theorem zd_SR_readAll_4 : decode zc_SR_readAll 4 = .ok (.iload_n 2, 1) := by decide +kernel
theorem zd_SR_readAll_5 : decode zc_SR_readAll 5 = .ok (.aload_n 0, 1) := by decide +kernel
theorem zd_SR_readAll_6 : decode zc_SR_readAll 6 = .ok (.getfield 9, 3) := by decide +kernel
theorem zd_SR_readAll_9 : decode zc_SR_readAll 9 = .ok (.getfield 15, 3) := by decide +kernel
theorem zd_SR_readAll_12 : decode zc_SR_readAll 12 = .ok (.if_icmp .gt 18, 3) := by decide +kernel
theorem zd_SR_readAll_15 : decode zc_SR_readAll 15 = .ok (.iload_n 1, 1) := by decide +kernel
theorem zd_SR_readAll_16 : decode zc_SR_readAll 16 = .ok (.ifCond .eq 14, 3) := by decide +kernel
theorem zd_SR_readAll_19 : decode zc_SR_readAll 19 = .ok (.aload_n 0, 1) := by decide +kernel
theorem zd_SR_readAll_20 : decode zc_SR_readAll 20 = .ok (.invokevirtual 21, 3) := by decide +kernel
theorem zd_SR_readAll_23 : decode zc_SR_readAll 23 = .ok (.istore_n 1, 1) := by decide +kernel
theorem zd_SR_readAll_24 : decode zc_SR_readAll 24 = .ok (.iinc 2 1, 3) := by decide +kernel
theorem zd_SR_readAll_27 : decode zc_SR_readAll 27 = .ok (.goto (-23), 3) := by decide +kernel
theorem zd_SR_readAll_30 : decode zc_SR_readAll 30 = .ok (.return_, 1) := by decide +kernel
theorem zd_SR_readSequence_0 : decode zc_SR_readSequence 0 = .ok (.aload_n 0, 1) := by decide +kernel
theorem zd_SR_readSequence_1 : decode zc_SR_readSequence 1 = .ok (.getfield 25, 3) := by decide +kernel
theorem zd_SR_readSequence_4 : decode zc_SR_readSequence 4 = .ok (.istore_n 1, 1) := by decide +kernel
theorem zd_SR_readSequence_5 : decode zc_SR_readSequence 5 = .ok (.aload_n 0, 1) := by decide +kernel
theorem zd_SR_readSequence_6 : decode zc_SR_readSequence 6 = .ok (.invokevirtual 28, 3) := by decide +kernel
theorem zd_SR_readSequence_9 : decode zc_SR_readSequence 9 = .ok (.istore_n 2, 1) := by decide +kernel
theorem zd_SR_readSequence_10 : decode zc_SR_readSequence 10 = .ok (.aload_n 0, 1) := by decide +kernel
theorem zd_SR_readSequence_11 : decode zc_SR_readSequence 11 = .ok (.iload_n 2, 1) := by decide +kernel
theorem zd_SR_readSequence_12 : decode zc_SR_readSequence 12 = .ok (.iconst 4, 1) := by decide +kernel
theorem zd_SR_readSequence_13 : decode zc_SR_readSequence 13 = .ok (.ishr, 1) := by decide +kernel
theorem zd_SR_readSequence_14 : decode zc_SR_readSequence 14 = .ok (.invokevirtual 32, 3) := by decide +kernel
theorem zd_SR_readSequence_17 : decode zc_SR_readSequence 17 = .ok (.istore_n 3, 1) := by decide +kernel
theorem zd_SR_readSequence_18 : decode zc_SR_readSequence 18 = .ok (.aload_n 0, 1) := by decide +kernel
theorem zd_SR_readSequence_19 : decode zc_SR_readSequence 19 = .ok (.iload_n 3, 1) := by decide +kernel
theorem zd_SR_readSequence_20 : decode zc_SR_readSequence 20 = .ok (.sipush 160, 3) := by decide +kernel
theorem zd_SR_readSequence_23 : decode zc_SR_readSequence 23 = .ok (.iload_n 1, 1) := by decide +kernel
theorem zd_SR_readSequence_24 : decode zc_SR_readSequence 24 = .ok (.invokevirtual 36, 3) := by decide +kernel
theorem zd_SR_readSequence_27 : decode zc_SR_readSequence 27 = .ok (.aload_n 0, 1) := by decide +kernel
theorem zd_SR_readSequence_28 : decode zc_SR_readSequence 28 = .ok (.iload_n 3, 1) := by decide +kernel
theorem zd_SR_readSequence_29 : decode zc_SR_readSequence 29 = .ok (.invokevirtual 40, 3) := by decide +kernel
theorem zd_SR_readSequence_32 : decode zc_SR_readSequence 32 = .ok (.aload_n 0, 1) := by decide +kernel
theorem zd_SR_readSequence_33 : decode zc_SR_readSequence 33 = .ok (.invokevirtual 44, 3) := by decide +kernel
theorem zd_SR_readSequence_36 : decode zc_SR_readSequence 36 = .ok (.ifCond .ne 10, 3) := by decide +kernel
theorem zd_SR_readSequence_39 : decode zc_SR_readSequence 39 = .ok (.aload_n 0, 1) := by decide +kernel
theorem zd_SR_readSequence_40 : decode zc_SR_readSequence 40 = .ok (.invokevirtual 47, 3) := by decide +kernel
theorem zd_SR_readSequence_43 : decode zc_SR_readSequence 43 = .ok (.ifCond .eq 5, 3) := by decide +kernel
theorem zd_SR_readSequence_46 : decode zc_SR_readSequence 46 = .ok (.iconst 0, 1) := by decide +kernel
theorem zd_SR_readSequence_47 : decode zc_SR_readSequence 47 = .ok (.ireturn, 1) := by decide +kernel
theorem zd_SR_readSequence_48 : decode zc_SR_readSequence 48 = .ok (.aload_n 0, 1) := by decide +kernel
theorem zd_SR_readSequence_49 : decode zc_SR_readSequence 49 = .ok (.getfield 25, 3) := by decide +kernel
theorem zd_SR_readSequence_52 : decode zc_SR_readSequence 52 = .ok (.istore 4, 2) := by decide +kernel
theorem zd_SR_readSequence_54 : decode zc_SR_readSequence 54 = .ok (.aload_n 0, 1) := by decide +kernel
theorem zd_SR_readSequence_55 : decode zc_SR_readSequence 55 = .ok (.invokevirtual 50, 3) := by decide +kernel
theorem zd_SR_readSequence_58 : decode zc_SR_readSequence 58 = .ok (.istore 5, 2) := by decide +kernel
theorem zd_SR_readSequence_60 : decode zc_SR_readSequence 60 = .ok (.aload_n 0, 1) := by decide +kernel
theorem zd_SR_readSequence_61 : decode zc_SR_readSequence 61 = .ok (.iload 5, 2) := by decide +kernel
theorem zd_SR_readSequence_63 : decode zc_SR_readSequence 63 = .ok (.iload 4, 2) := by decide +kernel
theorem zd_SR_readSequence_65 : decode zc_SR_readSequence 65 = .ok (.invokevirtual 53, 3) := by decide +kernel
theorem zd_SR_readSequence_68 : decode zc_SR_readSequence 68 = .ok (.aload_n 0, 1) := by decide +kernel
theorem zd_SR_readSequence_69 : decode zc_SR_readSequence 69 = .ok (.iload_n 2, 1) := by decide +kernel
theorem zd_SR_readSequence_70 : decode zc_SR_readSequence 70 = .ok (.bipush 15, 2) := by decide +kernel
theorem zd_SR_readSequence_72 : decode zc_SR_readSequence 72 = .ok (.iand, 1) := by decide +kernel
theorem zd_SR_readSequence_73 : decode zc_SR_readSequence 73 = .ok (.invokevirtual 32, 3) := by decide +kernel
theorem zd_SR_readSequence_76 : decode zc_SR_readSequence 76 = .ok (.iconst 4, 1) := by decide +kernel
theorem zd_SR_readSequence_77 : decode zc_SR_readSequence 77 = .ok (.iadd, 1) := by decide +kernel
theorem zd_SR_readSequence_78 : decode zc_SR_readSequence 78 = .ok (.istore 6, 2) := by decide +kernel
theorem zd_SR_readSequence_80 : decode zc_SR_readSequence 80 = .ok (.aload_n 0, 1) := by decide +kernel
theorem zd_SR_readSequence_81 : decode zc_SR_readSequence 81 = .ok (.iload 6, 2) := by decide +kernel
theorem zd_SR_readSequence_83 : decode zc_SR_readSequence 83 = .ok (.sipush 160, 3) := by decide +kernel
theorem zd_SR_readSequence_86 : decode zc_SR_readSequence 86 = .ok (.iload_n 1, 1) := by decide +kernel
theorem zd_SR_readSequence_87 : decode zc_SR_readSequence 87 = .ok (.invokevirtual 36, 3) := by decide +kernel
theorem zd_SR_readSequence_90 : decode zc_SR_readSequence 90 = .ok (.aload_n 0, 1) := by decide +kernel
theorem zd_SR_readSequence_91 : decode zc_SR_readSequence 91 = .ok (.iload 5, 2) := by decide +kernel
theorem zd_SR_readSequence_93 : decode zc_SR_readSequence 93 = .ok (.iload 6, 2) := by decide +kernel
theorem zd_SR_readSequence_95 : decode zc_SR_readSequence 95 = .ok (.invokevirtual 57, 3) := by decide +kernel
theorem zd_SR_readSequence_98 : decode zc_SR_readSequence 98 = .ok (.aload_n 0, 1) := by decide +kernel
theorem zd_SR_readSequence_99 : decode zc_SR_readSequence 99 = .ok (.invokevirtual 44, 3) := by decide +kernel
theorem zd_SR_readSequence_102 : decode zc_SR_readSequence 102 = .ok (.ifCond .ne 7, 3) := by decide +kernel
theorem zd_SR_readSequence_105 : decode zc_SR_readSequence 105 = .ok (.iconst 1, 1) := by decide +kernel
theorem zd_SR_readSequence_106 : decode zc_SR_readSequence 106 = .ok (.goto 4, 3) := by decide +kernel
theorem zd_SR_readSequence_109 : decode zc_SR_readSequence 109 = .ok (.iconst 0, 1) := by decide +kernel
theorem zd_SR_readSequence_110 : decode zc_SR_readSequence 110 = .ok (.ireturn, 1) := by decide +kernel
theorem zd_SR_takeSum_0 : decode zc_SR_takeSum 0 = .ok (.iload_n 1, 1) := by decide +kernel
theorem zd_SR_takeSum_1 : decode zc_SR_takeSum 1 = .ok (.istore_n 2, 1) := by decide +kernel
theorem zd_SR_takeSum_2 : decode zc_SR_takeSum 2 = .ok (.iload_n 1, 1) := by decide +kernel
theorem zd_SR_takeSum_3 : decode zc_SR_takeSum 3 = .ok (.bipush 15, 2) := by decide +kernel
theorem zd_SR_takeSum_5 : decode zc_SR_takeSum 5 = .ok (.if_icmp .ne 9, 3) := by decide +kernel
theorem zd_SR_takeSum_8 : decode zc_SR_takeSum 8 = .ok (.sipush 255, 3) := by decide +kernel
theorem zd_SR_takeSum_11 : decode zc_SR_takeSum 11 = .ok (.goto 4, 3) := by decide +kernel
theorem zd_SR_takeSum_14 : decode zc_SR_takeSum 14 = .ok (.iconst 0, 1) := by decide +kernel
theorem zd_SR_takeSum_15 : decode zc_SR_takeSum 15 = .ok (.istore_n 3, 1) := by decide +kernel
theorem zd_SR_takeSum_16 : decode zc_SR_takeSum 16 = .ok (.iconst 0, 1) := by decide +kernel
theorem zd_SR_takeSum_17 : decode zc_SR_takeSum 17 = .ok (.istore 4, 2) := by decide +kernel
theorem zd_SR_takeSum_19 : decode zc_SR_takeSum 19 = .ok (.iload 4, 2) := by decide +kernel
theorem zd_SR_takeSum_21 : decode zc_SR_takeSum 21 = .ok (.aload_n 0, 1) := by decide +kernel
theorem zd_SR_takeSum_22 : decode zc_SR_takeSum 22 = .ok (.getfield 9, 3) := by decide +kernel
theorem zd_SR_takeSum_25 : decode zc_SR_takeSum 25 = .ok (.getfield 15, 3) := by decide +kernel
theorem zd_SR_takeSum_28 : decode zc_SR_takeSum 28 = .ok (.if_icmp .gt 25, 3) := by decide +kernel
theorem zd_SR_takeSum_31 : decode zc_SR_takeSum 31 = .ok (.iload_n 3, 1) := by decide +kernel
theorem zd_SR_takeSum_32 : decode zc_SR_takeSum 32 = .ok (.sipush 255, 3) := by decide +kernel
theorem zd_SR_takeSum_35 : decode zc_SR_takeSum 35 = .ok (.if_icmp .ne 18, 3) := by decide +kernel
theorem zd_SR_takeSum_38 : decode zc_SR_takeSum 38 = .ok (.aload_n 0, 1) := by decide +kernel
theorem zd_SR_takeSum_39 : decode zc_SR_takeSum 39 = .ok (.invokevirtual 28, 3) := by decide +kernel
theorem zd_SR_takeSum_42 : decode zc_SR_takeSum 42 = .ok (.istore_n 3, 1) := by decide +kernel
theorem zd_SR_takeSum_43 : decode zc_SR_takeSum 43 = .ok (.iload_n 2, 1) := by decide +kernel
theorem zd_SR_takeSum_44 : decode zc_SR_takeSum 44 = .ok (.iload_n 3, 1) := by decide +kernel
theorem zd_SR_takeSum_45 : decode zc_SR_takeSum 45 = .ok (.iadd, 1) := by decide +kernel
theorem zd_SR_takeSum_46 : decode zc_SR_takeSum 46 = .ok (.istore_n 2, 1) := by decide +kernel
theorem zd_SR_takeSum_47 : decode zc_SR_takeSum 47 = .ok (.iinc 4 1, 3) := by decide +kernel
theorem zd_SR_takeSum_50 : decode zc_SR_takeSum 50 = .ok (.goto (-31), 3) := by decide +kernel
theorem zd_SR_takeSum_53 : decode zc_SR_takeSum 53 = .ok (.iload_n 2, 1) := by decide +kernel
theorem zd_SR_takeSum_54 : decode zc_SR_takeSum 54 = .ok (.ireturn, 1) := by decide +kernel
theorem zd_SW_begin_0 : decode zc_SW_begin 0 = .ok (.aload_n 0, 1) := by decide +kernel
theorem zd_SW_begin_1 : decode zc_SW_begin 1 = .ok (.getfield 7, 3) := by decide +kernel
theorem zd_SW_begin_4 : decode zc_SW_begin 4 = .ok (.invokevirtual 13, 3) := by decide +kernel
theorem zd_SW_begin_7 : decode zc_SW_begin 7 = .ok (.return_, 1) := by decide +kernel
theorem zd_SW_match_0 : decode zc_SW_match 0 = .ok (.iload 4, 2) := by decide +kernel
theorem zd_SW_match_2 : decode zc_SW_match 2 = .ok (.iconst 4, 1) := by decide +kernel
theorem zd_SW_match_3 : decode zc_SW_match 3 = .ok (.isub, 1) := by decide +kernel
theorem zd_SW_match_4 : decode zc_SW_match 4 = .ok (.istore 5, 2) := by decide +kernel
theorem zd_SW_match_6 : decode zc_SW_match 6 = .ok (.aload_n 0, 1) := by decide +kernel
theorem zd_SW_match_7 : decode zc_SW_match 7 = .ok (.iload_n 1, 1) := by decide +kernel
theorem zd_SW_match_8 : decode zc_SW_match 8 = .ok (.iload_n 2, 1) := by decide +kernel
theorem zd_SW_match_9 : decode zc_SW_match 9 = .ok (.iload 5, 2) := by decide +kernel
theorem zd_SW_match_11 : decode zc_SW_match 11 = .ok (.bipush 15, 2) := by decide +kernel
theorem zd_SW_match_13 : decode zc_SW_match 13 = .ok (.invokestatic 19, 3) := by decide +kernel
theorem zd_SW_match_16 : decode zc_SW_match 16 = .ok (.invokevirtual 25, 3) := by decide +kernel
theorem zd_SW_match_19 : decode zc_SW_match 19 = .ok (.aload_n 0, 1) := by decide +kernel
theorem zd_SW_match_20 : decode zc_SW_match 20 = .ok (.getfield 7, 3) := by decide +kernel
theorem zd_SW_match_23 : decode zc_SW_match 23 = .ok (.iload_n 3, 1) := by decide +kernel
theorem zd_SW_match_24 : decode zc_SW_match 24 = .ok (.invokevirtual 29, 3) := by decide +kernel
theorem zd_SW_match_27 : decode zc_SW_match 27 = .ok (.aload_n 0, 1) := by decide +kernel
theorem zd_SW_match_28 : decode zc_SW_match 28 = .ok (.getfield 7, 3) := by decide +kernel
theorem zd_SW_match_31 : decode zc_SW_match 31 = .ok (.iload_n 3, 1) := by decide +kernel
theorem zd_SW_match_32 : decode zc_SW_match 32 = .ok (.bipush 8, 2) := by decide +kernel
theorem zd_SW_match_34 : decode zc_SW_match 34 = .ok (.ishr, 1) := by decide +kernel
theorem zd_SW_match_35 : decode zc_SW_match 35 = .ok (.invokevirtual 29, 3) := by decide +kernel
theorem zd_SW_match_38 : decode zc_SW_match 38 = .ok (.aload_n 0, 1) := by decide +kernel
theorem zd_SW_match_39 : decode zc_SW_match 39 = .ok (.iload 5, 2) := by decide +kernel
theorem zd_SW_match_41 : decode zc_SW_match 41 = .ok (.invokevirtual 33, 3) := by decide +kernel
theorem zd_SW_match_44 : decode zc_SW_match 44 = .ok (.return_, 1) := by decide +kernel
theorem zd_SW_end_0 : decode zc_SW_end 0 = .ok (.aload_n 0, 1) := by decide +kernel
theorem zd_SW_end_1 : decode zc_SW_end 1 = .ok (.iload_n 1, 1) := by decide +kernel
theorem zd_SW_end_2 : decode zc_SW_end 2 = .ok (.aload_n 0, 1) := by decide +kernel
theorem zd_SW_end_3 : decode zc_SW_end 3 = .ok (.getfield 36, 3) := by decide +kernel
theorem zd_SW_end_6 : decode zc_SW_end 6 = .ok (.getfield 39, 3) := by decide +kernel
theorem zd_SW_end_9 : decode zc_SW_end 9 = .ok (.iconst 0, 1) := by decide +kernel
theorem zd_SW_end_10 : decode zc_SW_end 10 = .ok (.invokevirtual 25, 3) := by decide +kernel
theorem zd_SW_end_13 : decode zc_SW_end 13 = .ok (.return_, 1) := by decide +kernel
theorem zd_SW_writeLiterals_0 : decode zc_SW_writeLiterals 0 = .ok (.iload_n 2, 1) := by decide +kernel
theorem zd_SW_writeLiterals_1 : decode zc_SW_writeLiterals 1 = .ok (.iload_n 1, 1) := by decide +kernel
theorem zd_SW_writeLiterals_2 : decode zc_SW_writeLiterals 2 = .ok (.isub, 1) := by decide +kernel
theorem zd_SW_writeLiterals_3 : decode zc_SW_writeLiterals 3 = .ok (.istore 4, 2) := by decide +kernel
theorem zd_SW_writeLiterals_5 : decode zc_SW_writeLiterals 5 = .ok (.aload_n 0, 1) := by decide +kernel
theorem zd_SW_writeLiterals_6 : decode zc_SW_writeLiterals 6 = .ok (.getfield 7, 3) := by decide +kernel
theorem zd_SW_writeLiterals_9 : decode zc_SW_writeLiterals 9 = .ok (.iload 4, 2) := by decide +kernel
theorem zd_SW_writeLiterals_11 : decode zc_SW_writeLiterals 11 = .ok (.bipush 15, 2) := by decide +kernel
theorem zd_SW_writeLiterals_13 : decode zc_SW_writeLiterals 13 = .ok (.invokestatic 19, 3) := by decide +kernel
theorem zd_SW_writeLiterals_16 : decode zc_SW_writeLiterals 16 = .ok (.iconst 4, 1) := by decide +kernel
theorem zd_SW_writeLiterals_17 : decode zc_SW_writeLiterals 17 = .ok (.ishl, 1) := by decide +kernel
theorem zd_SW_writeLiterals_18 : decode zc_SW_writeLiterals 18 = .ok (.iload_n 3, 1) := by decide +kernel
theorem zd_SW_writeLiterals_19 : decode zc_SW_writeLiterals 19 = .ok (.ior, 1) := by decide +kernel
theorem zd_SW_writeLiterals_20 : decode zc_SW_writeLiterals 20 = .ok (.invokevirtual 29, 3) := by decide +kernel
theorem zd_SW_writeLiterals_23 : decode zc_SW_writeLiterals 23 = .ok (.aload_n 0, 1) := by decide +kernel
theorem zd_SW_writeLiterals_24 : decode zc_SW_writeLiterals 24 = .ok (.iload 4, 2) := by decide +kernel
theorem zd_SW_writeLiterals_26 : decode zc_SW_writeLiterals 26 = .ok (.invokevirtual 33, 3) := by decide +kernel
theorem zd_SW_writeLiterals_29 : decode zc_SW_writeLiterals 29 = .ok (.aload_n 0, 1) := by decide +kernel
theorem zd_SW_writeLiterals_30 : decode zc_SW_writeLiterals 30 = .ok (.iload_n 1, 1) := by decide +kernel
theorem zd_SW_writeLiterals_31 : decode zc_SW_writeLiterals 31 = .ok (.iload_n 2, 1) := by decide +kernel
theorem zd_SW_writeLiterals_32 : decode zc_SW_writeLiterals 32 = .ok (.invokevirtual 43, 3) := by decide +kernel
theorem zd_SW_writeLiterals_35 : decode zc_SW_writeLiterals 35 = .ok (.return_, 1) := by decide +kernel
theorem zd_SW_writeSum_0 : decode zc_SW_writeSum 0 = .ok (.iload_n 1, 1) := by decide +kernel
theorem zd_SW_writeSum_1 : decode zc_SW_writeSum 1 = .ok (.bipush 15, 2) := by decide +kernel
theorem zd_SW_writeSum_3 : decode zc_SW_writeSum 3 = .ok (.if_icmp .ge 4, 3) := by decide +kernel
theorem zd_SW_writeSum_6 : decode zc_SW_writeSum 6 = .ok (.return_, 1) := by decide +kernel
theorem zd_SW_writeSum_7 : decode zc_SW_writeSum 7 = .ok (.iload_n 1, 1) := by decide +kernel
theorem zd_SW_writeSum_8 : decode zc_SW_writeSum 8 = .ok (.bipush 15, 2) := by decide +kernel
theorem zd_SW_writeSum_10 : decode zc_SW_writeSum 10 = .ok (.isub, 1) := by decide +kernel
theorem zd_SW_writeSum_11 : decode zc_SW_writeSum 11 = .ok (.istore_n 2, 1) := by decide +kernel
theorem zd_SW_writeSum_12 : decode zc_SW_writeSum 12 = .ok (.iload_n 2, 1) := by decide +kernel
theorem zd_SW_writeSum_13 : decode zc_SW_writeSum 13 = .ok (.sipush 255, 3) := by decide +kernel
theorem zd_SW_writeSum_16 : decode zc_SW_writeSum 16 = .ok (.if_icmp .lt 22, 3) := by decide +kernel
theorem zd_SW_writeSum_19 : decode zc_SW_writeSum 19 = .ok (.aload_n 0, 1) := by decide +kernel
theorem zd_SW_writeSum_20 : decode zc_SW_writeSum 20 = .ok (.getfield 7, 3) := by decide +kernel
theorem zd_SW_writeSum_23 : decode zc_SW_writeSum 23 = .ok (.sipush 255, 3) := by decide +kernel
theorem zd_SW_writeSum_26 : decode zc_SW_writeSum 26 = .ok (.invokevirtual 29, 3) := by decide +kernel
theorem zd_SW_writeSum_29 : decode zc_SW_writeSum 29 = .ok (.iinc 2 (-255), 6) := by decide +kernel
theorem zd_SW_writeSum_35 : decode zc_SW_writeSum 35 = .ok (.goto (-23), 3) := by decide +kernel
theorem zd_SW_writeSum_38 : decode zc_SW_writeSum 38 = .ok (.aload_n 0, 1) := by decide +kernel
theorem zd_SW_writeSum_39 : decode zc_SW_writeSum 39 = .ok (.getfield 7, 3) := by decide +kernel
theorem zd_SW_writeSum_42 : decode zc_SW_writeSum 42 = .ok (.iload_n 2, 1) := by decide +kernel
theorem zd_SW_writeSum_43 : decode zc_SW_writeSum 43 = .ok (.invokevirtual 29, 3) := by decide +kernel
theorem zd_SW_writeSum_46 : decode zc_SW_writeSum 46 = .ok (.return_, 1) := by decide +kernel
theorem zd_W_writePlain_0 : decode zc_W_writePlain 0 = .ok (.iload_n 1, 1) := by decide +kernel
theorem zd_W_writePlain_1 : decode zc_W_writePlain 1 = .ok (.istore_n 3, 1) := by decide +kernel
theorem zd_W_writePlain_2 : decode zc_W_writePlain 2 = .ok (.iload_n 3, 1) := by decide +kernel
theorem zd_W_writePlain_3 : decode zc_W_writePlain 3 = .ok (.iload_n 2, 1) := by decide +kernel
theorem zd_W_writePlain_4 : decode zc_W_writePlain 4 = .ok (.if_icmp .ge 24, 3) := by decide +kernel
theorem zd_W_writePlain_7 : decode zc_W_writePlain 7 = .ok (.aload_n 0, 1) := by decide +kernel
theorem zd_W_writePlain_8 : decode zc_W_writePlain 8 = .ok (.getfield 13, 3) := by decide +kernel
theorem zd_W_writePlain_11 : decode zc_W_writePlain 11 = .ok (.aload_n 0, 1) := by decide +kernel
theorem zd_W_writePlain_12 : decode zc_W_writePlain 12 = .ok (.getfield 7, 3) := by decide +kernel
theorem zd_W_writePlain_15 : decode zc_W_writePlain 15 = .ok (.iload_n 3, 1) := by decide +kernel
theorem zd_W_writePlain_16 : decode zc_W_writePlain 16 = .ok (.invokevirtual 16, 3) := by decide +kernel
theorem zd_W_writePlain_19 : decode zc_W_writePlain 19 = .ok (.invokevirtual 22, 3) := by decide +kernel
theorem zd_W_writePlain_22 : decode zc_W_writePlain 22 = .ok (.iinc 3 1, 3) := by decide +kernel
theorem zd_W_writePlain_25 : decode zc_W_writePlain 25 = .ok (.goto (-23), 3) := by decide +kernel
theorem zd_W_writePlain_28 : decode zc_W_writePlain 28 = .ok (.return_, 1) := by decide +kernel
theorem zd_X_put_0 : decode zc_X_put 0 = .ok (.aload_n 0, 1) := by decide +kernel
theorem zd_X_put_1 : decode zc_X_put 1 = .ok (.iload_n 1, 1) := by decide +kernel
theorem zd_X_put_2 : decode zc_X_put 2 = .ok (.invokevirtual 64, 3) := by decide +kernel
theorem zd_X_put_5 : decode zc_X_put 5 = .ok (.astore 5, 2) := by decide +kernel
theorem zd_X_put_7 : decode zc_X_put 7 = .ok (.iload 4, 2) := by decide +kernel
theorem zd_X_put_9 : decode zc_X_put 9 = .ok (.iconst 1, 1) := by decide +kernel
theorem zd_X_put_10 : decode zc_X_put 10 = .ok (.if_icmp .lt 10, 3) := by decide +kernel
theorem zd_X_put_13 : decode zc_X_put 13 = .ok (.iload 4, 2) := by decide +kernel
theorem zd_X_put_15 : decode zc_X_put 15 = .ok (.bipush 8, 2) := by decide +kernel
theorem zd_X_put_17 : decode zc_X_put 17 = .ok (.if_icmp .le 13, 3) := by decide +kernel
theorem zd_X_put_20 : decode zc_X_put 20 = .ok (.new 68, 3) := by decide +kernel
theorem zd_X_put_23 : decode zc_X_put 23 = .ok (.dup, 1) := by decide +kernel
theorem zd_X_put_24 : decode zc_X_put 24 = .ok (.ldc 70, 2) := by decide +kernel
theorem zd_X_put_26 : decode zc_X_put 26 = .ok (.invokespecial 72, 3) := by decide +kernel
theorem zd_X_put_29 : decode zc_X_put 29 = .ok (.athrow, 1) := by decide +kernel
theorem zd_X_put_30 : decode zc_X_put 30 = .ok (.iload 4, 2) := by decide +kernel
theorem zd_X_put_32 : decode zc_X_put 32 = .ok (.aload 5, 2) := by decide +kernel
theorem zd_X_put_34 : decode zc_X_put 34 = .ok (.invokevirtual 75, 3) := by decide +kernel
theorem zd_X_put_37 : decode zc_X_put 37 = .ok (.if_icmp .le 13, 3) := by decide +kernel
theorem zd_X_put_40 : decode zc_X_put 40 = .ok (.new 79, 3) := by decide +kernel
theorem zd_X_put_43 : decode zc_X_put 43 = .ok (.dup, 1) := by decide +kernel
theorem zd_X_put_44 : decode zc_X_put 44 = .ok (.ldc 81, 2) := by decide +kernel
theorem zd_X_put_46 : decode zc_X_put 46 = .ok (.invokespecial 83, 3) := by decide +kernel
theorem zd_X_put_49 : decode zc_X_put 49 = .ok (.athrow, 1) := by decide +kernel
theorem zd_X_put_50 : decode zc_X_put 50 = .ok (.iconst 0, 1) := by decide +kernel
theorem zd_X_put_51 : decode zc_X_put 51 = .ok (.istore 6, 2) := by decide +kernel
theorem zd_X_put_53 : decode zc_X_put 53 = .ok (.iload 6, 2) := by decide +kernel
theorem zd_X_put_55 : decode zc_X_put 55 = .ok (.iload 4, 2) := by decide +kernel
theorem zd_X_put_57 : decode zc_X_put 57 = .ok (.if_icmp .ge 22, 3) := by decide +kernel
theorem zd_X_put_60 : decode zc_X_put 60 = .ok (.aload 5, 2) := by decide +kernel
theorem zd_X_put_62 : decode zc_X_put 62 = .ok (.lload_n 2, 1) := by decide +kernel
theorem zd_X_put_63 : decode zc_X_put 63 = .ok (.bipush 8, 2) := by decide +kernel
theorem zd_X_put_65 : decode zc_X_put 65 = .ok (.iload 6, 2) := by decide +kernel
theorem zd_X_put_67 : decode zc_X_put 67 = .ok (.imul, 1) := by decide +kernel
theorem zd_X_put_68 : decode zc_X_put 68 = .ok (.lushr, 1) := by decide +kernel
theorem zd_X_put_69 : decode zc_X_put 69 = .ok (.l2i, 1) := by decide +kernel
theorem zd_X_put_70 : decode zc_X_put 70 = .ok (.invokevirtual 84, 3) := by decide +kernel
theorem zd_X_put_73 : decode zc_X_put 73 = .ok (.iinc 6 1, 3) := by decide +kernel
theorem zd_X_put_76 : decode zc_X_put 76 = .ok (.goto (-23), 3) := by decide +kernel
theorem zd_X_put_79 : decode zc_X_put 79 = .ok (.return_, 1) := by decide +kernel
theorem zd_X_empty_0 : decode zc_X_empty 0 = .ok (.aload_n 0, 1) := by decide +kernel
theorem zd_X_empty_1 : decode zc_X_empty 1 = .ok (.iload_n 1, 1) := by decide +kernel
theorem zd_X_empty_2 : decode zc_X_empty 2 = .ok (.invokevirtual 64, 3) := by decide +kernel
theorem zd_X_empty_5 : decode zc_X_empty 5 = .ok (.astore_n 2, 1) := by decide +kernel
theorem zd_X_empty_6 : decode zc_X_empty 6 = .ok (.aload_n 2, 1) := by decide +kernel
theorem zd_X_empty_7 : decode zc_X_empty 7 = .ok (.getfield 87, 3) := by decide +kernel
theorem zd_X_empty_10 : decode zc_X_empty 10 = .ok (.istore_n 3, 1) := by decide +kernel
theorem zd_X_empty_11 : decode zc_X_empty 11 = .ok (.aload_n 2, 1) := by decide +kernel
theorem zd_X_empty_12 : decode zc_X_empty 12 = .ok (.invokevirtual 91, 3) := by decide +kernel
theorem zd_X_empty_15 : decode zc_X_empty 15 = .ok (.iload_n 3, 1) := by decide +kernel
theorem zd_X_empty_16 : decode zc_X_empty 16 = .ok (.ireturn, 1) := by decide +kernel
theorem zd_X_pack_0 : decode zc_X_pack 0 = .ok (.iload_n 1, 1) := by decide +kernel
theorem zd_X_pack_1 : decode zc_X_pack 1 = .ok (.invokestatic 94, 3) := by decide +kernel
theorem zd_X_pack_4 : decode zc_X_pack 4 = .ok (.aload_n 0, 1) := by decide +kernel
theorem zd_X_pack_5 : decode zc_X_pack 5 = .ok (.getfield 32, 3) := by decide +kernel
theorem zd_X_pack_8 : decode zc_X_pack 8 = .ok (.iload_n 1, 1) := by decide +kernel
theorem zd_X_pack_9 : decode zc_X_pack 9 = .ok (.ifCond .ne 10, 3) := by decide +kernel
theorem zd_X_pack_12 : decode zc_X_pack 12 = .ok (.aload_n 0, 1) := by decide +kernel
theorem zd_X_pack_13 : decode zc_X_pack 13 = .ok (.getfield 39, 3) := by decide +kernel
theorem zd_X_pack_16 : decode zc_X_pack 16 = .ok (.goto 7, 3) := by decide +kernel
theorem zd_X_pack_19 : decode zc_X_pack 19 = .ok (.aload_n 0, 1) := by decide +kernel
theorem zd_X_pack_20 : decode zc_X_pack 20 = .ok (.getfield 46, 3) := by decide +kernel
theorem zd_X_pack_23 : decode zc_X_pack 23 = .ok (.invokevirtual 97, 3) := by decide +kernel
theorem zd_X_pack_26 : decode zc_X_pack 26 = .ok (.aload_n 0, 1) := by decide +kernel
theorem zd_X_pack_27 : decode zc_X_pack 27 = .ok (.getfield 18, 3) := by decide +kernel
theorem zd_X_pack_30 : decode zc_X_pack 30 = .ok (.getfield 87, 3) := by decide +kernel
theorem zd_X_pack_33 : decode zc_X_pack 33 = .ok (.ireturn, 1) := by decide +kernel
theorem zd_X_unpack_0 : decode zc_X_unpack 0 = .ok (.iload_n 1, 1) := by decide +kernel
theorem zd_X_unpack_1 : decode zc_X_unpack 1 = .ok (.invokestatic 94, 3) := by decide +kernel
theorem zd_X_unpack_4 : decode zc_X_unpack 4 = .ok (.iload_n 1, 1) := by decide +kernel
theorem zd_X_unpack_5 : decode zc_X_unpack 5 = .ok (.ifCond .ne 10, 3) := by decide +kernel
theorem zd_X_unpack_8 : decode zc_X_unpack 8 = .ok (.aload_n 0, 1) := by decide +kernel
theorem zd_X_unpack_9 : decode zc_X_unpack 9 = .ok (.getfield 54, 3) := by decide +kernel
theorem zd_X_unpack_12 : decode zc_X_unpack 12 = .ok (.goto 7, 3) := by decide +kernel
theorem zd_X_unpack_15 : decode zc_X_unpack 15 = .ok (.aload_n 0, 1) := by decide +kernel
theorem zd_X_unpack_16 : decode zc_X_unpack 16 = .ok (.getfield 61, 3) := by decide +kernel
theorem zd_X_unpack_19 : decode zc_X_unpack 19 = .ok (.astore_n 2, 1) := by decide +kernel
theorem zd_X_unpack_20 : decode zc_X_unpack 20 = .ok (.aload_n 2, 1) := by decide +kernel
theorem zd_X_unpack_21 : decode zc_X_unpack 21 = .ok (.invokevirtual 101, 3) := by decide +kernel
theorem zd_X_unpack_24 : decode zc_X_unpack 24 = .ok (.aload_n 2, 1) := by decide +kernel
theorem zd_X_unpack_25 : decode zc_X_unpack 25 = .ok (.invokevirtual 106, 3) := by decide +kernel
theorem zd_X_unpack_28 : decode zc_X_unpack 28 = .ok (.aload_n 2, 1) := by decide +kernel
theorem zd_X_unpack_29 : decode zc_X_unpack 29 = .ok (.invokevirtual 109, 3) := by decide +kernel
theorem zd_X_unpack_32 : decode zc_X_unpack 32 = .ok (.ifCond .eq 10, 3) := by decide +kernel
theorem zd_X_unpack_35 : decode zc_X_unpack 35 = .ok (.iconst (-1), 1) := by decide +kernel
theorem zd_X_unpack_36 : decode zc_X_unpack 36 = .ok (.aload_n 2, 1) := by decide +kernel
theorem zd_X_unpack_37 : decode zc_X_unpack 37 = .ok (.getfield 113, 3) := by decide +kernel
theorem zd_X_unpack_40 : decode zc_X_unpack 40 = .ok (.isub, 1) := by decide +kernel
theorem zd_X_unpack_41 : decode zc_X_unpack 41 = .ok (.ireturn, 1) := by decide +kernel
theorem zd_X_unpack_42 : decode zc_X_unpack 42 = .ok (.aload_n 0, 1) := by decide +kernel
theorem zd_X_unpack_43 : decode zc_X_unpack 43 = .ok (.getfield 14, 3) := by decide +kernel
theorem zd_X_unpack_46 : decode zc_X_unpack 46 = .ok (.aload_n 0, 1) := by decide +kernel
theorem zd_X_unpack_47 : decode zc_X_unpack 47 = .ok (.getfield 24, 3) := by decide +kernel
theorem zd_X_unpack_50 : decode zc_X_unpack 50 = .ok (.invokevirtual 116, 3) := by decide +kernel
theorem zd_X_unpack_53 : decode zc_X_unpack 53 = .ok (.aload_n 0, 1) := by decide +kernel
theorem zd_X_unpack_54 : decode zc_X_unpack 54 = .ok (.getfield 14, 3) := by decide +kernel
theorem zd_X_unpack_57 : decode zc_X_unpack 57 = .ok (.getfield 87, 3) := by decide +kernel
theorem zd_X_unpack_60 : decode zc_X_unpack 60 = .ok (.ireturn, 1) := by decide +kernel
theorem zd_X_size_0 : decode zc_X_size 0 = .ok (.aload_n 0, 1) := by decide +kernel
theorem zd_X_size_1 : decode zc_X_size 1 = .ok (.iload_n 1, 1) := by decide +kernel
theorem zd_X_size_2 : decode zc_X_size 2 = .ok (.invokevirtual 64, 3) := by decide +kernel
theorem zd_X_size_5 : decode zc_X_size 5 = .ok (.getfield 87, 3) := by decide +kernel
theorem zd_X_size_8 : decode zc_X_size 8 = .ok (.ireturn, 1) := by decide +kernel
theorem zd_X_get_0 : decode zc_X_get 0 = .ok (.aload_n 0, 1) := by decide +kernel
theorem zd_X_get_1 : decode zc_X_get 1 = .ok (.iload_n 1, 1) := by decide +kernel
theorem zd_X_get_2 : decode zc_X_get 2 = .ok (.invokevirtual 64, 3) := by decide +kernel
theorem zd_X_get_5 : decode zc_X_get 5 = .ok (.astore_n 3, 1) := by decide +kernel
theorem zd_X_get_6 : decode zc_X_get 6 = .ok (.iload_n 2, 1) := by decide +kernel
theorem zd_X_get_7 : decode zc_X_get 7 = .ok (.ifCond .lt 11, 3) := by decide +kernel
theorem zd_X_get_10 : decode zc_X_get 10 = .ok (.iload_n 2, 1) := by decide +kernel
theorem zd_X_get_11 : decode zc_X_get 11 = .ok (.aload_n 3, 1) := by decide +kernel
theorem zd_X_get_12 : decode zc_X_get 12 = .ok (.getfield 87, 3) := by decide +kernel
theorem zd_X_get_15 : decode zc_X_get 15 = .ok (.if_icmp .lt 13, 3) := by decide +kernel
theorem zd_X_get_18 : decode zc_X_get 18 = .ok (.new 79, 3) := by decide +kernel
theorem zd_X_get_21 : decode zc_X_get 21 = .ok (.dup, 1) := by decide +kernel
theorem zd_X_get_22 : decode zc_X_get 22 = .ok (.ldc 120, 2) := by decide +kernel
theorem zd_X_get_24 : decode zc_X_get 24 = .ok (.invokespecial 83, 3) := by decide +kernel
theorem zd_X_get_27 : decode zc_X_get 27 = .ok (.athrow, 1) := by decide +kernel
theorem zd_X_get_28 : decode zc_X_get 28 = .ok (.aload_n 3, 1) := by decide +kernel
theorem zd_X_get_29 : decode zc_X_get 29 = .ok (.iload_n 2, 1) := by decide +kernel
theorem zd_X_get_30 : decode zc_X_get 30 = .ok (.invokevirtual 122, 3) := by decide +kernel
theorem zd_X_get_33 : decode zc_X_get 33 = .ok (.ireturn, 1) := by decide +kernel
theorem zd_X_found_0 : decode zc_X_found 0 = .ok (.iload_n 1, 1) := by decide +kernel
theorem zd_X_found_1 : decode zc_X_found 1 = .ok (.ifCond .lt 8, 3) := by decide +kernel
theorem zd_X_found_4 : decode zc_X_found 4 = .ok (.iload_n 1, 1) := by decide +kernel
theorem zd_X_found_5 : decode zc_X_found 5 = .ok (.iconst 1, 1) := by decide +kernel
theorem zd_X_found_6 : decode zc_X_found 6 = .ok (.if_icmp .le 13, 3) := by decide +kernel
theorem zd_X_found_9 : decode zc_X_found 9 = .ok (.new 68, 3) := by decide +kernel
theorem zd_X_found_12 : decode zc_X_found 12 = .ok (.dup, 1) := by decide +kernel
theorem zd_X_found_13 : decode zc_X_found 13 = .ok (.ldc 126, 2) := by decide +kernel
theorem zd_X_found_15 : decode zc_X_found 15 = .ok (.invokespecial 72, 3) := by decide +kernel
theorem zd_X_found_18 : decode zc_X_found 18 = .ok (.athrow, 1) := by decide +kernel
theorem zd_X_found_19 : decode zc_X_found 19 = .ok (.iload_n 1, 1) := by decide +kernel
theorem zd_X_found_20 : decode zc_X_found 20 = .ok (.ifCond .ne 13, 3) := by decide +kernel
theorem zd_X_found_23 : decode zc_X_found 23 = .ok (.aload_n 0, 1) := by decide +kernel
theorem zd_X_found_24 : decode zc_X_found 24 = .ok (.getfield 32, 3) := by decide +kernel
theorem zd_X_found_27 : decode zc_X_found 27 = .ok (.getfield 128, 3) := by decide +kernel
theorem zd_X_found_30 : decode zc_X_found 30 = .ok (.goto 10, 3) := by decide +kernel
theorem zd_X_found_33 : decode zc_X_found 33 = .ok (.aload_n 0, 1) := by decide +kernel
theorem zd_X_found_34 : decode zc_X_found 34 = .ok (.getfield 32, 3) := by decide +kernel
theorem zd_X_found_37 : decode zc_X_found 37 = .ok (.getfield 131, 3) := by decide +kernel
theorem zd_X_found_40 : decode zc_X_found 40 = .ok (.ireturn, 1) := by decide +kernel
theorem zd_X_crc_0 : decode zc_X_crc 0 = .ok (.aload_n 0, 1) := by decide +kernel
theorem zd_X_crc_1 : decode zc_X_crc 1 = .ok (.iload_n 1, 1) := by decide +kernel
theorem zd_X_crc_2 : decode zc_X_crc 2 = .ok (.invokevirtual 64, 3) := by decide +kernel
theorem zd_X_crc_5 : decode zc_X_crc 5 = .ok (.astore_n 2, 1) := by decide +kernel
theorem zd_X_crc_6 : decode zc_X_crc 6 = .ok (.iconst (-1), 1) := by decide +kernel
theorem zd_X_crc_7 : decode zc_X_crc 7 = .ok (.istore_n 3, 1) := by decide +kernel
theorem zd_X_crc_8 : decode zc_X_crc 8 = .ok (.iconst 0, 1) := by decide +kernel
theorem zd_X_crc_9 : decode zc_X_crc 9 = .ok (.istore 4, 2) := by decide +kernel
theorem zd_X_crc_11 : decode zc_X_crc 11 = .ok (.iload 4, 2) := by decide +kernel
theorem zd_X_crc_13 : decode zc_X_crc 13 = .ok (.aload_n 2, 1) := by decide +kernel
theorem zd_X_crc_14 : decode zc_X_crc 14 = .ok (.getfield 87, 3) := by decide +kernel
theorem zd_X_crc_17 : decode zc_X_crc 17 = .ok (.if_icmp .ge 21, 3) := by decide +kernel
theorem zd_X_crc_20 : decode zc_X_crc 20 = .ok (.iload_n 3, 1) := by decide +kernel
theorem zd_X_crc_21 : decode zc_X_crc 21 = .ok (.aload_n 2, 1) := by decide +kernel
theorem zd_X_crc_22 : decode zc_X_crc 22 = .ok (.iload 4, 2) := by decide +kernel
theorem zd_X_crc_24 : decode zc_X_crc 24 = .ok (.invokevirtual 122, 3) := by decide +kernel
theorem zd_X_crc_27 : decode zc_X_crc 27 = .ok (.ixor, 1) := by decide +kernel
theorem zd_X_crc_28 : decode zc_X_crc 28 = .ok (.invokestatic 134, 3) := by decide +kernel
theorem zd_X_crc_31 : decode zc_X_crc 31 = .ok (.istore_n 3, 1) := by decide +kernel
theorem zd_X_crc_32 : decode zc_X_crc 32 = .ok (.iinc 4 1, 3) := by decide +kernel
theorem zd_X_crc_35 : decode zc_X_crc 35 = .ok (.goto (-24), 3) := by decide +kernel
theorem zd_X_crc_38 : decode zc_X_crc 38 = .ok (.iload_n 3, 1) := by decide +kernel
theorem zd_X_crc_39 : decode zc_X_crc 39 = .ok (.iconst (-1), 1) := by decide +kernel
theorem zd_X_crc_40 : decode zc_X_crc 40 = .ok (.ixor, 1) := by decide +kernel
theorem zd_X_crc_41 : decode zc_X_crc 41 = .ok (.ireturn, 1) := by decide +kernel
theorem zd_X_hash_0 : decode zc_X_hash 0 = .ok (.aload_n 0, 1) := by decide +kernel
theorem zd_X_hash_1 : decode zc_X_hash 1 = .ok (.iload_n 1, 1) := by decide +kernel
theorem zd_X_hash_2 : decode zc_X_hash 2 = .ok (.invokevirtual 64, 3) := by decide +kernel
theorem zd_X_hash_5 : decode zc_X_hash 5 = .ok (.astore_n 3, 1) := by decide +kernel
theorem zd_X_hash_6 : decode zc_X_hash 6 = .ok (.aload_n 3, 1) := by decide +kernel
theorem zd_X_hash_7 : decode zc_X_hash 7 = .ok (.getfield 87, 3) := by decide +kernel
theorem zd_X_hash_10 : decode zc_X_hash 10 = .ok (.bipush 16, 2) := by decide +kernel
theorem zd_X_hash_12 : decode zc_X_hash 12 = .ok (.if_icmp .lt 11, 3) := by decide +kernel
theorem zd_X_hash_15 : decode zc_X_hash 15 = .ok (.aload_n 3, 1) := by decide +kernel
theorem zd_X_hash_16 : decode zc_X_hash 16 = .ok (.iload_n 2, 1) := by decide +kernel
theorem zd_X_hash_17 : decode zc_X_hash 17 = .ok (.invokestatic 137, 3) := by decide +kernel
theorem zd_X_hash_20 : decode zc_X_hash 20 = .ok (.goto 7, 3) := by decide +kernel
theorem zd_X_hash_23 : decode zc_X_hash 23 = .ok (.iload_n 2, 1) := by decide +kernel
theorem zd_X_hash_24 : decode zc_X_hash 24 = .ok (.ldc 141, 2) := by decide +kernel
theorem zd_X_hash_26 : decode zc_X_hash 26 = .ok (.iadd, 1) := by decide +kernel
theorem zd_X_hash_27 : decode zc_X_hash 27 = .ok (.istore 4, 2) := by decide +kernel
theorem zd_X_hash_29 : decode zc_X_hash 29 = .ok (.aload_n 3, 1) := by decide +kernel
theorem zd_X_hash_30 : decode zc_X_hash 30 = .ok (.iload 4, 2) := by decide +kernel
theorem zd_X_hash_32 : decode zc_X_hash 32 = .ok (.aload_n 3, 1) := by decide +kernel
theorem zd_X_hash_33 : decode zc_X_hash 33 = .ok (.getfield 87, 3) := by decide +kernel
theorem zd_X_hash_36 : decode zc_X_hash 36 = .ok (.iadd, 1) := by decide +kernel
theorem zd_X_hash_37 : decode zc_X_hash 37 = .ok (.invokestatic 142, 3) := by decide +kernel
theorem zd_X_hash_40 : decode zc_X_hash 40 = .ok (.invokestatic 145, 3) := by decide +kernel
theorem zd_X_hash_43 : decode zc_X_hash 43 = .ok (.ireturn, 1) := by decide +kernel
theorem zd_X_rowOf_0 : decode zc_X_rowOf 0 = .ok (.iload_n 1, 1) := by decide +kernel
theorem zd_X_rowOf_1 : decode zc_X_rowOf 1 = .ok (.ifCond .ne 8, 3) := by decide +kernel
theorem zd_X_rowOf_4 : decode zc_X_rowOf 4 = .ok (.aload_n 0, 1) := by decide +kernel
theorem zd_X_rowOf_5 : decode zc_X_rowOf 5 = .ok (.getfield 14, 3) := by decide +kernel
theorem zd_X_rowOf_8 : decode zc_X_rowOf 8 = .ok (.areturn, 1) := by decide +kernel
theorem zd_X_rowOf_9 : decode zc_X_rowOf 9 = .ok (.iload_n 1, 1) := by decide +kernel
theorem zd_X_rowOf_10 : decode zc_X_rowOf 10 = .ok (.iconst 1, 1) := by decide +kernel
theorem zd_X_rowOf_11 : decode zc_X_rowOf 11 = .ok (.if_icmp .ne 8, 3) := by decide +kernel
theorem zd_X_rowOf_14 : decode zc_X_rowOf 14 = .ok (.aload_n 0, 1) := by decide +kernel
theorem zd_X_rowOf_15 : decode zc_X_rowOf 15 = .ok (.getfield 18, 3) := by decide +kernel
theorem zd_X_rowOf_18 : decode zc_X_rowOf 18 = .ok (.areturn, 1) := by decide +kernel
theorem zd_X_rowOf_19 : decode zc_X_rowOf 19 = .ok (.iload_n 1, 1) := by decide +kernel
theorem zd_X_rowOf_20 : decode zc_X_rowOf 20 = .ok (.iconst 2, 1) := by decide +kernel
theorem zd_X_rowOf_21 : decode zc_X_rowOf 21 = .ok (.if_icmp .ne 8, 3) := by decide +kernel
theorem zd_X_rowOf_24 : decode zc_X_rowOf 24 = .ok (.aload_n 0, 1) := by decide +kernel
theorem zd_X_rowOf_25 : decode zc_X_rowOf 25 = .ok (.getfield 21, 3) := by decide +kernel
theorem zd_X_rowOf_28 : decode zc_X_rowOf 28 = .ok (.areturn, 1) := by decide +kernel
theorem zd_X_rowOf_29 : decode zc_X_rowOf 29 = .ok (.new 68, 3) := by decide +kernel
theorem zd_X_rowOf_32 : decode zc_X_rowOf 32 = .ok (.dup, 1) := by decide +kernel
theorem zd_X_rowOf_33 : decode zc_X_rowOf 33 = .ok (.ldc 148, 2) := by decide +kernel
theorem zd_X_rowOf_35 : decode zc_X_rowOf 35 = .ok (.invokespecial 72, 3) := by decide +kernel
theorem zd_X_rowOf_38 : decode zc_X_rowOf 38 = .ok (.athrow, 1) := by decide +kernel
theorem zd_X_requireFormat_0 : decode zc_X_requireFormat 0 = .ok (.iload_n 0, 1) := by decide +kernel
theorem zd_X_requireFormat_1 : decode zc_X_requireFormat 1 = .ok (.ifCond .lt 8, 3) := by decide +kernel
theorem zd_X_requireFormat_4 : decode zc_X_requireFormat 4 = .ok (.iload_n 0, 1) := by decide +kernel
theorem zd_X_requireFormat_5 : decode zc_X_requireFormat 5 = .ok (.iconst 1, 1) := by decide +kernel
theorem zd_X_requireFormat_6 : decode zc_X_requireFormat 6 = .ok (.if_icmp .le 13, 3) := by decide +kernel
theorem zd_X_requireFormat_9 : decode zc_X_requireFormat 9 = .ok (.new 68, 3) := by decide +kernel
theorem zd_X_requireFormat_12 : decode zc_X_requireFormat 12 = .ok (.dup, 1) := by decide +kernel
theorem zd_X_requireFormat_13 : decode zc_X_requireFormat 13 = .ok (.ldc 150, 2) := by decide +kernel
theorem zd_X_requireFormat_15 : decode zc_X_requireFormat 15 = .ok (.invokespecial 72, 3) := by decide +kernel
theorem zd_X_requireFormat_18 : decode zc_X_requireFormat 18 = .ok (.athrow, 1) := by decide +kernel
theorem zd_X_requireFormat_19 : decode zc_X_requireFormat 19 = .ok (.return_, 1) := by decide +kernel
theorem zd_X_crcStep_0 : decode zc_X_crcStep 0 = .ok (.iload_n 0, 1) := by decide +kernel
theorem zd_X_crcStep_1 : decode zc_X_crcStep 1 = .ok (.istore_n 1, 1) := by decide +kernel
theorem zd_X_crcStep_2 : decode zc_X_crcStep 2 = .ok (.iconst 0, 1) := by decide +kernel
theorem zd_X_crcStep_3 : decode zc_X_crcStep 3 = .ok (.istore_n 2, 1) := by decide +kernel
theorem zd_X_crcStep_4 : decode zc_X_crcStep 4 = .ok (.iload_n 2, 1) := by decide +kernel
theorem zd_X_crcStep_5 : decode zc_X_crcStep 5 = .ok (.bipush 8, 2) := by decide +kernel
theorem zd_X_crcStep_7 : decode zc_X_crcStep 7 = .ok (.if_icmp .ge 29, 3) := by decide +kernel
theorem zd_X_crcStep_10 : decode zc_X_crcStep 10 = .ok (.iload_n 1, 1) := by decide +kernel
theorem zd_X_crcStep_11 : decode zc_X_crcStep 11 = .ok (.iconst 1, 1) := by decide +kernel
theorem zd_X_crcStep_12 : decode zc_X_crcStep 12 = .ok (.iand, 1) := by decide +kernel
theorem zd_X_crcStep_13 : decode zc_X_crcStep 13 = .ok (.iconst 1, 1) := by decide +kernel
theorem zd_X_crcStep_14 : decode zc_X_crcStep 14 = .ok (.if_icmp .ne 12, 3) := by decide +kernel
theorem zd_X_crcStep_17 : decode zc_X_crcStep 17 = .ok (.iload_n 1, 1) := by decide +kernel
theorem zd_X_crcStep_18 : decode zc_X_crcStep 18 = .ok (.iconst 1, 1) := by decide +kernel
theorem zd_X_crcStep_19 : decode zc_X_crcStep 19 = .ok (.iushr, 1) := by decide +kernel
theorem zd_X_crcStep_20 : decode zc_X_crcStep 20 = .ok (.ldc 152, 2) := by decide +kernel
theorem zd_X_crcStep_22 : decode zc_X_crcStep 22 = .ok (.ixor, 1) := by decide +kernel
theorem zd_X_crcStep_23 : decode zc_X_crcStep 23 = .ok (.goto 6, 3) := by decide +kernel
theorem zd_X_crcStep_26 : decode zc_X_crcStep 26 = .ok (.iload_n 1, 1) := by decide +kernel
theorem zd_X_crcStep_27 : decode zc_X_crcStep 27 = .ok (.iconst 1, 1) := by decide +kernel
theorem zd_X_crcStep_28 : decode zc_X_crcStep 28 = .ok (.iushr, 1) := by decide +kernel
theorem zd_X_crcStep_29 : decode zc_X_crcStep 29 = .ok (.istore_n 1, 1) := by decide +kernel
theorem zd_X_crcStep_30 : decode zc_X_crcStep 30 = .ok (.iinc 2 1, 3) := by decide +kernel
theorem zd_X_crcStep_33 : decode zc_X_crcStep 33 = .ok (.goto (-29), 3) := by decide +kernel
theorem zd_X_crcStep_36 : decode zc_X_crcStep 36 = .ok (.iload_n 1, 1) := by decide +kernel
theorem zd_X_crcStep_37 : decode zc_X_crcStep 37 = .ok (.ireturn, 1) := by decide +kernel
theorem zd_X_mixLanes_0 : decode zc_X_mixLanes 0 = .ok (.aload_n 0, 1) := by decide +kernel
theorem zd_X_mixLanes_1 : decode zc_X_mixLanes 1 = .ok (.iconst 0, 1) := by decide +kernel
theorem zd_X_mixLanes_2 : decode zc_X_mixLanes 2 = .ok (.iload_n 1, 1) := by decide +kernel
theorem zd_X_mixLanes_3 : decode zc_X_mixLanes 3 = .ok (.ldc 153, 2) := by decide +kernel
theorem zd_X_mixLanes_5 : decode zc_X_mixLanes 5 = .ok (.iadd, 1) := by decide +kernel
theorem zd_X_mixLanes_6 : decode zc_X_mixLanes 6 = .ok (.ldc 154, 2) := by decide +kernel
theorem zd_X_mixLanes_8 : decode zc_X_mixLanes 8 = .ok (.iadd, 1) := by decide +kernel
theorem zd_X_mixLanes_9 : decode zc_X_mixLanes 9 = .ok (.invokestatic 155, 3) := by decide +kernel
theorem zd_X_mixLanes_12 : decode zc_X_mixLanes 12 = .ok (.iconst 1, 1) := by decide +kernel
theorem zd_X_mixLanes_13 : decode zc_X_mixLanes 13 = .ok (.invokestatic 159, 3) := by decide +kernel
theorem zd_X_mixLanes_16 : decode zc_X_mixLanes 16 = .ok (.aload_n 0, 1) := by decide +kernel
theorem zd_X_mixLanes_17 : decode zc_X_mixLanes 17 = .ok (.iconst 4, 1) := by decide +kernel
theorem zd_X_mixLanes_18 : decode zc_X_mixLanes 18 = .ok (.iload_n 1, 1) := by decide +kernel
theorem zd_X_mixLanes_19 : decode zc_X_mixLanes 19 = .ok (.ldc 154, 2) := by decide +kernel
theorem zd_X_mixLanes_21 : decode zc_X_mixLanes 21 = .ok (.iadd, 1) := by decide +kernel
theorem zd_X_mixLanes_22 : decode zc_X_mixLanes 22 = .ok (.invokestatic 155, 3) := by decide +kernel
theorem zd_X_mixLanes_25 : decode zc_X_mixLanes 25 = .ok (.bipush 7, 2) := by decide +kernel
theorem zd_X_mixLanes_27 : decode zc_X_mixLanes 27 = .ok (.invokestatic 159, 3) := by decide +kernel
theorem zd_X_mixLanes_30 : decode zc_X_mixLanes 30 = .ok (.iadd, 1) := by decide +kernel
theorem zd_X_mixLanes_31 : decode zc_X_mixLanes 31 = .ok (.aload_n 0, 1) := by decide +kernel
theorem zd_X_mixLanes_32 : decode zc_X_mixLanes 32 = .ok (.bipush 8, 2) := by decide +kernel
theorem zd_X_mixLanes_34 : decode zc_X_mixLanes 34 = .ok (.iload_n 1, 1) := by decide +kernel
theorem zd_X_mixLanes_35 : decode zc_X_mixLanes 35 = .ok (.invokestatic 155, 3) := by decide +kernel
theorem zd_X_mixLanes_38 : decode zc_X_mixLanes 38 = .ok (.bipush 12, 2) := by decide +kernel
theorem zd_X_mixLanes_40 : decode zc_X_mixLanes 40 = .ok (.invokestatic 159, 3) := by decide +kernel
theorem zd_X_mixLanes_43 : decode zc_X_mixLanes 43 = .ok (.iadd, 1) := by decide +kernel
theorem zd_X_mixLanes_44 : decode zc_X_mixLanes 44 = .ok (.aload_n 0, 1) := by decide +kernel
theorem zd_X_mixLanes_45 : decode zc_X_mixLanes 45 = .ok (.bipush 12, 2) := by decide +kernel
theorem zd_X_mixLanes_47 : decode zc_X_mixLanes 47 = .ok (.iload_n 1, 1) := by decide +kernel
theorem zd_X_mixLanes_48 : decode zc_X_mixLanes 48 = .ok (.ldc 153, 2) := by decide +kernel
theorem zd_X_mixLanes_50 : decode zc_X_mixLanes 50 = .ok (.isub, 1) := by decide +kernel
theorem zd_X_mixLanes_51 : decode zc_X_mixLanes 51 = .ok (.invokestatic 155, 3) := by decide +kernel
theorem zd_X_mixLanes_54 : decode zc_X_mixLanes 54 = .ok (.bipush 18, 2) := by decide +kernel
theorem zd_X_mixLanes_56 : decode zc_X_mixLanes 56 = .ok (.invokestatic 159, 3) := by decide +kernel
theorem zd_X_mixLanes_59 : decode zc_X_mixLanes 59 = .ok (.iadd, 1) := by decide +kernel
theorem zd_X_mixLanes_60 : decode zc_X_mixLanes 60 = .ok (.ireturn, 1) := by decide +kernel
theorem zd_X_lane_0 : decode zc_X_lane 0 = .ok (.iload_n 2, 1) := by decide +kernel
theorem zd_X_lane_1 : decode zc_X_lane 1 = .ok (.istore_n 3, 1) := by decide +kernel
theorem zd_X_lane_2 : decode zc_X_lane 2 = .ok (.iconst 0, 1) := by decide +kernel
theorem zd_X_lane_3 : decode zc_X_lane 3 = .ok (.istore 4, 2) := by decide +kernel
theorem zd_X_lane_5 : decode zc_X_lane 5 = .ok (.iload 4, 2) := by decide +kernel
theorem zd_X_lane_7 : decode zc_X_lane 7 = .ok (.bipush 16, 2) := by decide +kernel
theorem zd_X_lane_9 : decode zc_X_lane 9 = .ok (.iadd, 1) := by decide +kernel
theorem zd_X_lane_10 : decode zc_X_lane 10 = .ok (.aload_n 0, 1) := by decide +kernel
theorem zd_X_lane_11 : decode zc_X_lane 11 = .ok (.getfield 87, 3) := by decide +kernel
theorem zd_X_lane_14 : decode zc_X_lane 14 = .ok (.if_icmp .gt 31, 3) := by decide +kernel
theorem zd_X_lane_17 : decode zc_X_lane 17 = .ok (.iload_n 3, 1) := by decide +kernel
theorem zd_X_lane_18 : decode zc_X_lane 18 = .ok (.aload_n 0, 1) := by decide +kernel
theorem zd_X_lane_19 : decode zc_X_lane 19 = .ok (.iload 4, 2) := by decide +kernel
theorem zd_X_lane_21 : decode zc_X_lane 21 = .ok (.iload_n 1, 1) := by decide +kernel
theorem zd_X_lane_22 : decode zc_X_lane 22 = .ok (.iadd, 1) := by decide +kernel
theorem zd_X_lane_23 : decode zc_X_lane 23 = .ok (.invokevirtual 163, 3) := by decide +kernel
theorem zd_X_lane_26 : decode zc_X_lane 26 = .ok (.ldc 154, 2) := by decide +kernel
theorem zd_X_lane_28 : decode zc_X_lane 28 = .ok (.imul, 1) := by decide +kernel
theorem zd_X_lane_29 : decode zc_X_lane 29 = .ok (.iadd, 1) := by decide +kernel
theorem zd_X_lane_30 : decode zc_X_lane 30 = .ok (.bipush 13, 2) := by decide +kernel
theorem zd_X_lane_32 : decode zc_X_lane 32 = .ok (.invokestatic 159, 3) := by decide +kernel
theorem zd_X_lane_35 : decode zc_X_lane 35 = .ok (.ldc 153, 2) := by decide +kernel
theorem zd_X_lane_37 : decode zc_X_lane 37 = .ok (.imul, 1) := by decide +kernel
theorem zd_X_lane_38 : decode zc_X_lane 38 = .ok (.istore_n 3, 1) := by decide +kernel
theorem zd_X_lane_39 : decode zc_X_lane 39 = .ok (.iinc 4 16, 3) := by decide +kernel
theorem zd_X_lane_42 : decode zc_X_lane 42 = .ok (.goto (-37), 3) := by decide +kernel
theorem zd_X_lane_45 : decode zc_X_lane 45 = .ok (.iload_n 3, 1) := by decide +kernel
theorem zd_X_lane_46 : decode zc_X_lane 46 = .ok (.ireturn, 1) := by decide +kernel
theorem zd_X_mixRest_0 : decode zc_X_mixRest 0 = .ok (.iload_n 1, 1) := by decide +kernel
theorem zd_X_mixRest_1 : decode zc_X_mixRest 1 = .ok (.istore_n 2, 1) := by decide +kernel
theorem zd_X_mixRest_2 : decode zc_X_mixRest 2 = .ok (.aload_n 0, 1) := by decide +kernel
theorem zd_X_mixRest_3 : decode zc_X_mixRest 3 = .ok (.getfield 87, 3) := by decide +kernel
theorem zd_X_mixRest_6 : decode zc_X_mixRest 6 = .ok (.bipush (-4), 2) := by decide +kernel
theorem zd_X_mixRest_8 : decode zc_X_mixRest 8 = .ok (.iand, 1) := by decide +kernel
theorem zd_X_mixRest_9 : decode zc_X_mixRest 9 = .ok (.istore_n 3, 1) := by decide +kernel
theorem zd_X_mixRest_10 : decode zc_X_mixRest 10 = .ok (.aload_n 0, 1) := by decide +kernel
theorem zd_X_mixRest_11 : decode zc_X_mixRest 11 = .ok (.getfield 87, 3) := by decide +kernel
theorem zd_X_mixRest_14 : decode zc_X_mixRest 14 = .ok (.bipush (-16), 2) := by decide +kernel
theorem zd_X_mixRest_16 : decode zc_X_mixRest 16 = .ok (.iand, 1) := by decide +kernel
theorem zd_X_mixRest_17 : decode zc_X_mixRest 17 = .ok (.istore 4, 2) := by decide +kernel
theorem zd_X_mixRest_19 : decode zc_X_mixRest 19 = .ok (.iload 4, 2) := by decide +kernel
theorem zd_X_mixRest_21 : decode zc_X_mixRest 21 = .ok (.iload_n 3, 1) := by decide +kernel
theorem zd_X_mixRest_22 : decode zc_X_mixRest 22 = .ok (.if_icmp .ge 29, 3) := by decide +kernel
theorem zd_X_mixRest_25 : decode zc_X_mixRest 25 = .ok (.iload_n 2, 1) := by decide +kernel
theorem zd_X_mixRest_26 : decode zc_X_mixRest 26 = .ok (.aload_n 0, 1) := by decide +kernel
theorem zd_X_mixRest_27 : decode zc_X_mixRest 27 = .ok (.iload 4, 2) := by decide +kernel
theorem zd_X_mixRest_29 : decode zc_X_mixRest 29 = .ok (.invokevirtual 163, 3) := by decide +kernel
theorem zd_X_mixRest_32 : decode zc_X_mixRest 32 = .ok (.ldc 166, 2) := by decide +kernel
theorem zd_X_mixRest_34 : decode zc_X_mixRest 34 = .ok (.imul, 1) := by decide +kernel
theorem zd_X_mixRest_35 : decode zc_X_mixRest 35 = .ok (.iadd, 1) := by decide +kernel
theorem zd_X_mixRest_36 : decode zc_X_mixRest 36 = .ok (.bipush 17, 2) := by decide +kernel
theorem zd_X_mixRest_38 : decode zc_X_mixRest 38 = .ok (.invokestatic 159, 3) := by decide +kernel
theorem zd_X_mixRest_41 : decode zc_X_mixRest 41 = .ok (.ldc 167, 2) := by decide +kernel
theorem zd_X_mixRest_43 : decode zc_X_mixRest 43 = .ok (.imul, 1) := by decide +kernel
theorem zd_X_mixRest_44 : decode zc_X_mixRest 44 = .ok (.istore_n 2, 1) := by decide +kernel
theorem zd_X_mixRest_45 : decode zc_X_mixRest 45 = .ok (.iinc 4 4, 3) := by decide +kernel
theorem zd_X_mixRest_48 : decode zc_X_mixRest 48 = .ok (.goto (-29), 3) := by decide +kernel
theorem zd_X_mixRest_51 : decode zc_X_mixRest 51 = .ok (.iload_n 3, 1) := by decide +kernel
theorem zd_X_mixRest_52 : decode zc_X_mixRest 52 = .ok (.istore 4, 2) := by decide +kernel
theorem zd_X_mixRest_54 : decode zc_X_mixRest 54 = .ok (.iload 4, 2) := by decide +kernel
theorem zd_X_mixRest_56 : decode zc_X_mixRest 56 = .ok (.aload_n 0, 1) := by decide +kernel
theorem zd_X_mixRest_57 : decode zc_X_mixRest 57 = .ok (.getfield 87, 3) := by decide +kernel
theorem zd_X_mixRest_60 : decode zc_X_mixRest 60 = .ok (.if_icmp .ge 29, 3) := by decide +kernel
theorem zd_X_mixRest_63 : decode zc_X_mixRest 63 = .ok (.iload_n 2, 1) := by decide +kernel
theorem zd_X_mixRest_64 : decode zc_X_mixRest 64 = .ok (.aload_n 0, 1) := by decide +kernel
theorem zd_X_mixRest_65 : decode zc_X_mixRest 65 = .ok (.iload 4, 2) := by decide +kernel
theorem zd_X_mixRest_67 : decode zc_X_mixRest 67 = .ok (.invokevirtual 122, 3) := by decide +kernel
theorem zd_X_mixRest_70 : decode zc_X_mixRest 70 = .ok (.ldc 141, 2) := by decide +kernel
theorem zd_X_mixRest_72 : decode zc_X_mixRest 72 = .ok (.imul, 1) := by decide +kernel
theorem zd_X_mixRest_73 : decode zc_X_mixRest 73 = .ok (.iadd, 1) := by decide +kernel
theorem zd_X_mixRest_74 : decode zc_X_mixRest 74 = .ok (.bipush 11, 2) := by decide +kernel
theorem zd_X_mixRest_76 : decode zc_X_mixRest 76 = .ok (.invokestatic 159, 3) := by decide +kernel
theorem zd_X_mixRest_79 : decode zc_X_mixRest 79 = .ok (.ldc 153, 2) := by decide +kernel
theorem zd_X_mixRest_81 : decode zc_X_mixRest 81 = .ok (.imul, 1) := by decide +kernel
theorem zd_X_mixRest_82 : decode zc_X_mixRest 82 = .ok (.istore_n 2, 1) := by decide +kernel
theorem zd_X_mixRest_83 : decode zc_X_mixRest 83 = .ok (.iinc 4 1, 3) := by decide +kernel
theorem zd_X_mixRest_86 : decode zc_X_mixRest 86 = .ok (.goto (-32), 3) := by decide +kernel
theorem zd_X_mixRest_89 : decode zc_X_mixRest 89 = .ok (.iload_n 2, 1) := by decide +kernel
theorem zd_X_mixRest_90 : decode zc_X_mixRest 90 = .ok (.ireturn, 1) := by decide +kernel
theorem zd_X_finish_0 : decode zc_X_finish 0 = .ok (.iload_n 0, 1) := by decide +kernel
theorem zd_X_finish_1 : decode zc_X_finish 1 = .ok (.istore_n 1, 1) := by decide +kernel
theorem zd_X_finish_2 : decode zc_X_finish 2 = .ok (.iload_n 1, 1) := by decide +kernel
theorem zd_X_finish_3 : decode zc_X_finish 3 = .ok (.iload_n 1, 1) := by decide +kernel
theorem zd_X_finish_4 : decode zc_X_finish 4 = .ok (.bipush 15, 2) := by decide +kernel
theorem zd_X_finish_6 : decode zc_X_finish 6 = .ok (.iushr, 1) := by decide +kernel
theorem zd_X_finish_7 : decode zc_X_finish 7 = .ok (.ixor, 1) := by decide +kernel
theorem zd_X_finish_8 : decode zc_X_finish 8 = .ok (.istore_n 1, 1) := by decide +kernel
theorem zd_X_finish_9 : decode zc_X_finish 9 = .ok (.iload_n 1, 1) := by decide +kernel
theorem zd_X_finish_10 : decode zc_X_finish 10 = .ok (.ldc 154, 2) := by decide +kernel
theorem zd_X_finish_12 : decode zc_X_finish 12 = .ok (.imul, 1) := by decide +kernel
theorem zd_X_finish_13 : decode zc_X_finish 13 = .ok (.istore_n 1, 1) := by decide +kernel
theorem zd_X_finish_14 : decode zc_X_finish 14 = .ok (.iload_n 1, 1) := by decide +kernel
theorem zd_X_finish_15 : decode zc_X_finish 15 = .ok (.iload_n 1, 1) := by decide +kernel
theorem zd_X_finish_16 : decode zc_X_finish 16 = .ok (.bipush 13, 2) := by decide +kernel
theorem zd_X_finish_18 : decode zc_X_finish 18 = .ok (.iushr, 1) := by decide +kernel
theorem zd_X_finish_19 : decode zc_X_finish 19 = .ok (.ixor, 1) := by decide +kernel
theorem zd_X_finish_20 : decode zc_X_finish 20 = .ok (.istore_n 1, 1) := by decide +kernel
theorem zd_X_finish_21 : decode zc_X_finish 21 = .ok (.iload_n 1, 1) := by decide +kernel
theorem zd_X_finish_22 : decode zc_X_finish 22 = .ok (.ldc 166, 2) := by decide +kernel
theorem zd_X_finish_24 : decode zc_X_finish 24 = .ok (.imul, 1) := by decide +kernel
theorem zd_X_finish_25 : decode zc_X_finish 25 = .ok (.istore_n 1, 1) := by decide +kernel
theorem zd_X_finish_26 : decode zc_X_finish 26 = .ok (.iload_n 1, 1) := by decide +kernel
theorem zd_X_finish_27 : decode zc_X_finish 27 = .ok (.iload_n 1, 1) := by decide +kernel
theorem zd_X_finish_28 : decode zc_X_finish 28 = .ok (.bipush 16, 2) := by decide +kernel
theorem zd_X_finish_30 : decode zc_X_finish 30 = .ok (.iushr, 1) := by decide +kernel
theorem zd_X_finish_31 : decode zc_X_finish 31 = .ok (.ixor, 1) := by decide +kernel
theorem zd_X_finish_32 : decode zc_X_finish 32 = .ok (.istore_n 1, 1) := by decide +kernel
theorem zd_X_finish_33 : decode zc_X_finish 33 = .ok (.iload_n 1, 1) := by decide +kernel
theorem zd_X_finish_34 : decode zc_X_finish 34 = .ok (.ireturn, 1) := by decide +kernel
theorem zd_X_turnLeft_0 : decode zc_X_turnLeft 0 = .ok (.iload_n 0, 1) := by decide +kernel
theorem zd_X_turnLeft_1 : decode zc_X_turnLeft 1 = .ok (.iload_n 1, 1) := by decide +kernel
theorem zd_X_turnLeft_2 : decode zc_X_turnLeft 2 = .ok (.ishl, 1) := by decide +kernel
theorem zd_X_turnLeft_3 : decode zc_X_turnLeft 3 = .ok (.iload_n 0, 1) := by decide +kernel
theorem zd_X_turnLeft_4 : decode zc_X_turnLeft 4 = .ok (.bipush 32, 2) := by decide +kernel
theorem zd_X_turnLeft_6 : decode zc_X_turnLeft 6 = .ok (.iload_n 1, 1) := by decide +kernel
theorem zd_X_turnLeft_7 : decode zc_X_turnLeft 7 = .ok (.isub, 1) := by decide +kernel
theorem zd_X_turnLeft_8 : decode zc_X_turnLeft 8 = .ok (.iushr, 1) := by decide +kernel
theorem zd_X_turnLeft_9 : decode zc_X_turnLeft 9 = .ok (.ior, 1) := by decide +kernel
theorem zd_X_turnLeft_10 : decode zc_X_turnLeft 10 = .ok (.ireturn, 1) := by decide +kernel
theorem zd_M_thrown_0 : decode zc_M_thrown 0 = .ok (.aload_n 0, 1) := by decide +kernel
theorem zd_M_thrown_1 : decode zc_M_thrown 1 = .ok (.getfield 22, 3) := by decide +kernel
theorem zd_M_thrown_4 : decode zc_M_thrown 4 = .ok (.ireturn, 1) := by decide +kernel
theorem zd_M_fails_0 : decode zc_M_fails 0 = .ok (.aload_n 0, 1) := by decide +kernel
theorem zd_M_fails_1 : decode zc_M_fails 1 = .ok (.iload_n 1, 1) := by decide +kernel
theorem zd_M_fails_2 : decode zc_M_fails 2 = .ok (.ifCond .eq 7, 3) := by decide +kernel
theorem zd_M_fails_5 : decode zc_M_fails 5 = .ok (.iconst 1, 1) := by decide +kernel
theorem zd_M_fails_6 : decode zc_M_fails 6 = .ok (.goto 12, 3) := by decide +kernel
theorem zd_M_fails_9 : decode zc_M_fails 9 = .ok (.iload_n 2, 1) := by decide +kernel
theorem zd_M_fails_10 : decode zc_M_fails 10 = .ok (.ifCond .eq 7, 3) := by decide +kernel
theorem zd_M_fails_13 : decode zc_M_fails 13 = .ok (.iconst 2, 1) := by decide +kernel
theorem zd_M_fails_14 : decode zc_M_fails 14 = .ok (.goto 4, 3) := by decide +kernel
theorem zd_M_fails_17 : decode zc_M_fails 17 = .ok (.iconst 0, 1) := by decide +kernel
theorem zd_M_fails_18 : decode zc_M_fails 18 = .ok (.putfield 22, 3) := by decide +kernel
theorem zd_M_fails_21 : decode zc_M_fails 21 = .ok (.aload_n 0, 1) := by decide +kernel
theorem zd_M_fails_22 : decode zc_M_fails 22 = .ok (.getfield 22, 3) := by decide +kernel
theorem zd_M_fails_25 : decode zc_M_fails 25 = .ok (.ifCond .le 7, 3) := by decide +kernel
theorem zd_M_fails_28 : decode zc_M_fails 28 = .ok (.iconst 1, 1) := by decide +kernel
theorem zd_M_fails_29 : decode zc_M_fails 29 = .ok (.goto 4, 3) := by decide +kernel
theorem zd_M_fails_32 : decode zc_M_fails 32 = .ok (.iconst 0, 1) := by decide +kernel
theorem zd_M_fails_33 : decode zc_M_fails 33 = .ok (.ireturn, 1) := by decide +kernel
theorem zd_M_isRow_0 : decode zc_M_isRow 0 = .ok (.iload_n 0, 1) := by decide +kernel
theorem zd_M_isRow_1 : decode zc_M_isRow 1 = .ok (.ifCond .lt 12, 3) := by decide +kernel
theorem zd_M_isRow_4 : decode zc_M_isRow 4 = .ok (.iload_n 0, 1) := by decide +kernel
theorem zd_M_isRow_5 : decode zc_M_isRow 5 = .ok (.iconst 3, 1) := by decide +kernel
theorem zd_M_isRow_6 : decode zc_M_isRow 6 = .ok (.if_icmp .ge 7, 3) := by decide +kernel
theorem zd_M_isRow_9 : decode zc_M_isRow 9 = .ok (.iconst 1, 1) := by decide +kernel
theorem zd_M_isRow_10 : decode zc_M_isRow 10 = .ok (.goto 4, 3) := by decide +kernel
theorem zd_M_isRow_13 : decode zc_M_isRow 13 = .ok (.iconst 0, 1) := by decide +kernel
theorem zd_M_isRow_14 : decode zc_M_isRow 14 = .ok (.ireturn, 1) := by decide +kernel
theorem zd_M_most_0 : decode zc_M_most 0 = .ok (.iload_n 0, 1) := by decide +kernel
theorem zd_M_most_1 : decode zc_M_most 1 = .ok (.ifCond .ne 9, 3) := by decide +kernel
theorem zd_M_most_4 : decode zc_M_most 4 = .ok (.sipush 160, 3) := by decide +kernel
theorem zd_M_most_7 : decode zc_M_most 7 = .ok (.goto 16, 3) := by decide +kernel
theorem zd_M_most_10 : decode zc_M_most 10 = .ok (.iload_n 0, 1) := by decide +kernel
theorem zd_M_most_11 : decode zc_M_most 11 = .ok (.iconst 1, 1) := by decide +kernel
theorem zd_M_most_12 : decode zc_M_most 12 = .ok (.if_icmp .ne 9, 3) := by decide +kernel
theorem zd_M_most_15 : decode zc_M_most 15 = .ok (.sipush 200, 3) := by decide +kernel
theorem zd_M_most_18 : decode zc_M_most 18 = .ok (.goto 5, 3) := by decide +kernel
theorem zd_M_most_21 : decode zc_M_most 21 = .ok (.bipush 64, 2) := by decide +kernel
theorem zd_M_most_23 : decode zc_M_most 23 = .ok (.ireturn, 1) := by decide +kernel
theorem zd_M_put_0 : decode zc_M_put 0 = .ok (.iload_n 1, 1) := by decide +kernel
theorem zd_M_put_1 : decode zc_M_put 1 = .ok (.invokestatic 26, 3) := by decide +kernel
theorem zd_M_put_4 : decode zc_M_put 4 = .ok (.ifCond .eq 16, 3) := by decide +kernel
theorem zd_M_put_7 : decode zc_M_put 7 = .ok (.iload 4, 2) := by decide +kernel
end
section
theorem zd_M_put_9 : decode zc_M_put 9 = .ok (.iconst 1, 1) := by decide +kernel
theorem zd_M_put_10 : decode zc_M_put 10 = .ok (.if_icmp .lt 10, 3) := by decide +kernel
theorem zd_M_put_13 : decode zc_M_put 13 = .ok (.iload 4, 2) := by decide +kernel
theorem zd_M_put_15 : decode zc_M_put 15 = .ok (.bipush 8, 2) := by decide +kernel
theorem zd_M_put_17 : decode zc_M_put 17 = .ok (.if_icmp .le 7, 3) := by decide +kernel
theorem zd_M_put_20 : decode zc_M_put 20 = .ok (.iconst 1, 1) := by decide +kernel
theorem zd_M_put_21 : decode zc_M_put 21 = .ok (.goto 4, 3) := by decide +kernel
theorem zd_M_put_24 : decode zc_M_put 24 = .ok (.iconst 0, 1) := by decide +kernel
theorem zd_M_put_25 : decode zc_M_put 25 = .ok (.istore 5, 2) := by decide +kernel
theorem zd_M_put_27 : decode zc_M_put 27 = .ok (.aload_n 0, 1) := by decide +kernel
theorem zd_M_put_28 : decode zc_M_put 28 = .ok (.iload 5, 2) := by decide +kernel
theorem zd_M_put_30 : decode zc_M_put 30 = .ok (.iload 5, 2) := by decide +kernel
theorem zd_M_put_32 : decode zc_M_put 32 = .ok (.ifCond .ne 23, 3) := by decide +kernel
theorem zd_M_put_35 : decode zc_M_put 35 = .ok (.aload_n 0, 1) := by decide +kernel
theorem zd_M_put_36 : decode zc_M_put 36 = .ok (.getfield 13, 3) := by decide +kernel
theorem zd_M_put_39 : decode zc_M_put 39 = .ok (.iload_n 1, 1) := by decide +kernel
theorem zd_M_put_40 : decode zc_M_put 40 = .ok (.iaload, 1) := by decide +kernel
theorem zd_M_put_41 : decode zc_M_put 41 = .ok (.iload 4, 2) := by decide +kernel
theorem zd_M_put_43 : decode zc_M_put 43 = .ok (.iadd, 1) := by decide +kernel
theorem zd_M_put_44 : decode zc_M_put 44 = .ok (.iload_n 1, 1) := by decide +kernel
theorem zd_M_put_45 : decode zc_M_put 45 = .ok (.invokestatic 30, 3) := by decide +kernel
theorem zd_M_put_48 : decode zc_M_put 48 = .ok (.if_icmp .le 7, 3) := by decide +kernel
theorem zd_M_put_51 : decode zc_M_put 51 = .ok (.iconst 1, 1) := by decide +kernel
theorem zd_M_put_52 : decode zc_M_put 52 = .ok (.goto 4, 3) := by decide +kernel
theorem zd_M_put_55 : decode zc_M_put 55 = .ok (.iconst 0, 1) := by decide +kernel
theorem zd_M_put_56 : decode zc_M_put 56 = .ok (.invokevirtual 34, 3) := by decide +kernel
theorem zd_M_put_59 : decode zc_M_put 59 = .ok (.ifCond .eq 4, 3) := by decide +kernel
theorem zd_M_put_62 : decode zc_M_put 62 = .ok (.return_, 1) := by decide +kernel
theorem zd_M_put_63 : decode zc_M_put 63 = .ok (.iconst 0, 1) := by decide +kernel
theorem zd_M_put_64 : decode zc_M_put 64 = .ok (.istore 6, 2) := by decide +kernel
theorem zd_M_put_66 : decode zc_M_put 66 = .ok (.iload 6, 2) := by decide +kernel
theorem zd_M_put_68 : decode zc_M_put 68 = .ok (.iload 4, 2) := by decide +kernel
theorem zd_M_put_70 : decode zc_M_put 70 = .ok (.if_icmp .ge 41, 3) := by decide +kernel
theorem zd_M_put_73 : decode zc_M_put 73 = .ok (.aload_n 0, 1) := by decide +kernel
theorem zd_M_put_74 : decode zc_M_put 74 = .ok (.getfield 7, 3) := by decide +kernel
theorem zd_M_put_77 : decode zc_M_put 77 = .ok (.sipush 200, 3) := by decide +kernel
theorem zd_M_put_80 : decode zc_M_put 80 = .ok (.iload_n 1, 1) := by decide +kernel
theorem zd_M_put_81 : decode zc_M_put 81 = .ok (.imul, 1) := by decide +kernel
theorem zd_M_put_82 : decode zc_M_put 82 = .ok (.aload_n 0, 1) := by decide +kernel
theorem zd_M_put_83 : decode zc_M_put 83 = .ok (.getfield 13, 3) := by decide +kernel
theorem zd_M_put_86 : decode zc_M_put 86 = .ok (.iload_n 1, 1) := by decide +kernel
theorem zd_M_put_87 : decode zc_M_put 87 = .ok (.iaload, 1) := by decide +kernel
theorem zd_M_put_88 : decode zc_M_put 88 = .ok (.iadd, 1) := by decide +kernel
theorem zd_M_put_89 : decode zc_M_put 89 = .ok (.iload 6, 2) := by decide +kernel
theorem zd_M_put_91 : decode zc_M_put 91 = .ok (.iadd, 1) := by decide +kernel
theorem zd_M_put_92 : decode zc_M_put 92 = .ok (.lload_n 2, 1) := by decide +kernel
theorem zd_M_put_93 : decode zc_M_put 93 = .ok (.bipush 8, 2) := by decide +kernel
theorem zd_M_put_95 : decode zc_M_put 95 = .ok (.iload 6, 2) := by decide +kernel
theorem zd_M_put_97 : decode zc_M_put 97 = .ok (.imul, 1) := by decide +kernel
theorem zd_M_put_98 : decode zc_M_put 98 = .ok (.lshr, 1) := by decide +kernel
theorem zd_M_put_99 : decode zc_M_put 99 = .ok (.ldc2_w 38, 3) := by decide +kernel
theorem zd_M_put_102 : decode zc_M_put 102 = .ok (.land, 1) := by decide +kernel
theorem zd_M_put_103 : decode zc_M_put 103 = .ok (.l2i, 1) := by decide +kernel
theorem zd_M_put_104 : decode zc_M_put 104 = .ok (.iastore, 1) := by decide +kernel
theorem zd_M_put_105 : decode zc_M_put 105 = .ok (.iinc 6 1, 3) := by decide +kernel
theorem zd_M_put_108 : decode zc_M_put 108 = .ok (.goto (-42), 3) := by decide +kernel
theorem zd_M_put_111 : decode zc_M_put 111 = .ok (.aload_n 0, 1) := by decide +kernel
theorem zd_M_put_112 : decode zc_M_put 112 = .ok (.getfield 13, 3) := by decide +kernel
theorem zd_M_put_115 : decode zc_M_put 115 = .ok (.iload_n 1, 1) := by decide +kernel
theorem zd_M_put_116 : decode zc_M_put 116 = .ok (.dup2, 1) := by decide +kernel
theorem zd_M_put_117 : decode zc_M_put 117 = .ok (.iaload, 1) := by decide +kernel
theorem zd_M_put_118 : decode zc_M_put 118 = .ok (.iload 4, 2) := by decide +kernel
theorem zd_M_put_120 : decode zc_M_put 120 = .ok (.iadd, 1) := by decide +kernel
theorem zd_M_put_121 : decode zc_M_put 121 = .ok (.iastore, 1) := by decide +kernel
theorem zd_M_put_122 : decode zc_M_put 122 = .ok (.return_, 1) := by decide +kernel
theorem zd_M_empty_0 : decode zc_M_empty 0 = .ok (.aload_n 0, 1) := by decide +kernel
theorem zd_M_empty_1 : decode zc_M_empty 1 = .ok (.iload_n 1, 1) := by decide +kernel
theorem zd_M_empty_2 : decode zc_M_empty 2 = .ok (.invokestatic 26, 3) := by decide +kernel
theorem zd_M_empty_5 : decode zc_M_empty 5 = .ok (.ifCond .ne 7, 3) := by decide +kernel
theorem zd_M_empty_8 : decode zc_M_empty 8 = .ok (.iconst 1, 1) := by decide +kernel
theorem zd_M_empty_9 : decode zc_M_empty 9 = .ok (.goto 4, 3) := by decide +kernel
theorem zd_M_empty_12 : decode zc_M_empty 12 = .ok (.iconst 0, 1) := by decide +kernel
theorem zd_M_empty_13 : decode zc_M_empty 13 = .ok (.iconst 0, 1) := by decide +kernel
theorem zd_M_empty_14 : decode zc_M_empty 14 = .ok (.invokevirtual 34, 3) := by decide +kernel
theorem zd_M_empty_17 : decode zc_M_empty 17 = .ok (.ifCond .eq 5, 3) := by decide +kernel
theorem zd_M_empty_20 : decode zc_M_empty 20 = .ok (.iconst 0, 1) := by decide +kernel
theorem zd_M_empty_21 : decode zc_M_empty 21 = .ok (.ireturn, 1) := by decide +kernel
theorem zd_M_empty_22 : decode zc_M_empty 22 = .ok (.aload_n 0, 1) := by decide +kernel
theorem zd_M_empty_23 : decode zc_M_empty 23 = .ok (.getfield 13, 3) := by decide +kernel
theorem zd_M_empty_26 : decode zc_M_empty 26 = .ok (.iload_n 1, 1) := by decide +kernel
theorem zd_M_empty_27 : decode zc_M_empty 27 = .ok (.iaload, 1) := by decide +kernel
theorem zd_M_empty_28 : decode zc_M_empty 28 = .ok (.istore_n 2, 1) := by decide +kernel
theorem zd_M_empty_29 : decode zc_M_empty 29 = .ok (.aload_n 0, 1) := by decide +kernel
theorem zd_M_empty_30 : decode zc_M_empty 30 = .ok (.getfield 13, 3) := by decide +kernel
theorem zd_M_empty_33 : decode zc_M_empty 33 = .ok (.iload_n 1, 1) := by decide +kernel
theorem zd_M_empty_34 : decode zc_M_empty 34 = .ok (.iconst 0, 1) := by decide +kernel
theorem zd_M_empty_35 : decode zc_M_empty 35 = .ok (.iastore, 1) := by decide +kernel
theorem zd_M_empty_36 : decode zc_M_empty 36 = .ok (.iload_n 2, 1) := by decide +kernel
theorem zd_M_empty_37 : decode zc_M_empty 37 = .ok (.ireturn, 1) := by decide +kernel
theorem zd_M_size_0 : decode zc_M_size 0 = .ok (.aload_n 0, 1) := by decide +kernel
theorem zd_M_size_1 : decode zc_M_size 1 = .ok (.iload_n 1, 1) := by decide +kernel
theorem zd_M_size_2 : decode zc_M_size 2 = .ok (.invokestatic 26, 3) := by decide +kernel
theorem zd_M_size_5 : decode zc_M_size 5 = .ok (.ifCond .ne 7, 3) := by decide +kernel
theorem zd_M_size_8 : decode zc_M_size 8 = .ok (.iconst 1, 1) := by decide +kernel
theorem zd_M_size_9 : decode zc_M_size 9 = .ok (.goto 4, 3) := by decide +kernel
theorem zd_M_size_12 : decode zc_M_size 12 = .ok (.iconst 0, 1) := by decide +kernel
theorem zd_M_size_13 : decode zc_M_size 13 = .ok (.iconst 0, 1) := by decide +kernel
theorem zd_M_size_14 : decode zc_M_size 14 = .ok (.invokevirtual 34, 3) := by decide +kernel
theorem zd_M_size_17 : decode zc_M_size 17 = .ok (.ifCond .eq 7, 3) := by decide +kernel
theorem zd_M_size_20 : decode zc_M_size 20 = .ok (.iconst 0, 1) := by decide +kernel
theorem zd_M_size_21 : decode zc_M_size 21 = .ok (.goto 9, 3) := by decide +kernel
theorem zd_M_size_24 : decode zc_M_size 24 = .ok (.aload_n 0, 1) := by decide +kernel
theorem zd_M_size_25 : decode zc_M_size 25 = .ok (.getfield 13, 3) := by decide +kernel
theorem zd_M_size_28 : decode zc_M_size 28 = .ok (.iload_n 1, 1) := by decide +kernel
theorem zd_M_size_29 : decode zc_M_size 29 = .ok (.iaload, 1) := by decide +kernel
theorem zd_M_size_30 : decode zc_M_size 30 = .ok (.ireturn, 1) := by decide +kernel
theorem zd_M_get_0 : decode zc_M_get 0 = .ok (.iload_n 1, 1) := by decide +kernel
theorem zd_M_get_1 : decode zc_M_get 1 = .ok (.invokestatic 26, 3) := by decide +kernel
theorem zd_M_get_4 : decode zc_M_get 4 = .ok (.ifCond .ne 7, 3) := by decide +kernel
theorem zd_M_get_7 : decode zc_M_get 7 = .ok (.iconst 1, 1) := by decide +kernel
theorem zd_M_get_8 : decode zc_M_get 8 = .ok (.goto 4, 3) := by decide +kernel
theorem zd_M_get_11 : decode zc_M_get 11 = .ok (.iconst 0, 1) := by decide +kernel
theorem zd_M_get_12 : decode zc_M_get 12 = .ok (.istore_n 3, 1) := by decide +kernel
theorem zd_M_get_13 : decode zc_M_get 13 = .ok (.aload_n 0, 1) := by decide +kernel
theorem zd_M_get_14 : decode zc_M_get 14 = .ok (.iload_n 3, 1) := by decide +kernel
theorem zd_M_get_15 : decode zc_M_get 15 = .ok (.iload_n 3, 1) := by decide +kernel
theorem zd_M_get_16 : decode zc_M_get 16 = .ok (.ifCond .ne 21, 3) := by decide +kernel
theorem zd_M_get_19 : decode zc_M_get 19 = .ok (.iload_n 2, 1) := by decide +kernel
theorem zd_M_get_20 : decode zc_M_get 20 = .ok (.ifCond .lt 13, 3) := by decide +kernel
theorem zd_M_get_23 : decode zc_M_get 23 = .ok (.iload_n 2, 1) := by decide +kernel
theorem zd_M_get_24 : decode zc_M_get 24 = .ok (.aload_n 0, 1) := by decide +kernel
theorem zd_M_get_25 : decode zc_M_get 25 = .ok (.getfield 13, 3) := by decide +kernel
theorem zd_M_get_28 : decode zc_M_get 28 = .ok (.iload_n 1, 1) := by decide +kernel
theorem zd_M_get_29 : decode zc_M_get 29 = .ok (.iaload, 1) := by decide +kernel
theorem zd_M_get_30 : decode zc_M_get 30 = .ok (.if_icmp .lt 7, 3) := by decide +kernel
theorem zd_M_get_33 : decode zc_M_get 33 = .ok (.iconst 1, 1) := by decide +kernel
theorem zd_M_get_34 : decode zc_M_get 34 = .ok (.goto 4, 3) := by decide +kernel
theorem zd_M_get_37 : decode zc_M_get 37 = .ok (.iconst 0, 1) := by decide +kernel
theorem zd_M_get_38 : decode zc_M_get 38 = .ok (.invokevirtual 34, 3) := by decide +kernel
theorem zd_M_get_41 : decode zc_M_get 41 = .ok (.ifCond .eq 7, 3) := by decide +kernel
theorem zd_M_get_44 : decode zc_M_get 44 = .ok (.iconst 0, 1) := by decide +kernel
theorem zd_M_get_45 : decode zc_M_get 45 = .ok (.goto 15, 3) := by decide +kernel
theorem zd_M_get_48 : decode zc_M_get 48 = .ok (.aload_n 0, 1) := by decide +kernel
theorem zd_M_get_49 : decode zc_M_get 49 = .ok (.getfield 7, 3) := by decide +kernel
theorem zd_M_get_52 : decode zc_M_get 52 = .ok (.sipush 200, 3) := by decide +kernel
theorem zd_M_get_55 : decode zc_M_get 55 = .ok (.iload_n 1, 1) := by decide +kernel
theorem zd_M_get_56 : decode zc_M_get 56 = .ok (.imul, 1) := by decide +kernel
theorem zd_M_get_57 : decode zc_M_get 57 = .ok (.iload_n 2, 1) := by decide +kernel
theorem zd_M_get_58 : decode zc_M_get 58 = .ok (.iadd, 1) := by decide +kernel
theorem zd_M_get_59 : decode zc_M_get 59 = .ok (.iaload, 1) := by decide +kernel
theorem zd_M_get_60 : decode zc_M_get 60 = .ok (.ireturn, 1) := by decide +kernel
theorem zd_M_found_0 : decode zc_M_found 0 = .ok (.aload_n 0, 1) := by decide +kernel
theorem zd_M_found_1 : decode zc_M_found 1 = .ok (.iload_n 1, 1) := by decide +kernel
theorem zd_M_found_2 : decode zc_M_found 2 = .ok (.ifCond .eq 12, 3) := by decide +kernel
theorem zd_M_found_5 : decode zc_M_found 5 = .ok (.iload_n 1, 1) := by decide +kernel
theorem zd_M_found_6 : decode zc_M_found 6 = .ok (.iconst 1, 1) := by decide +kernel
theorem zd_M_found_7 : decode zc_M_found 7 = .ok (.if_icmp .eq 7, 3) := by decide +kernel
theorem zd_M_found_10 : decode zc_M_found 10 = .ok (.iconst 1, 1) := by decide +kernel
theorem zd_M_found_11 : decode zc_M_found 11 = .ok (.goto 4, 3) := by decide +kernel
theorem zd_M_found_14 : decode zc_M_found 14 = .ok (.iconst 0, 1) := by decide +kernel
theorem zd_M_found_15 : decode zc_M_found 15 = .ok (.iconst 0, 1) := by decide +kernel
theorem zd_M_found_16 : decode zc_M_found 16 = .ok (.invokevirtual 34, 3) := by decide +kernel
theorem zd_M_found_19 : decode zc_M_found 19 = .ok (.ifCond .eq 7, 3) := by decide +kernel
theorem zd_M_found_22 : decode zc_M_found 22 = .ok (.iconst 0, 1) := by decide +kernel
theorem zd_M_found_23 : decode zc_M_found 23 = .ok (.goto 18, 3) := by decide +kernel
theorem zd_M_found_26 : decode zc_M_found 26 = .ok (.iload_n 1, 1) := by decide +kernel
theorem zd_M_found_27 : decode zc_M_found 27 = .ok (.ifCond .ne 10, 3) := by decide +kernel
theorem zd_M_found_30 : decode zc_M_found 30 = .ok (.aload_n 0, 1) := by decide +kernel
theorem zd_M_found_31 : decode zc_M_found 31 = .ok (.getfield 40, 3) := by decide +kernel
theorem zd_M_found_34 : decode zc_M_found 34 = .ok (.goto 7, 3) := by decide +kernel
theorem zd_M_found_37 : decode zc_M_found 37 = .ok (.aload_n 0, 1) := by decide +kernel
theorem zd_M_found_38 : decode zc_M_found 38 = .ok (.getfield 43, 3) := by decide +kernel
theorem zd_M_found_41 : decode zc_M_found 41 = .ok (.ireturn, 1) := by decide +kernel
theorem zd_M_four_0 : decode zc_M_four 0 = .ok (.iload_n 0, 1) := by decide +kernel
theorem zd_M_four_1 : decode zc_M_four 1 = .ok (.iload_n 1, 1) := by decide +kernel
theorem zd_M_four_2 : decode zc_M_four 2 = .ok (.bipush 8, 2) := by decide +kernel
theorem zd_M_four_4 : decode zc_M_four 4 = .ok (.ishl, 1) := by decide +kernel
theorem zd_M_four_5 : decode zc_M_four 5 = .ok (.ior, 1) := by decide +kernel
theorem zd_M_four_6 : decode zc_M_four 6 = .ok (.iload_n 2, 1) := by decide +kernel
theorem zd_M_four_7 : decode zc_M_four 7 = .ok (.bipush 16, 2) := by decide +kernel
theorem zd_M_four_9 : decode zc_M_four 9 = .ok (.ishl, 1) := by decide +kernel
theorem zd_M_four_10 : decode zc_M_four 10 = .ok (.ior, 1) := by decide +kernel
theorem zd_M_four_11 : decode zc_M_four 11 = .ok (.iload_n 3, 1) := by decide +kernel
theorem zd_M_four_12 : decode zc_M_four 12 = .ok (.bipush 24, 2) := by decide +kernel
theorem zd_M_four_14 : decode zc_M_four 14 = .ok (.ishl, 1) := by decide +kernel
theorem zd_M_four_15 : decode zc_M_four 15 = .ok (.ior, 1) := by decide +kernel
theorem zd_M_four_16 : decode zc_M_four 16 = .ok (.ireturn, 1) := by decide +kernel
theorem zd_M_intAt_0 : decode zc_M_intAt 0 = .ok (.aload_n 0, 1) := by decide +kernel
theorem zd_M_intAt_1 : decode zc_M_intAt 1 = .ok (.getfield 16, 3) := by decide +kernel
theorem zd_M_intAt_4 : decode zc_M_intAt 4 = .ok (.iload_n 1, 1) := by decide +kernel
theorem zd_M_intAt_5 : decode zc_M_intAt 5 = .ok (.iaload, 1) := by decide +kernel
theorem zd_M_intAt_6 : decode zc_M_intAt 6 = .ok (.aload_n 0, 1) := by decide +kernel
theorem zd_M_intAt_7 : decode zc_M_intAt 7 = .ok (.getfield 16, 3) := by decide +kernel
theorem zd_M_intAt_10 : decode zc_M_intAt 10 = .ok (.iload_n 1, 1) := by decide +kernel
theorem zd_M_intAt_11 : decode zc_M_intAt 11 = .ok (.iconst 1, 1) := by decide +kernel
theorem zd_M_intAt_12 : decode zc_M_intAt 12 = .ok (.iadd, 1) := by decide +kernel
theorem zd_M_intAt_13 : decode zc_M_intAt 13 = .ok (.iaload, 1) := by decide +kernel
theorem zd_M_intAt_14 : decode zc_M_intAt 14 = .ok (.aload_n 0, 1) := by decide +kernel
theorem zd_M_intAt_15 : decode zc_M_intAt 15 = .ok (.getfield 16, 3) := by decide +kernel
theorem zd_M_intAt_18 : decode zc_M_intAt 18 = .ok (.iload_n 1, 1) := by decide +kernel
theorem zd_M_intAt_19 : decode zc_M_intAt 19 = .ok (.iconst 2, 1) := by decide +kernel
theorem zd_M_intAt_20 : decode zc_M_intAt 20 = .ok (.iadd, 1) := by decide +kernel
theorem zd_M_intAt_21 : decode zc_M_intAt 21 = .ok (.iaload, 1) := by decide +kernel
theorem zd_M_intAt_22 : decode zc_M_intAt 22 = .ok (.aload_n 0, 1) := by decide +kernel
theorem zd_M_intAt_23 : decode zc_M_intAt 23 = .ok (.getfield 16, 3) := by decide +kernel
theorem zd_M_intAt_26 : decode zc_M_intAt 26 = .ok (.iload_n 1, 1) := by decide +kernel
theorem zd_M_intAt_27 : decode zc_M_intAt 27 = .ok (.iconst 3, 1) := by decide +kernel
theorem zd_M_intAt_28 : decode zc_M_intAt 28 = .ok (.iadd, 1) := by decide +kernel
theorem zd_M_intAt_29 : decode zc_M_intAt 29 = .ok (.iaload, 1) := by decide +kernel
theorem zd_M_intAt_30 : decode zc_M_intAt 30 = .ok (.invokestatic 46, 3) := by decide +kernel
theorem zd_M_intAt_33 : decode zc_M_intAt 33 = .ok (.ireturn, 1) := by decide +kernel
theorem zd_M_slot_0 : decode zc_M_slot 0 = .ok (.aload_n 0, 1) := by decide +kernel
theorem zd_M_slot_1 : decode zc_M_slot 1 = .ok (.iload_n 1, 1) := by decide +kernel
theorem zd_M_slot_2 : decode zc_M_slot 2 = .ok (.invokevirtual 50, 3) := by decide +kernel
theorem zd_M_slot_5 : decode zc_M_slot 5 = .ok (.ldc 53, 2) := by decide +kernel
theorem zd_M_slot_7 : decode zc_M_slot 7 = .ok (.imul, 1) := by decide +kernel
theorem zd_M_slot_8 : decode zc_M_slot 8 = .ok (.bipush 27, 2) := by decide +kernel
theorem zd_M_slot_10 : decode zc_M_slot 10 = .ok (.iushr, 1) := by decide +kernel
theorem zd_M_slot_11 : decode zc_M_slot 11 = .ok (.ireturn, 1) := by decide +kernel
theorem zd_M_remembers_0 : decode zc_M_remembers 0 = .ok (.aload_n 0, 1) := by decide +kernel
theorem zd_M_remembers_1 : decode zc_M_remembers 1 = .ok (.aload_n 0, 1) := by decide +kernel
theorem zd_M_remembers_2 : decode zc_M_remembers 2 = .ok (.getfield 13, 3) := by decide +kernel
theorem zd_M_remembers_5 : decode zc_M_remembers 5 = .ok (.iconst 2, 1) := by decide +kernel
theorem zd_M_remembers_6 : decode zc_M_remembers 6 = .ok (.iaload, 1) := by decide +kernel
theorem zd_M_remembers_7 : decode zc_M_remembers 7 = .ok (.putfield 54, 3) := by decide +kernel
theorem zd_M_remembers_10 : decode zc_M_remembers 10 = .ok (.iconst 0, 1) := by decide +kernel
theorem zd_M_remembers_11 : decode zc_M_remembers 11 = .ok (.istore_n 1, 1) := by decide +kernel
theorem zd_M_remembers_12 : decode zc_M_remembers 12 = .ok (.iload_n 1, 1) := by decide +kernel
theorem zd_M_remembers_13 : decode zc_M_remembers 13 = .ok (.aload_n 0, 1) := by decide +kernel
theorem zd_M_remembers_14 : decode zc_M_remembers 14 = .ok (.getfield 54, 3) := by decide +kernel
theorem zd_M_remembers_17 : decode zc_M_remembers 17 = .ok (.if_icmp .ge 25, 3) := by decide +kernel
theorem zd_M_remembers_20 : decode zc_M_remembers 20 = .ok (.aload_n 0, 1) := by decide +kernel
theorem zd_M_remembers_21 : decode zc_M_remembers 21 = .ok (.getfield 16, 3) := by decide +kernel
theorem zd_M_remembers_24 : decode zc_M_remembers 24 = .ok (.iload_n 1, 1) := by decide +kernel
theorem zd_M_remembers_25 : decode zc_M_remembers 25 = .ok (.aload_n 0, 1) := by decide +kernel
theorem zd_M_remembers_26 : decode zc_M_remembers 26 = .ok (.getfield 7, 3) := by decide +kernel
theorem zd_M_remembers_29 : decode zc_M_remembers 29 = .ok (.sipush 400, 3) := by decide +kernel
theorem zd_M_remembers_32 : decode zc_M_remembers 32 = .ok (.iload_n 1, 1) := by decide +kernel
theorem zd_M_remembers_33 : decode zc_M_remembers 33 = .ok (.iadd, 1) := by decide +kernel
theorem zd_M_remembers_34 : decode zc_M_remembers 34 = .ok (.iaload, 1) := by decide +kernel
theorem zd_M_remembers_35 : decode zc_M_remembers 35 = .ok (.iastore, 1) := by decide +kernel
theorem zd_M_remembers_36 : decode zc_M_remembers 36 = .ok (.iinc 1 1, 3) := by decide +kernel
theorem zd_M_remembers_39 : decode zc_M_remembers 39 = .ok (.goto (-27), 3) := by decide +kernel
theorem zd_M_remembers_42 : decode zc_M_remembers 42 = .ok (.aload_n 0, 1) := by decide +kernel
theorem zd_M_remembers_43 : decode zc_M_remembers 43 = .ok (.aload_n 0, 1) := by decide +kernel
theorem zd_M_remembers_44 : decode zc_M_remembers 44 = .ok (.getfield 54, 3) := by decide +kernel
theorem zd_M_remembers_47 : decode zc_M_remembers 47 = .ok (.putfield 57, 3) := by decide +kernel
theorem zd_M_remembers_50 : decode zc_M_remembers 50 = .ok (.return_, 1) := by decide +kernel
theorem zd_M_emit_0 : decode zc_M_emit 0 = .ok (.aload_n 0, 1) := by decide +kernel
theorem zd_M_emit_1 : decode zc_M_emit 1 = .ok (.getfield 7, 3) := by decide +kernel
theorem zd_M_emit_4 : decode zc_M_emit 4 = .ok (.sipush 200, 3) := by decide +kernel
theorem zd_M_emit_7 : decode zc_M_emit 7 = .ok (.aload_n 0, 1) := by decide +kernel
theorem zd_M_emit_8 : decode zc_M_emit 8 = .ok (.getfield 60, 3) := by decide +kernel
theorem zd_M_emit_11 : decode zc_M_emit 11 = .ok (.iadd, 1) := by decide +kernel
theorem zd_M_emit_12 : decode zc_M_emit 12 = .ok (.iload_n 1, 1) := by decide +kernel
theorem zd_M_emit_13 : decode zc_M_emit 13 = .ok (.sipush 255, 3) := by decide +kernel
theorem zd_M_emit_16 : decode zc_M_emit 16 = .ok (.iand, 1) := by decide +kernel
theorem zd_M_emit_17 : decode zc_M_emit 17 = .ok (.iastore, 1) := by decide +kernel
theorem zd_M_emit_18 : decode zc_M_emit 18 = .ok (.aload_n 0, 1) := by decide +kernel
theorem zd_M_emit_19 : decode zc_M_emit 19 = .ok (.dup, 1) := by decide +kernel
theorem zd_M_emit_20 : decode zc_M_emit 20 = .ok (.getfield 60, 3) := by decide +kernel
theorem zd_M_emit_23 : decode zc_M_emit 23 = .ok (.iconst 1, 1) := by decide +kernel
theorem zd_M_emit_24 : decode zc_M_emit 24 = .ok (.iadd, 1) := by decide +kernel
theorem zd_M_emit_25 : decode zc_M_emit 25 = .ok (.putfield 60, 3) := by decide +kernel
theorem zd_M_emit_28 : decode zc_M_emit 28 = .ok (.return_, 1) := by decide +kernel
theorem zd_M_emitLiterals_0 : decode zc_M_emitLiterals 0 = .ok (.iload_n 1, 1) := by decide +kernel
theorem zd_M_emitLiterals_1 : decode zc_M_emitLiterals 1 = .ok (.istore_n 3, 1) := by decide +kernel
theorem zd_M_emitLiterals_2 : decode zc_M_emitLiterals 2 = .ok (.iload_n 3, 1) := by decide +kernel
theorem zd_M_emitLiterals_3 : decode zc_M_emitLiterals 3 = .ok (.iload_n 2, 1) := by decide +kernel
theorem zd_M_emitLiterals_4 : decode zc_M_emitLiterals 4 = .ok (.if_icmp .ge 19, 3) := by decide +kernel
theorem zd_M_emitLiterals_7 : decode zc_M_emitLiterals 7 = .ok (.aload_n 0, 1) := by decide +kernel
theorem zd_M_emitLiterals_8 : decode zc_M_emitLiterals 8 = .ok (.aload_n 0, 1) := by decide +kernel
theorem zd_M_emitLiterals_9 : decode zc_M_emitLiterals 9 = .ok (.getfield 16, 3) := by decide +kernel
theorem zd_M_emitLiterals_12 : decode zc_M_emitLiterals 12 = .ok (.iload_n 3, 1) := by decide +kernel
theorem zd_M_emitLiterals_13 : decode zc_M_emitLiterals 13 = .ok (.iaload, 1) := by decide +kernel
theorem zd_M_emitLiterals_14 : decode zc_M_emitLiterals 14 = .ok (.invokevirtual 63, 3) := by decide +kernel
theorem zd_M_emitLiterals_17 : decode zc_M_emitLiterals 17 = .ok (.iinc 3 1, 3) := by decide +kernel
theorem zd_M_emitLiterals_20 : decode zc_M_emitLiterals 20 = .ok (.goto (-18), 3) := by decide +kernel
theorem zd_M_emitLiterals_23 : decode zc_M_emitLiterals 23 = .ok (.return_, 1) := by decide +kernel
theorem zd_M_emitMore_0 : decode zc_M_emitMore 0 = .ok (.iload_n 1, 1) := by decide +kernel
theorem zd_M_emitMore_1 : decode zc_M_emitMore 1 = .ok (.bipush 15, 2) := by decide +kernel
theorem zd_M_emitMore_3 : decode zc_M_emitMore 3 = .ok (.if_icmp .ge 4, 3) := by decide +kernel
theorem zd_M_emitMore_6 : decode zc_M_emitMore 6 = .ok (.return_, 1) := by decide +kernel
theorem zd_M_emitMore_7 : decode zc_M_emitMore 7 = .ok (.iload_n 1, 1) := by decide +kernel
theorem zd_M_emitMore_8 : decode zc_M_emitMore 8 = .ok (.bipush 15, 2) := by decide +kernel
theorem zd_M_emitMore_10 : decode zc_M_emitMore 10 = .ok (.isub, 1) := by decide +kernel
theorem zd_M_emitMore_11 : decode zc_M_emitMore 11 = .ok (.istore_n 2, 1) := by decide +kernel
theorem zd_M_emitMore_12 : decode zc_M_emitMore 12 = .ok (.iload_n 2, 1) := by decide +kernel
theorem zd_M_emitMore_13 : decode zc_M_emitMore 13 = .ok (.sipush 255, 3) := by decide +kernel
theorem zd_M_emitMore_16 : decode zc_M_emitMore 16 = .ok (.if_icmp .lt 19, 3) := by decide +kernel
theorem zd_M_emitMore_19 : decode zc_M_emitMore 19 = .ok (.aload_n 0, 1) := by decide +kernel
theorem zd_M_emitMore_20 : decode zc_M_emitMore 20 = .ok (.sipush 255, 3) := by decide +kernel
theorem zd_M_emitMore_23 : decode zc_M_emitMore 23 = .ok (.invokevirtual 63, 3) := by decide +kernel
theorem zd_M_emitMore_26 : decode zc_M_emitMore 26 = .ok (.iinc 2 (-255), 6) := by decide +kernel
theorem zd_M_emitMore_32 : decode zc_M_emitMore 32 = .ok (.goto (-20), 3) := by decide +kernel
theorem zd_M_emitMore_35 : decode zc_M_emitMore 35 = .ok (.aload_n 0, 1) := by decide +kernel
theorem zd_M_emitMore_36 : decode zc_M_emitMore 36 = .ok (.iload_n 2, 1) := by decide +kernel
theorem zd_M_emitMore_37 : decode zc_M_emitMore 37 = .ok (.invokevirtual 63, 3) := by decide +kernel
theorem zd_M_emitMore_40 : decode zc_M_emitMore 40 = .ok (.return_, 1) := by decide +kernel
theorem zd_M_atMost15_0 : decode zc_M_atMost15 0 = .ok (.iload_n 0, 1) := by decide +kernel
theorem zd_M_atMost15_1 : decode zc_M_atMost15 1 = .ok (.bipush 15, 2) := by decide +kernel
theorem zd_M_atMost15_3 : decode zc_M_atMost15 3 = .ok (.if_icmp .ge 7, 3) := by decide +kernel
theorem zd_M_atMost15_6 : decode zc_M_atMost15 6 = .ok (.iload_n 0, 1) := by decide +kernel
theorem zd_M_atMost15_7 : decode zc_M_atMost15 7 = .ok (.goto 5, 3) := by decide +kernel
theorem zd_M_atMost15_10 : decode zc_M_atMost15 10 = .ok (.bipush 15, 2) := by decide +kernel
theorem zd_M_atMost15_12 : decode zc_M_atMost15 12 = .ok (.ireturn, 1) := by decide +kernel
theorem zd_M_sequence_0 : decode zc_M_sequence 0 = .ok (.iload_n 2, 1) := by decide +kernel
theorem zd_M_sequence_1 : decode zc_M_sequence 1 = .ok (.iload_n 1, 1) := by decide +kernel
theorem zd_M_sequence_2 : decode zc_M_sequence 2 = .ok (.isub, 1) := by decide +kernel
theorem zd_M_sequence_3 : decode zc_M_sequence 3 = .ok (.istore 5, 2) := by decide +kernel
theorem zd_M_sequence_5 : decode zc_M_sequence 5 = .ok (.aload_n 0, 1) := by decide +kernel
theorem zd_M_sequence_6 : decode zc_M_sequence 6 = .ok (.iload 5, 2) := by decide +kernel
theorem zd_M_sequence_8 : decode zc_M_sequence 8 = .ok (.invokestatic 67, 3) := by decide +kernel
theorem zd_M_sequence_11 : decode zc_M_sequence 11 = .ok (.iconst 4, 1) := by decide +kernel
theorem zd_M_sequence_12 : decode zc_M_sequence 12 = .ok (.ishl, 1) := by decide +kernel
theorem zd_M_sequence_13 : decode zc_M_sequence 13 = .ok (.iload_n 3, 1) := by decide +kernel
theorem zd_M_sequence_14 : decode zc_M_sequence 14 = .ok (.iconst 4, 1) := by decide +kernel
theorem zd_M_sequence_15 : decode zc_M_sequence 15 = .ok (.isub, 1) := by decide +kernel
theorem zd_M_sequence_16 : decode zc_M_sequence 16 = .ok (.invokestatic 67, 3) := by decide +kernel
theorem zd_M_sequence_19 : decode zc_M_sequence 19 = .ok (.ior, 1) := by decide +kernel
theorem zd_M_sequence_20 : decode zc_M_sequence 20 = .ok (.invokevirtual 63, 3) := by decide +kernel
theorem zd_M_sequence_23 : decode zc_M_sequence 23 = .ok (.aload_n 0, 1) := by decide +kernel
theorem zd_M_sequence_24 : decode zc_M_sequence 24 = .ok (.iload 5, 2) := by decide +kernel
theorem zd_M_sequence_26 : decode zc_M_sequence 26 = .ok (.invokevirtual 70, 3) := by decide +kernel
theorem zd_M_sequence_29 : decode zc_M_sequence 29 = .ok (.aload_n 0, 1) := by decide +kernel
theorem zd_M_sequence_30 : decode zc_M_sequence 30 = .ok (.iload_n 1, 1) := by decide +kernel
theorem zd_M_sequence_31 : decode zc_M_sequence 31 = .ok (.iload_n 2, 1) := by decide +kernel
theorem zd_M_sequence_32 : decode zc_M_sequence 32 = .ok (.invokevirtual 73, 3) := by decide +kernel
theorem zd_M_sequence_35 : decode zc_M_sequence 35 = .ok (.aload_n 0, 1) := by decide +kernel
theorem zd_M_sequence_36 : decode zc_M_sequence 36 = .ok (.iload 4, 2) := by decide +kernel
theorem zd_M_sequence_38 : decode zc_M_sequence 38 = .ok (.invokevirtual 63, 3) := by decide +kernel
theorem zd_M_sequence_41 : decode zc_M_sequence 41 = .ok (.aload_n 0, 1) := by decide +kernel
theorem zd_M_sequence_42 : decode zc_M_sequence 42 = .ok (.iload 4, 2) := by decide +kernel
theorem zd_M_sequence_44 : decode zc_M_sequence 44 = .ok (.bipush 8, 2) := by decide +kernel
theorem zd_M_sequence_46 : decode zc_M_sequence 46 = .ok (.ishr, 1) := by decide +kernel
theorem zd_M_sequence_47 : decode zc_M_sequence 47 = .ok (.invokevirtual 63, 3) := by decide +kernel
theorem zd_M_sequence_50 : decode zc_M_sequence 50 = .ok (.aload_n 0, 1) := by decide +kernel
theorem zd_M_sequence_51 : decode zc_M_sequence 51 = .ok (.iload_n 3, 1) := by decide +kernel
theorem zd_M_sequence_52 : decode zc_M_sequence 52 = .ok (.iconst 4, 1) := by decide +kernel
theorem zd_M_sequence_53 : decode zc_M_sequence 53 = .ok (.isub, 1) := by decide +kernel
theorem zd_M_sequence_54 : decode zc_M_sequence 54 = .ok (.invokevirtual 70, 3) := by decide +kernel
theorem zd_M_sequence_57 : decode zc_M_sequence 57 = .ok (.return_, 1) := by decide +kernel
theorem zd_M_lastSequence_0 : decode zc_M_lastSequence 0 = .ok (.aload_n 0, 1) := by decide +kernel
theorem zd_M_lastSequence_1 : decode zc_M_lastSequence 1 = .ok (.iload_n 2, 1) := by decide +kernel
theorem zd_M_lastSequence_2 : decode zc_M_lastSequence 2 = .ok (.iload_n 1, 1) := by decide +kernel
theorem zd_M_lastSequence_3 : decode zc_M_lastSequence 3 = .ok (.isub, 1) := by decide +kernel
theorem zd_M_lastSequence_4 : decode zc_M_lastSequence 4 = .ok (.invokestatic 67, 3) := by decide +kernel
theorem zd_M_lastSequence_7 : decode zc_M_lastSequence 7 = .ok (.iconst 4, 1) := by decide +kernel
theorem zd_M_lastSequence_8 : decode zc_M_lastSequence 8 = .ok (.ishl, 1) := by decide +kernel
theorem zd_M_lastSequence_9 : decode zc_M_lastSequence 9 = .ok (.invokevirtual 63, 3) := by decide +kernel
theorem zd_M_lastSequence_12 : decode zc_M_lastSequence 12 = .ok (.aload_n 0, 1) := by decide +kernel
theorem zd_M_lastSequence_13 : decode zc_M_lastSequence 13 = .ok (.iload_n 2, 1) := by decide +kernel
theorem zd_M_lastSequence_14 : decode zc_M_lastSequence 14 = .ok (.iload_n 1, 1) := by decide +kernel
theorem zd_M_lastSequence_15 : decode zc_M_lastSequence 15 = .ok (.isub, 1) := by decide +kernel
theorem zd_M_lastSequence_16 : decode zc_M_lastSequence 16 = .ok (.invokevirtual 70, 3) := by decide +kernel
theorem zd_M_lastSequence_19 : decode zc_M_lastSequence 19 = .ok (.aload_n 0, 1) := by decide +kernel
theorem zd_M_lastSequence_20 : decode zc_M_lastSequence 20 = .ok (.iload_n 1, 1) := by decide +kernel
theorem zd_M_lastSequence_21 : decode zc_M_lastSequence 21 = .ok (.iload_n 2, 1) := by decide +kernel
theorem zd_M_lastSequence_22 : decode zc_M_lastSequence 22 = .ok (.invokevirtual 73, 3) := by decide +kernel
theorem zd_M_lastSequence_25 : decode zc_M_lastSequence 25 = .ok (.return_, 1) := by decide +kernel
theorem zd_M_literalElement_0 : decode zc_M_literalElement 0 = .ok (.iload_n 2, 1) := by decide +kernel
theorem zd_M_literalElement_1 : decode zc_M_literalElement 1 = .ok (.iload_n 1, 1) := by decide +kernel
theorem zd_M_literalElement_2 : decode zc_M_literalElement 2 = .ok (.isub, 1) := by decide +kernel
theorem zd_M_literalElement_3 : decode zc_M_literalElement 3 = .ok (.iconst 1, 1) := by decide +kernel
theorem zd_M_literalElement_4 : decode zc_M_literalElement 4 = .ok (.isub, 1) := by decide +kernel
theorem zd_M_literalElement_5 : decode zc_M_literalElement 5 = .ok (.istore_n 3, 1) := by decide +kernel
theorem zd_M_literalElement_6 : decode zc_M_literalElement 6 = .ok (.iload_n 3, 1) := by decide +kernel
theorem zd_M_literalElement_7 : decode zc_M_literalElement 7 = .ok (.ifCond .ge 4, 3) := by decide +kernel
theorem zd_M_literalElement_10 : decode zc_M_literalElement 10 = .ok (.return_, 1) := by decide +kernel
theorem zd_M_literalElement_11 : decode zc_M_literalElement 11 = .ok (.aload_n 0, 1) := by decide +kernel
theorem zd_M_literalElement_12 : decode zc_M_literalElement 12 = .ok (.iload_n 3, 1) := by decide +kernel
theorem zd_M_literalElement_13 : decode zc_M_literalElement 13 = .ok (.bipush 60, 2) := by decide +kernel
theorem zd_M_literalElement_15 : decode zc_M_literalElement 15 = .ok (.if_icmp .ge 7, 3) := by decide +kernel
theorem zd_M_literalElement_18 : decode zc_M_literalElement 18 = .ok (.iload_n 3, 1) := by decide +kernel
theorem zd_M_literalElement_19 : decode zc_M_literalElement 19 = .ok (.goto 5, 3) := by decide +kernel
theorem zd_M_literalElement_22 : decode zc_M_literalElement 22 = .ok (.bipush 60, 2) := by decide +kernel
theorem zd_M_literalElement_24 : decode zc_M_literalElement 24 = .ok (.iconst 2, 1) := by decide +kernel
theorem zd_M_literalElement_25 : decode zc_M_literalElement 25 = .ok (.ishl, 1) := by decide +kernel
theorem zd_M_literalElement_26 : decode zc_M_literalElement 26 = .ok (.invokevirtual 63, 3) := by decide +kernel
theorem zd_M_literalElement_29 : decode zc_M_literalElement 29 = .ok (.iload_n 3, 1) := by decide +kernel
theorem zd_M_literalElement_30 : decode zc_M_literalElement 30 = .ok (.bipush 59, 2) := by decide +kernel
theorem zd_M_literalElement_32 : decode zc_M_literalElement 32 = .ok (.if_icmp .le 8, 3) := by decide +kernel
theorem zd_M_literalElement_35 : decode zc_M_literalElement 35 = .ok (.aload_n 0, 1) := by decide +kernel
theorem zd_M_literalElement_36 : decode zc_M_literalElement 36 = .ok (.iload_n 3, 1) := by decide +kernel
theorem zd_M_literalElement_37 : decode zc_M_literalElement 37 = .ok (.invokevirtual 63, 3) := by decide +kernel
theorem zd_M_literalElement_40 : decode zc_M_literalElement 40 = .ok (.aload_n 0, 1) := by decide +kernel
theorem zd_M_literalElement_41 : decode zc_M_literalElement 41 = .ok (.iload_n 1, 1) := by decide +kernel
theorem zd_M_literalElement_42 : decode zc_M_literalElement 42 = .ok (.iload_n 2, 1) := by decide +kernel
theorem zd_M_literalElement_43 : decode zc_M_literalElement 43 = .ok (.invokevirtual 73, 3) := by decide +kernel
theorem zd_M_literalElement_46 : decode zc_M_literalElement 46 = .ok (.return_, 1) := by decide +kernel
theorem zd_M_copyElement_0 : decode zc_M_copyElement 0 = .ok (.iload_n 1, 1) := by decide +kernel
theorem zd_M_copyElement_1 : decode zc_M_copyElement 1 = .ok (.iconst 3, 1) := by decide +kernel
theorem zd_M_copyElement_2 : decode zc_M_copyElement 2 = .ok (.if_icmp .le 40, 3) := by decide +kernel
theorem zd_M_copyElement_5 : decode zc_M_copyElement 5 = .ok (.iload_n 1, 1) := by decide +kernel
theorem zd_M_copyElement_6 : decode zc_M_copyElement 6 = .ok (.bipush 12, 2) := by decide +kernel
theorem zd_M_copyElement_8 : decode zc_M_copyElement 8 = .ok (.if_icmp .ge 34, 3) := by decide +kernel
theorem zd_M_copyElement_11 : decode zc_M_copyElement 11 = .ok (.iload_n 2, 1) := by decide +kernel
theorem zd_M_copyElement_12 : decode zc_M_copyElement 12 = .ok (.sipush 2048, 3) := by decide +kernel
theorem zd_M_copyElement_15 : decode zc_M_copyElement 15 = .ok (.if_icmp .ge 27, 3) := by decide +kernel
theorem zd_M_copyElement_18 : decode zc_M_copyElement 18 = .ok (.aload_n 0, 1) := by decide +kernel
theorem zd_M_copyElement_19 : decode zc_M_copyElement 19 = .ok (.iconst 1, 1) := by decide +kernel
theorem zd_M_copyElement_20 : decode zc_M_copyElement 20 = .ok (.iload_n 1, 1) := by decide +kernel
theorem zd_M_copyElement_21 : decode zc_M_copyElement 21 = .ok (.iconst 4, 1) := by decide +kernel
theorem zd_M_copyElement_22 : decode zc_M_copyElement 22 = .ok (.isub, 1) := by decide +kernel
theorem zd_M_copyElement_23 : decode zc_M_copyElement 23 = .ok (.iconst 2, 1) := by decide +kernel
theorem zd_M_copyElement_24 : decode zc_M_copyElement 24 = .ok (.ishl, 1) := by decide +kernel
theorem zd_M_copyElement_25 : decode zc_M_copyElement 25 = .ok (.ior, 1) := by decide +kernel
theorem zd_M_copyElement_26 : decode zc_M_copyElement 26 = .ok (.iload_n 2, 1) := by decide +kernel
theorem zd_M_copyElement_27 : decode zc_M_copyElement 27 = .ok (.bipush 8, 2) := by decide +kernel
theorem zd_M_copyElement_29 : decode zc_M_copyElement 29 = .ok (.ishr, 1) := by decide +kernel
theorem zd_M_copyElement_30 : decode zc_M_copyElement 30 = .ok (.iconst 5, 1) := by decide +kernel
theorem zd_M_copyElement_31 : decode zc_M_copyElement 31 = .ok (.ishl, 1) := by decide +kernel
theorem zd_M_copyElement_32 : decode zc_M_copyElement 32 = .ok (.ior, 1) := by decide +kernel
theorem zd_M_copyElement_33 : decode zc_M_copyElement 33 = .ok (.invokevirtual 63, 3) := by decide +kernel
theorem zd_M_copyElement_36 : decode zc_M_copyElement 36 = .ok (.aload_n 0, 1) := by decide +kernel
theorem zd_M_copyElement_37 : decode zc_M_copyElement 37 = .ok (.iload_n 2, 1) := by decide +kernel
theorem zd_M_copyElement_38 : decode zc_M_copyElement 38 = .ok (.invokevirtual 63, 3) := by decide +kernel
theorem zd_M_copyElement_41 : decode zc_M_copyElement 41 = .ok (.return_, 1) := by decide +kernel
theorem zd_M_copyElement_42 : decode zc_M_copyElement 42 = .ok (.aload_n 0, 1) := by decide +kernel
theorem zd_M_copyElement_43 : decode zc_M_copyElement 43 = .ok (.iconst 2, 1) := by decide +kernel
theorem zd_M_copyElement_44 : decode zc_M_copyElement 44 = .ok (.iload_n 1, 1) := by decide +kernel
theorem zd_M_copyElement_45 : decode zc_M_copyElement 45 = .ok (.iconst 1, 1) := by decide +kernel
theorem zd_M_copyElement_46 : decode zc_M_copyElement 46 = .ok (.isub, 1) := by decide +kernel
theorem zd_M_copyElement_47 : decode zc_M_copyElement 47 = .ok (.iconst 2, 1) := by decide +kernel
theorem zd_M_copyElement_48 : decode zc_M_copyElement 48 = .ok (.ishl, 1) := by decide +kernel
theorem zd_M_copyElement_49 : decode zc_M_copyElement 49 = .ok (.ior, 1) := by decide +kernel
theorem zd_M_copyElement_50 : decode zc_M_copyElement 50 = .ok (.invokevirtual 63, 3) := by decide +kernel
theorem zd_M_copyElement_53 : decode zc_M_copyElement 53 = .ok (.aload_n 0, 1) := by decide +kernel
theorem zd_M_copyElement_54 : decode zc_M_copyElement 54 = .ok (.iload_n 2, 1) := by decide +kernel
theorem zd_M_copyElement_55 : decode zc_M_copyElement 55 = .ok (.invokevirtual 63, 3) := by decide +kernel
theorem zd_M_copyElement_58 : decode zc_M_copyElement 58 = .ok (.aload_n 0, 1) := by decide +kernel
theorem zd_M_copyElement_59 : decode zc_M_copyElement 59 = .ok (.iload_n 2, 1) := by decide +kernel
theorem zd_M_copyElement_60 : decode zc_M_copyElement 60 = .ok (.bipush 8, 2) := by decide +kernel
theorem zd_M_copyElement_62 : decode zc_M_copyElement 62 = .ok (.ishr, 1) := by decide +kernel
theorem zd_M_copyElement_63 : decode zc_M_copyElement 63 = .ok (.invokevirtual 63, 3) := by decide +kernel
theorem zd_M_copyElement_66 : decode zc_M_copyElement 66 = .ok (.return_, 1) := by decide +kernel
theorem zd_M_copyElements_0 : decode zc_M_copyElements 0 = .ok (.iload_n 1, 1) := by decide +kernel
theorem zd_M_copyElements_1 : decode zc_M_copyElements 1 = .ok (.istore_n 3, 1) := by decide +kernel
theorem zd_M_copyElements_2 : decode zc_M_copyElements 2 = .ok (.iload_n 3, 1) := by decide +kernel
theorem zd_M_copyElements_3 : decode zc_M_copyElements 3 = .ok (.bipush 68, 2) := by decide +kernel
theorem zd_M_copyElements_5 : decode zc_M_copyElements 5 = .ok (.if_icmp .lt 16, 3) := by decide +kernel
theorem zd_M_copyElements_8 : decode zc_M_copyElements 8 = .ok (.aload_n 0, 1) := by decide +kernel
theorem zd_M_copyElements_9 : decode zc_M_copyElements 9 = .ok (.bipush 64, 2) := by decide +kernel
theorem zd_M_copyElements_11 : decode zc_M_copyElements 11 = .ok (.iload_n 2, 1) := by decide +kernel
theorem zd_M_copyElements_12 : decode zc_M_copyElements 12 = .ok (.invokevirtual 77, 3) := by decide +kernel
theorem zd_M_copyElements_15 : decode zc_M_copyElements 15 = .ok (.iinc 3 (-64), 3) := by decide +kernel
theorem zd_M_copyElements_18 : decode zc_M_copyElements 18 = .ok (.goto (-16), 3) := by decide +kernel
theorem zd_M_copyElements_21 : decode zc_M_copyElements 21 = .ok (.iload_n 3, 1) := by decide +kernel
theorem zd_M_copyElements_22 : decode zc_M_copyElements 22 = .ok (.bipush 64, 2) := by decide +kernel
theorem zd_M_copyElements_24 : decode zc_M_copyElements 24 = .ok (.if_icmp .le 13, 3) := by decide +kernel
theorem zd_M_copyElements_27 : decode zc_M_copyElements 27 = .ok (.aload_n 0, 1) := by decide +kernel
theorem zd_M_copyElements_28 : decode zc_M_copyElements 28 = .ok (.bipush 60, 2) := by decide +kernel
theorem zd_M_copyElements_30 : decode zc_M_copyElements 30 = .ok (.iload_n 2, 1) := by decide +kernel
theorem zd_M_copyElements_31 : decode zc_M_copyElements 31 = .ok (.invokevirtual 77, 3) := by decide +kernel
theorem zd_M_copyElements_34 : decode zc_M_copyElements 34 = .ok (.iinc 3 (-60), 3) := by decide +kernel
theorem zd_M_copyElements_37 : decode zc_M_copyElements 37 = .ok (.aload_n 0, 1) := by decide +kernel
theorem zd_M_copyElements_38 : decode zc_M_copyElements 38 = .ok (.iload_n 3, 1) := by decide +kernel
theorem zd_M_copyElements_39 : decode zc_M_copyElements 39 = .ok (.iload_n 2, 1) := by decide +kernel
theorem zd_M_copyElements_40 : decode zc_M_copyElements 40 = .ok (.invokevirtual 77, 3) := by decide +kernel
theorem zd_M_copyElements_43 : decode zc_M_copyElements 43 = .ok (.return_, 1) := by decide +kernel
theorem zd_M_same_0 : decode zc_M_same 0 = .ok (.iconst 0, 1) := by decide +kernel
theorem zd_M_same_1 : decode zc_M_same 1 = .ok (.istore_n 3, 1) := by decide +kernel
theorem zd_M_same_2 : decode zc_M_same 2 = .ok (.iload_n 2, 1) := by decide +kernel
theorem zd_M_same_3 : decode zc_M_same 3 = .ok (.iload_n 3, 1) := by decide +kernel
theorem zd_M_same_4 : decode zc_M_same 4 = .ok (.iadd, 1) := by decide +kernel
theorem zd_M_same_5 : decode zc_M_same 5 = .ok (.aload_n 0, 1) := by decide +kernel
theorem zd_M_same_6 : decode zc_M_same 6 = .ok (.getfield 57, 3) := by decide +kernel
theorem zd_M_same_9 : decode zc_M_same 9 = .ok (.iconst 5, 1) := by decide +kernel
theorem zd_M_same_10 : decode zc_M_same 10 = .ok (.isub, 1) := by decide +kernel
theorem zd_M_same_11 : decode zc_M_same 11 = .ok (.if_icmp .ge 28, 3) := by decide +kernel
theorem zd_M_same_14 : decode zc_M_same 14 = .ok (.aload_n 0, 1) := by decide +kernel
theorem zd_M_same_15 : decode zc_M_same 15 = .ok (.getfield 16, 3) := by decide +kernel
theorem zd_M_same_18 : decode zc_M_same 18 = .ok (.iload_n 1, 1) := by decide +kernel
theorem zd_M_same_19 : decode zc_M_same 19 = .ok (.iload_n 3, 1) := by decide +kernel
theorem zd_M_same_20 : decode zc_M_same 20 = .ok (.iadd, 1) := by decide +kernel
theorem zd_M_same_21 : decode zc_M_same 21 = .ok (.iaload, 1) := by decide +kernel
theorem zd_M_same_22 : decode zc_M_same 22 = .ok (.aload_n 0, 1) := by decide +kernel
theorem zd_M_same_23 : decode zc_M_same 23 = .ok (.getfield 16, 3) := by decide +kernel
theorem zd_M_same_26 : decode zc_M_same 26 = .ok (.iload_n 2, 1) := by decide +kernel
theorem zd_M_same_27 : decode zc_M_same 27 = .ok (.iload_n 3, 1) := by decide +kernel
theorem zd_M_same_28 : decode zc_M_same 28 = .ok (.iadd, 1) := by decide +kernel
theorem zd_M_same_29 : decode zc_M_same 29 = .ok (.iaload, 1) := by decide +kernel
theorem zd_M_same_30 : decode zc_M_same 30 = .ok (.if_icmp .ne 9, 3) := by decide +kernel
theorem zd_M_same_33 : decode zc_M_same 33 = .ok (.iinc 3 1, 3) := by decide +kernel
theorem zd_M_same_36 : decode zc_M_same 36 = .ok (.goto (-34), 3) := by decide +kernel
theorem zd_M_same_39 : decode zc_M_same 39 = .ok (.iload_n 3, 1) := by decide +kernel
theorem zd_M_same_40 : decode zc_M_same 40 = .ok (.ireturn, 1) := by decide +kernel
theorem zd_M_packs_0 : decode zc_M_packs 0 = .ok (.iconst 0, 1) := by decide +kernel
theorem zd_M_packs_1 : decode zc_M_packs 1 = .ok (.istore_n 2, 1) := by decide +kernel
theorem zd_M_packs_2 : decode zc_M_packs 2 = .ok (.iload_n 2, 1) := by decide +kernel
theorem zd_M_packs_3 : decode zc_M_packs 3 = .ok (.bipush 32, 2) := by decide +kernel
theorem zd_M_packs_5 : decode zc_M_packs 5 = .ok (.if_icmp .ge 16, 3) := by decide +kernel
theorem zd_M_packs_8 : decode zc_M_packs 8 = .ok (.aload_n 0, 1) := by decide +kernel
theorem zd_M_packs_9 : decode zc_M_packs 9 = .ok (.getfield 19, 3) := by decide +kernel
theorem zd_M_packs_12 : decode zc_M_packs 12 = .ok (.iload_n 2, 1) := by decide +kernel
theorem zd_M_packs_13 : decode zc_M_packs 13 = .ok (.iconst (-1), 1) := by decide +kernel
theorem zd_M_packs_14 : decode zc_M_packs 14 = .ok (.iastore, 1) := by decide +kernel
theorem zd_M_packs_15 : decode zc_M_packs 15 = .ok (.iinc 2 1, 3) := by decide +kernel
theorem zd_M_packs_18 : decode zc_M_packs 18 = .ok (.goto (-16), 3) := by decide +kernel
theorem zd_M_packs_21 : decode zc_M_packs 21 = .ok (.iconst 0, 1) := by decide +kernel
theorem zd_M_packs_22 : decode zc_M_packs 22 = .ok (.istore_n 2, 1) := by decide +kernel
theorem zd_M_packs_23 : decode zc_M_packs 23 = .ok (.iload_n 2, 1) := by decide +kernel
theorem zd_M_packs_24 : decode zc_M_packs 24 = .ok (.iconst 4, 1) := by decide +kernel
theorem zd_M_packs_25 : decode zc_M_packs 25 = .ok (.iadd, 1) := by decide +kernel
theorem zd_M_packs_26 : decode zc_M_packs 26 = .ok (.aload_n 0, 1) := by decide +kernel
theorem zd_M_packs_27 : decode zc_M_packs 27 = .ok (.getfield 54, 3) := by decide +kernel
theorem zd_M_packs_30 : decode zc_M_packs 30 = .ok (.if_icmp .gt 20, 3) := by decide +kernel
theorem zd_M_packs_33 : decode zc_M_packs 33 = .ok (.aload_n 0, 1) := by decide +kernel
theorem zd_M_packs_34 : decode zc_M_packs 34 = .ok (.getfield 19, 3) := by decide +kernel
theorem zd_M_packs_37 : decode zc_M_packs 37 = .ok (.aload_n 0, 1) := by decide +kernel
theorem zd_M_packs_38 : decode zc_M_packs 38 = .ok (.iload_n 2, 1) := by decide +kernel
theorem zd_M_packs_39 : decode zc_M_packs 39 = .ok (.invokevirtual 80, 3) := by decide +kernel
theorem zd_M_packs_42 : decode zc_M_packs 42 = .ok (.iload_n 2, 1) := by decide +kernel
theorem zd_M_packs_43 : decode zc_M_packs 43 = .ok (.iastore, 1) := by decide +kernel
theorem zd_M_packs_44 : decode zc_M_packs 44 = .ok (.iinc 2 1, 3) := by decide +kernel
theorem zd_M_packs_47 : decode zc_M_packs 47 = .ok (.goto (-24), 3) := by decide +kernel
theorem zd_M_packs_50 : decode zc_M_packs 50 = .ok (.aload_n 0, 1) := by decide +kernel
theorem zd_M_packs_51 : decode zc_M_packs 51 = .ok (.getfield 54, 3) := by decide +kernel
theorem zd_M_packs_54 : decode zc_M_packs 54 = .ok (.istore_n 2, 1) := by decide +kernel
theorem zd_M_packs_55 : decode zc_M_packs 55 = .ok (.aload_n 0, 1) := by decide +kernel
theorem zd_M_packs_56 : decode zc_M_packs 56 = .ok (.getfield 54, 3) := by decide +kernel
theorem zd_M_packs_59 : decode zc_M_packs 59 = .ok (.istore_n 3, 1) := by decide +kernel
theorem zd_M_packs_60 : decode zc_M_packs 60 = .ok (.aload_n 0, 1) := by decide +kernel
theorem zd_M_packs_61 : decode zc_M_packs 61 = .ok (.getfield 57, 3) := by decide +kernel
theorem zd_M_packs_64 : decode zc_M_packs 64 = .ok (.iload_n 3, 1) := by decide +kernel
theorem zd_M_packs_65 : decode zc_M_packs 65 = .ok (.isub, 1) := by decide +kernel
theorem zd_M_packs_66 : decode zc_M_packs 66 = .ok (.bipush 12, 2) := by decide +kernel
theorem zd_M_packs_68 : decode zc_M_packs 68 = .ok (.if_icmp .lt 127, 3) := by decide +kernel
theorem zd_M_packs_71 : decode zc_M_packs 71 = .ok (.aload_n 0, 1) := by decide +kernel
theorem zd_M_packs_72 : decode zc_M_packs 72 = .ok (.iload_n 3, 1) := by decide +kernel
theorem zd_M_packs_73 : decode zc_M_packs 73 = .ok (.invokevirtual 80, 3) := by decide +kernel
theorem zd_M_packs_76 : decode zc_M_packs 76 = .ok (.istore 4, 2) := by decide +kernel
theorem zd_M_packs_78 : decode zc_M_packs 78 = .ok (.aload_n 0, 1) := by decide +kernel
theorem zd_M_packs_79 : decode zc_M_packs 79 = .ok (.getfield 19, 3) := by decide +kernel
theorem zd_M_packs_82 : decode zc_M_packs 82 = .ok (.iload 4, 2) := by decide +kernel
theorem zd_M_packs_84 : decode zc_M_packs 84 = .ok (.iaload, 1) := by decide +kernel
theorem zd_M_packs_85 : decode zc_M_packs 85 = .ok (.istore 5, 2) := by decide +kernel
theorem zd_M_packs_87 : decode zc_M_packs 87 = .ok (.aload_n 0, 1) := by decide +kernel
theorem zd_M_packs_88 : decode zc_M_packs 88 = .ok (.getfield 19, 3) := by decide +kernel
theorem zd_M_packs_91 : decode zc_M_packs 91 = .ok (.iload 4, 2) := by decide +kernel
theorem zd_M_packs_93 : decode zc_M_packs 93 = .ok (.iload_n 3, 1) := by decide +kernel
theorem zd_M_packs_94 : decode zc_M_packs 94 = .ok (.iastore, 1) := by decide +kernel
theorem zd_M_packs_95 : decode zc_M_packs 95 = .ok (.iload 5, 2) := by decide +kernel
theorem zd_M_packs_97 : decode zc_M_packs 97 = .ok (.ifCond .lt 92, 3) := by decide +kernel
theorem zd_M_packs_100 : decode zc_M_packs 100 = .ok (.aload_n 0, 1) := by decide +kernel
theorem zd_M_packs_101 : decode zc_M_packs 101 = .ok (.iload 5, 2) := by decide +kernel
theorem zd_M_packs_103 : decode zc_M_packs 103 = .ok (.invokevirtual 50, 3) := by decide +kernel
theorem zd_M_packs_106 : decode zc_M_packs 106 = .ok (.aload_n 0, 1) := by decide +kernel
theorem zd_M_packs_107 : decode zc_M_packs 107 = .ok (.iload_n 3, 1) := by decide +kernel
theorem zd_M_packs_108 : decode zc_M_packs 108 = .ok (.invokevirtual 50, 3) := by decide +kernel
theorem zd_M_packs_111 : decode zc_M_packs 111 = .ok (.if_icmp .ne 78, 3) := by decide +kernel
theorem zd_M_packs_114 : decode zc_M_packs 114 = .ok (.aload_n 0, 1) := by decide +kernel
theorem zd_M_packs_115 : decode zc_M_packs 115 = .ok (.iload 5, 2) := by decide +kernel
theorem zd_M_packs_117 : decode zc_M_packs 117 = .ok (.iload_n 3, 1) := by decide +kernel
theorem zd_M_packs_118 : decode zc_M_packs 118 = .ok (.invokevirtual 83, 3) := by decide +kernel
theorem zd_M_packs_121 : decode zc_M_packs 121 = .ok (.istore 6, 2) := by decide +kernel
theorem zd_M_packs_123 : decode zc_M_packs 123 = .ok (.iload_n 1, 1) := by decide +kernel
theorem zd_M_packs_124 : decode zc_M_packs 124 = .ok (.ifCond .ne 18, 3) := by decide +kernel
theorem zd_M_packs_127 : decode zc_M_packs 127 = .ok (.aload_n 0, 1) := by decide +kernel
theorem zd_M_packs_128 : decode zc_M_packs 128 = .ok (.iload_n 2, 1) := by decide +kernel
theorem zd_M_packs_129 : decode zc_M_packs 129 = .ok (.iload_n 3, 1) := by decide +kernel
theorem zd_M_packs_130 : decode zc_M_packs 130 = .ok (.iload 6, 2) := by decide +kernel
theorem zd_M_packs_132 : decode zc_M_packs 132 = .ok (.iload_n 3, 1) := by decide +kernel
theorem zd_M_packs_133 : decode zc_M_packs 133 = .ok (.iload 5, 2) := by decide +kernel
theorem zd_M_packs_135 : decode zc_M_packs 135 = .ok (.isub, 1) := by decide +kernel
theorem zd_M_packs_136 : decode zc_M_packs 136 = .ok (.invokevirtual 87, 3) := by decide +kernel
theorem zd_M_packs_139 : decode zc_M_packs 139 = .ok (.goto 19, 3) := by decide +kernel
theorem zd_M_packs_142 : decode zc_M_packs 142 = .ok (.aload_n 0, 1) := by decide +kernel
theorem zd_M_packs_143 : decode zc_M_packs 143 = .ok (.iload_n 2, 1) := by decide +kernel
theorem zd_M_packs_144 : decode zc_M_packs 144 = .ok (.iload_n 3, 1) := by decide +kernel
theorem zd_M_packs_145 : decode zc_M_packs 145 = .ok (.invokevirtual 91, 3) := by decide +kernel
theorem zd_M_packs_148 : decode zc_M_packs 148 = .ok (.aload_n 0, 1) := by decide +kernel
theorem zd_M_packs_149 : decode zc_M_packs 149 = .ok (.iload 6, 2) := by decide +kernel
theorem zd_M_packs_151 : decode zc_M_packs 151 = .ok (.iload_n 3, 1) := by decide +kernel
theorem zd_M_packs_152 : decode zc_M_packs 152 = .ok (.iload 5, 2) := by decide +kernel
theorem zd_M_packs_154 : decode zc_M_packs 154 = .ok (.isub, 1) := by decide +kernel
theorem zd_M_packs_155 : decode zc_M_packs 155 = .ok (.invokevirtual 94, 3) := by decide +kernel
theorem zd_M_packs_158 : decode zc_M_packs 158 = .ok (.aload_n 0, 1) := by decide +kernel
theorem zd_M_packs_159 : decode zc_M_packs 159 = .ok (.dup, 1) := by decide +kernel
theorem zd_M_packs_160 : decode zc_M_packs 160 = .ok (.getfield 40, 3) := by decide +kernel
theorem zd_M_packs_163 : decode zc_M_packs 163 = .ok (.iconst 1, 1) := by decide +kernel
theorem zd_M_packs_164 : decode zc_M_packs 164 = .ok (.iadd, 1) := by decide +kernel
theorem zd_M_packs_165 : decode zc_M_packs 165 = .ok (.putfield 40, 3) := by decide +kernel
theorem zd_M_packs_168 : decode zc_M_packs 168 = .ok (.aload_n 0, 1) := by decide +kernel
theorem zd_M_packs_169 : decode zc_M_packs 169 = .ok (.dup, 1) := by decide +kernel
theorem zd_M_packs_170 : decode zc_M_packs 170 = .ok (.getfield 43, 3) := by decide +kernel
theorem zd_M_packs_173 : decode zc_M_packs 173 = .ok (.iload 6, 2) := by decide +kernel
theorem zd_M_packs_175 : decode zc_M_packs 175 = .ok (.iadd, 1) := by decide +kernel
theorem zd_M_packs_176 : decode zc_M_packs 176 = .ok (.putfield 43, 3) := by decide +kernel
theorem zd_M_packs_179 : decode zc_M_packs 179 = .ok (.iload_n 3, 1) := by decide +kernel
theorem zd_M_packs_180 : decode zc_M_packs 180 = .ok (.iload 6, 2) := by decide +kernel
theorem zd_M_packs_182 : decode zc_M_packs 182 = .ok (.iadd, 1) := by decide +kernel
theorem zd_M_packs_183 : decode zc_M_packs 183 = .ok (.istore_n 3, 1) := by decide +kernel
theorem zd_M_packs_184 : decode zc_M_packs 184 = .ok (.iload_n 3, 1) := by decide +kernel
theorem zd_M_packs_185 : decode zc_M_packs 185 = .ok (.istore_n 2, 1) := by decide +kernel
theorem zd_M_packs_186 : decode zc_M_packs 186 = .ok (.goto 6, 3) := by decide +kernel
theorem zd_M_packs_189 : decode zc_M_packs 189 = .ok (.iinc 3 1, 3) := by decide +kernel
theorem zd_M_packs_192 : decode zc_M_packs 192 = .ok (.goto (-132), 3) := by decide +kernel
theorem zd_M_packs_195 : decode zc_M_packs 195 = .ok (.iload_n 1, 1) := by decide +kernel
theorem zd_M_packs_196 : decode zc_M_packs 196 = .ok (.ifCond .ne 15, 3) := by decide +kernel
theorem zd_M_packs_199 : decode zc_M_packs 199 = .ok (.aload_n 0, 1) := by decide +kernel
theorem zd_M_packs_200 : decode zc_M_packs 200 = .ok (.iload_n 2, 1) := by decide +kernel
theorem zd_M_packs_201 : decode zc_M_packs 201 = .ok (.aload_n 0, 1) := by decide +kernel
theorem zd_M_packs_202 : decode zc_M_packs 202 = .ok (.getfield 57, 3) := by decide +kernel
theorem zd_M_packs_205 : decode zc_M_packs 205 = .ok (.invokevirtual 97, 3) := by decide +kernel
theorem zd_M_packs_208 : decode zc_M_packs 208 = .ok (.goto 12, 3) := by decide +kernel
theorem zd_M_packs_211 : decode zc_M_packs 211 = .ok (.aload_n 0, 1) := by decide +kernel
theorem zd_M_packs_212 : decode zc_M_packs 212 = .ok (.iload_n 2, 1) := by decide +kernel
theorem zd_M_packs_213 : decode zc_M_packs 213 = .ok (.aload_n 0, 1) := by decide +kernel
theorem zd_M_packs_214 : decode zc_M_packs 214 = .ok (.getfield 57, 3) := by decide +kernel
theorem zd_M_packs_217 : decode zc_M_packs 217 = .ok (.invokevirtual 91, 3) := by decide +kernel
theorem zd_M_packs_220 : decode zc_M_packs 220 = .ok (.return_, 1) := by decide +kernel
theorem zd_M_pack_0 : decode zc_M_pack 0 = .ok (.aload_n 0, 1) := by decide +kernel
theorem zd_M_pack_1 : decode zc_M_pack 1 = .ok (.iload_n 1, 1) := by decide +kernel
theorem zd_M_pack_2 : decode zc_M_pack 2 = .ok (.ifCond .eq 12, 3) := by decide +kernel
theorem zd_M_pack_5 : decode zc_M_pack 5 = .ok (.iload_n 1, 1) := by decide +kernel
theorem zd_M_pack_6 : decode zc_M_pack 6 = .ok (.iconst 1, 1) := by decide +kernel
theorem zd_M_pack_7 : decode zc_M_pack 7 = .ok (.if_icmp .eq 7, 3) := by decide +kernel
theorem zd_M_pack_10 : decode zc_M_pack 10 = .ok (.iconst 1, 1) := by decide +kernel
theorem zd_M_pack_11 : decode zc_M_pack 11 = .ok (.goto 4, 3) := by decide +kernel
theorem zd_M_pack_14 : decode zc_M_pack 14 = .ok (.iconst 0, 1) := by decide +kernel
theorem zd_M_pack_15 : decode zc_M_pack 15 = .ok (.iconst 0, 1) := by decide +kernel
theorem zd_M_pack_16 : decode zc_M_pack 16 = .ok (.invokevirtual 34, 3) := by decide +kernel
theorem zd_M_pack_19 : decode zc_M_pack 19 = .ok (.ifCond .eq 5, 3) := by decide +kernel
theorem zd_M_pack_22 : decode zc_M_pack 22 = .ok (.iconst 0, 1) := by decide +kernel
theorem zd_M_pack_23 : decode zc_M_pack 23 = .ok (.ireturn, 1) := by decide +kernel
theorem zd_M_pack_24 : decode zc_M_pack 24 = .ok (.aload_n 0, 1) := by decide +kernel
theorem zd_M_pack_25 : decode zc_M_pack 25 = .ok (.invokevirtual 100, 3) := by decide +kernel
theorem zd_M_pack_28 : decode zc_M_pack 28 = .ok (.iconst 0, 1) := by decide +kernel
theorem zd_M_pack_29 : decode zc_M_pack 29 = .ok (.istore_n 2, 1) := by decide +kernel
theorem zd_M_pack_30 : decode zc_M_pack 30 = .ok (.iload_n 2, 1) := by decide +kernel
theorem zd_M_pack_31 : decode zc_M_pack 31 = .ok (.aload_n 0, 1) := by decide +kernel
theorem zd_M_pack_32 : decode zc_M_pack 32 = .ok (.getfield 13, 3) := by decide +kernel
theorem zd_M_pack_35 : decode zc_M_pack 35 = .ok (.iconst 0, 1) := by decide +kernel
theorem zd_M_pack_36 : decode zc_M_pack 36 = .ok (.iaload, 1) := by decide +kernel
theorem zd_M_pack_37 : decode zc_M_pack 37 = .ok (.if_icmp .ge 26, 3) := by decide +kernel
theorem zd_M_pack_40 : decode zc_M_pack 40 = .ok (.aload_n 0, 1) := by decide +kernel
theorem zd_M_pack_41 : decode zc_M_pack 41 = .ok (.getfield 16, 3) := by decide +kernel
theorem zd_M_pack_44 : decode zc_M_pack 44 = .ok (.aload_n 0, 1) := by decide +kernel
theorem zd_M_pack_45 : decode zc_M_pack 45 = .ok (.getfield 54, 3) := by decide +kernel
theorem zd_M_pack_48 : decode zc_M_pack 48 = .ok (.iload_n 2, 1) := by decide +kernel
theorem zd_M_pack_49 : decode zc_M_pack 49 = .ok (.iadd, 1) := by decide +kernel
theorem zd_M_pack_50 : decode zc_M_pack 50 = .ok (.aload_n 0, 1) := by decide +kernel
theorem zd_M_pack_51 : decode zc_M_pack 51 = .ok (.getfield 7, 3) := by decide +kernel
theorem zd_M_pack_54 : decode zc_M_pack 54 = .ok (.iload_n 2, 1) := by decide +kernel
theorem zd_M_pack_55 : decode zc_M_pack 55 = .ok (.iaload, 1) := by decide +kernel
theorem zd_M_pack_56 : decode zc_M_pack 56 = .ok (.iastore, 1) := by decide +kernel
theorem zd_M_pack_57 : decode zc_M_pack 57 = .ok (.iinc 2 1, 3) := by decide +kernel
theorem zd_M_pack_60 : decode zc_M_pack 60 = .ok (.goto (-30), 3) := by decide +kernel
theorem zd_M_pack_63 : decode zc_M_pack 63 = .ok (.aload_n 0, 1) := by decide +kernel
theorem zd_M_pack_64 : decode zc_M_pack 64 = .ok (.aload_n 0, 1) := by decide +kernel
theorem zd_M_pack_65 : decode zc_M_pack 65 = .ok (.getfield 54, 3) := by decide +kernel
theorem zd_M_pack_68 : decode zc_M_pack 68 = .ok (.aload_n 0, 1) := by decide +kernel
theorem zd_M_pack_69 : decode zc_M_pack 69 = .ok (.getfield 13, 3) := by decide +kernel
theorem zd_M_pack_72 : decode zc_M_pack 72 = .ok (.iconst 0, 1) := by decide +kernel
theorem zd_M_pack_73 : decode zc_M_pack 73 = .ok (.iaload, 1) := by decide +kernel
theorem zd_M_pack_74 : decode zc_M_pack 74 = .ok (.iadd, 1) := by decide +kernel
theorem zd_M_pack_75 : decode zc_M_pack 75 = .ok (.putfield 57, 3) := by decide +kernel
theorem zd_M_pack_78 : decode zc_M_pack 78 = .ok (.aload_n 0, 1) := by decide +kernel
theorem zd_M_pack_79 : decode zc_M_pack 79 = .ok (.iconst 0, 1) := by decide +kernel
theorem zd_M_pack_80 : decode zc_M_pack 80 = .ok (.putfield 40, 3) := by decide +kernel
theorem zd_M_pack_83 : decode zc_M_pack 83 = .ok (.aload_n 0, 1) := by decide +kernel
theorem zd_M_pack_84 : decode zc_M_pack 84 = .ok (.iconst 0, 1) := by decide +kernel
theorem zd_M_pack_85 : decode zc_M_pack 85 = .ok (.putfield 43, 3) := by decide +kernel
theorem zd_M_pack_88 : decode zc_M_pack 88 = .ok (.aload_n 0, 1) := by decide +kernel
theorem zd_M_pack_89 : decode zc_M_pack 89 = .ok (.iconst 0, 1) := by decide +kernel
theorem zd_M_pack_90 : decode zc_M_pack 90 = .ok (.putfield 60, 3) := by decide +kernel
theorem zd_M_pack_93 : decode zc_M_pack 93 = .ok (.iload_n 1, 1) := by decide +kernel
theorem zd_M_pack_94 : decode zc_M_pack 94 = .ok (.iconst 1, 1) := by decide +kernel
theorem zd_M_pack_95 : decode zc_M_pack 95 = .ok (.if_icmp .ne 47, 3) := by decide +kernel
theorem zd_M_pack_98 : decode zc_M_pack 98 = .ok (.aload_n 0, 1) := by decide +kernel
theorem zd_M_pack_99 : decode zc_M_pack 99 = .ok (.getfield 13, 3) := by decide +kernel
theorem zd_M_pack_102 : decode zc_M_pack 102 = .ok (.iconst 0, 1) := by decide +kernel
theorem zd_M_pack_103 : decode zc_M_pack 103 = .ok (.iaload, 1) := by decide +kernel
theorem zd_M_pack_104 : decode zc_M_pack 104 = .ok (.istore_n 2, 1) := by decide +kernel
theorem zd_M_pack_105 : decode zc_M_pack 105 = .ok (.aload_n 0, 1) := by decide +kernel
theorem zd_M_pack_106 : decode zc_M_pack 106 = .ok (.iload_n 2, 1) := by decide +kernel
theorem zd_M_pack_107 : decode zc_M_pack 107 = .ok (.sipush 128, 3) := by decide +kernel
theorem zd_M_pack_110 : decode zc_M_pack 110 = .ok (.if_icmp .ge 7, 3) := by decide +kernel
theorem zd_M_pack_113 : decode zc_M_pack 113 = .ok (.iload_n 2, 1) := by decide +kernel
theorem zd_M_pack_114 : decode zc_M_pack 114 = .ok (.goto 11, 3) := by decide +kernel
theorem zd_M_pack_117 : decode zc_M_pack 117 = .ok (.iload_n 2, 1) := by decide +kernel
theorem zd_M_pack_118 : decode zc_M_pack 118 = .ok (.bipush 127, 2) := by decide +kernel
theorem zd_M_pack_120 : decode zc_M_pack 120 = .ok (.iand, 1) := by decide +kernel
theorem zd_M_pack_121 : decode zc_M_pack 121 = .ok (.sipush 128, 3) := by decide +kernel
theorem zd_M_pack_124 : decode zc_M_pack 124 = .ok (.ior, 1) := by decide +kernel
theorem zd_M_pack_125 : decode zc_M_pack 125 = .ok (.invokevirtual 63, 3) := by decide +kernel
theorem zd_M_pack_128 : decode zc_M_pack 128 = .ok (.iload_n 2, 1) := by decide +kernel
theorem zd_M_pack_129 : decode zc_M_pack 129 = .ok (.bipush 127, 2) := by decide +kernel
theorem zd_M_pack_131 : decode zc_M_pack 131 = .ok (.if_icmp .le 11, 3) := by decide +kernel
theorem zd_M_pack_134 : decode zc_M_pack 134 = .ok (.aload_n 0, 1) := by decide +kernel
theorem zd_M_pack_135 : decode zc_M_pack 135 = .ok (.iload_n 2, 1) := by decide +kernel
theorem zd_M_pack_136 : decode zc_M_pack 136 = .ok (.bipush 7, 2) := by decide +kernel
theorem zd_M_pack_138 : decode zc_M_pack 138 = .ok (.ishr, 1) := by decide +kernel
theorem zd_M_pack_139 : decode zc_M_pack 139 = .ok (.invokevirtual 63, 3) := by decide +kernel
theorem zd_M_pack_142 : decode zc_M_pack 142 = .ok (.aload_n 0, 1) := by decide +kernel
theorem zd_M_pack_143 : decode zc_M_pack 143 = .ok (.iload_n 1, 1) := by decide +kernel
theorem zd_M_pack_144 : decode zc_M_pack 144 = .ok (.invokevirtual 103, 3) := by decide +kernel
theorem zd_M_pack_147 : decode zc_M_pack 147 = .ok (.aload_n 0, 1) := by decide +kernel
theorem zd_M_pack_148 : decode zc_M_pack 148 = .ok (.getfield 13, 3) := by decide +kernel
theorem zd_M_pack_151 : decode zc_M_pack 151 = .ok (.iconst 1, 1) := by decide +kernel
theorem zd_M_pack_152 : decode zc_M_pack 152 = .ok (.aload_n 0, 1) := by decide +kernel
theorem zd_M_pack_153 : decode zc_M_pack 153 = .ok (.getfield 60, 3) := by decide +kernel
theorem zd_M_pack_156 : decode zc_M_pack 156 = .ok (.iastore, 1) := by decide +kernel
theorem zd_M_pack_157 : decode zc_M_pack 157 = .ok (.aload_n 0, 1) := by decide +kernel
theorem zd_M_pack_158 : decode zc_M_pack 158 = .ok (.getfield 60, 3) := by decide +kernel
theorem zd_M_pack_161 : decode zc_M_pack 161 = .ok (.ireturn, 1) := by decide +kernel
theorem zd_M_need_0 : decode zc_M_need 0 = .ok (.aload_n 0, 1) := by decide +kernel
theorem zd_M_need_1 : decode zc_M_need 1 = .ok (.getfield 106, 3) := by decide +kernel
theorem zd_M_need_4 : decode zc_M_need 4 = .ok (.ifCond .ge 12, 3) := by decide +kernel
theorem zd_M_need_7 : decode zc_M_need 7 = .ok (.iload_n 1, 1) := by decide +kernel
theorem zd_M_need_8 : decode zc_M_need 8 = .ok (.ifCond .ne 8, 3) := by decide +kernel
theorem zd_M_need_11 : decode zc_M_need 11 = .ok (.aload_n 0, 1) := by decide +kernel
theorem zd_M_need_12 : decode zc_M_need 12 = .ok (.iload_n 2, 1) := by decide +kernel
theorem zd_M_need_13 : decode zc_M_need 13 = .ok (.putfield 106, 3) := by decide +kernel
theorem zd_M_need_16 : decode zc_M_need 16 = .ok (.return_, 1) := by decide +kernel
theorem zd_M_next_0 : decode zc_M_next 0 = .ok (.aload_n 0, 1) := by decide +kernel
theorem zd_M_next_1 : decode zc_M_next 1 = .ok (.aload_n 0, 1) := by decide +kernel
theorem zd_M_next_2 : decode zc_M_next 2 = .ok (.getfield 109, 3) := by decide +kernel
theorem zd_M_next_5 : decode zc_M_next 5 = .ok (.aload_n 0, 1) := by decide +kernel
theorem zd_M_next_6 : decode zc_M_next 6 = .ok (.getfield 13, 3) := by decide +kernel
theorem zd_M_next_9 : decode zc_M_next 9 = .ok (.iconst 1, 1) := by decide +kernel
theorem zd_M_next_10 : decode zc_M_next 10 = .ok (.iaload, 1) := by decide +kernel
theorem zd_M_next_11 : decode zc_M_next 11 = .ok (.if_icmp .ge 7, 3) := by decide +kernel
theorem zd_M_next_14 : decode zc_M_next 14 = .ok (.iconst 1, 1) := by decide +kernel
theorem zd_M_next_15 : decode zc_M_next 15 = .ok (.goto 4, 3) := by decide +kernel
theorem zd_M_next_18 : decode zc_M_next 18 = .ok (.iconst 0, 1) := by decide +kernel
theorem zd_M_next_19 : decode zc_M_next 19 = .ok (.aload_n 0, 1) := by decide +kernel
theorem zd_M_next_20 : decode zc_M_next 20 = .ok (.getfield 13, 3) := by decide +kernel
theorem zd_M_next_23 : decode zc_M_next 23 = .ok (.iconst 1, 1) := by decide +kernel
theorem zd_M_next_24 : decode zc_M_next 24 = .ok (.iaload, 1) := by decide +kernel
theorem zd_M_next_25 : decode zc_M_next 25 = .ok (.invokevirtual 112, 3) := by decide +kernel
theorem zd_M_next_28 : decode zc_M_next 28 = .ok (.aload_n 0, 1) := by decide +kernel
theorem zd_M_next_29 : decode zc_M_next 29 = .ok (.getfield 106, 3) := by decide +kernel
theorem zd_M_next_32 : decode zc_M_next 32 = .ok (.ifCond .lt 5, 3) := by decide +kernel
theorem zd_M_next_35 : decode zc_M_next 35 = .ok (.iconst 0, 1) := by decide +kernel
theorem zd_M_next_36 : decode zc_M_next 36 = .ok (.ireturn, 1) := by decide +kernel
theorem zd_M_next_37 : decode zc_M_next 37 = .ok (.aload_n 0, 1) := by decide +kernel
theorem zd_M_next_38 : decode zc_M_next 38 = .ok (.dup, 1) := by decide +kernel
theorem zd_M_next_39 : decode zc_M_next 39 = .ok (.getfield 109, 3) := by decide +kernel
theorem zd_M_next_42 : decode zc_M_next 42 = .ok (.iconst 1, 1) := by decide +kernel
theorem zd_M_next_43 : decode zc_M_next 43 = .ok (.iadd, 1) := by decide +kernel
theorem zd_M_next_44 : decode zc_M_next 44 = .ok (.putfield 109, 3) := by decide +kernel
theorem zd_M_next_47 : decode zc_M_next 47 = .ok (.aload_n 0, 1) := by decide +kernel
theorem zd_M_next_48 : decode zc_M_next 48 = .ok (.getfield 7, 3) := by decide +kernel
theorem zd_M_next_51 : decode zc_M_next 51 = .ok (.sipush 200, 3) := by decide +kernel
theorem zd_M_next_54 : decode zc_M_next 54 = .ok (.aload_n 0, 1) := by decide +kernel
theorem zd_M_next_55 : decode zc_M_next 55 = .ok (.getfield 109, 3) := by decide +kernel
theorem zd_M_next_58 : decode zc_M_next 58 = .ok (.iadd, 1) := by decide +kernel
theorem zd_M_next_59 : decode zc_M_next 59 = .ok (.iconst 1, 1) := by decide +kernel
theorem zd_M_next_60 : decode zc_M_next 60 = .ok (.isub, 1) := by decide +kernel
theorem zd_M_next_61 : decode zc_M_next 61 = .ok (.iaload, 1) := by decide +kernel
theorem zd_M_next_62 : decode zc_M_next 62 = .ok (.ireturn, 1) := by decide +kernel
theorem zd_M_made_0 : decode zc_M_made 0 = .ok (.aload_n 0, 1) := by decide +kernel
theorem zd_M_made_1 : decode zc_M_made 1 = .ok (.getfield 57, 3) := by decide +kernel
theorem zd_M_made_4 : decode zc_M_made 4 = .ok (.aload_n 0, 1) := by decide +kernel
theorem zd_M_made_5 : decode zc_M_made 5 = .ok (.getfield 54, 3) := by decide +kernel
end
section
theorem zd_M_made_8 : decode zc_M_made 8 = .ok (.isub, 1) := by decide +kernel
theorem zd_M_made_9 : decode zc_M_made 9 = .ok (.ireturn, 1) := by decide +kernel
theorem zd_M_literals_0 : decode zc_M_literals 0 = .ok (.iconst 0, 1) := by decide +kernel
theorem zd_M_literals_1 : decode zc_M_literals 1 = .ok (.istore_n 2, 1) := by decide +kernel
theorem zd_M_literals_2 : decode zc_M_literals 2 = .ok (.iload_n 2, 1) := by decide +kernel
theorem zd_M_literals_3 : decode zc_M_literals 3 = .ok (.iload_n 1, 1) := by decide +kernel
theorem zd_M_literals_4 : decode zc_M_literals 4 = .ok (.if_icmp .ge 48, 3) := by decide +kernel
theorem zd_M_literals_7 : decode zc_M_literals 7 = .ok (.aload_n 0, 1) := by decide +kernel
theorem zd_M_literals_8 : decode zc_M_literals 8 = .ok (.getfield 106, 3) := by decide +kernel
theorem zd_M_literals_11 : decode zc_M_literals 11 = .ok (.ifCond .ge 41, 3) := by decide +kernel
theorem zd_M_literals_14 : decode zc_M_literals 14 = .ok (.aload_n 0, 1) := by decide +kernel
theorem zd_M_literals_15 : decode zc_M_literals 15 = .ok (.invokevirtual 116, 3) := by decide +kernel
theorem zd_M_literals_18 : decode zc_M_literals 18 = .ok (.istore_n 3, 1) := by decide +kernel
theorem zd_M_literals_19 : decode zc_M_literals 19 = .ok (.aload_n 0, 1) := by decide +kernel
theorem zd_M_literals_20 : decode zc_M_literals 20 = .ok (.getfield 106, 3) := by decide +kernel
theorem zd_M_literals_23 : decode zc_M_literals 23 = .ok (.ifCond .ge 23, 3) := by decide +kernel
theorem zd_M_literals_26 : decode zc_M_literals 26 = .ok (.aload_n 0, 1) := by decide +kernel
theorem zd_M_literals_27 : decode zc_M_literals 27 = .ok (.getfield 16, 3) := by decide +kernel
theorem zd_M_literals_30 : decode zc_M_literals 30 = .ok (.aload_n 0, 1) := by decide +kernel
theorem zd_M_literals_31 : decode zc_M_literals 31 = .ok (.getfield 57, 3) := by decide +kernel
theorem zd_M_literals_34 : decode zc_M_literals 34 = .ok (.iload_n 3, 1) := by decide +kernel
theorem zd_M_literals_35 : decode zc_M_literals 35 = .ok (.iastore, 1) := by decide +kernel
theorem zd_M_literals_36 : decode zc_M_literals 36 = .ok (.aload_n 0, 1) := by decide +kernel
theorem zd_M_literals_37 : decode zc_M_literals 37 = .ok (.dup, 1) := by decide +kernel
theorem zd_M_literals_38 : decode zc_M_literals 38 = .ok (.getfield 57, 3) := by decide +kernel
theorem zd_M_literals_41 : decode zc_M_literals 41 = .ok (.iconst 1, 1) := by decide +kernel
theorem zd_M_literals_42 : decode zc_M_literals 42 = .ok (.iadd, 1) := by decide +kernel
theorem zd_M_literals_43 : decode zc_M_literals 43 = .ok (.putfield 57, 3) := by decide +kernel
theorem zd_M_literals_46 : decode zc_M_literals 46 = .ok (.iinc 2 1, 3) := by decide +kernel
theorem zd_M_literals_49 : decode zc_M_literals 49 = .ok (.goto (-47), 3) := by decide +kernel
theorem zd_M_literals_52 : decode zc_M_literals 52 = .ok (.return_, 1) := by decide +kernel
theorem zd_M_copies_0 : decode zc_M_copies 0 = .ok (.iconst 0, 1) := by decide +kernel
theorem zd_M_copies_1 : decode zc_M_copies 1 = .ok (.istore_n 3, 1) := by decide +kernel
theorem zd_M_copies_2 : decode zc_M_copies 2 = .ok (.iload_n 3, 1) := by decide +kernel
theorem zd_M_copies_3 : decode zc_M_copies 3 = .ok (.iload_n 1, 1) := by decide +kernel
theorem zd_M_copies_4 : decode zc_M_copies 4 = .ok (.if_icmp .ge 46, 3) := by decide +kernel
theorem zd_M_copies_7 : decode zc_M_copies 7 = .ok (.aload_n 0, 1) := by decide +kernel
theorem zd_M_copies_8 : decode zc_M_copies 8 = .ok (.getfield 106, 3) := by decide +kernel
theorem zd_M_copies_11 : decode zc_M_copies 11 = .ok (.ifCond .ge 39, 3) := by decide +kernel
theorem zd_M_copies_14 : decode zc_M_copies 14 = .ok (.aload_n 0, 1) := by decide +kernel
theorem zd_M_copies_15 : decode zc_M_copies 15 = .ok (.getfield 16, 3) := by decide +kernel
theorem zd_M_copies_18 : decode zc_M_copies 18 = .ok (.aload_n 0, 1) := by decide +kernel
theorem zd_M_copies_19 : decode zc_M_copies 19 = .ok (.getfield 57, 3) := by decide +kernel
theorem zd_M_copies_22 : decode zc_M_copies 22 = .ok (.aload_n 0, 1) := by decide +kernel
theorem zd_M_copies_23 : decode zc_M_copies 23 = .ok (.getfield 16, 3) := by decide +kernel
theorem zd_M_copies_26 : decode zc_M_copies 26 = .ok (.aload_n 0, 1) := by decide +kernel
theorem zd_M_copies_27 : decode zc_M_copies 27 = .ok (.getfield 57, 3) := by decide +kernel
theorem zd_M_copies_30 : decode zc_M_copies 30 = .ok (.iload_n 2, 1) := by decide +kernel
theorem zd_M_copies_31 : decode zc_M_copies 31 = .ok (.isub, 1) := by decide +kernel
theorem zd_M_copies_32 : decode zc_M_copies 32 = .ok (.iaload, 1) := by decide +kernel
theorem zd_M_copies_33 : decode zc_M_copies 33 = .ok (.iastore, 1) := by decide +kernel
theorem zd_M_copies_34 : decode zc_M_copies 34 = .ok (.aload_n 0, 1) := by decide +kernel
theorem zd_M_copies_35 : decode zc_M_copies 35 = .ok (.dup, 1) := by decide +kernel
theorem zd_M_copies_36 : decode zc_M_copies 36 = .ok (.getfield 57, 3) := by decide +kernel
theorem zd_M_copies_39 : decode zc_M_copies 39 = .ok (.iconst 1, 1) := by decide +kernel
theorem zd_M_copies_40 : decode zc_M_copies 40 = .ok (.iadd, 1) := by decide +kernel
theorem zd_M_copies_41 : decode zc_M_copies 41 = .ok (.putfield 57, 3) := by decide +kernel
theorem zd_M_copies_44 : decode zc_M_copies 44 = .ok (.iinc 3 1, 3) := by decide +kernel
theorem zd_M_copies_47 : decode zc_M_copies 47 = .ok (.goto (-45), 3) := by decide +kernel
theorem zd_M_copies_50 : decode zc_M_copies 50 = .ok (.return_, 1) := by decide +kernel
theorem zd_M_more_0 : decode zc_M_more 0 = .ok (.iload_n 1, 1) := by decide +kernel
theorem zd_M_more_1 : decode zc_M_more 1 = .ok (.istore_n 2, 1) := by decide +kernel
theorem zd_M_more_2 : decode zc_M_more 2 = .ok (.iload_n 1, 1) := by decide +kernel
theorem zd_M_more_3 : decode zc_M_more 3 = .ok (.bipush 15, 2) := by decide +kernel
theorem zd_M_more_5 : decode zc_M_more 5 = .ok (.if_icmp .ne 9, 3) := by decide +kernel
theorem zd_M_more_8 : decode zc_M_more 8 = .ok (.sipush 255, 3) := by decide +kernel
theorem zd_M_more_11 : decode zc_M_more 11 = .ok (.goto 4, 3) := by decide +kernel
theorem zd_M_more_14 : decode zc_M_more 14 = .ok (.iconst 0, 1) := by decide +kernel
theorem zd_M_more_15 : decode zc_M_more 15 = .ok (.istore_n 3, 1) := by decide +kernel
theorem zd_M_more_16 : decode zc_M_more 16 = .ok (.iload_n 3, 1) := by decide +kernel
theorem zd_M_more_17 : decode zc_M_more 17 = .ok (.sipush 255, 3) := by decide +kernel
theorem zd_M_more_20 : decode zc_M_more 20 = .ok (.if_icmp .ne 22, 3) := by decide +kernel
theorem zd_M_more_23 : decode zc_M_more 23 = .ok (.aload_n 0, 1) := by decide +kernel
theorem zd_M_more_24 : decode zc_M_more 24 = .ok (.getfield 106, 3) := by decide +kernel
theorem zd_M_more_27 : decode zc_M_more 27 = .ok (.ifCond .ge 15, 3) := by decide +kernel
theorem zd_M_more_30 : decode zc_M_more 30 = .ok (.aload_n 0, 1) := by decide +kernel
theorem zd_M_more_31 : decode zc_M_more 31 = .ok (.invokevirtual 116, 3) := by decide +kernel
theorem zd_M_more_34 : decode zc_M_more 34 = .ok (.istore_n 3, 1) := by decide +kernel
theorem zd_M_more_35 : decode zc_M_more 35 = .ok (.iload_n 2, 1) := by decide +kernel
theorem zd_M_more_36 : decode zc_M_more 36 = .ok (.iload_n 3, 1) := by decide +kernel
theorem zd_M_more_37 : decode zc_M_more 37 = .ok (.iadd, 1) := by decide +kernel
theorem zd_M_more_38 : decode zc_M_more 38 = .ok (.istore_n 2, 1) := by decide +kernel
theorem zd_M_more_39 : decode zc_M_more 39 = .ok (.goto (-23), 3) := by decide +kernel
theorem zd_M_more_42 : decode zc_M_more 42 = .ok (.iload_n 2, 1) := by decide +kernel
theorem zd_M_more_43 : decode zc_M_more 43 = .ok (.ireturn, 1) := by decide +kernel
theorem zd_M_readZero_0 : decode zc_M_readZero 0 = .ok (.iconst 1, 1) := by decide +kernel
theorem zd_M_readZero_1 : decode zc_M_readZero 1 = .ok (.istore_n 1, 1) := by decide +kernel
theorem zd_M_readZero_2 : decode zc_M_readZero 2 = .ok (.iload_n 1, 1) := by decide +kernel
theorem zd_M_readZero_3 : decode zc_M_readZero 3 = .ok (.ifCond .eq 183, 3) := by decide +kernel
theorem zd_M_readZero_6 : decode zc_M_readZero 6 = .ok (.aload_n 0, 1) := by decide +kernel
theorem zd_M_readZero_7 : decode zc_M_readZero 7 = .ok (.getfield 106, 3) := by decide +kernel
theorem zd_M_readZero_10 : decode zc_M_readZero 10 = .ok (.ifCond .ge 176, 3) := by decide +kernel
theorem zd_M_readZero_13 : decode zc_M_readZero 13 = .ok (.aload_n 0, 1) := by decide +kernel
theorem zd_M_readZero_14 : decode zc_M_readZero 14 = .ok (.getfield 109, 3) := by decide +kernel
theorem zd_M_readZero_17 : decode zc_M_readZero 17 = .ok (.istore_n 2, 1) := by decide +kernel
theorem zd_M_readZero_18 : decode zc_M_readZero 18 = .ok (.aload_n 0, 1) := by decide +kernel
theorem zd_M_readZero_19 : decode zc_M_readZero 19 = .ok (.invokevirtual 116, 3) := by decide +kernel
theorem zd_M_readZero_22 : decode zc_M_readZero 22 = .ok (.istore_n 3, 1) := by decide +kernel
theorem zd_M_readZero_23 : decode zc_M_readZero 23 = .ok (.aload_n 0, 1) := by decide +kernel
theorem zd_M_readZero_24 : decode zc_M_readZero 24 = .ok (.iload_n 3, 1) := by decide +kernel
theorem zd_M_readZero_25 : decode zc_M_readZero 25 = .ok (.iconst 4, 1) := by decide +kernel
theorem zd_M_readZero_26 : decode zc_M_readZero 26 = .ok (.ishr, 1) := by decide +kernel
theorem zd_M_readZero_27 : decode zc_M_readZero 27 = .ok (.invokevirtual 120, 3) := by decide +kernel
theorem zd_M_readZero_30 : decode zc_M_readZero 30 = .ok (.istore 4, 2) := by decide +kernel
theorem zd_M_readZero_32 : decode zc_M_readZero 32 = .ok (.aload_n 0, 1) := by decide +kernel
theorem zd_M_readZero_33 : decode zc_M_readZero 33 = .ok (.aload_n 0, 1) := by decide +kernel
theorem zd_M_readZero_34 : decode zc_M_readZero 34 = .ok (.invokevirtual 123, 3) := by decide +kernel
theorem zd_M_readZero_37 : decode zc_M_readZero 37 = .ok (.iload 4, 2) := by decide +kernel
theorem zd_M_readZero_39 : decode zc_M_readZero 39 = .ok (.iadd, 1) := by decide +kernel
theorem zd_M_readZero_40 : decode zc_M_readZero 40 = .ok (.sipush 160, 3) := by decide +kernel
theorem zd_M_readZero_43 : decode zc_M_readZero 43 = .ok (.if_icmp .gt 7, 3) := by decide +kernel
theorem zd_M_readZero_46 : decode zc_M_readZero 46 = .ok (.iconst 1, 1) := by decide +kernel
theorem zd_M_readZero_47 : decode zc_M_readZero 47 = .ok (.goto 4, 3) := by decide +kernel
theorem zd_M_readZero_50 : decode zc_M_readZero 50 = .ok (.iconst 0, 1) := by decide +kernel
theorem zd_M_readZero_51 : decode zc_M_readZero 51 = .ok (.iload_n 2, 1) := by decide +kernel
theorem zd_M_readZero_52 : decode zc_M_readZero 52 = .ok (.invokevirtual 112, 3) := by decide +kernel
theorem zd_M_readZero_55 : decode zc_M_readZero 55 = .ok (.aload_n 0, 1) := by decide +kernel
theorem zd_M_readZero_56 : decode zc_M_readZero 56 = .ok (.iload 4, 2) := by decide +kernel
theorem zd_M_readZero_58 : decode zc_M_readZero 58 = .ok (.invokevirtual 126, 3) := by decide +kernel
theorem zd_M_readZero_61 : decode zc_M_readZero 61 = .ok (.aload_n 0, 1) := by decide +kernel
theorem zd_M_readZero_62 : decode zc_M_readZero 62 = .ok (.getfield 109, 3) := by decide +kernel
theorem zd_M_readZero_65 : decode zc_M_readZero 65 = .ok (.aload_n 0, 1) := by decide +kernel
theorem zd_M_readZero_66 : decode zc_M_readZero 66 = .ok (.getfield 13, 3) := by decide +kernel
theorem zd_M_readZero_69 : decode zc_M_readZero 69 = .ok (.iconst 1, 1) := by decide +kernel
theorem zd_M_readZero_70 : decode zc_M_readZero 70 = .ok (.iaload, 1) := by decide +kernel
theorem zd_M_readZero_71 : decode zc_M_readZero 71 = .ok (.if_icmp .ge 7, 3) := by decide +kernel
theorem zd_M_readZero_74 : decode zc_M_readZero 74 = .ok (.iconst 1, 1) := by decide +kernel
theorem zd_M_readZero_75 : decode zc_M_readZero 75 = .ok (.goto 4, 3) := by decide +kernel
theorem zd_M_readZero_78 : decode zc_M_readZero 78 = .ok (.iconst 0, 1) := by decide +kernel
theorem zd_M_readZero_79 : decode zc_M_readZero 79 = .ok (.istore_n 1, 1) := by decide +kernel
theorem zd_M_readZero_80 : decode zc_M_readZero 80 = .ok (.iload_n 1, 1) := by decide +kernel
theorem zd_M_readZero_81 : decode zc_M_readZero 81 = .ok (.ifCond .eq 102, 3) := by decide +kernel
theorem zd_M_readZero_84 : decode zc_M_readZero 84 = .ok (.aload_n 0, 1) := by decide +kernel
theorem zd_M_readZero_85 : decode zc_M_readZero 85 = .ok (.getfield 106, 3) := by decide +kernel
theorem zd_M_readZero_88 : decode zc_M_readZero 88 = .ok (.ifCond .ge 95, 3) := by decide +kernel
theorem zd_M_readZero_91 : decode zc_M_readZero 91 = .ok (.aload_n 0, 1) := by decide +kernel
theorem zd_M_readZero_92 : decode zc_M_readZero 92 = .ok (.getfield 109, 3) := by decide +kernel
theorem zd_M_readZero_95 : decode zc_M_readZero 95 = .ok (.istore 5, 2) := by decide +kernel
theorem zd_M_readZero_97 : decode zc_M_readZero 97 = .ok (.aload_n 0, 1) := by decide +kernel
theorem zd_M_readZero_98 : decode zc_M_readZero 98 = .ok (.invokevirtual 116, 3) := by decide +kernel
theorem zd_M_readZero_101 : decode zc_M_readZero 101 = .ok (.istore 6, 2) := by decide +kernel
theorem zd_M_readZero_103 : decode zc_M_readZero 103 = .ok (.iload 6, 2) := by decide +kernel
theorem zd_M_readZero_105 : decode zc_M_readZero 105 = .ok (.aload_n 0, 1) := by decide +kernel
theorem zd_M_readZero_106 : decode zc_M_readZero 106 = .ok (.invokevirtual 116, 3) := by decide +kernel
theorem zd_M_readZero_109 : decode zc_M_readZero 109 = .ok (.bipush 8, 2) := by decide +kernel
theorem zd_M_readZero_111 : decode zc_M_readZero 111 = .ok (.ishl, 1) := by decide +kernel
theorem zd_M_readZero_112 : decode zc_M_readZero 112 = .ok (.ior, 1) := by decide +kernel
theorem zd_M_readZero_113 : decode zc_M_readZero 113 = .ok (.istore 7, 2) := by decide +kernel
theorem zd_M_readZero_115 : decode zc_M_readZero 115 = .ok (.aload_n 0, 1) := by decide +kernel
theorem zd_M_readZero_116 : decode zc_M_readZero 116 = .ok (.iload 7, 2) := by decide +kernel
theorem zd_M_readZero_118 : decode zc_M_readZero 118 = .ok (.ifCond .le 16, 3) := by decide +kernel
theorem zd_M_readZero_121 : decode zc_M_readZero 121 = .ok (.iload 7, 2) := by decide +kernel
theorem zd_M_readZero_123 : decode zc_M_readZero 123 = .ok (.aload_n 0, 1) := by decide +kernel
theorem zd_M_readZero_124 : decode zc_M_readZero 124 = .ok (.getfield 57, 3) := by decide +kernel
theorem zd_M_readZero_127 : decode zc_M_readZero 127 = .ok (.if_icmp .gt 7, 3) := by decide +kernel
theorem zd_M_readZero_130 : decode zc_M_readZero 130 = .ok (.iconst 1, 1) := by decide +kernel
theorem zd_M_readZero_131 : decode zc_M_readZero 131 = .ok (.goto 4, 3) := by decide +kernel
theorem zd_M_readZero_134 : decode zc_M_readZero 134 = .ok (.iconst 0, 1) := by decide +kernel
theorem zd_M_readZero_135 : decode zc_M_readZero 135 = .ok (.iload 5, 2) := by decide +kernel
theorem zd_M_readZero_137 : decode zc_M_readZero 137 = .ok (.invokevirtual 112, 3) := by decide +kernel
theorem zd_M_readZero_140 : decode zc_M_readZero 140 = .ok (.aload_n 0, 1) := by decide +kernel
theorem zd_M_readZero_141 : decode zc_M_readZero 141 = .ok (.iload_n 3, 1) := by decide +kernel
theorem zd_M_readZero_142 : decode zc_M_readZero 142 = .ok (.bipush 15, 2) := by decide +kernel
theorem zd_M_readZero_144 : decode zc_M_readZero 144 = .ok (.iand, 1) := by decide +kernel
theorem zd_M_readZero_145 : decode zc_M_readZero 145 = .ok (.invokevirtual 120, 3) := by decide +kernel
theorem zd_M_readZero_148 : decode zc_M_readZero 148 = .ok (.iconst 4, 1) := by decide +kernel
theorem zd_M_readZero_149 : decode zc_M_readZero 149 = .ok (.iadd, 1) := by decide +kernel
theorem zd_M_readZero_150 : decode zc_M_readZero 150 = .ok (.istore 8, 2) := by decide +kernel
theorem zd_M_readZero_152 : decode zc_M_readZero 152 = .ok (.aload_n 0, 1) := by decide +kernel
theorem zd_M_readZero_153 : decode zc_M_readZero 153 = .ok (.aload_n 0, 1) := by decide +kernel
theorem zd_M_readZero_154 : decode zc_M_readZero 154 = .ok (.invokevirtual 123, 3) := by decide +kernel
theorem zd_M_readZero_157 : decode zc_M_readZero 157 = .ok (.iload 8, 2) := by decide +kernel
theorem zd_M_readZero_159 : decode zc_M_readZero 159 = .ok (.iadd, 1) := by decide +kernel
theorem zd_M_readZero_160 : decode zc_M_readZero 160 = .ok (.sipush 160, 3) := by decide +kernel
theorem zd_M_readZero_163 : decode zc_M_readZero 163 = .ok (.if_icmp .gt 7, 3) := by decide +kernel
theorem zd_M_readZero_166 : decode zc_M_readZero 166 = .ok (.iconst 1, 1) := by decide +kernel
theorem zd_M_readZero_167 : decode zc_M_readZero 167 = .ok (.goto 4, 3) := by decide +kernel
theorem zd_M_readZero_170 : decode zc_M_readZero 170 = .ok (.iconst 0, 1) := by decide +kernel
theorem zd_M_readZero_171 : decode zc_M_readZero 171 = .ok (.iload_n 2, 1) := by decide +kernel
theorem zd_M_readZero_172 : decode zc_M_readZero 172 = .ok (.invokevirtual 112, 3) := by decide +kernel
theorem zd_M_readZero_175 : decode zc_M_readZero 175 = .ok (.aload_n 0, 1) := by decide +kernel
theorem zd_M_readZero_176 : decode zc_M_readZero 176 = .ok (.iload 8, 2) := by decide +kernel
theorem zd_M_readZero_178 : decode zc_M_readZero 178 = .ok (.iload 7, 2) := by decide +kernel
theorem zd_M_readZero_180 : decode zc_M_readZero 180 = .ok (.invokevirtual 129, 3) := by decide +kernel
theorem zd_M_readZero_183 : decode zc_M_readZero 183 = .ok (.goto (-181), 3) := by decide +kernel
theorem zd_M_readZero_186 : decode zc_M_readZero 186 = .ok (.return_, 1) := by decide +kernel
theorem zd_M_element_0 : decode zc_M_element 0 = .ok (.aload_n 0, 1) := by decide +kernel
theorem zd_M_element_1 : decode zc_M_element 1 = .ok (.getfield 109, 3) := by decide +kernel
theorem zd_M_element_4 : decode zc_M_element 4 = .ok (.istore_n 2, 1) := by decide +kernel
theorem zd_M_element_5 : decode zc_M_element 5 = .ok (.aload_n 0, 1) := by decide +kernel
theorem zd_M_element_6 : decode zc_M_element 6 = .ok (.invokevirtual 116, 3) := by decide +kernel
theorem zd_M_element_9 : decode zc_M_element 9 = .ok (.istore_n 3, 1) := by decide +kernel
theorem zd_M_element_10 : decode zc_M_element 10 = .ok (.iload_n 3, 1) := by decide +kernel
theorem zd_M_element_11 : decode zc_M_element 11 = .ok (.iconst 3, 1) := by decide +kernel
theorem zd_M_element_12 : decode zc_M_element 12 = .ok (.iand, 1) := by decide +kernel
theorem zd_M_element_13 : decode zc_M_element 13 = .ok (.istore 4, 2) := by decide +kernel
theorem zd_M_element_15 : decode zc_M_element 15 = .ok (.aload_n 0, 1) := by decide +kernel
theorem zd_M_element_16 : decode zc_M_element 16 = .ok (.iload 4, 2) := by decide +kernel
theorem zd_M_element_18 : decode zc_M_element 18 = .ok (.iconst 3, 1) := by decide +kernel
theorem zd_M_element_19 : decode zc_M_element 19 = .ok (.if_icmp .ge 20, 3) := by decide +kernel
theorem zd_M_element_22 : decode zc_M_element 22 = .ok (.iload 4, 2) := by decide +kernel
theorem zd_M_element_24 : decode zc_M_element 24 = .ok (.ifCond .gt 11, 3) := by decide +kernel
theorem zd_M_element_27 : decode zc_M_element 27 = .ok (.iload_n 3, 1) := by decide +kernel
theorem zd_M_element_28 : decode zc_M_element 28 = .ok (.iconst 2, 1) := by decide +kernel
theorem zd_M_element_29 : decode zc_M_element 29 = .ok (.ishr, 1) := by decide +kernel
theorem zd_M_element_30 : decode zc_M_element 30 = .ok (.bipush 60, 2) := by decide +kernel
theorem zd_M_element_32 : decode zc_M_element 32 = .ok (.if_icmp .gt 7, 3) := by decide +kernel
theorem zd_M_element_35 : decode zc_M_element 35 = .ok (.iconst 1, 1) := by decide +kernel
theorem zd_M_element_36 : decode zc_M_element 36 = .ok (.goto 4, 3) := by decide +kernel
theorem zd_M_element_39 : decode zc_M_element 39 = .ok (.iconst 0, 1) := by decide +kernel
theorem zd_M_element_40 : decode zc_M_element 40 = .ok (.iload_n 2, 1) := by decide +kernel
theorem zd_M_element_41 : decode zc_M_element 41 = .ok (.invokevirtual 112, 3) := by decide +kernel
theorem zd_M_element_44 : decode zc_M_element 44 = .ok (.iload 4, 2) := by decide +kernel
theorem zd_M_element_46 : decode zc_M_element 46 = .ok (.ifCond .ne 11, 3) := by decide +kernel
theorem zd_M_element_49 : decode zc_M_element 49 = .ok (.iload_n 3, 1) := by decide +kernel
theorem zd_M_element_50 : decode zc_M_element 50 = .ok (.iconst 2, 1) := by decide +kernel
theorem zd_M_element_51 : decode zc_M_element 51 = .ok (.ishr, 1) := by decide +kernel
theorem zd_M_element_52 : decode zc_M_element 52 = .ok (.iconst 1, 1) := by decide +kernel
theorem zd_M_element_53 : decode zc_M_element 53 = .ok (.iadd, 1) := by decide +kernel
theorem zd_M_element_54 : decode zc_M_element 54 = .ok (.goto 25, 3) := by decide +kernel
theorem zd_M_element_57 : decode zc_M_element 57 = .ok (.iload 4, 2) := by decide +kernel
theorem zd_M_element_59 : decode zc_M_element 59 = .ok (.iconst 1, 1) := by decide +kernel
theorem zd_M_element_60 : decode zc_M_element 60 = .ok (.if_icmp .ne 14, 3) := by decide +kernel
theorem zd_M_element_63 : decode zc_M_element 63 = .ok (.iload_n 3, 1) := by decide +kernel
theorem zd_M_element_64 : decode zc_M_element 64 = .ok (.iconst 2, 1) := by decide +kernel
theorem zd_M_element_65 : decode zc_M_element 65 = .ok (.ishr, 1) := by decide +kernel
theorem zd_M_element_66 : decode zc_M_element 66 = .ok (.bipush 7, 2) := by decide +kernel
theorem zd_M_element_68 : decode zc_M_element 68 = .ok (.iand, 1) := by decide +kernel
theorem zd_M_element_69 : decode zc_M_element 69 = .ok (.iconst 4, 1) := by decide +kernel
theorem zd_M_element_70 : decode zc_M_element 70 = .ok (.iadd, 1) := by decide +kernel
theorem zd_M_element_71 : decode zc_M_element 71 = .ok (.goto 8, 3) := by decide +kernel
theorem zd_M_element_74 : decode zc_M_element 74 = .ok (.iload_n 3, 1) := by decide +kernel
theorem zd_M_element_75 : decode zc_M_element 75 = .ok (.iconst 2, 1) := by decide +kernel
theorem zd_M_element_76 : decode zc_M_element 76 = .ok (.ishr, 1) := by decide +kernel
theorem zd_M_element_77 : decode zc_M_element 77 = .ok (.iconst 1, 1) := by decide +kernel
theorem zd_M_element_78 : decode zc_M_element 78 = .ok (.iadd, 1) := by decide +kernel
theorem zd_M_element_79 : decode zc_M_element 79 = .ok (.istore 5, 2) := by decide +kernel
theorem zd_M_element_81 : decode zc_M_element 81 = .ok (.iload 4, 2) := by decide +kernel
theorem zd_M_element_83 : decode zc_M_element 83 = .ok (.ifCond .ne 46, 3) := by decide +kernel
theorem zd_M_element_86 : decode zc_M_element 86 = .ok (.iload 5, 2) := by decide +kernel
theorem zd_M_element_88 : decode zc_M_element 88 = .ok (.bipush 61, 2) := by decide +kernel
theorem zd_M_element_90 : decode zc_M_element 90 = .ok (.if_icmp .ne 11, 3) := by decide +kernel
theorem zd_M_element_93 : decode zc_M_element 93 = .ok (.aload_n 0, 1) := by decide +kernel
theorem zd_M_element_94 : decode zc_M_element 94 = .ok (.invokevirtual 116, 3) := by decide +kernel
theorem zd_M_element_97 : decode zc_M_element 97 = .ok (.iconst 1, 1) := by decide +kernel
theorem zd_M_element_98 : decode zc_M_element 98 = .ok (.iadd, 1) := by decide +kernel
theorem zd_M_element_99 : decode zc_M_element 99 = .ok (.istore 5, 2) := by decide +kernel
theorem zd_M_element_101 : decode zc_M_element 101 = .ok (.aload_n 0, 1) := by decide +kernel
theorem zd_M_element_102 : decode zc_M_element 102 = .ok (.aload_n 0, 1) := by decide +kernel
theorem zd_M_element_103 : decode zc_M_element 103 = .ok (.invokevirtual 123, 3) := by decide +kernel
theorem zd_M_element_106 : decode zc_M_element 106 = .ok (.iload 5, 2) := by decide +kernel
theorem zd_M_element_108 : decode zc_M_element 108 = .ok (.iadd, 1) := by decide +kernel
theorem zd_M_element_109 : decode zc_M_element 109 = .ok (.iload_n 1, 1) := by decide +kernel
theorem zd_M_element_110 : decode zc_M_element 110 = .ok (.if_icmp .gt 7, 3) := by decide +kernel
theorem zd_M_element_113 : decode zc_M_element 113 = .ok (.iconst 1, 1) := by decide +kernel
theorem zd_M_element_114 : decode zc_M_element 114 = .ok (.goto 4, 3) := by decide +kernel
theorem zd_M_element_117 : decode zc_M_element 117 = .ok (.iconst 0, 1) := by decide +kernel
theorem zd_M_element_118 : decode zc_M_element 118 = .ok (.iload_n 2, 1) := by decide +kernel
theorem zd_M_element_119 : decode zc_M_element 119 = .ok (.invokevirtual 112, 3) := by decide +kernel
theorem zd_M_element_122 : decode zc_M_element 122 = .ok (.aload_n 0, 1) := by decide +kernel
theorem zd_M_element_123 : decode zc_M_element 123 = .ok (.iload 5, 2) := by decide +kernel
theorem zd_M_element_125 : decode zc_M_element 125 = .ok (.invokevirtual 126, 3) := by decide +kernel
theorem zd_M_element_128 : decode zc_M_element 128 = .ok (.return_, 1) := by decide +kernel
theorem zd_M_element_129 : decode zc_M_element 129 = .ok (.iload 4, 2) := by decide +kernel
theorem zd_M_element_131 : decode zc_M_element 131 = .ok (.iconst 1, 1) := by decide +kernel
theorem zd_M_element_132 : decode zc_M_element 132 = .ok (.if_icmp .ne 7, 3) := by decide +kernel
theorem zd_M_element_135 : decode zc_M_element 135 = .ok (.iload_n 2, 1) := by decide +kernel
theorem zd_M_element_136 : decode zc_M_element 136 = .ok (.goto 7, 3) := by decide +kernel
theorem zd_M_element_139 : decode zc_M_element 139 = .ok (.aload_n 0, 1) := by decide +kernel
theorem zd_M_element_140 : decode zc_M_element 140 = .ok (.getfield 109, 3) := by decide +kernel
theorem zd_M_element_143 : decode zc_M_element 143 = .ok (.istore 6, 2) := by decide +kernel
theorem zd_M_element_145 : decode zc_M_element 145 = .ok (.aload_n 0, 1) := by decide +kernel
theorem zd_M_element_146 : decode zc_M_element 146 = .ok (.invokevirtual 116, 3) := by decide +kernel
theorem zd_M_element_149 : decode zc_M_element 149 = .ok (.istore 7, 2) := by decide +kernel
theorem zd_M_element_151 : decode zc_M_element 151 = .ok (.iload 4, 2) := by decide +kernel
theorem zd_M_element_153 : decode zc_M_element 153 = .ok (.iconst 1, 1) := by decide +kernel
theorem zd_M_element_154 : decode zc_M_element 154 = .ok (.if_icmp .ne 16, 3) := by decide +kernel
theorem zd_M_element_157 : decode zc_M_element 157 = .ok (.iload 7, 2) := by decide +kernel
theorem zd_M_element_159 : decode zc_M_element 159 = .ok (.iload_n 3, 1) := by decide +kernel
theorem zd_M_element_160 : decode zc_M_element 160 = .ok (.iconst 5, 1) := by decide +kernel
theorem zd_M_element_161 : decode zc_M_element 161 = .ok (.ishr, 1) := by decide +kernel
theorem zd_M_element_162 : decode zc_M_element 162 = .ok (.sipush 256, 3) := by decide +kernel
theorem zd_M_element_165 : decode zc_M_element 165 = .ok (.imul, 1) := by decide +kernel
theorem zd_M_element_166 : decode zc_M_element 166 = .ok (.iadd, 1) := by decide +kernel
theorem zd_M_element_167 : decode zc_M_element 167 = .ok (.goto 13, 3) := by decide +kernel
theorem zd_M_element_170 : decode zc_M_element 170 = .ok (.iload 7, 2) := by decide +kernel
theorem zd_M_element_172 : decode zc_M_element 172 = .ok (.aload_n 0, 1) := by decide +kernel
theorem zd_M_element_173 : decode zc_M_element 173 = .ok (.invokevirtual 116, 3) := by decide +kernel
theorem zd_M_element_176 : decode zc_M_element 176 = .ok (.bipush 8, 2) := by decide +kernel
theorem zd_M_element_178 : decode zc_M_element 178 = .ok (.ishl, 1) := by decide +kernel
theorem zd_M_element_179 : decode zc_M_element 179 = .ok (.ior, 1) := by decide +kernel
theorem zd_M_element_180 : decode zc_M_element 180 = .ok (.istore 7, 2) := by decide +kernel
theorem zd_M_element_182 : decode zc_M_element 182 = .ok (.aload_n 0, 1) := by decide +kernel
theorem zd_M_element_183 : decode zc_M_element 183 = .ok (.iload 7, 2) := by decide +kernel
theorem zd_M_element_185 : decode zc_M_element 185 = .ok (.ifCond .le 16, 3) := by decide +kernel
theorem zd_M_element_188 : decode zc_M_element 188 = .ok (.iload 7, 2) := by decide +kernel
theorem zd_M_element_190 : decode zc_M_element 190 = .ok (.aload_n 0, 1) := by decide +kernel
theorem zd_M_element_191 : decode zc_M_element 191 = .ok (.getfield 57, 3) := by decide +kernel
theorem zd_M_element_194 : decode zc_M_element 194 = .ok (.if_icmp .gt 7, 3) := by decide +kernel
theorem zd_M_element_197 : decode zc_M_element 197 = .ok (.iconst 1, 1) := by decide +kernel
theorem zd_M_element_198 : decode zc_M_element 198 = .ok (.goto 4, 3) := by decide +kernel
theorem zd_M_element_201 : decode zc_M_element 201 = .ok (.iconst 0, 1) := by decide +kernel
theorem zd_M_element_202 : decode zc_M_element 202 = .ok (.iload 6, 2) := by decide +kernel
theorem zd_M_element_204 : decode zc_M_element 204 = .ok (.invokevirtual 112, 3) := by decide +kernel
theorem zd_M_element_207 : decode zc_M_element 207 = .ok (.aload_n 0, 1) := by decide +kernel
theorem zd_M_element_208 : decode zc_M_element 208 = .ok (.aload_n 0, 1) := by decide +kernel
theorem zd_M_element_209 : decode zc_M_element 209 = .ok (.invokevirtual 123, 3) := by decide +kernel
theorem zd_M_element_212 : decode zc_M_element 212 = .ok (.iload 5, 2) := by decide +kernel
theorem zd_M_element_214 : decode zc_M_element 214 = .ok (.iadd, 1) := by decide +kernel
theorem zd_M_element_215 : decode zc_M_element 215 = .ok (.iload_n 1, 1) := by decide +kernel
theorem zd_M_element_216 : decode zc_M_element 216 = .ok (.if_icmp .gt 7, 3) := by decide +kernel
theorem zd_M_element_219 : decode zc_M_element 219 = .ok (.iconst 1, 1) := by decide +kernel
theorem zd_M_element_220 : decode zc_M_element 220 = .ok (.goto 4, 3) := by decide +kernel
theorem zd_M_element_223 : decode zc_M_element 223 = .ok (.iconst 0, 1) := by decide +kernel
theorem zd_M_element_224 : decode zc_M_element 224 = .ok (.iload_n 2, 1) := by decide +kernel
theorem zd_M_element_225 : decode zc_M_element 225 = .ok (.invokevirtual 112, 3) := by decide +kernel
theorem zd_M_element_228 : decode zc_M_element 228 = .ok (.aload_n 0, 1) := by decide +kernel
theorem zd_M_element_229 : decode zc_M_element 229 = .ok (.iload 5, 2) := by decide +kernel
theorem zd_M_element_231 : decode zc_M_element 231 = .ok (.iload 7, 2) := by decide +kernel
theorem zd_M_element_233 : decode zc_M_element 233 = .ok (.invokevirtual 129, 3) := by decide +kernel
theorem zd_M_element_236 : decode zc_M_element 236 = .ok (.return_, 1) := by decide +kernel
theorem zd_M_readOne_0 : decode zc_M_readOne 0 = .ok (.aload_n 0, 1) := by decide +kernel
theorem zd_M_readOne_1 : decode zc_M_readOne 1 = .ok (.invokevirtual 116, 3) := by decide +kernel
theorem zd_M_readOne_4 : decode zc_M_readOne 4 = .ok (.istore_n 1, 1) := by decide +kernel
theorem zd_M_readOne_5 : decode zc_M_readOne 5 = .ok (.iload_n 1, 1) := by decide +kernel
theorem zd_M_readOne_6 : decode zc_M_readOne 6 = .ok (.bipush 127, 2) := by decide +kernel
theorem zd_M_readOne_8 : decode zc_M_readOne 8 = .ok (.if_icmp .le 35, 3) := by decide +kernel
theorem zd_M_readOne_11 : decode zc_M_readOne 11 = .ok (.aload_n 0, 1) := by decide +kernel
theorem zd_M_readOne_12 : decode zc_M_readOne 12 = .ok (.invokevirtual 116, 3) := by decide +kernel
theorem zd_M_readOne_15 : decode zc_M_readOne 15 = .ok (.istore_n 2, 1) := by decide +kernel
theorem zd_M_readOne_16 : decode zc_M_readOne 16 = .ok (.aload_n 0, 1) := by decide +kernel
theorem zd_M_readOne_17 : decode zc_M_readOne 17 = .ok (.iload_n 2, 1) := by decide +kernel
theorem zd_M_readOne_18 : decode zc_M_readOne 18 = .ok (.sipush 128, 3) := by decide +kernel
theorem zd_M_readOne_21 : decode zc_M_readOne 21 = .ok (.if_icmp .ge 7, 3) := by decide +kernel
theorem zd_M_readOne_24 : decode zc_M_readOne 24 = .ok (.iconst 1, 1) := by decide +kernel
theorem zd_M_readOne_25 : decode zc_M_readOne 25 = .ok (.goto 4, 3) := by decide +kernel
theorem zd_M_readOne_28 : decode zc_M_readOne 28 = .ok (.iconst 0, 1) := by decide +kernel
theorem zd_M_readOne_29 : decode zc_M_readOne 29 = .ok (.iconst 1, 1) := by decide +kernel
theorem zd_M_readOne_30 : decode zc_M_readOne 30 = .ok (.invokevirtual 112, 3) := by decide +kernel
theorem zd_M_readOne_33 : decode zc_M_readOne 33 = .ok (.iload_n 1, 1) := by decide +kernel
theorem zd_M_readOne_34 : decode zc_M_readOne 34 = .ok (.bipush 127, 2) := by decide +kernel
theorem zd_M_readOne_36 : decode zc_M_readOne 36 = .ok (.iand, 1) := by decide +kernel
theorem zd_M_readOne_37 : decode zc_M_readOne 37 = .ok (.iload_n 2, 1) := by decide +kernel
theorem zd_M_readOne_38 : decode zc_M_readOne 38 = .ok (.bipush 7, 2) := by decide +kernel
theorem zd_M_readOne_40 : decode zc_M_readOne 40 = .ok (.ishl, 1) := by decide +kernel
theorem zd_M_readOne_41 : decode zc_M_readOne 41 = .ok (.ior, 1) := by decide +kernel
theorem zd_M_readOne_42 : decode zc_M_readOne 42 = .ok (.istore_n 1, 1) := by decide +kernel
theorem zd_M_readOne_43 : decode zc_M_readOne 43 = .ok (.aload_n 0, 1) := by decide +kernel
theorem zd_M_readOne_44 : decode zc_M_readOne 44 = .ok (.iload_n 1, 1) := by decide +kernel
theorem zd_M_readOne_45 : decode zc_M_readOne 45 = .ok (.sipush 160, 3) := by decide +kernel
theorem zd_M_readOne_48 : decode zc_M_readOne 48 = .ok (.if_icmp .gt 7, 3) := by decide +kernel
theorem zd_M_readOne_51 : decode zc_M_readOne 51 = .ok (.iconst 1, 1) := by decide +kernel
theorem zd_M_readOne_52 : decode zc_M_readOne 52 = .ok (.goto 4, 3) := by decide +kernel
theorem zd_M_readOne_55 : decode zc_M_readOne 55 = .ok (.iconst 0, 1) := by decide +kernel
theorem zd_M_readOne_56 : decode zc_M_readOne 56 = .ok (.aload_n 0, 1) := by decide +kernel
theorem zd_M_readOne_57 : decode zc_M_readOne 57 = .ok (.getfield 109, 3) := by decide +kernel
theorem zd_M_readOne_60 : decode zc_M_readOne 60 = .ok (.iconst 1, 1) := by decide +kernel
theorem zd_M_readOne_61 : decode zc_M_readOne 61 = .ok (.isub, 1) := by decide +kernel
theorem zd_M_readOne_62 : decode zc_M_readOne 62 = .ok (.invokevirtual 112, 3) := by decide +kernel
theorem zd_M_readOne_65 : decode zc_M_readOne 65 = .ok (.aload_n 0, 1) := by decide +kernel
theorem zd_M_readOne_66 : decode zc_M_readOne 66 = .ok (.getfield 106, 3) := by decide +kernel
theorem zd_M_readOne_69 : decode zc_M_readOne 69 = .ok (.ifCond .ge 24, 3) := by decide +kernel
theorem zd_M_readOne_72 : decode zc_M_readOne 72 = .ok (.aload_n 0, 1) := by decide +kernel
theorem zd_M_readOne_73 : decode zc_M_readOne 73 = .ok (.getfield 109, 3) := by decide +kernel
theorem zd_M_readOne_76 : decode zc_M_readOne 76 = .ok (.aload_n 0, 1) := by decide +kernel
theorem zd_M_readOne_77 : decode zc_M_readOne 77 = .ok (.getfield 13, 3) := by decide +kernel
theorem zd_M_readOne_80 : decode zc_M_readOne 80 = .ok (.iconst 1, 1) := by decide +kernel
theorem zd_M_readOne_81 : decode zc_M_readOne 81 = .ok (.iaload, 1) := by decide +kernel
theorem zd_M_readOne_82 : decode zc_M_readOne 82 = .ok (.if_icmp .ge 11, 3) := by decide +kernel
theorem zd_M_readOne_85 : decode zc_M_readOne 85 = .ok (.aload_n 0, 1) := by decide +kernel
theorem zd_M_readOne_86 : decode zc_M_readOne 86 = .ok (.iload_n 1, 1) := by decide +kernel
theorem zd_M_readOne_87 : decode zc_M_readOne 87 = .ok (.invokevirtual 132, 3) := by decide +kernel
theorem zd_M_readOne_90 : decode zc_M_readOne 90 = .ok (.goto (-25), 3) := by decide +kernel
theorem zd_M_readOne_93 : decode zc_M_readOne 93 = .ok (.aload_n 0, 1) := by decide +kernel
theorem zd_M_readOne_94 : decode zc_M_readOne 94 = .ok (.aload_n 0, 1) := by decide +kernel
theorem zd_M_readOne_95 : decode zc_M_readOne 95 = .ok (.invokevirtual 123, 3) := by decide +kernel
theorem zd_M_readOne_98 : decode zc_M_readOne 98 = .ok (.iload_n 1, 1) := by decide +kernel
theorem zd_M_readOne_99 : decode zc_M_readOne 99 = .ok (.if_icmp .ne 7, 3) := by decide +kernel
theorem zd_M_readOne_102 : decode zc_M_readOne 102 = .ok (.iconst 1, 1) := by decide +kernel
theorem zd_M_readOne_103 : decode zc_M_readOne 103 = .ok (.goto 4, 3) := by decide +kernel
theorem zd_M_readOne_106 : decode zc_M_readOne 106 = .ok (.iconst 0, 1) := by decide +kernel
theorem zd_M_readOne_107 : decode zc_M_readOne 107 = .ok (.aload_n 0, 1) := by decide +kernel
theorem zd_M_readOne_108 : decode zc_M_readOne 108 = .ok (.getfield 13, 3) := by decide +kernel
theorem zd_M_readOne_111 : decode zc_M_readOne 111 = .ok (.iconst 1, 1) := by decide +kernel
theorem zd_M_readOne_112 : decode zc_M_readOne 112 = .ok (.iaload, 1) := by decide +kernel
theorem zd_M_readOne_113 : decode zc_M_readOne 113 = .ok (.invokevirtual 112, 3) := by decide +kernel
theorem zd_M_readOne_116 : decode zc_M_readOne 116 = .ok (.return_, 1) := by decide +kernel
theorem zd_M_unpack_0 : decode zc_M_unpack 0 = .ok (.aload_n 0, 1) := by decide +kernel
theorem zd_M_unpack_1 : decode zc_M_unpack 1 = .ok (.iload_n 1, 1) := by decide +kernel
theorem zd_M_unpack_2 : decode zc_M_unpack 2 = .ok (.ifCond .eq 12, 3) := by decide +kernel
theorem zd_M_unpack_5 : decode zc_M_unpack 5 = .ok (.iload_n 1, 1) := by decide +kernel
theorem zd_M_unpack_6 : decode zc_M_unpack 6 = .ok (.iconst 1, 1) := by decide +kernel
theorem zd_M_unpack_7 : decode zc_M_unpack 7 = .ok (.if_icmp .eq 7, 3) := by decide +kernel
theorem zd_M_unpack_10 : decode zc_M_unpack 10 = .ok (.iconst 1, 1) := by decide +kernel
theorem zd_M_unpack_11 : decode zc_M_unpack 11 = .ok (.goto 4, 3) := by decide +kernel
theorem zd_M_unpack_14 : decode zc_M_unpack 14 = .ok (.iconst 0, 1) := by decide +kernel
theorem zd_M_unpack_15 : decode zc_M_unpack 15 = .ok (.iconst 0, 1) := by decide +kernel
theorem zd_M_unpack_16 : decode zc_M_unpack 16 = .ok (.invokevirtual 34, 3) := by decide +kernel
theorem zd_M_unpack_19 : decode zc_M_unpack 19 = .ok (.ifCond .eq 5, 3) := by decide +kernel
theorem zd_M_unpack_22 : decode zc_M_unpack 22 = .ok (.iconst 0, 1) := by decide +kernel
theorem zd_M_unpack_23 : decode zc_M_unpack 23 = .ok (.ireturn, 1) := by decide +kernel
theorem zd_M_unpack_24 : decode zc_M_unpack 24 = .ok (.aload_n 0, 1) := by decide +kernel
theorem zd_M_unpack_25 : decode zc_M_unpack 25 = .ok (.invokevirtual 100, 3) := by decide +kernel
theorem zd_M_unpack_28 : decode zc_M_unpack 28 = .ok (.aload_n 0, 1) := by decide +kernel
theorem zd_M_unpack_29 : decode zc_M_unpack 29 = .ok (.iconst 0, 1) := by decide +kernel
theorem zd_M_unpack_30 : decode zc_M_unpack 30 = .ok (.putfield 109, 3) := by decide +kernel
theorem zd_M_unpack_33 : decode zc_M_unpack 33 = .ok (.aload_n 0, 1) := by decide +kernel
theorem zd_M_unpack_34 : decode zc_M_unpack 34 = .ok (.iconst (-1), 1) := by decide +kernel
theorem zd_M_unpack_35 : decode zc_M_unpack 35 = .ok (.putfield 106, 3) := by decide +kernel
theorem zd_M_unpack_38 : decode zc_M_unpack 38 = .ok (.iload_n 1, 1) := by decide +kernel
theorem zd_M_unpack_39 : decode zc_M_unpack 39 = .ok (.ifCond .ne 10, 3) := by decide +kernel
theorem zd_M_unpack_42 : decode zc_M_unpack 42 = .ok (.aload_n 0, 1) := by decide +kernel
theorem zd_M_unpack_43 : decode zc_M_unpack 43 = .ok (.invokevirtual 135, 3) := by decide +kernel
theorem zd_M_unpack_46 : decode zc_M_unpack 46 = .ok (.goto 7, 3) := by decide +kernel
theorem zd_M_unpack_49 : decode zc_M_unpack 49 = .ok (.aload_n 0, 1) := by decide +kernel
theorem zd_M_unpack_50 : decode zc_M_unpack 50 = .ok (.invokevirtual 138, 3) := by decide +kernel
theorem zd_M_unpack_53 : decode zc_M_unpack 53 = .ok (.aload_n 0, 1) := by decide +kernel
theorem zd_M_unpack_54 : decode zc_M_unpack 54 = .ok (.getfield 106, 3) := by decide +kernel
theorem zd_M_unpack_57 : decode zc_M_unpack 57 = .ok (.ifCond .lt 10, 3) := by decide +kernel
theorem zd_M_unpack_60 : decode zc_M_unpack 60 = .ok (.iconst (-1), 1) := by decide +kernel
theorem zd_M_unpack_61 : decode zc_M_unpack 61 = .ok (.aload_n 0, 1) := by decide +kernel
theorem zd_M_unpack_62 : decode zc_M_unpack 62 = .ok (.getfield 106, 3) := by decide +kernel
theorem zd_M_unpack_65 : decode zc_M_unpack 65 = .ok (.isub, 1) := by decide +kernel
theorem zd_M_unpack_66 : decode zc_M_unpack 66 = .ok (.ireturn, 1) := by decide +kernel
theorem zd_M_unpack_67 : decode zc_M_unpack 67 = .ok (.aload_n 0, 1) := by decide +kernel
theorem zd_M_unpack_68 : decode zc_M_unpack 68 = .ok (.getfield 13, 3) := by decide +kernel
theorem zd_M_unpack_71 : decode zc_M_unpack 71 = .ok (.iconst 0, 1) := by decide +kernel
theorem zd_M_unpack_72 : decode zc_M_unpack 72 = .ok (.aload_n 0, 1) := by decide +kernel
theorem zd_M_unpack_73 : decode zc_M_unpack 73 = .ok (.invokevirtual 123, 3) := by decide +kernel
theorem zd_M_unpack_76 : decode zc_M_unpack 76 = .ok (.iastore, 1) := by decide +kernel
theorem zd_M_unpack_77 : decode zc_M_unpack 77 = .ok (.iconst 0, 1) := by decide +kernel
theorem zd_M_unpack_78 : decode zc_M_unpack 78 = .ok (.istore_n 2, 1) := by decide +kernel
theorem zd_M_unpack_79 : decode zc_M_unpack 79 = .ok (.iload_n 2, 1) := by decide +kernel
theorem zd_M_unpack_80 : decode zc_M_unpack 80 = .ok (.aload_n 0, 1) := by decide +kernel
theorem zd_M_unpack_81 : decode zc_M_unpack 81 = .ok (.getfield 13, 3) := by decide +kernel
theorem zd_M_unpack_84 : decode zc_M_unpack 84 = .ok (.iconst 0, 1) := by decide +kernel
theorem zd_M_unpack_85 : decode zc_M_unpack 85 = .ok (.iaload, 1) := by decide +kernel
theorem zd_M_unpack_86 : decode zc_M_unpack 86 = .ok (.if_icmp .ge 26, 3) := by decide +kernel
theorem zd_M_unpack_89 : decode zc_M_unpack 89 = .ok (.aload_n 0, 1) := by decide +kernel
theorem zd_M_unpack_90 : decode zc_M_unpack 90 = .ok (.getfield 7, 3) := by decide +kernel
theorem zd_M_unpack_93 : decode zc_M_unpack 93 = .ok (.iload_n 2, 1) := by decide +kernel
theorem zd_M_unpack_94 : decode zc_M_unpack 94 = .ok (.aload_n 0, 1) := by decide +kernel
theorem zd_M_unpack_95 : decode zc_M_unpack 95 = .ok (.getfield 16, 3) := by decide +kernel
theorem zd_M_unpack_98 : decode zc_M_unpack 98 = .ok (.aload_n 0, 1) := by decide +kernel
theorem zd_M_unpack_99 : decode zc_M_unpack 99 = .ok (.getfield 54, 3) := by decide +kernel
theorem zd_M_unpack_102 : decode zc_M_unpack 102 = .ok (.iload_n 2, 1) := by decide +kernel
theorem zd_M_unpack_103 : decode zc_M_unpack 103 = .ok (.iadd, 1) := by decide +kernel
theorem zd_M_unpack_104 : decode zc_M_unpack 104 = .ok (.iaload, 1) := by decide +kernel
theorem zd_M_unpack_105 : decode zc_M_unpack 105 = .ok (.iastore, 1) := by decide +kernel
theorem zd_M_unpack_106 : decode zc_M_unpack 106 = .ok (.iinc 2 1, 3) := by decide +kernel
theorem zd_M_unpack_109 : decode zc_M_unpack 109 = .ok (.goto (-30), 3) := by decide +kernel
theorem zd_M_unpack_112 : decode zc_M_unpack 112 = .ok (.aload_n 0, 1) := by decide +kernel
theorem zd_M_unpack_113 : decode zc_M_unpack 113 = .ok (.getfield 13, 3) := by decide +kernel
theorem zd_M_unpack_116 : decode zc_M_unpack 116 = .ok (.iconst 0, 1) := by decide +kernel
theorem zd_M_unpack_117 : decode zc_M_unpack 117 = .ok (.iaload, 1) := by decide +kernel
theorem zd_M_unpack_118 : decode zc_M_unpack 118 = .ok (.ireturn, 1) := by decide +kernel
theorem zd_M_crc_0 : decode zc_M_crc 0 = .ok (.aload_n 0, 1) := by decide +kernel
theorem zd_M_crc_1 : decode zc_M_crc 1 = .ok (.iload_n 1, 1) := by decide +kernel
theorem zd_M_crc_2 : decode zc_M_crc 2 = .ok (.invokestatic 26, 3) := by decide +kernel
theorem zd_M_crc_5 : decode zc_M_crc 5 = .ok (.ifCond .ne 7, 3) := by decide +kernel
theorem zd_M_crc_8 : decode zc_M_crc 8 = .ok (.iconst 1, 1) := by decide +kernel
theorem zd_M_crc_9 : decode zc_M_crc 9 = .ok (.goto 4, 3) := by decide +kernel
theorem zd_M_crc_12 : decode zc_M_crc 12 = .ok (.iconst 0, 1) := by decide +kernel
theorem zd_M_crc_13 : decode zc_M_crc 13 = .ok (.iconst 0, 1) := by decide +kernel
theorem zd_M_crc_14 : decode zc_M_crc 14 = .ok (.invokevirtual 34, 3) := by decide +kernel
theorem zd_M_crc_17 : decode zc_M_crc 17 = .ok (.ifCond .eq 5, 3) := by decide +kernel
theorem zd_M_crc_20 : decode zc_M_crc 20 = .ok (.iconst 0, 1) := by decide +kernel
theorem zd_M_crc_21 : decode zc_M_crc 21 = .ok (.ireturn, 1) := by decide +kernel
theorem zd_M_crc_22 : decode zc_M_crc 22 = .ok (.iconst (-1), 1) := by decide +kernel
theorem zd_M_crc_23 : decode zc_M_crc 23 = .ok (.istore_n 2, 1) := by decide +kernel
theorem zd_M_crc_24 : decode zc_M_crc 24 = .ok (.iconst 0, 1) := by decide +kernel
theorem zd_M_crc_25 : decode zc_M_crc 25 = .ok (.istore_n 3, 1) := by decide +kernel
theorem zd_M_crc_26 : decode zc_M_crc 26 = .ok (.iload_n 3, 1) := by decide +kernel
theorem zd_M_crc_27 : decode zc_M_crc 27 = .ok (.aload_n 0, 1) := by decide +kernel
theorem zd_M_crc_28 : decode zc_M_crc 28 = .ok (.getfield 13, 3) := by decide +kernel
theorem zd_M_crc_31 : decode zc_M_crc 31 = .ok (.iload_n 1, 1) := by decide +kernel
theorem zd_M_crc_32 : decode zc_M_crc 32 = .ok (.iaload, 1) := by decide +kernel
theorem zd_M_crc_33 : decode zc_M_crc 33 = .ok (.if_icmp .ge 68, 3) := by decide +kernel
theorem zd_M_crc_36 : decode zc_M_crc 36 = .ok (.iload_n 2, 1) := by decide +kernel
theorem zd_M_crc_37 : decode zc_M_crc 37 = .ok (.aload_n 0, 1) := by decide +kernel
theorem zd_M_crc_38 : decode zc_M_crc 38 = .ok (.getfield 7, 3) := by decide +kernel
theorem zd_M_crc_41 : decode zc_M_crc 41 = .ok (.sipush 200, 3) := by decide +kernel
theorem zd_M_crc_44 : decode zc_M_crc 44 = .ok (.iload_n 1, 1) := by decide +kernel
theorem zd_M_crc_45 : decode zc_M_crc 45 = .ok (.imul, 1) := by decide +kernel
theorem zd_M_crc_46 : decode zc_M_crc 46 = .ok (.iload_n 3, 1) := by decide +kernel
theorem zd_M_crc_47 : decode zc_M_crc 47 = .ok (.iadd, 1) := by decide +kernel
theorem zd_M_crc_48 : decode zc_M_crc 48 = .ok (.iaload, 1) := by decide +kernel
theorem zd_M_crc_49 : decode zc_M_crc 49 = .ok (.ixor, 1) := by decide +kernel
theorem zd_M_crc_50 : decode zc_M_crc 50 = .ok (.istore_n 2, 1) := by decide +kernel
theorem zd_M_crc_51 : decode zc_M_crc 51 = .ok (.iconst 0, 1) := by decide +kernel
theorem zd_M_crc_52 : decode zc_M_crc 52 = .ok (.istore 4, 2) := by decide +kernel
theorem zd_M_crc_54 : decode zc_M_crc 54 = .ok (.iload 4, 2) := by decide +kernel
theorem zd_M_crc_56 : decode zc_M_crc 56 = .ok (.bipush 8, 2) := by decide +kernel
theorem zd_M_crc_58 : decode zc_M_crc 58 = .ok (.if_icmp .ge 37, 3) := by decide +kernel
theorem zd_M_crc_61 : decode zc_M_crc 61 = .ok (.iload_n 2, 1) := by decide +kernel
theorem zd_M_crc_62 : decode zc_M_crc 62 = .ok (.iconst 1, 1) := by decide +kernel
theorem zd_M_crc_63 : decode zc_M_crc 63 = .ok (.iand, 1) := by decide +kernel
theorem zd_M_crc_64 : decode zc_M_crc 64 = .ok (.iconst 1, 1) := by decide +kernel
theorem zd_M_crc_65 : decode zc_M_crc 65 = .ok (.if_icmp .ne 7, 3) := by decide +kernel
theorem zd_M_crc_68 : decode zc_M_crc 68 = .ok (.iconst 1, 1) := by decide +kernel
theorem zd_M_crc_69 : decode zc_M_crc 69 = .ok (.goto 4, 3) := by decide +kernel
theorem zd_M_crc_72 : decode zc_M_crc 72 = .ok (.iconst 0, 1) := by decide +kernel
theorem zd_M_crc_73 : decode zc_M_crc 73 = .ok (.istore 5, 2) := by decide +kernel
theorem zd_M_crc_75 : decode zc_M_crc 75 = .ok (.iload_n 2, 1) := by decide +kernel
theorem zd_M_crc_76 : decode zc_M_crc 76 = .ok (.iconst 1, 1) := by decide +kernel
theorem zd_M_crc_77 : decode zc_M_crc 77 = .ok (.iushr, 1) := by decide +kernel
theorem zd_M_crc_78 : decode zc_M_crc 78 = .ok (.istore_n 2, 1) := by decide +kernel
theorem zd_M_crc_79 : decode zc_M_crc 79 = .ok (.iload 5, 2) := by decide +kernel
theorem zd_M_crc_81 : decode zc_M_crc 81 = .ok (.ifCond .eq 8, 3) := by decide +kernel
theorem zd_M_crc_84 : decode zc_M_crc 84 = .ok (.iload_n 2, 1) := by decide +kernel
theorem zd_M_crc_85 : decode zc_M_crc 85 = .ok (.ldc 141, 2) := by decide +kernel
theorem zd_M_crc_87 : decode zc_M_crc 87 = .ok (.ixor, 1) := by decide +kernel
theorem zd_M_crc_88 : decode zc_M_crc 88 = .ok (.istore_n 2, 1) := by decide +kernel
theorem zd_M_crc_89 : decode zc_M_crc 89 = .ok (.iinc 4 1, 3) := by decide +kernel
theorem zd_M_crc_92 : decode zc_M_crc 92 = .ok (.goto (-38), 3) := by decide +kernel
theorem zd_M_crc_95 : decode zc_M_crc 95 = .ok (.iinc 3 1, 3) := by decide +kernel
theorem zd_M_crc_98 : decode zc_M_crc 98 = .ok (.goto (-72), 3) := by decide +kernel
theorem zd_M_crc_101 : decode zc_M_crc 101 = .ok (.iload_n 2, 1) := by decide +kernel
theorem zd_M_crc_102 : decode zc_M_crc 102 = .ok (.iconst (-1), 1) := by decide +kernel
theorem zd_M_crc_103 : decode zc_M_crc 103 = .ok (.ixor, 1) := by decide +kernel
theorem zd_M_crc_104 : decode zc_M_crc 104 = .ok (.ireturn, 1) := by decide +kernel
theorem zd_M_turn_0 : decode zc_M_turn 0 = .ok (.iload_n 0, 1) := by decide +kernel
theorem zd_M_turn_1 : decode zc_M_turn 1 = .ok (.iload_n 1, 1) := by decide +kernel
theorem zd_M_turn_2 : decode zc_M_turn 2 = .ok (.ishl, 1) := by decide +kernel
theorem zd_M_turn_3 : decode zc_M_turn 3 = .ok (.iload_n 0, 1) := by decide +kernel
theorem zd_M_turn_4 : decode zc_M_turn 4 = .ok (.bipush 32, 2) := by decide +kernel
theorem zd_M_turn_6 : decode zc_M_turn 6 = .ok (.iload_n 1, 1) := by decide +kernel
theorem zd_M_turn_7 : decode zc_M_turn 7 = .ok (.isub, 1) := by decide +kernel
theorem zd_M_turn_8 : decode zc_M_turn 8 = .ok (.iushr, 1) := by decide +kernel
theorem zd_M_turn_9 : decode zc_M_turn 9 = .ok (.ior, 1) := by decide +kernel
theorem zd_M_turn_10 : decode zc_M_turn 10 = .ok (.ireturn, 1) := by decide +kernel
theorem zd_M_rowInt_0 : decode zc_M_rowInt 0 = .ok (.sipush 200, 3) := by decide +kernel
theorem zd_M_rowInt_3 : decode zc_M_rowInt 3 = .ok (.iload_n 1, 1) := by decide +kernel
theorem zd_M_rowInt_4 : decode zc_M_rowInt 4 = .ok (.imul, 1) := by decide +kernel
theorem zd_M_rowInt_5 : decode zc_M_rowInt 5 = .ok (.iload_n 2, 1) := by decide +kernel
theorem zd_M_rowInt_6 : decode zc_M_rowInt 6 = .ok (.iadd, 1) := by decide +kernel
theorem zd_M_rowInt_7 : decode zc_M_rowInt 7 = .ok (.istore_n 3, 1) := by decide +kernel
theorem zd_M_rowInt_8 : decode zc_M_rowInt 8 = .ok (.aload_n 0, 1) := by decide +kernel
theorem zd_M_rowInt_9 : decode zc_M_rowInt 9 = .ok (.getfield 7, 3) := by decide +kernel
theorem zd_M_rowInt_12 : decode zc_M_rowInt 12 = .ok (.iload_n 3, 1) := by decide +kernel
theorem zd_M_rowInt_13 : decode zc_M_rowInt 13 = .ok (.iaload, 1) := by decide +kernel
theorem zd_M_rowInt_14 : decode zc_M_rowInt 14 = .ok (.aload_n 0, 1) := by decide +kernel
theorem zd_M_rowInt_15 : decode zc_M_rowInt 15 = .ok (.getfield 7, 3) := by decide +kernel
theorem zd_M_rowInt_18 : decode zc_M_rowInt 18 = .ok (.iload_n 3, 1) := by decide +kernel
theorem zd_M_rowInt_19 : decode zc_M_rowInt 19 = .ok (.iconst 1, 1) := by decide +kernel
theorem zd_M_rowInt_20 : decode zc_M_rowInt 20 = .ok (.iadd, 1) := by decide +kernel
theorem zd_M_rowInt_21 : decode zc_M_rowInt 21 = .ok (.iaload, 1) := by decide +kernel
theorem zd_M_rowInt_22 : decode zc_M_rowInt 22 = .ok (.aload_n 0, 1) := by decide +kernel
theorem zd_M_rowInt_23 : decode zc_M_rowInt 23 = .ok (.getfield 7, 3) := by decide +kernel
theorem zd_M_rowInt_26 : decode zc_M_rowInt 26 = .ok (.iload_n 3, 1) := by decide +kernel
theorem zd_M_rowInt_27 : decode zc_M_rowInt 27 = .ok (.iconst 2, 1) := by decide +kernel
theorem zd_M_rowInt_28 : decode zc_M_rowInt 28 = .ok (.iadd, 1) := by decide +kernel
theorem zd_M_rowInt_29 : decode zc_M_rowInt 29 = .ok (.iaload, 1) := by decide +kernel
theorem zd_M_rowInt_30 : decode zc_M_rowInt 30 = .ok (.aload_n 0, 1) := by decide +kernel
theorem zd_M_rowInt_31 : decode zc_M_rowInt 31 = .ok (.getfield 7, 3) := by decide +kernel
theorem zd_M_rowInt_34 : decode zc_M_rowInt 34 = .ok (.iload_n 3, 1) := by decide +kernel
theorem zd_M_rowInt_35 : decode zc_M_rowInt 35 = .ok (.iconst 3, 1) := by decide +kernel
theorem zd_M_rowInt_36 : decode zc_M_rowInt 36 = .ok (.iadd, 1) := by decide +kernel
theorem zd_M_rowInt_37 : decode zc_M_rowInt 37 = .ok (.iaload, 1) := by decide +kernel
theorem zd_M_rowInt_38 : decode zc_M_rowInt 38 = .ok (.invokestatic 46, 3) := by decide +kernel
theorem zd_M_rowInt_41 : decode zc_M_rowInt 41 = .ok (.ireturn, 1) := by decide +kernel
theorem zd_M_lane_0 : decode zc_M_lane 0 = .ok (.iload_n 3, 1) := by decide +kernel
theorem zd_M_lane_1 : decode zc_M_lane 1 = .ok (.istore 4, 2) := by decide +kernel
theorem zd_M_lane_3 : decode zc_M_lane 3 = .ok (.iconst 0, 1) := by decide +kernel
theorem zd_M_lane_4 : decode zc_M_lane 4 = .ok (.istore 5, 2) := by decide +kernel
theorem zd_M_lane_6 : decode zc_M_lane 6 = .ok (.iload 5, 2) := by decide +kernel
theorem zd_M_lane_8 : decode zc_M_lane 8 = .ok (.bipush 16, 2) := by decide +kernel
theorem zd_M_lane_10 : decode zc_M_lane 10 = .ok (.iadd, 1) := by decide +kernel
theorem zd_M_lane_11 : decode zc_M_lane 11 = .ok (.aload_n 0, 1) := by decide +kernel
theorem zd_M_lane_12 : decode zc_M_lane 12 = .ok (.getfield 13, 3) := by decide +kernel
theorem zd_M_lane_15 : decode zc_M_lane 15 = .ok (.iload_n 1, 1) := by decide +kernel
theorem zd_M_lane_16 : decode zc_M_lane 16 = .ok (.iaload, 1) := by decide +kernel
theorem zd_M_lane_17 : decode zc_M_lane 17 = .ok (.if_icmp .gt 36, 3) := by decide +kernel
theorem zd_M_lane_20 : decode zc_M_lane 20 = .ok (.iload 4, 2) := by decide +kernel
theorem zd_M_lane_22 : decode zc_M_lane 22 = .ok (.aload_n 0, 1) := by decide +kernel
theorem zd_M_lane_23 : decode zc_M_lane 23 = .ok (.iload_n 1, 1) := by decide +kernel
theorem zd_M_lane_24 : decode zc_M_lane 24 = .ok (.iload 5, 2) := by decide +kernel
theorem zd_M_lane_26 : decode zc_M_lane 26 = .ok (.iconst 4, 1) := by decide +kernel
theorem zd_M_lane_27 : decode zc_M_lane 27 = .ok (.iload_n 2, 1) := by decide +kernel
theorem zd_M_lane_28 : decode zc_M_lane 28 = .ok (.imul, 1) := by decide +kernel
theorem zd_M_lane_29 : decode zc_M_lane 29 = .ok (.iadd, 1) := by decide +kernel
theorem zd_M_lane_30 : decode zc_M_lane 30 = .ok (.invokevirtual 142, 3) := by decide +kernel
theorem zd_M_lane_33 : decode zc_M_lane 33 = .ok (.ldc 145, 2) := by decide +kernel
theorem zd_M_lane_35 : decode zc_M_lane 35 = .ok (.imul, 1) := by decide +kernel
theorem zd_M_lane_36 : decode zc_M_lane 36 = .ok (.iadd, 1) := by decide +kernel
theorem zd_M_lane_37 : decode zc_M_lane 37 = .ok (.bipush 13, 2) := by decide +kernel
theorem zd_M_lane_39 : decode zc_M_lane 39 = .ok (.invokestatic 146, 3) := by decide +kernel
theorem zd_M_lane_42 : decode zc_M_lane 42 = .ok (.ldc 53, 2) := by decide +kernel
theorem zd_M_lane_44 : decode zc_M_lane 44 = .ok (.imul, 1) := by decide +kernel
theorem zd_M_lane_45 : decode zc_M_lane 45 = .ok (.istore 4, 2) := by decide +kernel
theorem zd_M_lane_47 : decode zc_M_lane 47 = .ok (.iinc 5 16, 3) := by decide +kernel
theorem zd_M_lane_50 : decode zc_M_lane 50 = .ok (.goto (-44), 3) := by decide +kernel
theorem zd_M_lane_53 : decode zc_M_lane 53 = .ok (.iload 4, 2) := by decide +kernel
theorem zd_M_lane_55 : decode zc_M_lane 55 = .ok (.ireturn, 1) := by decide +kernel
theorem zd_M_hash_0 : decode zc_M_hash 0 = .ok (.aload_n 0, 1) := by decide +kernel
theorem zd_M_hash_1 : decode zc_M_hash 1 = .ok (.iload_n 1, 1) := by decide +kernel
theorem zd_M_hash_2 : decode zc_M_hash 2 = .ok (.invokestatic 26, 3) := by decide +kernel
theorem zd_M_hash_5 : decode zc_M_hash 5 = .ok (.ifCond .ne 7, 3) := by decide +kernel
theorem zd_M_hash_8 : decode zc_M_hash 8 = .ok (.iconst 1, 1) := by decide +kernel
theorem zd_M_hash_9 : decode zc_M_hash 9 = .ok (.goto 4, 3) := by decide +kernel
theorem zd_M_hash_12 : decode zc_M_hash 12 = .ok (.iconst 0, 1) := by decide +kernel
theorem zd_M_hash_13 : decode zc_M_hash 13 = .ok (.iconst 0, 1) := by decide +kernel
theorem zd_M_hash_14 : decode zc_M_hash 14 = .ok (.invokevirtual 34, 3) := by decide +kernel
theorem zd_M_hash_17 : decode zc_M_hash 17 = .ok (.ifCond .eq 5, 3) := by decide +kernel
theorem zd_M_hash_20 : decode zc_M_hash 20 = .ok (.iconst 0, 1) := by decide +kernel
theorem zd_M_hash_21 : decode zc_M_hash 21 = .ok (.ireturn, 1) := by decide +kernel
theorem zd_M_hash_22 : decode zc_M_hash 22 = .ok (.aload_n 0, 1) := by decide +kernel
theorem zd_M_hash_23 : decode zc_M_hash 23 = .ok (.getfield 13, 3) := by decide +kernel
theorem zd_M_hash_26 : decode zc_M_hash 26 = .ok (.iload_n 1, 1) := by decide +kernel
theorem zd_M_hash_27 : decode zc_M_hash 27 = .ok (.iaload, 1) := by decide +kernel
theorem zd_M_hash_28 : decode zc_M_hash 28 = .ok (.istore_n 3, 1) := by decide +kernel
theorem zd_M_hash_29 : decode zc_M_hash 29 = .ok (.iload_n 2, 1) := by decide +kernel
theorem zd_M_hash_30 : decode zc_M_hash 30 = .ok (.ldc 149, 2) := by decide +kernel
theorem zd_M_hash_32 : decode zc_M_hash 32 = .ok (.iadd, 1) := by decide +kernel
theorem zd_M_hash_33 : decode zc_M_hash 33 = .ok (.istore 4, 2) := by decide +kernel
theorem zd_M_hash_35 : decode zc_M_hash 35 = .ok (.iload_n 3, 1) := by decide +kernel
theorem zd_M_hash_36 : decode zc_M_hash 36 = .ok (.bipush 16, 2) := by decide +kernel
theorem zd_M_hash_38 : decode zc_M_hash 38 = .ok (.if_icmp .lt 67, 3) := by decide +kernel
theorem zd_M_hash_41 : decode zc_M_hash 41 = .ok (.aload_n 0, 1) := by decide +kernel
theorem zd_M_hash_42 : decode zc_M_hash 42 = .ok (.iload_n 1, 1) := by decide +kernel
theorem zd_M_hash_43 : decode zc_M_hash 43 = .ok (.iconst 0, 1) := by decide +kernel
theorem zd_M_hash_44 : decode zc_M_hash 44 = .ok (.iload_n 2, 1) := by decide +kernel
theorem zd_M_hash_45 : decode zc_M_hash 45 = .ok (.ldc 53, 2) := by decide +kernel
theorem zd_M_hash_47 : decode zc_M_hash 47 = .ok (.iadd, 1) := by decide +kernel
theorem zd_M_hash_48 : decode zc_M_hash 48 = .ok (.ldc 145, 2) := by decide +kernel
theorem zd_M_hash_50 : decode zc_M_hash 50 = .ok (.iadd, 1) := by decide +kernel
theorem zd_M_hash_51 : decode zc_M_hash 51 = .ok (.invokevirtual 150, 3) := by decide +kernel
theorem zd_M_hash_54 : decode zc_M_hash 54 = .ok (.iconst 1, 1) := by decide +kernel
theorem zd_M_hash_55 : decode zc_M_hash 55 = .ok (.invokestatic 146, 3) := by decide +kernel
theorem zd_M_hash_58 : decode zc_M_hash 58 = .ok (.aload_n 0, 1) := by decide +kernel
theorem zd_M_hash_59 : decode zc_M_hash 59 = .ok (.iload_n 1, 1) := by decide +kernel
theorem zd_M_hash_60 : decode zc_M_hash 60 = .ok (.iconst 1, 1) := by decide +kernel
theorem zd_M_hash_61 : decode zc_M_hash 61 = .ok (.iload_n 2, 1) := by decide +kernel
theorem zd_M_hash_62 : decode zc_M_hash 62 = .ok (.ldc 145, 2) := by decide +kernel
theorem zd_M_hash_64 : decode zc_M_hash 64 = .ok (.iadd, 1) := by decide +kernel
theorem zd_M_hash_65 : decode zc_M_hash 65 = .ok (.invokevirtual 150, 3) := by decide +kernel
theorem zd_M_hash_68 : decode zc_M_hash 68 = .ok (.bipush 7, 2) := by decide +kernel
theorem zd_M_hash_70 : decode zc_M_hash 70 = .ok (.invokestatic 146, 3) := by decide +kernel
theorem zd_M_hash_73 : decode zc_M_hash 73 = .ok (.iadd, 1) := by decide +kernel
theorem zd_M_hash_74 : decode zc_M_hash 74 = .ok (.aload_n 0, 1) := by decide +kernel
theorem zd_M_hash_75 : decode zc_M_hash 75 = .ok (.iload_n 1, 1) := by decide +kernel
theorem zd_M_hash_76 : decode zc_M_hash 76 = .ok (.iconst 2, 1) := by decide +kernel
theorem zd_M_hash_77 : decode zc_M_hash 77 = .ok (.iload_n 2, 1) := by decide +kernel
theorem zd_M_hash_78 : decode zc_M_hash 78 = .ok (.invokevirtual 150, 3) := by decide +kernel
theorem zd_M_hash_81 : decode zc_M_hash 81 = .ok (.bipush 12, 2) := by decide +kernel
theorem zd_M_hash_83 : decode zc_M_hash 83 = .ok (.invokestatic 146, 3) := by decide +kernel
theorem zd_M_hash_86 : decode zc_M_hash 86 = .ok (.iadd, 1) := by decide +kernel
theorem zd_M_hash_87 : decode zc_M_hash 87 = .ok (.aload_n 0, 1) := by decide +kernel
theorem zd_M_hash_88 : decode zc_M_hash 88 = .ok (.iload_n 1, 1) := by decide +kernel
theorem zd_M_hash_89 : decode zc_M_hash 89 = .ok (.iconst 3, 1) := by decide +kernel
theorem zd_M_hash_90 : decode zc_M_hash 90 = .ok (.iload_n 2, 1) := by decide +kernel
theorem zd_M_hash_91 : decode zc_M_hash 91 = .ok (.ldc 53, 2) := by decide +kernel
theorem zd_M_hash_93 : decode zc_M_hash 93 = .ok (.isub, 1) := by decide +kernel
theorem zd_M_hash_94 : decode zc_M_hash 94 = .ok (.invokevirtual 150, 3) := by decide +kernel
theorem zd_M_hash_97 : decode zc_M_hash 97 = .ok (.bipush 18, 2) := by decide +kernel
theorem zd_M_hash_99 : decode zc_M_hash 99 = .ok (.invokestatic 146, 3) := by decide +kernel
theorem zd_M_hash_102 : decode zc_M_hash 102 = .ok (.iadd, 1) := by decide +kernel
theorem zd_M_hash_103 : decode zc_M_hash 103 = .ok (.istore 4, 2) := by decide +kernel
theorem zd_M_hash_105 : decode zc_M_hash 105 = .ok (.iload 4, 2) := by decide +kernel
theorem zd_M_hash_107 : decode zc_M_hash 107 = .ok (.iload_n 3, 1) := by decide +kernel
theorem zd_M_hash_108 : decode zc_M_hash 108 = .ok (.iadd, 1) := by decide +kernel
theorem zd_M_hash_109 : decode zc_M_hash 109 = .ok (.istore 4, 2) := by decide +kernel
theorem zd_M_hash_111 : decode zc_M_hash 111 = .ok (.iload_n 3, 1) := by decide +kernel
theorem zd_M_hash_112 : decode zc_M_hash 112 = .ok (.bipush 16, 2) := by decide +kernel
theorem zd_M_hash_114 : decode zc_M_hash 114 = .ok (.idiv, 1) := by decide +kernel
theorem zd_M_hash_115 : decode zc_M_hash 115 = .ok (.bipush 16, 2) := by decide +kernel
theorem zd_M_hash_117 : decode zc_M_hash 117 = .ok (.imul, 1) := by decide +kernel
theorem zd_M_hash_118 : decode zc_M_hash 118 = .ok (.istore 5, 2) := by decide +kernel
theorem zd_M_hash_120 : decode zc_M_hash 120 = .ok (.iload 5, 2) := by decide +kernel
theorem zd_M_hash_122 : decode zc_M_hash 122 = .ok (.istore 6, 2) := by decide +kernel
theorem zd_M_hash_124 : decode zc_M_hash 124 = .ok (.iload 6, 2) := by decide +kernel
theorem zd_M_hash_126 : decode zc_M_hash 126 = .ok (.iconst 4, 1) := by decide +kernel
theorem zd_M_hash_127 : decode zc_M_hash 127 = .ok (.iadd, 1) := by decide +kernel
theorem zd_M_hash_128 : decode zc_M_hash 128 = .ok (.iload_n 3, 1) := by decide +kernel
theorem zd_M_hash_129 : decode zc_M_hash 129 = .ok (.if_icmp .gt 38, 3) := by decide +kernel
theorem zd_M_hash_132 : decode zc_M_hash 132 = .ok (.iload 4, 2) := by decide +kernel
theorem zd_M_hash_134 : decode zc_M_hash 134 = .ok (.aload_n 0, 1) := by decide +kernel
theorem zd_M_hash_135 : decode zc_M_hash 135 = .ok (.iload_n 1, 1) := by decide +kernel
theorem zd_M_hash_136 : decode zc_M_hash 136 = .ok (.iload 6, 2) := by decide +kernel
theorem zd_M_hash_138 : decode zc_M_hash 138 = .ok (.invokevirtual 142, 3) := by decide +kernel
theorem zd_M_hash_141 : decode zc_M_hash 141 = .ok (.ldc 154, 2) := by decide +kernel
theorem zd_M_hash_143 : decode zc_M_hash 143 = .ok (.imul, 1) := by decide +kernel
theorem zd_M_hash_144 : decode zc_M_hash 144 = .ok (.iadd, 1) := by decide +kernel
theorem zd_M_hash_145 : decode zc_M_hash 145 = .ok (.bipush 17, 2) := by decide +kernel
theorem zd_M_hash_147 : decode zc_M_hash 147 = .ok (.invokestatic 146, 3) := by decide +kernel
theorem zd_M_hash_150 : decode zc_M_hash 150 = .ok (.ldc 155, 2) := by decide +kernel
theorem zd_M_hash_152 : decode zc_M_hash 152 = .ok (.imul, 1) := by decide +kernel
theorem zd_M_hash_153 : decode zc_M_hash 153 = .ok (.istore 4, 2) := by decide +kernel
theorem zd_M_hash_155 : decode zc_M_hash 155 = .ok (.iload 6, 2) := by decide +kernel
theorem zd_M_hash_157 : decode zc_M_hash 157 = .ok (.iconst 4, 1) := by decide +kernel
theorem zd_M_hash_158 : decode zc_M_hash 158 = .ok (.iadd, 1) := by decide +kernel
theorem zd_M_hash_159 : decode zc_M_hash 159 = .ok (.istore 5, 2) := by decide +kernel
theorem zd_M_hash_161 : decode zc_M_hash 161 = .ok (.iinc 6 4, 3) := by decide +kernel
theorem zd_M_hash_164 : decode zc_M_hash 164 = .ok (.goto (-40), 3) := by decide +kernel
theorem zd_M_hash_167 : decode zc_M_hash 167 = .ok (.iload 5, 2) := by decide +kernel
theorem zd_M_hash_169 : decode zc_M_hash 169 = .ok (.istore 6, 2) := by decide +kernel
theorem zd_M_hash_171 : decode zc_M_hash 171 = .ok (.iload 6, 2) := by decide +kernel
theorem zd_M_hash_173 : decode zc_M_hash 173 = .ok (.iload_n 3, 1) := by decide +kernel
theorem zd_M_hash_174 : decode zc_M_hash 174 = .ok (.if_icmp .ge 38, 3) := by decide +kernel
theorem zd_M_hash_177 : decode zc_M_hash 177 = .ok (.iload 4, 2) := by decide +kernel
theorem zd_M_hash_179 : decode zc_M_hash 179 = .ok (.aload_n 0, 1) := by decide +kernel
theorem zd_M_hash_180 : decode zc_M_hash 180 = .ok (.getfield 7, 3) := by decide +kernel
theorem zd_M_hash_183 : decode zc_M_hash 183 = .ok (.sipush 200, 3) := by decide +kernel
theorem zd_M_hash_186 : decode zc_M_hash 186 = .ok (.iload_n 1, 1) := by decide +kernel
theorem zd_M_hash_187 : decode zc_M_hash 187 = .ok (.imul, 1) := by decide +kernel
theorem zd_M_hash_188 : decode zc_M_hash 188 = .ok (.iload 6, 2) := by decide +kernel
theorem zd_M_hash_190 : decode zc_M_hash 190 = .ok (.iadd, 1) := by decide +kernel
theorem zd_M_hash_191 : decode zc_M_hash 191 = .ok (.iaload, 1) := by decide +kernel
theorem zd_M_hash_192 : decode zc_M_hash 192 = .ok (.ldc 149, 2) := by decide +kernel
theorem zd_M_hash_194 : decode zc_M_hash 194 = .ok (.imul, 1) := by decide +kernel
theorem zd_M_hash_195 : decode zc_M_hash 195 = .ok (.iadd, 1) := by decide +kernel
theorem zd_M_hash_196 : decode zc_M_hash 196 = .ok (.bipush 11, 2) := by decide +kernel
theorem zd_M_hash_198 : decode zc_M_hash 198 = .ok (.invokestatic 146, 3) := by decide +kernel
theorem zd_M_hash_201 : decode zc_M_hash 201 = .ok (.ldc 53, 2) := by decide +kernel
theorem zd_M_hash_203 : decode zc_M_hash 203 = .ok (.imul, 1) := by decide +kernel
theorem zd_M_hash_204 : decode zc_M_hash 204 = .ok (.istore 4, 2) := by decide +kernel
theorem zd_M_hash_206 : decode zc_M_hash 206 = .ok (.iinc 6 1, 3) := by decide +kernel
theorem zd_M_hash_209 : decode zc_M_hash 209 = .ok (.goto (-38), 3) := by decide +kernel
theorem zd_M_hash_212 : decode zc_M_hash 212 = .ok (.iload 4, 2) := by decide +kernel
theorem zd_M_hash_214 : decode zc_M_hash 214 = .ok (.iload 4, 2) := by decide +kernel
theorem zd_M_hash_216 : decode zc_M_hash 216 = .ok (.bipush 15, 2) := by decide +kernel
theorem zd_M_hash_218 : decode zc_M_hash 218 = .ok (.iushr, 1) := by decide +kernel
theorem zd_M_hash_219 : decode zc_M_hash 219 = .ok (.ixor, 1) := by decide +kernel
theorem zd_M_hash_220 : decode zc_M_hash 220 = .ok (.istore 4, 2) := by decide +kernel
theorem zd_M_hash_222 : decode zc_M_hash 222 = .ok (.iload 4, 2) := by decide +kernel
theorem zd_M_hash_224 : decode zc_M_hash 224 = .ok (.ldc 145, 2) := by decide +kernel
theorem zd_M_hash_226 : decode zc_M_hash 226 = .ok (.imul, 1) := by decide +kernel
theorem zd_M_hash_227 : decode zc_M_hash 227 = .ok (.istore 4, 2) := by decide +kernel
theorem zd_M_hash_229 : decode zc_M_hash 229 = .ok (.iload 4, 2) := by decide +kernel
theorem zd_M_hash_231 : decode zc_M_hash 231 = .ok (.iload 4, 2) := by decide +kernel
theorem zd_M_hash_233 : decode zc_M_hash 233 = .ok (.bipush 13, 2) := by decide +kernel
theorem zd_M_hash_235 : decode zc_M_hash 235 = .ok (.iushr, 1) := by decide +kernel
theorem zd_M_hash_236 : decode zc_M_hash 236 = .ok (.ixor, 1) := by decide +kernel
theorem zd_M_hash_237 : decode zc_M_hash 237 = .ok (.istore 4, 2) := by decide +kernel
theorem zd_M_hash_239 : decode zc_M_hash 239 = .ok (.iload 4, 2) := by decide +kernel
theorem zd_M_hash_241 : decode zc_M_hash 241 = .ok (.ldc 154, 2) := by decide +kernel
theorem zd_M_hash_243 : decode zc_M_hash 243 = .ok (.imul, 1) := by decide +kernel
theorem zd_M_hash_244 : decode zc_M_hash 244 = .ok (.istore 4, 2) := by decide +kernel
theorem zd_M_hash_246 : decode zc_M_hash 246 = .ok (.iload 4, 2) := by decide +kernel
theorem zd_M_hash_248 : decode zc_M_hash 248 = .ok (.iload 4, 2) := by decide +kernel
theorem zd_M_hash_250 : decode zc_M_hash 250 = .ok (.bipush 16, 2) := by decide +kernel
theorem zd_M_hash_252 : decode zc_M_hash 252 = .ok (.iushr, 1) := by decide +kernel
theorem zd_M_hash_253 : decode zc_M_hash 253 = .ok (.ixor, 1) := by decide +kernel
theorem zd_M_hash_254 : decode zc_M_hash 254 = .ok (.ireturn, 1) := by decide +kernel
end
section
theorem fa_R_7_R : FA RX5 7 4 0 RX5 TX5 2 := ⟨uw_5, rfl, by decide, "PressSuite$Row", Or.inl aw_2, Or.inl rfl⟩
theorem fa_R_13_R : FA RX5 13 4 1 RX5 TX5 2 := ⟨uw_5, rfl, by decide, "PressSuite$Row", Or.inl aw_3, Or.inl rfl⟩
theorem fp_R_13_R : FP RX5 13 4 1 RX5 TX5 2 := ⟨fa_R_13_R, ⟨tyX5, tyX5_ok⟩, nmX5, rfl, by decide +kernel⟩
theorem cv_R_17_R : Cond.methodLink RX5 17 zy_R_byteAt ∈ AW ∧ Cond.instanceMethod zy_R_byteAt ∈ AW ∧ Cond.selects (zy_R_byteAt).cls zy_R_byteAt zy_R_byteAt ∈ AW ∧ Cond.initialized (zy_R_byteAt).cls ∈ AW ∧ Cond.code zy_R_byteAt zc_R_byteAt 2 (some .int) ∈ AW ∧ (∃ (T : u_T) (N : Nat), zCl[4]? = some ((zy_R_byteAt).cls, T, N)) ∧ (zy_R_byteAt).cls ≠ "java/lang/invoke/MethodHandle" ∧ (zy_R_byteAt).cls ≠ "java/lang/invoke/VarHandle" ∧ (parseMethodDescriptor (zy_R_byteAt).desc).map (fun d => d.parameters.length) = some 1 := ⟨aw_4, aw_5, aw_6, aw_7, aw_8, ⟨_, _, rfl⟩, by decide, by decide, by decide⟩
theorem cv_R_21_R : Cond.methodLink RX5 21 zy_R_clear ∈ AW ∧ Cond.instanceMethod zy_R_clear ∈ AW ∧ Cond.selects (zy_R_clear).cls zy_R_clear zy_R_clear ∈ AW ∧ Cond.initialized (zy_R_clear).cls ∈ AW ∧ Cond.code zy_R_clear zc_R_clear 1 none ∈ AW ∧ (∃ (T : u_T) (N : Nat), zCl[4]? = some ((zy_R_clear).cls, T, N)) ∧ (zy_R_clear).cls ≠ "java/lang/invoke/MethodHandle" ∧ (zy_R_clear).cls ≠ "java/lang/invoke/VarHandle" ∧ (parseMethodDescriptor (zy_R_clear).desc).map (fun d => d.parameters.length) = some 0 := ⟨aw_9, aw_10, aw_11, aw_7, aw_12, ⟨_, _, rfl⟩, by decide, by decide, by decide⟩
theorem cv_R_24_R : Cond.methodLink RX5 24 zy_R_add ∈ AW ∧ Cond.instanceMethod zy_R_add ∈ AW ∧ Cond.selects (zy_R_add).cls zy_R_add zy_R_add ∈ AW ∧ Cond.initialized (zy_R_add).cls ∈ AW ∧ Cond.code zy_R_add zc_R_add 2 none ∈ AW ∧ (∃ (T : u_T) (N : Nat), zCl[4]? = some ((zy_R_add).cls, T, N)) ∧ (zy_R_add).cls ≠ "java/lang/invoke/MethodHandle" ∧ (zy_R_add).cls ≠ "java/lang/invoke/VarHandle" ∧ (parseMethodDescriptor (zy_R_add).desc).map (fun d => d.parameters.length) = some 1 := ⟨aw_13, aw_14, aw_15, aw_7, aw_16, ⟨_, _, rfl⟩, by decide, by decide, by decide⟩
theorem fa_H_7_H : FA RX2 7 2 0 RX2 TX2 2 := ⟨uw_2, rfl, by decide, "PressSuite$History", Or.inl aw_19, Or.inl rfl⟩
theorem fa_H_16_R : FA RX2 16 4 1 RX5 TX5 2 := ⟨uw_5, rfl, by decide, "PressSuite$Row", Or.inr ⟨"PressSuite", nw_0⟩, Or.inl rfl⟩
theorem fa_H_13_H : FA RX2 13 2 1 RX2 TX2 2 := ⟨uw_2, rfl, by decide, "PressSuite$History", Or.inl aw_20, Or.inl rfl⟩
theorem cv_H_22_R : Cond.methodLink RX2 22 zy_R_byteAt ∈ AW ∧ Cond.instanceMethod zy_R_byteAt ∈ AW ∧ Cond.selects (zy_R_byteAt).cls zy_R_byteAt zy_R_byteAt ∈ AW ∧ Cond.initialized (zy_R_byteAt).cls ∈ AW ∧ Cond.code zy_R_byteAt zc_R_byteAt 2 (some .int) ∈ AW ∧ (∃ (T : u_T) (N : Nat), zCl[4]? = some ((zy_R_byteAt).cls, T, N)) ∧ (zy_R_byteAt).cls ≠ "java/lang/invoke/MethodHandle" ∧ (zy_R_byteAt).cls ≠ "java/lang/invoke/VarHandle" ∧ (parseMethodDescriptor (zy_R_byteAt).desc).map (fun d => d.parameters.length) = some 1 := ⟨aw_21, aw_5, aw_6, aw_7, aw_8, ⟨_, _, rfl⟩, by decide, by decide, by decide⟩
theorem cv_H_26_H : Cond.methodLink RX2 26 zy_H_byteAt ∈ AW ∧ Cond.instanceMethod zy_H_byteAt ∈ AW ∧ Cond.selects (zy_H_byteAt).cls zy_H_byteAt zy_H_byteAt ∈ AW ∧ Cond.initialized (zy_H_byteAt).cls ∈ AW ∧ Cond.code zy_H_byteAt zc_H_byteAt 2 (some .int) ∈ AW ∧ (∃ (T : u_T) (N : Nat), zCl[2]? = some ((zy_H_byteAt).cls, T, N)) ∧ (zy_H_byteAt).cls ≠ "java/lang/invoke/MethodHandle" ∧ (zy_H_byteAt).cls ≠ "java/lang/invoke/VarHandle" ∧ (parseMethodDescriptor (zy_H_byteAt).desc).map (fun d => d.parameters.length) = some 1 := ⟨aw_22, aw_23, aw_24, aw_25, aw_26, ⟨_, _, rfl⟩, by decide, by decide, by decide⟩
theorem fa_P_29_P : FA RX3 29 3 4 RX3 TX3 7 := ⟨uw_3, rfl, by decide, "PressSuite$Packer", Or.inl aw_34, Or.inl rfl⟩
theorem fp_P_29_P : FP RX3 29 3 4 RX3 TX3 7 := ⟨fa_P_29_P, ⟨tyX3, tyX3_ok⟩, nmX3, rfl, by decide +kernel⟩
theorem fa_P_33_P : FA RX3 33 3 5 RX3 TX3 7 := ⟨uw_3, rfl, by decide, "PressSuite$Packer", Or.inl aw_35, Or.inl rfl⟩
theorem fp_P_33_P : FP RX3 33 3 5 RX3 TX3 7 := ⟨fa_P_33_P, ⟨tyX3, tyX3_ok⟩, nmX3, rfl, by decide +kernel⟩
theorem fa_P_36_P : FA RX3 36 3 6 RX3 TX3 7 := ⟨uw_3, rfl, by decide, "PressSuite$Packer", Or.inl aw_36, Or.inl rfl⟩
theorem fp_P_36_P : FP RX3 36 3 6 RX3 TX3 7 := ⟨fa_P_36_P, ⟨tyX3, tyX3_ok⟩, nmX3, rfl, by decide +kernel⟩
theorem fa_P_25_P : FA RX3 25 3 3 RX3 TX3 7 := ⟨uw_3, rfl, by decide, "PressSuite$Packer", Or.inl aw_37, Or.inl rfl⟩
theorem fa_P_7_P : FA RX3 7 3 0 RX3 TX3 7 := ⟨uw_3, rfl, by decide, "PressSuite$Packer", Or.inl aw_38, Or.inl rfl⟩
theorem fa_P_47_R : FA RX3 47 4 1 RX5 TX5 2 := ⟨uw_5, rfl, by decide, "PressSuite$Row", Or.inr ⟨"PressSuite", nw_1⟩, Or.inl rfl⟩
theorem fa_P_21_P : FA RX3 21 3 2 RX3 TX3 7 := ⟨uw_3, rfl, by decide, "PressSuite$Packer", Or.inl aw_39, Or.inl rfl⟩
theorem cv_P_70_H : Cond.methodLink RX3 70 zy_H_intAt ∈ AW ∧ Cond.instanceMethod zy_H_intAt ∈ AW ∧ Cond.selects (zy_H_intAt).cls zy_H_intAt zy_H_intAt ∈ AW ∧ Cond.initialized (zy_H_intAt).cls ∈ AW ∧ Cond.code zy_H_intAt zc_H_intAt 2 (some .int) ∈ AW ∧ (∃ (T : u_T) (N : Nat), zCl[2]? = some ((zy_H_intAt).cls, T, N)) ∧ (zy_H_intAt).cls ≠ "java/lang/invoke/MethodHandle" ∧ (zy_H_intAt).cls ≠ "java/lang/invoke/VarHandle" ∧ (parseMethodDescriptor (zy_H_intAt).desc).map (fun d => d.parameters.length) = some 1 := ⟨aw_40, aw_41, aw_42, aw_25, aw_43, ⟨_, _, rfl⟩, by decide, by decide, by decide⟩
theorem cv_P_66_P : Cond.methodLink RX3 66 zy_P_exchange ∈ AW ∧ Cond.instanceMethod zy_P_exchange ∈ AW ∧ Cond.selects (zy_P_exchange).cls zy_P_exchange zy_P_exchange ∈ AW ∧ Cond.initialized (zy_P_exchange).cls ∈ AW ∧ Cond.code zy_P_exchange zc_P_exchange 4 (some .int) ∈ AW ∧ (∃ (T : u_T) (N : Nat), zCl[3]? = some ((zy_P_exchange).cls, T, N)) ∧ (zy_P_exchange).cls ≠ "java/lang/invoke/MethodHandle" ∧ (zy_P_exchange).cls ≠ "java/lang/invoke/VarHandle" ∧ (parseMethodDescriptor (zy_P_exchange).desc).map (fun d => d.parameters.length) = some 1 := ⟨aw_45, aw_46, aw_47, aw_48, aw_49, ⟨_, _, rfl⟩, by decide, by decide, by decide⟩
theorem cv_P_39_P : Cond.methodLink RX3 39 zy_P_learnPast ∈ AW ∧ Cond.instanceMethod zy_P_learnPast ∈ AW ∧ Cond.selects (zy_P_learnPast).cls zy_P_learnPast zy_P_learnPast ∈ AW ∧ Cond.initialized (zy_P_learnPast).cls ∈ AW ∧ Cond.code zy_P_learnPast zc_P_learnPast 2 none ∈ AW ∧ (∃ (T : u_T) (N : Nat), zCl[3]? = some ((zy_P_learnPast).cls, T, N)) ∧ (zy_P_learnPast).cls ≠ "java/lang/invoke/MethodHandle" ∧ (zy_P_learnPast).cls ≠ "java/lang/invoke/VarHandle" ∧ (parseMethodDescriptor (zy_P_learnPast).desc).map (fun d => d.parameters.length) = some 0 := ⟨aw_50, aw_51, aw_52, aw_48, aw_53, ⟨_, _, rfl⟩, by decide, by decide, by decide⟩
theorem fa_SW_7_SW : FA RX7 7 6 1 RX7 TX7 2 := ⟨uw_7, rfl, by decide, "PressSuite$SequenceWriter", Or.inl aw_56, Or.inr aw_57⟩
theorem cv_SW_13_R : Cond.methodLink RX7 13 zy_R_clear ∈ AW ∧ Cond.instanceMethod zy_R_clear ∈ AW ∧ Cond.selects (zy_R_clear).cls zy_R_clear zy_R_clear ∈ AW ∧ Cond.initialized (zy_R_clear).cls ∈ AW ∧ Cond.code zy_R_clear zc_R_clear 1 none ∈ AW ∧ (∃ (T : u_T) (N : Nat), zCl[4]? = some ((zy_R_clear).cls, T, N)) ∧ (zy_R_clear).cls ≠ "java/lang/invoke/MethodHandle" ∧ (zy_R_clear).cls ≠ "java/lang/invoke/VarHandle" ∧ (parseMethodDescriptor (zy_R_clear).desc).map (fun d => d.parameters.length) = some 0 := ⟨aw_58, aw_10, aw_11, aw_7, aw_12, ⟨_, _, rfl⟩, by decide, by decide, by decide⟩
theorem cv_P_42_SW : Cond.methodLink RX3 42 ⟨"PressSuite$Writer", "begin", "()V"⟩ ∈ AW ∧ Cond.sameMethod "PressSuite$Writer" "PressSuite$Writer" "begin" "()V" ∈ AW ∧ Cond.selects RX7 ⟨"PressSuite$Writer", "begin", "()V"⟩ zy_SW_begin ∈ AW ∧ Cond.instanceMethod zy_SW_begin ∈ AW ∧ Cond.initialized (zy_SW_begin).cls ∈ AW ∧ Cond.code zy_SW_begin zc_SW_begin 1 none ∈ AW ∧ (∃ (T : u_T) (N : Nat), zCl[6]? = some (RX7, T, N)) ∧ Cond.declares ⟨"PressSuite$Writer", "begin", "()V"⟩ ∈ NW ∧ "PressSuite$Writer" ≠ "java/lang/invoke/MethodHandle" ∧ "PressSuite$Writer" ≠ "java/lang/invoke/VarHandle" ∧ (parseMethodDescriptor "()V").map (fun d => d.parameters.length) = some 0 := ⟨aw_59, aw_60, aw_61, aw_62, aw_63, aw_64, ⟨_, _, rfl⟩, nw_2, by decide, by decide, by decide⟩
theorem fa_P_13_P : FA RX3 13 3 1 RX3 TX3 7 := ⟨uw_3, rfl, by decide, "PressSuite$Packer", Or.inl aw_65, Or.inl rfl⟩
theorem cv_P_80_H : Cond.methodLink RX3 80 zy_H_length ∈ AW ∧ Cond.instanceMethod zy_H_length ∈ AW ∧ Cond.selects (zy_H_length).cls zy_H_length zy_H_length ∈ AW ∧ Cond.initialized (zy_H_length).cls ∈ AW ∧ Cond.code zy_H_length zc_H_length 1 (some .int) ∈ AW ∧ (∃ (T : u_T) (N : Nat), zCl[2]? = some ((zy_H_length).cls, T, N)) ∧ (zy_H_length).cls ≠ "java/lang/invoke/MethodHandle" ∧ (zy_H_length).cls ≠ "java/lang/invoke/VarHandle" ∧ (parseMethodDescriptor (zy_H_length).desc).map (fun d => d.parameters.length) = some 0 := ⟨aw_66, aw_67, aw_68, aw_25, aw_69, ⟨_, _, rfl⟩, by decide, by decide, by decide⟩
theorem cv_P_84_H : Cond.methodLink RX3 84 zy_H_byteAt ∈ AW ∧ Cond.instanceMethod zy_H_byteAt ∈ AW ∧ Cond.selects (zy_H_byteAt).cls zy_H_byteAt zy_H_byteAt ∈ AW ∧ Cond.initialized (zy_H_byteAt).cls ∈ AW ∧ Cond.code zy_H_byteAt zc_H_byteAt 2 (some .int) ∈ AW ∧ (∃ (T : u_T) (N : Nat), zCl[2]? = some ((zy_H_byteAt).cls, T, N)) ∧ (zy_H_byteAt).cls ≠ "java/lang/invoke/MethodHandle" ∧ (zy_H_byteAt).cls ≠ "java/lang/invoke/VarHandle" ∧ (parseMethodDescriptor (zy_H_byteAt).desc).map (fun d => d.parameters.length) = some 1 := ⟨aw_70, aw_23, aw_24, aw_25, aw_26, ⟨_, _, rfl⟩, by decide, by decide, by decide⟩
theorem cv_P_73_P : Cond.methodLink RX3 73 zy_P_matchLength ∈ AW ∧ Cond.instanceMethod zy_P_matchLength ∈ AW ∧ Cond.selects (zy_P_matchLength).cls zy_P_matchLength zy_P_matchLength ∈ AW ∧ Cond.initialized (zy_P_matchLength).cls ∈ AW ∧ Cond.code zy_P_matchLength zc_P_matchLength 5 (some .int) ∈ AW ∧ (∃ (T : u_T) (N : Nat), zCl[3]? = some ((zy_P_matchLength).cls, T, N)) ∧ (zy_P_matchLength).cls ≠ "java/lang/invoke/MethodHandle" ∧ (zy_P_matchLength).cls ≠ "java/lang/invoke/VarHandle" ∧ (parseMethodDescriptor (zy_P_matchLength).desc).map (fun d => d.parameters.length) = some 2 := ⟨aw_71, aw_72, aw_73, aw_48, aw_74, ⟨_, _, rfl⟩, by decide, by decide, by decide⟩
theorem cm_SW_19 : Cond.methodLink RX7 19 Lib.Math.min.name ∈ AW ∧ Cond.static Lib.Math.min.name ∈ AW ∧ Cond.initialized "java/lang/Math" ∈ AW ∧ Cond.code Lib.Math.min.name Lib.Math.min.code 2 (some .int) ∈ AW := ⟨aw_75, aw_76, aw_77, aw_78⟩
theorem cv_SW_29_R : Cond.methodLink RX7 29 zy_R_add ∈ AW ∧ Cond.instanceMethod zy_R_add ∈ AW ∧ Cond.selects (zy_R_add).cls zy_R_add zy_R_add ∈ AW ∧ Cond.initialized (zy_R_add).cls ∈ AW ∧ Cond.code zy_R_add zc_R_add 2 none ∈ AW ∧ (∃ (T : u_T) (N : Nat), zCl[4]? = some ((zy_R_add).cls, T, N)) ∧ (zy_R_add).cls ≠ "java/lang/invoke/MethodHandle" ∧ (zy_R_add).cls ≠ "java/lang/invoke/VarHandle" ∧ (parseMethodDescriptor (zy_R_add).desc).map (fun d => d.parameters.length) = some 1 := ⟨aw_79, aw_14, aw_15, aw_7, aw_16, ⟨_, _, rfl⟩, by decide, by decide, by decide⟩
theorem cv_SW_33_SW : Cond.methodLink RX7 33 zy_SW_writeSum ∈ AW ∧ Cond.instanceMethod zy_SW_writeSum ∈ AW ∧ Cond.selects (zy_SW_writeSum).cls zy_SW_writeSum zy_SW_writeSum ∈ AW ∧ Cond.initialized (zy_SW_writeSum).cls ∈ AW ∧ Cond.code zy_SW_writeSum zc_SW_writeSum 3 none ∈ AW ∧ (∃ (T : u_T) (N : Nat), zCl[6]? = some ((zy_SW_writeSum).cls, T, N)) ∧ (zy_SW_writeSum).cls ≠ "java/lang/invoke/MethodHandle" ∧ (zy_SW_writeSum).cls ≠ "java/lang/invoke/VarHandle" ∧ (parseMethodDescriptor (zy_SW_writeSum).desc).map (fun d => d.parameters.length) = some 1 := ⟨aw_80, aw_81, aw_82, aw_63, aw_83, ⟨_, _, rfl⟩, by decide, by decide, by decide⟩
theorem fa_W_13_SW : FA RX8 13 6 1 RX7 TX7 2 := ⟨uw_7, rfl, by decide, "PressSuite$Writer", Or.inl aw_84, Or.inl rfl⟩
theorem fa_W_7_SW : FA RX8 7 6 0 RX7 TX7 2 := ⟨uw_7, rfl, by decide, "PressSuite$Writer", Or.inl aw_85, Or.inl rfl⟩
theorem cv_W_16_R : Cond.methodLink RX8 16 zy_R_byteAt ∈ AW ∧ Cond.instanceMethod zy_R_byteAt ∈ AW ∧ Cond.selects (zy_R_byteAt).cls zy_R_byteAt zy_R_byteAt ∈ AW ∧ Cond.initialized (zy_R_byteAt).cls ∈ AW ∧ Cond.code zy_R_byteAt zc_R_byteAt 2 (some .int) ∈ AW ∧ (∃ (T : u_T) (N : Nat), zCl[4]? = some ((zy_R_byteAt).cls, T, N)) ∧ (zy_R_byteAt).cls ≠ "java/lang/invoke/MethodHandle" ∧ (zy_R_byteAt).cls ≠ "java/lang/invoke/VarHandle" ∧ (parseMethodDescriptor (zy_R_byteAt).desc).map (fun d => d.parameters.length) = some 1 := ⟨aw_86, aw_5, aw_6, aw_7, aw_8, ⟨_, _, rfl⟩, by decide, by decide, by decide⟩
theorem cv_W_22_R : Cond.methodLink RX8 22 zy_R_add ∈ AW ∧ Cond.instanceMethod zy_R_add ∈ AW ∧ Cond.selects (zy_R_add).cls zy_R_add zy_R_add ∈ AW ∧ Cond.initialized (zy_R_add).cls ∈ AW ∧ Cond.code zy_R_add zc_R_add 2 none ∈ AW ∧ (∃ (T : u_T) (N : Nat), zCl[4]? = some ((zy_R_add).cls, T, N)) ∧ (zy_R_add).cls ≠ "java/lang/invoke/MethodHandle" ∧ (zy_R_add).cls ≠ "java/lang/invoke/VarHandle" ∧ (parseMethodDescriptor (zy_R_add).desc).map (fun d => d.parameters.length) = some 1 := ⟨aw_87, aw_14, aw_15, aw_7, aw_16, ⟨_, _, rfl⟩, by decide, by decide, by decide⟩
theorem cv_SW_43_SW : Cond.methodLink RX7 43 ⟨"PressSuite$SequenceWriter", "writePlain", "(II)V"⟩ ∈ AW ∧ Cond.sameMethod "PressSuite$SequenceWriter" "PressSuite$Writer" "writePlain" "(II)V" ∈ AW ∧ Cond.selects RX7 ⟨"PressSuite$SequenceWriter", "writePlain", "(II)V"⟩ zy_W_writePlain ∈ AW ∧ Cond.instanceMethod zy_W_writePlain ∈ AW ∧ Cond.initialized (zy_W_writePlain).cls ∈ AW ∧ Cond.code zy_W_writePlain zc_W_writePlain 4 none ∈ AW ∧ (∃ (T : u_T) (N : Nat), zCl[6]? = some (RX7, T, N)) ∧ zy_W_writePlain = ⟨"PressSuite$Writer", "writePlain", "(II)V"⟩ ∧ "PressSuite$Writer" ≠ "java/lang/invoke/MethodHandle" ∧ "PressSuite$Writer" ≠ "java/lang/invoke/VarHandle" ∧ (parseMethodDescriptor "(II)V").map (fun d => d.parameters.length) = some 2 := ⟨aw_88, aw_89, aw_90, aw_91, aw_92, aw_93, ⟨_, _, rfl⟩, rfl, by decide, by decide, by decide⟩
theorem cv_SW_25_SW : Cond.methodLink RX7 25 zy_SW_writeLiterals ∈ AW ∧ Cond.instanceMethod zy_SW_writeLiterals ∈ AW ∧ Cond.selects (zy_SW_writeLiterals).cls zy_SW_writeLiterals zy_SW_writeLiterals ∈ AW ∧ Cond.initialized (zy_SW_writeLiterals).cls ∈ AW ∧ Cond.code zy_SW_writeLiterals zc_SW_writeLiterals 5 none ∈ AW ∧ (∃ (T : u_T) (N : Nat), zCl[6]? = some ((zy_SW_writeLiterals).cls, T, N)) ∧ (zy_SW_writeLiterals).cls ≠ "java/lang/invoke/MethodHandle" ∧ (zy_SW_writeLiterals).cls ≠ "java/lang/invoke/VarHandle" ∧ (parseMethodDescriptor (zy_SW_writeLiterals).desc).map (fun d => d.parameters.length) = some 3 := ⟨aw_94, aw_95, aw_96, aw_63, aw_97, ⟨_, _, rfl⟩, by decide, by decide, by decide⟩
theorem cv_P_76_SW : Cond.methodLink RX3 76 ⟨"PressSuite$Writer", "match", "(IIII)V"⟩ ∈ AW ∧ Cond.sameMethod "PressSuite$Writer" "PressSuite$Writer" "match" "(IIII)V" ∈ AW ∧ Cond.selects RX7 ⟨"PressSuite$Writer", "match", "(IIII)V"⟩ zy_SW_match ∈ AW ∧ Cond.instanceMethod zy_SW_match ∈ AW ∧ Cond.initialized (zy_SW_match).cls ∈ AW ∧ Cond.code zy_SW_match zc_SW_match 6 none ∈ AW ∧ (∃ (T : u_T) (N : Nat), zCl[6]? = some (RX7, T, N)) ∧ Cond.declares ⟨"PressSuite$Writer", "match", "(IIII)V"⟩ ∈ NW ∧ "PressSuite$Writer" ≠ "java/lang/invoke/MethodHandle" ∧ "PressSuite$Writer" ≠ "java/lang/invoke/VarHandle" ∧ (parseMethodDescriptor "(IIII)V").map (fun d => d.parameters.length) = some 4 := ⟨aw_98, aw_99, aw_100, aw_101, aw_63, aw_102, ⟨_, _, rfl⟩, nw_3, by decide, by decide, by decide⟩
theorem cv_P_52_P : Cond.methodLink RX3 52 zy_P_copyFrom ∈ AW ∧ Cond.instanceMethod zy_P_copyFrom ∈ AW ∧ Cond.selects (zy_P_copyFrom).cls zy_P_copyFrom zy_P_copyFrom ∈ AW ∧ Cond.initialized (zy_P_copyFrom).cls ∈ AW ∧ Cond.code zy_P_copyFrom zc_P_copyFrom 6 (some .int) ∈ AW ∧ (∃ (T : u_T) (N : Nat), zCl[3]? = some ((zy_P_copyFrom).cls, T, N)) ∧ (zy_P_copyFrom).cls ≠ "java/lang/invoke/MethodHandle" ∧ (zy_P_copyFrom).cls ≠ "java/lang/invoke/VarHandle" ∧ (parseMethodDescriptor (zy_P_copyFrom).desc).map (fun d => d.parameters.length) = some 2 := ⟨aw_103, aw_104, aw_105, aw_48, aw_106, ⟨_, _, rfl⟩, by decide, by decide, by decide⟩
theorem cm_P_56 : Cond.methodLink RX3 56 Lib.Math.max.name ∈ AW ∧ Cond.static Lib.Math.max.name ∈ AW ∧ Cond.initialized "java/lang/Math" ∈ AW ∧ Cond.code Lib.Math.max.name Lib.Math.max.code 2 (some .int) ∈ AW := ⟨aw_107, aw_108, aw_77, aw_109⟩
theorem fa_SW_36_SW : FA RX7 36 6 0 RX7 TX7 2 := ⟨uw_7, rfl, by decide, "PressSuite$SequenceWriter", Or.inl aw_110, Or.inr aw_111⟩
theorem fa_SW_39_R : FA RX7 39 4 1 RX5 TX5 2 := ⟨uw_5, rfl, by decide, "PressSuite$Row", Or.inr ⟨"PressSuite", nw_4⟩, Or.inl rfl⟩
theorem cv_P_62_SW : Cond.methodLink RX3 62 ⟨"PressSuite$Writer", "end", "(I)V"⟩ ∈ AW ∧ Cond.sameMethod "PressSuite$Writer" "PressSuite$Writer" "end" "(I)V" ∈ AW ∧ Cond.selects RX7 ⟨"PressSuite$Writer", "end", "(I)V"⟩ zy_SW_end ∈ AW ∧ Cond.instanceMethod zy_SW_end ∈ AW ∧ Cond.initialized (zy_SW_end).cls ∈ AW ∧ Cond.code zy_SW_end zc_SW_end 2 none ∈ AW ∧ (∃ (T : u_T) (N : Nat), zCl[6]? = some (RX7, T, N)) ∧ Cond.declares ⟨"PressSuite$Writer", "end", "(I)V"⟩ ∈ NW ∧ "PressSuite$Writer" ≠ "java/lang/invoke/MethodHandle" ∧ "PressSuite$Writer" ≠ "java/lang/invoke/VarHandle" ∧ (parseMethodDescriptor "(I)V").map (fun d => d.parameters.length) = some 1 := ⟨aw_112, aw_113, aw_114, aw_115, aw_63, aw_116, ⟨_, _, rfl⟩, nw_5, by decide, by decide, by decide⟩
theorem fa_EW_7_EW : FA RX1 7 1 1 RX1 TX1 2 := ⟨uw_1, rfl, by decide, "PressSuite$ElementWriter", Or.inl aw_119, Or.inr aw_120⟩
theorem cv_EW_13_R : Cond.methodLink RX1 13 zy_R_clear ∈ AW ∧ Cond.instanceMethod zy_R_clear ∈ AW ∧ Cond.selects (zy_R_clear).cls zy_R_clear zy_R_clear ∈ AW ∧ Cond.initialized (zy_R_clear).cls ∈ AW ∧ Cond.code zy_R_clear zc_R_clear 1 none ∈ AW ∧ (∃ (T : u_T) (N : Nat), zCl[4]? = some ((zy_R_clear).cls, T, N)) ∧ (zy_R_clear).cls ≠ "java/lang/invoke/MethodHandle" ∧ (zy_R_clear).cls ≠ "java/lang/invoke/VarHandle" ∧ (parseMethodDescriptor (zy_R_clear).desc).map (fun d => d.parameters.length) = some 0 := ⟨aw_121, aw_10, aw_11, aw_7, aw_12, ⟨_, _, rfl⟩, by decide, by decide, by decide⟩
theorem fa_EW_19_EW : FA RX1 19 1 0 RX1 TX1 2 := ⟨uw_1, rfl, by decide, "PressSuite$ElementWriter", Or.inl aw_122, Or.inr aw_123⟩
theorem fa_EW_22_R : FA RX1 22 4 1 RX5 TX5 2 := ⟨uw_5, rfl, by decide, "PressSuite$Row", Or.inr ⟨"PressSuite", nw_6⟩, Or.inl rfl⟩
theorem cv_EW_26_R : Cond.methodLink RX1 26 zy_R_add ∈ AW ∧ Cond.instanceMethod zy_R_add ∈ AW ∧ Cond.selects (zy_R_add).cls zy_R_add zy_R_add ∈ AW ∧ Cond.initialized (zy_R_add).cls ∈ AW ∧ Cond.code zy_R_add zc_R_add 2 none ∈ AW ∧ (∃ (T : u_T) (N : Nat), zCl[4]? = some ((zy_R_add).cls, T, N)) ∧ (zy_R_add).cls ≠ "java/lang/invoke/MethodHandle" ∧ (zy_R_add).cls ≠ "java/lang/invoke/VarHandle" ∧ (parseMethodDescriptor (zy_R_add).desc).map (fun d => d.parameters.length) = some 1 := ⟨aw_124, aw_14, aw_15, aw_7, aw_16, ⟨_, _, rfl⟩, by decide, by decide, by decide⟩
theorem cv_P_42_EW : Cond.methodLink RX3 42 ⟨"PressSuite$Writer", "begin", "()V"⟩ ∈ AW ∧ Cond.sameMethod "PressSuite$Writer" "PressSuite$Writer" "begin" "()V" ∈ AW ∧ Cond.selects RX1 ⟨"PressSuite$Writer", "begin", "()V"⟩ zy_EW_begin ∈ AW ∧ Cond.instanceMethod zy_EW_begin ∈ AW ∧ Cond.initialized (zy_EW_begin).cls ∈ AW ∧ Cond.code zy_EW_begin zc_EW_begin 2 none ∈ AW ∧ (∃ (T : u_T) (N : Nat), zCl[1]? = some (RX1, T, N)) ∧ Cond.declares ⟨"PressSuite$Writer", "begin", "()V"⟩ ∈ NW ∧ "PressSuite$Writer" ≠ "java/lang/invoke/MethodHandle" ∧ "PressSuite$Writer" ≠ "java/lang/invoke/VarHandle" ∧ (parseMethodDescriptor "()V").map (fun d => d.parameters.length) = some 0 := ⟨aw_59, aw_60, aw_125, aw_126, aw_127, aw_128, ⟨_, _, rfl⟩, nw_2, by decide, by decide, by decide⟩
theorem fa_W_13_EW : FA RX8 13 1 1 RX1 TX1 2 := ⟨uw_1, rfl, by decide, "PressSuite$Writer", Or.inl aw_84, Or.inl rfl⟩
theorem fa_W_7_EW : FA RX8 7 1 0 RX1 TX1 2 := ⟨uw_1, rfl, by decide, "PressSuite$Writer", Or.inl aw_85, Or.inl rfl⟩
theorem cv_EW_40_EW : Cond.methodLink RX1 40 ⟨"PressSuite$ElementWriter", "writePlain", "(II)V"⟩ ∈ AW ∧ Cond.sameMethod "PressSuite$ElementWriter" "PressSuite$Writer" "writePlain" "(II)V" ∈ AW ∧ Cond.selects RX1 ⟨"PressSuite$ElementWriter", "writePlain", "(II)V"⟩ zy_W_writePlain ∈ AW ∧ Cond.instanceMethod zy_W_writePlain ∈ AW ∧ Cond.initialized (zy_W_writePlain).cls ∈ AW ∧ Cond.code zy_W_writePlain zc_W_writePlain 4 none ∈ AW ∧ (∃ (T : u_T) (N : Nat), zCl[1]? = some (RX1, T, N)) ∧ zy_W_writePlain = ⟨"PressSuite$Writer", "writePlain", "(II)V"⟩ ∧ "PressSuite$Writer" ≠ "java/lang/invoke/MethodHandle" ∧ "PressSuite$Writer" ≠ "java/lang/invoke/VarHandle" ∧ (parseMethodDescriptor "(II)V").map (fun d => d.parameters.length) = some 2 := ⟨aw_129, aw_130, aw_131, aw_91, aw_92, aw_93, ⟨_, _, rfl⟩, rfl, by decide, by decide, by decide⟩
theorem cv_EW_30_EW : Cond.methodLink RX1 30 zy_EW_writeLiterals ∈ AW ∧ Cond.instanceMethod zy_EW_writeLiterals ∈ AW ∧ Cond.selects (zy_EW_writeLiterals).cls zy_EW_writeLiterals zy_EW_writeLiterals ∈ AW ∧ Cond.initialized (zy_EW_writeLiterals).cls ∈ AW ∧ Cond.code zy_EW_writeLiterals zc_EW_writeLiterals 4 none ∈ AW ∧ (∃ (T : u_T) (N : Nat), zCl[1]? = some ((zy_EW_writeLiterals).cls, T, N)) ∧ (zy_EW_writeLiterals).cls ≠ "java/lang/invoke/MethodHandle" ∧ (zy_EW_writeLiterals).cls ≠ "java/lang/invoke/VarHandle" ∧ (parseMethodDescriptor (zy_EW_writeLiterals).desc).map (fun d => d.parameters.length) = some 2 := ⟨aw_132, aw_133, aw_134, aw_127, aw_135, ⟨_, _, rfl⟩, by decide, by decide, by decide⟩
theorem cv_EW_34_EW : Cond.methodLink RX1 34 zy_EW_writeLong ∈ AW ∧ Cond.instanceMethod zy_EW_writeLong ∈ AW ∧ Cond.selects (zy_EW_writeLong).cls zy_EW_writeLong zy_EW_writeLong ∈ AW ∧ Cond.initialized (zy_EW_writeLong).cls ∈ AW ∧ Cond.code zy_EW_writeLong zc_EW_writeLong 3 none ∈ AW ∧ (∃ (T : u_T) (N : Nat), zCl[1]? = some ((zy_EW_writeLong).cls, T, N)) ∧ (zy_EW_writeLong).cls ≠ "java/lang/invoke/MethodHandle" ∧ (zy_EW_writeLong).cls ≠ "java/lang/invoke/VarHandle" ∧ (parseMethodDescriptor (zy_EW_writeLong).desc).map (fun d => d.parameters.length) = some 2 := ⟨aw_136, aw_137, aw_138, aw_127, aw_139, ⟨_, _, rfl⟩, by decide, by decide, by decide⟩
theorem cv_EW_37_EW : Cond.methodLink RX1 37 zy_EW_writeCopy ∈ AW ∧ Cond.instanceMethod zy_EW_writeCopy ∈ AW ∧ Cond.selects (zy_EW_writeCopy).cls zy_EW_writeCopy zy_EW_writeCopy ∈ AW ∧ Cond.initialized (zy_EW_writeCopy).cls ∈ AW ∧ Cond.code zy_EW_writeCopy zc_EW_writeCopy 3 none ∈ AW ∧ (∃ (T : u_T) (N : Nat), zCl[1]? = some ((zy_EW_writeCopy).cls, T, N)) ∧ (zy_EW_writeCopy).cls ≠ "java/lang/invoke/MethodHandle" ∧ (zy_EW_writeCopy).cls ≠ "java/lang/invoke/VarHandle" ∧ (parseMethodDescriptor (zy_EW_writeCopy).desc).map (fun d => d.parameters.length) = some 2 := ⟨aw_140, aw_141, aw_142, aw_127, aw_143, ⟨_, _, rfl⟩, by decide, by decide, by decide⟩
theorem cv_P_76_EW : Cond.methodLink RX3 76 ⟨"PressSuite$Writer", "match", "(IIII)V"⟩ ∈ AW ∧ Cond.sameMethod "PressSuite$Writer" "PressSuite$Writer" "match" "(IIII)V" ∈ AW ∧ Cond.selects RX1 ⟨"PressSuite$Writer", "match", "(IIII)V"⟩ zy_EW_match ∈ AW ∧ Cond.instanceMethod zy_EW_match ∈ AW ∧ Cond.initialized (zy_EW_match).cls ∈ AW ∧ Cond.code zy_EW_match zc_EW_match 6 none ∈ AW ∧ (∃ (T : u_T) (N : Nat), zCl[1]? = some (RX1, T, N)) ∧ Cond.declares ⟨"PressSuite$Writer", "match", "(IIII)V"⟩ ∈ NW ∧ "PressSuite$Writer" ≠ "java/lang/invoke/MethodHandle" ∧ "PressSuite$Writer" ≠ "java/lang/invoke/VarHandle" ∧ (parseMethodDescriptor "(IIII)V").map (fun d => d.parameters.length) = some 4 := ⟨aw_98, aw_99, aw_144, aw_145, aw_127, aw_146, ⟨_, _, rfl⟩, nw_3, by decide, by decide, by decide⟩
theorem cv_P_62_EW : Cond.methodLink RX3 62 ⟨"PressSuite$Writer", "end", "(I)V"⟩ ∈ AW ∧ Cond.sameMethod "PressSuite$Writer" "PressSuite$Writer" "end" "(I)V" ∈ AW ∧ Cond.selects RX1 ⟨"PressSuite$Writer", "end", "(I)V"⟩ zy_EW_end ∈ AW ∧ Cond.instanceMethod zy_EW_end ∈ AW ∧ Cond.initialized (zy_EW_end).cls ∈ AW ∧ Cond.code zy_EW_end zc_EW_end 2 none ∈ AW ∧ (∃ (T : u_T) (N : Nat), zCl[1]? = some (RX1, T, N)) ∧ Cond.declares ⟨"PressSuite$Writer", "end", "(I)V"⟩ ∈ NW ∧ "PressSuite$Writer" ≠ "java/lang/invoke/MethodHandle" ∧ "PressSuite$Writer" ≠ "java/lang/invoke/VarHandle" ∧ (parseMethodDescriptor "(I)V").map (fun d => d.parameters.length) = some 1 := ⟨aw_112, aw_113, aw_147, aw_148, aw_127, aw_149, ⟨_, _, rfl⟩, nw_5, by decide, by decide, by decide⟩
theorem fa_SR_9_SR : FA RX6 9 5 0 RX6 TX6 5 := ⟨uw_6, rfl, by decide, "PressSuite$SequenceReader", Or.inl aw_155, Or.inr aw_156⟩
theorem fa_SR_15_R : FA RX6 15 4 1 RX5 TX5 2 := ⟨uw_5, rfl, by decide, "PressSuite$Row", Or.inr ⟨"PressSuite", nw_7⟩, Or.inl rfl⟩
theorem fa_SR_25_SR : FA RX6 25 5 3 RX6 TX6 5 := ⟨uw_6, rfl, by decide, "PressSuite$SequenceReader", Or.inl aw_157, Or.inr aw_158⟩
theorem fa_D_25_SR : FA RX4 25 5 3 RX6 TX6 5 := ⟨uw_6, rfl, by decide, "PressSuite$Reader", Or.inl aw_159, Or.inl rfl⟩
theorem fa_D_7_SR : FA RX4 7 5 0 RX6 TX6 5 := ⟨uw_6, rfl, by decide, "PressSuite$Reader", Or.inl aw_160, Or.inl rfl⟩
theorem fa_D_37_R : FA RX4 37 4 1 RX5 TX5 2 := ⟨uw_5, rfl, by decide, "PressSuite$Row", Or.inr ⟨"PressSuite", nw_8⟩, Or.inl rfl⟩
theorem fa_D_29_SR : FA RX4 29 5 4 RX6 TX6 5 := ⟨uw_6, rfl, by decide, "PressSuite$Reader", Or.inl aw_161, Or.inl rfl⟩
theorem fp_D_29_SR : FP RX4 29 5 4 RX6 TX6 5 := ⟨fa_D_29_SR, ⟨tyX6, tyX6_ok⟩, nmX6, rfl, by decide +kernel⟩
theorem cv_D_40_SR : Cond.methodLink RX4 40 ⟨"PressSuite$Reader", "refuseIf", "(ZI)V"⟩ ∈ AW ∧ Cond.sameMethod "PressSuite$Reader" "PressSuite$Reader" "refuseIf" "(ZI)V" ∈ AW ∧ Cond.selects RX6 ⟨"PressSuite$Reader", "refuseIf", "(ZI)V"⟩ zy_D_refuseIf ∈ AW ∧ Cond.instanceMethod zy_D_refuseIf ∈ AW ∧ Cond.initialized (zy_D_refuseIf).cls ∈ AW ∧ Cond.code zy_D_refuseIf zc_D_refuseIf 3 none ∈ AW ∧ (∃ (T : u_T) (N : Nat), zCl[5]? = some (RX6, T, N)) ∧ zy_D_refuseIf = ⟨"PressSuite$Reader", "refuseIf", "(ZI)V"⟩ ∧ "PressSuite$Reader" ≠ "java/lang/invoke/MethodHandle" ∧ "PressSuite$Reader" ≠ "java/lang/invoke/VarHandle" ∧ (parseMethodDescriptor "(ZI)V").map (fun d => d.parameters.length) = some 2 := ⟨aw_162, aw_163, aw_164, aw_165, aw_166, aw_167, ⟨_, _, rfl⟩, rfl, by decide, by decide, by decide⟩
theorem cv_D_44_R : Cond.methodLink RX4 44 zy_R_byteAt ∈ AW ∧ Cond.instanceMethod zy_R_byteAt ∈ AW ∧ Cond.selects (zy_R_byteAt).cls zy_R_byteAt zy_R_byteAt ∈ AW ∧ Cond.initialized (zy_R_byteAt).cls ∈ AW ∧ Cond.code zy_R_byteAt zc_R_byteAt 2 (some .int) ∈ AW ∧ (∃ (T : u_T) (N : Nat), zCl[4]? = some ((zy_R_byteAt).cls, T, N)) ∧ (zy_R_byteAt).cls ≠ "java/lang/invoke/MethodHandle" ∧ (zy_R_byteAt).cls ≠ "java/lang/invoke/VarHandle" ∧ (parseMethodDescriptor (zy_R_byteAt).desc).map (fun d => d.parameters.length) = some 1 := ⟨aw_168, aw_5, aw_6, aw_7, aw_8, ⟨_, _, rfl⟩, by decide, by decide, by decide⟩
theorem fp_D_25_SR : FP RX4 25 5 3 RX6 TX6 5 := ⟨fa_D_25_SR, ⟨tyX6, tyX6_ok⟩, nmX6, rfl, by decide +kernel⟩
theorem cv_SR_28_SR : Cond.methodLink RX6 28 ⟨"PressSuite$SequenceReader", "take", "()I"⟩ ∈ AW ∧ Cond.sameMethod "PressSuite$SequenceReader" "PressSuite$Reader" "take" "()I" ∈ AW ∧ Cond.selects RX6 ⟨"PressSuite$SequenceReader", "take", "()I"⟩ zy_D_take ∈ AW ∧ Cond.instanceMethod zy_D_take ∈ AW ∧ Cond.initialized (zy_D_take).cls ∈ AW ∧ Cond.code zy_D_take zc_D_take 2 (some .int) ∈ AW ∧ (∃ (T : u_T) (N : Nat), zCl[5]? = some (RX6, T, N)) ∧ zy_D_take = ⟨"PressSuite$Reader", "take", "()I"⟩ ∧ "PressSuite$Reader" ≠ "java/lang/invoke/MethodHandle" ∧ "PressSuite$Reader" ≠ "java/lang/invoke/VarHandle" ∧ (parseMethodDescriptor "()I").map (fun d => d.parameters.length) = some 0 := ⟨aw_169, aw_170, aw_171, aw_172, aw_166, aw_173, ⟨_, _, rfl⟩, rfl, by decide, by decide, by decide⟩
theorem cv_SR_32_SR : Cond.methodLink RX6 32 zy_SR_takeSum ∈ AW ∧ Cond.instanceMethod zy_SR_takeSum ∈ AW ∧ Cond.selects (zy_SR_takeSum).cls zy_SR_takeSum zy_SR_takeSum ∈ AW ∧ Cond.initialized (zy_SR_takeSum).cls ∈ AW ∧ Cond.code zy_SR_takeSum zc_SR_takeSum 5 (some .int) ∈ AW ∧ (∃ (T : u_T) (N : Nat), zCl[5]? = some ((zy_SR_takeSum).cls, T, N)) ∧ (zy_SR_takeSum).cls ≠ "java/lang/invoke/MethodHandle" ∧ (zy_SR_takeSum).cls ≠ "java/lang/invoke/VarHandle" ∧ (parseMethodDescriptor (zy_SR_takeSum).desc).map (fun d => d.parameters.length) = some 1 := ⟨aw_174, aw_175, aw_176, aw_177, aw_178, ⟨_, _, rfl⟩, by decide, by decide, by decide⟩
theorem fa_D_13_SR : FA RX4 13 5 1 RX6 TX6 5 := ⟨uw_6, rfl, by decide, "PressSuite$Reader", Or.inl aw_179, Or.inl rfl⟩
theorem cv_SR_36_SR : Cond.methodLink RX6 36 ⟨"PressSuite$SequenceReader", "requireRoom", "(III)V"⟩ ∈ AW ∧ Cond.sameMethod "PressSuite$SequenceReader" "PressSuite$Reader" "requireRoom" "(III)V" ∈ AW ∧ Cond.selects RX6 ⟨"PressSuite$SequenceReader", "requireRoom", "(III)V"⟩ zy_D_requireRoom ∈ AW ∧ Cond.instanceMethod zy_D_requireRoom ∈ AW ∧ Cond.initialized (zy_D_requireRoom).cls ∈ AW ∧ Cond.code zy_D_requireRoom zc_D_requireRoom 4 none ∈ AW ∧ (∃ (T : u_T) (N : Nat), zCl[5]? = some (RX6, T, N)) ∧ zy_D_requireRoom = ⟨"PressSuite$Reader", "requireRoom", "(III)V"⟩ ∧ "PressSuite$Reader" ≠ "java/lang/invoke/MethodHandle" ∧ "PressSuite$Reader" ≠ "java/lang/invoke/VarHandle" ∧ (parseMethodDescriptor "(III)V").map (fun d => d.parameters.length) = some 3 := ⟨aw_180, aw_181, aw_182, aw_183, aw_166, aw_184, ⟨_, _, rfl⟩, rfl, by decide, by decide, by decide⟩
theorem cv_D_55_SR : Cond.methodLink RX4 55 ⟨"PressSuite$Reader", "refused", "()Z"⟩ ∈ AW ∧ Cond.sameMethod "PressSuite$Reader" "PressSuite$Reader" "refused" "()Z" ∈ AW ∧ Cond.selects RX6 ⟨"PressSuite$Reader", "refused", "()Z"⟩ zy_D_refused ∈ AW ∧ Cond.instanceMethod zy_D_refused ∈ AW ∧ Cond.initialized (zy_D_refused).cls ∈ AW ∧ Cond.code zy_D_refused zc_D_refused 1 (some .boolean) ∈ AW ∧ (∃ (T : u_T) (N : Nat), zCl[5]? = some (RX6, T, N)) ∧ zy_D_refused = ⟨"PressSuite$Reader", "refused", "()Z"⟩ ∧ "PressSuite$Reader" ≠ "java/lang/invoke/MethodHandle" ∧ "PressSuite$Reader" ≠ "java/lang/invoke/VarHandle" ∧ (parseMethodDescriptor "()Z").map (fun d => d.parameters.length) = some 0 := ⟨aw_185, aw_186, aw_187, aw_188, aw_166, aw_189, ⟨_, _, rfl⟩, rfl, by decide, by decide, by decide⟩
theorem cv_D_48_SR : Cond.methodLink RX4 48 ⟨"PressSuite$Reader", "take", "()I"⟩ ∈ AW ∧ Cond.sameMethod "PressSuite$Reader" "PressSuite$Reader" "take" "()I" ∈ AW ∧ Cond.selects RX6 ⟨"PressSuite$Reader", "take", "()I"⟩ zy_D_take ∈ AW ∧ Cond.instanceMethod zy_D_take ∈ AW ∧ Cond.initialized (zy_D_take).cls ∈ AW ∧ Cond.code zy_D_take zc_D_take 2 (some .int) ∈ AW ∧ (∃ (T : u_T) (N : Nat), zCl[5]? = some (RX6, T, N)) ∧ zy_D_take = ⟨"PressSuite$Reader", "take", "()I"⟩ ∧ "PressSuite$Reader" ≠ "java/lang/invoke/MethodHandle" ∧ "PressSuite$Reader" ≠ "java/lang/invoke/VarHandle" ∧ (parseMethodDescriptor "()I").map (fun d => d.parameters.length) = some 0 := ⟨aw_190, aw_191, aw_192, aw_172, aw_166, aw_173, ⟨_, _, rfl⟩, rfl, by decide, by decide, by decide⟩
theorem cv_D_59_R : Cond.methodLink RX4 59 zy_R_add ∈ AW ∧ Cond.instanceMethod zy_R_add ∈ AW ∧ Cond.selects (zy_R_add).cls zy_R_add zy_R_add ∈ AW ∧ Cond.initialized (zy_R_add).cls ∈ AW ∧ Cond.code zy_R_add zc_R_add 2 none ∈ AW ∧ (∃ (T : u_T) (N : Nat), zCl[4]? = some ((zy_R_add).cls, T, N)) ∧ (zy_R_add).cls ≠ "java/lang/invoke/MethodHandle" ∧ (zy_R_add).cls ≠ "java/lang/invoke/VarHandle" ∧ (parseMethodDescriptor (zy_R_add).desc).map (fun d => d.parameters.length) = some 1 := ⟨aw_193, aw_14, aw_15, aw_7, aw_16, ⟨_, _, rfl⟩, by decide, by decide, by decide⟩
theorem cv_SR_40_SR : Cond.methodLink RX6 40 ⟨"PressSuite$SequenceReader", "copyLiterals", "(I)V"⟩ ∈ AW ∧ Cond.sameMethod "PressSuite$SequenceReader" "PressSuite$Reader" "copyLiterals" "(I)V" ∈ AW ∧ Cond.selects RX6 ⟨"PressSuite$SequenceReader", "copyLiterals", "(I)V"⟩ zy_D_copyLiterals ∈ AW ∧ Cond.instanceMethod zy_D_copyLiterals ∈ AW ∧ Cond.initialized (zy_D_copyLiterals).cls ∈ AW ∧ Cond.code zy_D_copyLiterals zc_D_copyLiterals 3 none ∈ AW ∧ (∃ (T : u_T) (N : Nat), zCl[5]? = some (RX6, T, N)) ∧ zy_D_copyLiterals = ⟨"PressSuite$Reader", "copyLiterals", "(I)V"⟩ ∧ "PressSuite$Reader" ≠ "java/lang/invoke/MethodHandle" ∧ "PressSuite$Reader" ≠ "java/lang/invoke/VarHandle" ∧ (parseMethodDescriptor "(I)V").map (fun d => d.parameters.length) = some 1 := ⟨aw_194, aw_195, aw_196, aw_197, aw_166, aw_198, ⟨_, _, rfl⟩, rfl, by decide, by decide, by decide⟩
theorem cv_SR_44_SR : Cond.methodLink RX6 44 ⟨"PressSuite$SequenceReader", "refused", "()Z"⟩ ∈ AW ∧ Cond.sameMethod "PressSuite$SequenceReader" "PressSuite$Reader" "refused" "()Z" ∈ AW ∧ Cond.selects RX6 ⟨"PressSuite$SequenceReader", "refused", "()Z"⟩ zy_D_refused ∈ AW ∧ Cond.instanceMethod zy_D_refused ∈ AW ∧ Cond.initialized (zy_D_refused).cls ∈ AW ∧ Cond.code zy_D_refused zc_D_refused 1 (some .boolean) ∈ AW ∧ (∃ (T : u_T) (N : Nat), zCl[5]? = some (RX6, T, N)) ∧ zy_D_refused = ⟨"PressSuite$Reader", "refused", "()Z"⟩ ∧ "PressSuite$Reader" ≠ "java/lang/invoke/MethodHandle" ∧ "PressSuite$Reader" ≠ "java/lang/invoke/VarHandle" ∧ (parseMethodDescriptor "()Z").map (fun d => d.parameters.length) = some 0 := ⟨aw_199, aw_200, aw_201, aw_188, aw_166, aw_189, ⟨_, _, rfl⟩, rfl, by decide, by decide, by decide⟩
theorem cv_SR_47_SR : Cond.methodLink RX6 47 ⟨"PressSuite$SequenceReader", "atEnd", "()Z"⟩ ∈ AW ∧ Cond.sameMethod "PressSuite$SequenceReader" "PressSuite$Reader" "atEnd" "()Z" ∈ AW ∧ Cond.selects RX6 ⟨"PressSuite$SequenceReader", "atEnd", "()Z"⟩ zy_D_atEnd ∈ AW ∧ Cond.instanceMethod zy_D_atEnd ∈ AW ∧ Cond.initialized (zy_D_atEnd).cls ∈ AW ∧ Cond.code zy_D_atEnd zc_D_atEnd 1 (some .boolean) ∈ AW ∧ (∃ (T : u_T) (N : Nat), zCl[5]? = some (RX6, T, N)) ∧ zy_D_atEnd = ⟨"PressSuite$Reader", "atEnd", "()Z"⟩ ∧ "PressSuite$Reader" ≠ "java/lang/invoke/MethodHandle" ∧ "PressSuite$Reader" ≠ "java/lang/invoke/VarHandle" ∧ (parseMethodDescriptor "()Z").map (fun d => d.parameters.length) = some 0 := ⟨aw_202, aw_203, aw_204, aw_205, aw_166, aw_206, ⟨_, _, rfl⟩, rfl, by decide, by decide, by decide⟩
theorem cv_SR_50_SR : Cond.methodLink RX6 50 ⟨"PressSuite$SequenceReader", "takeTwo", "()I"⟩ ∈ AW ∧ Cond.sameMethod "PressSuite$SequenceReader" "PressSuite$Reader" "takeTwo" "()I" ∈ AW ∧ Cond.selects RX6 ⟨"PressSuite$SequenceReader", "takeTwo", "()I"⟩ zy_D_takeTwo ∈ AW ∧ Cond.instanceMethod zy_D_takeTwo ∈ AW ∧ Cond.initialized (zy_D_takeTwo).cls ∈ AW ∧ Cond.code zy_D_takeTwo zc_D_takeTwo 2 (some .int) ∈ AW ∧ (∃ (T : u_T) (N : Nat), zCl[5]? = some (RX6, T, N)) ∧ zy_D_takeTwo = ⟨"PressSuite$Reader", "takeTwo", "()I"⟩ ∧ "PressSuite$Reader" ≠ "java/lang/invoke/MethodHandle" ∧ "PressSuite$Reader" ≠ "java/lang/invoke/VarHandle" ∧ (parseMethodDescriptor "()I").map (fun d => d.parameters.length) = some 0 := ⟨aw_207, aw_208, aw_209, aw_210, aw_166, aw_211, ⟨_, _, rfl⟩, rfl, by decide, by decide, by decide⟩
theorem fa_D_21_SR : FA RX4 21 5 2 RX6 TX6 5 := ⟨uw_6, rfl, by decide, "PressSuite$Reader", Or.inl aw_212, Or.inl rfl⟩
theorem cv_D_52_H : Cond.methodLink RX4 52 zy_H_length ∈ AW ∧ Cond.instanceMethod zy_H_length ∈ AW ∧ Cond.selects (zy_H_length).cls zy_H_length zy_H_length ∈ AW ∧ Cond.initialized (zy_H_length).cls ∈ AW ∧ Cond.code zy_H_length zc_H_length 1 (some .int) ∈ AW ∧ (∃ (T : u_T) (N : Nat), zCl[2]? = some ((zy_H_length).cls, T, N)) ∧ (zy_H_length).cls ≠ "java/lang/invoke/MethodHandle" ∧ (zy_H_length).cls ≠ "java/lang/invoke/VarHandle" ∧ (parseMethodDescriptor (zy_H_length).desc).map (fun d => d.parameters.length) = some 0 := ⟨aw_213, aw_67, aw_68, aw_25, aw_69, ⟨_, _, rfl⟩, by decide, by decide, by decide⟩
theorem cv_SR_53_SR : Cond.methodLink RX6 53 ⟨"PressSuite$SequenceReader", "requireDistance", "(II)V"⟩ ∈ AW ∧ Cond.sameMethod "PressSuite$SequenceReader" "PressSuite$Reader" "requireDistance" "(II)V" ∈ AW ∧ Cond.selects RX6 ⟨"PressSuite$SequenceReader", "requireDistance", "(II)V"⟩ zy_D_requireDistance ∈ AW ∧ Cond.instanceMethod zy_D_requireDistance ∈ AW ∧ Cond.initialized (zy_D_requireDistance).cls ∈ AW ∧ Cond.code zy_D_requireDistance zc_D_requireDistance 3 none ∈ AW ∧ (∃ (T : u_T) (N : Nat), zCl[5]? = some (RX6, T, N)) ∧ zy_D_requireDistance = ⟨"PressSuite$Reader", "requireDistance", "(II)V"⟩ ∧ "PressSuite$Reader" ≠ "java/lang/invoke/MethodHandle" ∧ "PressSuite$Reader" ≠ "java/lang/invoke/VarHandle" ∧ (parseMethodDescriptor "(II)V").map (fun d => d.parameters.length) = some 2 := ⟨aw_214, aw_215, aw_216, aw_217, aw_166, aw_218, ⟨_, _, rfl⟩, rfl, by decide, by decide, by decide⟩
theorem cv_D_63_H : Cond.methodLink RX4 63 zy_H_byteAt ∈ AW ∧ Cond.instanceMethod zy_H_byteAt ∈ AW ∧ Cond.selects (zy_H_byteAt).cls zy_H_byteAt zy_H_byteAt ∈ AW ∧ Cond.initialized (zy_H_byteAt).cls ∈ AW ∧ Cond.code zy_H_byteAt zc_H_byteAt 2 (some .int) ∈ AW ∧ (∃ (T : u_T) (N : Nat), zCl[2]? = some ((zy_H_byteAt).cls, T, N)) ∧ (zy_H_byteAt).cls ≠ "java/lang/invoke/MethodHandle" ∧ (zy_H_byteAt).cls ≠ "java/lang/invoke/VarHandle" ∧ (parseMethodDescriptor (zy_H_byteAt).desc).map (fun d => d.parameters.length) = some 1 := ⟨aw_219, aw_23, aw_24, aw_25, aw_26, ⟨_, _, rfl⟩, by decide, by decide, by decide⟩
theorem cv_SR_57_SR : Cond.methodLink RX6 57 ⟨"PressSuite$SequenceReader", "copyBack", "(II)V"⟩ ∈ AW ∧ Cond.sameMethod "PressSuite$SequenceReader" "PressSuite$Reader" "copyBack" "(II)V" ∈ AW ∧ Cond.selects RX6 ⟨"PressSuite$SequenceReader", "copyBack", "(II)V"⟩ zy_D_copyBack ∈ AW ∧ Cond.instanceMethod zy_D_copyBack ∈ AW ∧ Cond.initialized (zy_D_copyBack).cls ∈ AW ∧ Cond.code zy_D_copyBack zc_D_copyBack 4 none ∈ AW ∧ (∃ (T : u_T) (N : Nat), zCl[5]? = some (RX6, T, N)) ∧ zy_D_copyBack = ⟨"PressSuite$Reader", "copyBack", "(II)V"⟩ ∧ "PressSuite$Reader" ≠ "java/lang/invoke/MethodHandle" ∧ "PressSuite$Reader" ≠ "java/lang/invoke/VarHandle" ∧ (parseMethodDescriptor "(II)V").map (fun d => d.parameters.length) = some 2 := ⟨aw_220, aw_221, aw_222, aw_223, aw_166, aw_224, ⟨_, _, rfl⟩, rfl, by decide, by decide, by decide⟩
theorem cv_SR_21_SR : Cond.methodLink RX6 21 zy_SR_readSequence ∈ AW ∧ Cond.instanceMethod zy_SR_readSequence ∈ AW ∧ Cond.selects (zy_SR_readSequence).cls zy_SR_readSequence zy_SR_readSequence ∈ AW ∧ Cond.initialized (zy_SR_readSequence).cls ∈ AW ∧ Cond.code zy_SR_readSequence zc_SR_readSequence 7 (some .boolean) ∈ AW ∧ (∃ (T : u_T) (N : Nat), zCl[5]? = some ((zy_SR_readSequence).cls, T, N)) ∧ (zy_SR_readSequence).cls ≠ "java/lang/invoke/MethodHandle" ∧ (zy_SR_readSequence).cls ≠ "java/lang/invoke/VarHandle" ∧ (parseMethodDescriptor (zy_SR_readSequence).desc).map (fun d => d.parameters.length) = some 0 := ⟨aw_225, aw_226, aw_227, aw_177, aw_228, ⟨_, _, rfl⟩, by decide, by decide, by decide⟩
theorem fa_D_25_ER : FA RX4 25 0 3 RX0 TX0 6 := ⟨uw_0, rfl, by decide, "PressSuite$Reader", Or.inl aw_159, Or.inl rfl⟩
theorem fa_D_7_ER : FA RX4 7 0 0 RX0 TX0 6 := ⟨uw_0, rfl, by decide, "PressSuite$Reader", Or.inl aw_160, Or.inl rfl⟩
theorem fa_D_29_ER : FA RX4 29 0 4 RX0 TX0 6 := ⟨uw_0, rfl, by decide, "PressSuite$Reader", Or.inl aw_161, Or.inl rfl⟩
theorem fp_D_29_ER : FP RX4 29 0 4 RX0 TX0 6 := ⟨fa_D_29_ER, ⟨tyX0, tyX0_ok⟩, nmX0, rfl, by decide +kernel⟩
theorem cv_D_40_ER : Cond.methodLink RX4 40 ⟨"PressSuite$Reader", "refuseIf", "(ZI)V"⟩ ∈ AW ∧ Cond.sameMethod "PressSuite$Reader" "PressSuite$Reader" "refuseIf" "(ZI)V" ∈ AW ∧ Cond.selects RX0 ⟨"PressSuite$Reader", "refuseIf", "(ZI)V"⟩ zy_D_refuseIf ∈ AW ∧ Cond.instanceMethod zy_D_refuseIf ∈ AW ∧ Cond.initialized (zy_D_refuseIf).cls ∈ AW ∧ Cond.code zy_D_refuseIf zc_D_refuseIf 3 none ∈ AW ∧ (∃ (T : u_T) (N : Nat), zCl[0]? = some (RX0, T, N)) ∧ zy_D_refuseIf = ⟨"PressSuite$Reader", "refuseIf", "(ZI)V"⟩ ∧ "PressSuite$Reader" ≠ "java/lang/invoke/MethodHandle" ∧ "PressSuite$Reader" ≠ "java/lang/invoke/VarHandle" ∧ (parseMethodDescriptor "(ZI)V").map (fun d => d.parameters.length) = some 2 := ⟨aw_162, aw_163, aw_235, aw_165, aw_166, aw_167, ⟨_, _, rfl⟩, rfl, by decide, by decide, by decide⟩
theorem fp_D_25_ER : FP RX4 25 0 3 RX0 TX0 6 := ⟨fa_D_25_ER, ⟨tyX0, tyX0_ok⟩, nmX0, rfl, by decide +kernel⟩
theorem cv_ER_46_ER : Cond.methodLink RX0 46 ⟨"PressSuite$ElementReader", "take", "()I"⟩ ∈ AW ∧ Cond.sameMethod "PressSuite$ElementReader" "PressSuite$Reader" "take" "()I" ∈ AW ∧ Cond.selects RX0 ⟨"PressSuite$ElementReader", "take", "()I"⟩ zy_D_take ∈ AW ∧ Cond.instanceMethod zy_D_take ∈ AW ∧ Cond.initialized (zy_D_take).cls ∈ AW ∧ Cond.code zy_D_take zc_D_take 2 (some .int) ∈ AW ∧ (∃ (T : u_T) (N : Nat), zCl[0]? = some (RX0, T, N)) ∧ zy_D_take = ⟨"PressSuite$Reader", "take", "()I"⟩ ∧ "PressSuite$Reader" ≠ "java/lang/invoke/MethodHandle" ∧ "PressSuite$Reader" ≠ "java/lang/invoke/VarHandle" ∧ (parseMethodDescriptor "()I").map (fun d => d.parameters.length) = some 0 := ⟨aw_236, aw_237, aw_238, aw_172, aw_166, aw_173, ⟨_, _, rfl⟩, rfl, by decide, by decide, by decide⟩
theorem fa_ER_49_ER : FA RX0 49 0 3 RX0 TX0 6 := ⟨uw_0, rfl, by decide, "PressSuite$ElementReader", Or.inl aw_239, Or.inr aw_240⟩
theorem cv_ER_42_ER : Cond.methodLink RX0 42 ⟨"PressSuite$ElementReader", "refuseIf", "(ZI)V"⟩ ∈ AW ∧ Cond.sameMethod "PressSuite$ElementReader" "PressSuite$Reader" "refuseIf" "(ZI)V" ∈ AW ∧ Cond.selects RX0 ⟨"PressSuite$ElementReader", "refuseIf", "(ZI)V"⟩ zy_D_refuseIf ∈ AW ∧ Cond.instanceMethod zy_D_refuseIf ∈ AW ∧ Cond.initialized (zy_D_refuseIf).cls ∈ AW ∧ Cond.code zy_D_refuseIf zc_D_refuseIf 3 none ∈ AW ∧ (∃ (T : u_T) (N : Nat), zCl[0]? = some (RX0, T, N)) ∧ zy_D_refuseIf = ⟨"PressSuite$Reader", "refuseIf", "(ZI)V"⟩ ∧ "PressSuite$Reader" ≠ "java/lang/invoke/MethodHandle" ∧ "PressSuite$Reader" ≠ "java/lang/invoke/VarHandle" ∧ (parseMethodDescriptor "(ZI)V").map (fun d => d.parameters.length) = some 2 := ⟨aw_241, aw_242, aw_243, aw_165, aw_166, aw_167, ⟨_, _, rfl⟩, rfl, by decide, by decide, by decide⟩
theorem cv_ER_9_ER : Cond.methodLink RX0 9 zy_ER_takeSize ∈ AW ∧ Cond.instanceMethod zy_ER_takeSize ∈ AW ∧ Cond.selects (zy_ER_takeSize).cls zy_ER_takeSize zy_ER_takeSize ∈ AW ∧ Cond.initialized (zy_ER_takeSize).cls ∈ AW ∧ Cond.code zy_ER_takeSize zc_ER_takeSize 4 (some .int) ∈ AW ∧ (∃ (T : u_T) (N : Nat), zCl[0]? = some ((zy_ER_takeSize).cls, T, N)) ∧ (zy_ER_takeSize).cls ≠ "java/lang/invoke/MethodHandle" ∧ (zy_ER_takeSize).cls ≠ "java/lang/invoke/VarHandle" ∧ (parseMethodDescriptor (zy_ER_takeSize).desc).map (fun d => d.parameters.length) = some 0 := ⟨aw_244, aw_245, aw_246, aw_247, aw_248, ⟨_, _, rfl⟩, by decide, by decide, by decide⟩
theorem fa_ER_15_ER : FA RX0 15 0 5 RX0 TX0 6 := ⟨uw_0, rfl, by decide, "PressSuite$ElementReader", Or.inl aw_249, Or.inl rfl⟩
theorem fp_ER_15_ER : FP RX0 15 0 5 RX0 TX0 6 := ⟨fa_ER_15_ER, ⟨tyX0, tyX0_ok⟩, nmX0, rfl, by decide +kernel⟩
theorem fa_ER_19_ER : FA RX0 19 0 0 RX0 TX0 6 := ⟨uw_0, rfl, by decide, "PressSuite$ElementReader", Or.inl aw_250, Or.inr aw_251⟩
theorem fa_ER_23_R : FA RX0 23 4 1 RX5 TX5 2 := ⟨uw_5, rfl, by decide, "PressSuite$Row", Or.inr ⟨"PressSuite", nw_9⟩, Or.inl rfl⟩
theorem cv_ER_28_ER : Cond.methodLink RX0 28 ⟨"PressSuite$ElementReader", "atEnd", "()Z"⟩ ∈ AW ∧ Cond.sameMethod "PressSuite$ElementReader" "PressSuite$Reader" "atEnd" "()Z" ∈ AW ∧ Cond.selects RX0 ⟨"PressSuite$ElementReader", "atEnd", "()Z"⟩ zy_D_atEnd ∈ AW ∧ Cond.instanceMethod zy_D_atEnd ∈ AW ∧ Cond.initialized (zy_D_atEnd).cls ∈ AW ∧ Cond.code zy_D_atEnd zc_D_atEnd 1 (some .boolean) ∈ AW ∧ (∃ (T : u_T) (N : Nat), zCl[0]? = some (RX0, T, N)) ∧ zy_D_atEnd = ⟨"PressSuite$Reader", "atEnd", "()Z"⟩ ∧ "PressSuite$Reader" ≠ "java/lang/invoke/MethodHandle" ∧ "PressSuite$Reader" ≠ "java/lang/invoke/VarHandle" ∧ (parseMethodDescriptor "()Z").map (fun d => d.parameters.length) = some 0 := ⟨aw_252, aw_253, aw_254, aw_205, aw_166, aw_206, ⟨_, _, rfl⟩, rfl, by decide, by decide, by decide⟩
theorem cv_ER_32_ER : Cond.methodLink RX0 32 ⟨"PressSuite$ElementReader", "refused", "()Z"⟩ ∈ AW ∧ Cond.sameMethod "PressSuite$ElementReader" "PressSuite$Reader" "refused" "()Z" ∈ AW ∧ Cond.selects RX0 ⟨"PressSuite$ElementReader", "refused", "()Z"⟩ zy_D_refused ∈ AW ∧ Cond.instanceMethod zy_D_refused ∈ AW ∧ Cond.initialized (zy_D_refused).cls ∈ AW ∧ Cond.code zy_D_refused zc_D_refused 1 (some .boolean) ∈ AW ∧ (∃ (T : u_T) (N : Nat), zCl[0]? = some (RX0, T, N)) ∧ zy_D_refused = ⟨"PressSuite$Reader", "refused", "()Z"⟩ ∧ "PressSuite$Reader" ≠ "java/lang/invoke/MethodHandle" ∧ "PressSuite$Reader" ≠ "java/lang/invoke/VarHandle" ∧ (parseMethodDescriptor "()Z").map (fun d => d.parameters.length) = some 0 := ⟨aw_255, aw_256, aw_257, aw_188, aw_166, aw_189, ⟨_, _, rfl⟩, rfl, by decide, by decide, by decide⟩
theorem fa_D_13_ER : FA RX4 13 0 1 RX0 TX0 6 := ⟨uw_0, rfl, by decide, "PressSuite$Reader", Or.inl aw_179, Or.inl rfl⟩
theorem cv_ER_62_ER : Cond.methodLink RX0 62 ⟨"PressSuite$ElementReader", "requireRoom", "(III)V"⟩ ∈ AW ∧ Cond.sameMethod "PressSuite$ElementReader" "PressSuite$Reader" "requireRoom" "(III)V" ∈ AW ∧ Cond.selects RX0 ⟨"PressSuite$ElementReader", "requireRoom", "(III)V"⟩ zy_D_requireRoom ∈ AW ∧ Cond.instanceMethod zy_D_requireRoom ∈ AW ∧ Cond.initialized (zy_D_requireRoom).cls ∈ AW ∧ Cond.code zy_D_requireRoom zc_D_requireRoom 4 none ∈ AW ∧ (∃ (T : u_T) (N : Nat), zCl[0]? = some (RX0, T, N)) ∧ zy_D_requireRoom = ⟨"PressSuite$Reader", "requireRoom", "(III)V"⟩ ∧ "PressSuite$Reader" ≠ "java/lang/invoke/MethodHandle" ∧ "PressSuite$Reader" ≠ "java/lang/invoke/VarHandle" ∧ (parseMethodDescriptor "(III)V").map (fun d => d.parameters.length) = some 3 := ⟨aw_258, aw_259, aw_260, aw_183, aw_166, aw_184, ⟨_, _, rfl⟩, rfl, by decide, by decide, by decide⟩
theorem cv_D_55_ER : Cond.methodLink RX4 55 ⟨"PressSuite$Reader", "refused", "()Z"⟩ ∈ AW ∧ Cond.sameMethod "PressSuite$Reader" "PressSuite$Reader" "refused" "()Z" ∈ AW ∧ Cond.selects RX0 ⟨"PressSuite$Reader", "refused", "()Z"⟩ zy_D_refused ∈ AW ∧ Cond.instanceMethod zy_D_refused ∈ AW ∧ Cond.initialized (zy_D_refused).cls ∈ AW ∧ Cond.code zy_D_refused zc_D_refused 1 (some .boolean) ∈ AW ∧ (∃ (T : u_T) (N : Nat), zCl[0]? = some (RX0, T, N)) ∧ zy_D_refused = ⟨"PressSuite$Reader", "refused", "()Z"⟩ ∧ "PressSuite$Reader" ≠ "java/lang/invoke/MethodHandle" ∧ "PressSuite$Reader" ≠ "java/lang/invoke/VarHandle" ∧ (parseMethodDescriptor "()Z").map (fun d => d.parameters.length) = some 0 := ⟨aw_185, aw_186, aw_261, aw_188, aw_166, aw_189, ⟨_, _, rfl⟩, rfl, by decide, by decide, by decide⟩
theorem cv_D_48_ER : Cond.methodLink RX4 48 ⟨"PressSuite$Reader", "take", "()I"⟩ ∈ AW ∧ Cond.sameMethod "PressSuite$Reader" "PressSuite$Reader" "take" "()I" ∈ AW ∧ Cond.selects RX0 ⟨"PressSuite$Reader", "take", "()I"⟩ zy_D_take ∈ AW ∧ Cond.instanceMethod zy_D_take ∈ AW ∧ Cond.initialized (zy_D_take).cls ∈ AW ∧ Cond.code zy_D_take zc_D_take 2 (some .int) ∈ AW ∧ (∃ (T : u_T) (N : Nat), zCl[0]? = some (RX0, T, N)) ∧ zy_D_take = ⟨"PressSuite$Reader", "take", "()I"⟩ ∧ "PressSuite$Reader" ≠ "java/lang/invoke/MethodHandle" ∧ "PressSuite$Reader" ≠ "java/lang/invoke/VarHandle" ∧ (parseMethodDescriptor "()I").map (fun d => d.parameters.length) = some 0 := ⟨aw_190, aw_191, aw_262, aw_172, aw_166, aw_173, ⟨_, _, rfl⟩, rfl, by decide, by decide, by decide⟩
theorem cv_ER_66_ER : Cond.methodLink RX0 66 ⟨"PressSuite$ElementReader", "copyLiterals", "(I)V"⟩ ∈ AW ∧ Cond.sameMethod "PressSuite$ElementReader" "PressSuite$Reader" "copyLiterals" "(I)V" ∈ AW ∧ Cond.selects RX0 ⟨"PressSuite$ElementReader", "copyLiterals", "(I)V"⟩ zy_D_copyLiterals ∈ AW ∧ Cond.instanceMethod zy_D_copyLiterals ∈ AW ∧ Cond.initialized (zy_D_copyLiterals).cls ∈ AW ∧ Cond.code zy_D_copyLiterals zc_D_copyLiterals 3 none ∈ AW ∧ (∃ (T : u_T) (N : Nat), zCl[0]? = some (RX0, T, N)) ∧ zy_D_copyLiterals = ⟨"PressSuite$Reader", "copyLiterals", "(I)V"⟩ ∧ "PressSuite$Reader" ≠ "java/lang/invoke/MethodHandle" ∧ "PressSuite$Reader" ≠ "java/lang/invoke/VarHandle" ∧ (parseMethodDescriptor "(I)V").map (fun d => d.parameters.length) = some 1 := ⟨aw_263, aw_264, aw_265, aw_197, aw_166, aw_198, ⟨_, _, rfl⟩, rfl, by decide, by decide, by decide⟩
theorem cv_ER_52_ER : Cond.methodLink RX0 52 zy_ER_readLiterals ∈ AW ∧ Cond.instanceMethod zy_ER_readLiterals ∈ AW ∧ Cond.selects (zy_ER_readLiterals).cls zy_ER_readLiterals zy_ER_readLiterals ∈ AW ∧ Cond.initialized (zy_ER_readLiterals).cls ∈ AW ∧ Cond.code zy_ER_readLiterals zc_ER_readLiterals 4 none ∈ AW ∧ (∃ (T : u_T) (N : Nat), zCl[0]? = some ((zy_ER_readLiterals).cls, T, N)) ∧ (zy_ER_readLiterals).cls ≠ "java/lang/invoke/MethodHandle" ∧ (zy_ER_readLiterals).cls ≠ "java/lang/invoke/VarHandle" ∧ (parseMethodDescriptor (zy_ER_readLiterals).desc).map (fun d => d.parameters.length) = some 2 := ⟨aw_266, aw_267, aw_268, aw_247, aw_269, ⟨_, _, rfl⟩, by decide, by decide, by decide⟩
theorem fa_D_21_ER : FA RX4 21 0 2 RX0 TX0 6 := ⟨uw_0, rfl, by decide, "PressSuite$Reader", Or.inl aw_212, Or.inl rfl⟩
theorem cv_ER_70_ER : Cond.methodLink RX0 70 ⟨"PressSuite$ElementReader", "requireDistance", "(II)V"⟩ ∈ AW ∧ Cond.sameMethod "PressSuite$ElementReader" "PressSuite$Reader" "requireDistance" "(II)V" ∈ AW ∧ Cond.selects RX0 ⟨"PressSuite$ElementReader", "requireDistance", "(II)V"⟩ zy_D_requireDistance ∈ AW ∧ Cond.instanceMethod zy_D_requireDistance ∈ AW ∧ Cond.initialized (zy_D_requireDistance).cls ∈ AW ∧ Cond.code zy_D_requireDistance zc_D_requireDistance 3 none ∈ AW ∧ (∃ (T : u_T) (N : Nat), zCl[0]? = some (RX0, T, N)) ∧ zy_D_requireDistance = ⟨"PressSuite$Reader", "requireDistance", "(II)V"⟩ ∧ "PressSuite$Reader" ≠ "java/lang/invoke/MethodHandle" ∧ "PressSuite$Reader" ≠ "java/lang/invoke/VarHandle" ∧ (parseMethodDescriptor "(II)V").map (fun d => d.parameters.length) = some 2 := ⟨aw_270, aw_271, aw_272, aw_217, aw_166, aw_218, ⟨_, _, rfl⟩, rfl, by decide, by decide, by decide⟩
theorem cv_ER_73_ER : Cond.methodLink RX0 73 ⟨"PressSuite$ElementReader", "copyBack", "(II)V"⟩ ∈ AW ∧ Cond.sameMethod "PressSuite$ElementReader" "PressSuite$Reader" "copyBack" "(II)V" ∈ AW ∧ Cond.selects RX0 ⟨"PressSuite$ElementReader", "copyBack", "(II)V"⟩ zy_D_copyBack ∈ AW ∧ Cond.instanceMethod zy_D_copyBack ∈ AW ∧ Cond.initialized (zy_D_copyBack).cls ∈ AW ∧ Cond.code zy_D_copyBack zc_D_copyBack 4 none ∈ AW ∧ (∃ (T : u_T) (N : Nat), zCl[0]? = some (RX0, T, N)) ∧ zy_D_copyBack = ⟨"PressSuite$Reader", "copyBack", "(II)V"⟩ ∧ "PressSuite$Reader" ≠ "java/lang/invoke/MethodHandle" ∧ "PressSuite$Reader" ≠ "java/lang/invoke/VarHandle" ∧ (parseMethodDescriptor "(II)V").map (fun d => d.parameters.length) = some 2 := ⟨aw_273, aw_274, aw_275, aw_223, aw_166, aw_224, ⟨_, _, rfl⟩, rfl, by decide, by decide, by decide⟩
theorem cv_ER_56_ER : Cond.methodLink RX0 56 zy_ER_readShortCopy ∈ AW ∧ Cond.instanceMethod zy_ER_readShortCopy ∈ AW ∧ Cond.selects (zy_ER_readShortCopy).cls zy_ER_readShortCopy zy_ER_readShortCopy ∈ AW ∧ Cond.initialized (zy_ER_readShortCopy).cls ∈ AW ∧ Cond.code zy_ER_readShortCopy zc_ER_readShortCopy 5 none ∈ AW ∧ (∃ (T : u_T) (N : Nat), zCl[0]? = some ((zy_ER_readShortCopy).cls, T, N)) ∧ (zy_ER_readShortCopy).cls ≠ "java/lang/invoke/MethodHandle" ∧ (zy_ER_readShortCopy).cls ≠ "java/lang/invoke/VarHandle" ∧ (parseMethodDescriptor (zy_ER_readShortCopy).desc).map (fun d => d.parameters.length) = some 2 := ⟨aw_276, aw_277, aw_278, aw_247, aw_279, ⟨_, _, rfl⟩, by decide, by decide, by decide⟩
theorem cv_ER_76_ER : Cond.methodLink RX0 76 ⟨"PressSuite$ElementReader", "takeTwo", "()I"⟩ ∈ AW ∧ Cond.sameMethod "PressSuite$ElementReader" "PressSuite$Reader" "takeTwo" "()I" ∈ AW ∧ Cond.selects RX0 ⟨"PressSuite$ElementReader", "takeTwo", "()I"⟩ zy_D_takeTwo ∈ AW ∧ Cond.instanceMethod zy_D_takeTwo ∈ AW ∧ Cond.initialized (zy_D_takeTwo).cls ∈ AW ∧ Cond.code zy_D_takeTwo zc_D_takeTwo 2 (some .int) ∈ AW ∧ (∃ (T : u_T) (N : Nat), zCl[0]? = some (RX0, T, N)) ∧ zy_D_takeTwo = ⟨"PressSuite$Reader", "takeTwo", "()I"⟩ ∧ "PressSuite$Reader" ≠ "java/lang/invoke/MethodHandle" ∧ "PressSuite$Reader" ≠ "java/lang/invoke/VarHandle" ∧ (parseMethodDescriptor "()I").map (fun d => d.parameters.length) = some 0 := ⟨aw_280, aw_281, aw_282, aw_210, aw_166, aw_211, ⟨_, _, rfl⟩, rfl, by decide, by decide, by decide⟩
theorem cv_ER_59_ER : Cond.methodLink RX0 59 zy_ER_readLongCopy ∈ AW ∧ Cond.instanceMethod zy_ER_readLongCopy ∈ AW ∧ Cond.selects (zy_ER_readLongCopy).cls zy_ER_readLongCopy zy_ER_readLongCopy ∈ AW ∧ Cond.initialized (zy_ER_readLongCopy).cls ∈ AW ∧ Cond.code zy_ER_readLongCopy zc_ER_readLongCopy 5 none ∈ AW ∧ (∃ (T : u_T) (N : Nat), zCl[0]? = some ((zy_ER_readLongCopy).cls, T, N)) ∧ (zy_ER_readLongCopy).cls ≠ "java/lang/invoke/MethodHandle" ∧ (zy_ER_readLongCopy).cls ≠ "java/lang/invoke/VarHandle" ∧ (parseMethodDescriptor (zy_ER_readLongCopy).desc).map (fun d => d.parameters.length) = some 2 := ⟨aw_283, aw_284, aw_285, aw_247, aw_286, ⟨_, _, rfl⟩, by decide, by decide, by decide⟩
theorem cv_ER_35_ER : Cond.methodLink RX0 35 zy_ER_readElement ∈ AW ∧ Cond.instanceMethod zy_ER_readElement ∈ AW ∧ Cond.selects (zy_ER_readElement).cls zy_ER_readElement zy_ER_readElement ∈ AW ∧ Cond.initialized (zy_ER_readElement).cls ∈ AW ∧ Cond.code zy_ER_readElement zc_ER_readElement 3 none ∈ AW ∧ (∃ (T : u_T) (N : Nat), zCl[0]? = some ((zy_ER_readElement).cls, T, N)) ∧ (zy_ER_readElement).cls ≠ "java/lang/invoke/MethodHandle" ∧ (zy_ER_readElement).cls ≠ "java/lang/invoke/VarHandle" ∧ (parseMethodDescriptor (zy_ER_readElement).desc).map (fun d => d.parameters.length) = some 0 := ⟨aw_287, aw_288, aw_289, aw_247, aw_290, ⟨_, _, rfl⟩, by decide, by decide, by decide⟩
theorem fa_ER_39_ER : FA RX0 39 0 1 RX0 TX0 6 := ⟨uw_0, rfl, by decide, "PressSuite$ElementReader", Or.inl aw_291, Or.inr aw_292⟩
theorem fa_M_22_M : FA RX10 22 8 0 RX10 TXM 12 := ⟨uw_10, rfl, by decide, "PressSuiteModel", Or.inl aw_305, Or.inl rfl⟩
theorem fp_M_22_M : FP RX10 22 8 0 RX10 TXM 12 := ⟨fa_M_22_M, ⟨tyXM, tyXM_ok⟩, nmXM, rfl, by decide +kernel⟩
theorem cv_M_26_M : Cond.methodLink RX10 26 zy_M_isRow ∈ AW ∧ Cond.static zy_M_isRow ∈ AW ∧ Cond.initialized RX10 ∈ AW ∧ Cond.code zy_M_isRow zc_M_isRow 1 (some .boolean) ∈ AW ∧ (zy_M_isRow).cls = RX10 ∧ (zy_M_isRow).cls ≠ "java/lang/invoke/MethodHandle" ∧ (zy_M_isRow).cls ≠ "java/lang/invoke/VarHandle" ∧ (parseMethodDescriptor (zy_M_isRow).desc).map (fun d => d.parameters.length) = some 1 := ⟨aw_306, aw_307, aw_308, aw_309, rfl, by decide, by decide, by decide⟩
theorem fa_M_13_M : FA RX10 13 8 2 RX10 TXM 12 := ⟨uw_10, rfl, by decide, "PressSuiteModel", Or.inl aw_310, Or.inl rfl⟩
theorem cv_M_30_M : Cond.methodLink RX10 30 zy_M_most ∈ AW ∧ Cond.static zy_M_most ∈ AW ∧ Cond.initialized RX10 ∈ AW ∧ Cond.code zy_M_most zc_M_most 1 (some .int) ∈ AW ∧ (zy_M_most).cls = RX10 ∧ (zy_M_most).cls ≠ "java/lang/invoke/MethodHandle" ∧ (zy_M_most).cls ≠ "java/lang/invoke/VarHandle" ∧ (parseMethodDescriptor (zy_M_most).desc).map (fun d => d.parameters.length) = some 1 := ⟨aw_311, aw_312, aw_308, aw_313, rfl, by decide, by decide, by decide⟩
theorem cv_M_34_M : Cond.methodLink RX10 34 zy_M_fails ∈ AW ∧ Cond.instanceMethod zy_M_fails ∈ AW ∧ Cond.selects (zy_M_fails).cls zy_M_fails zy_M_fails ∈ AW ∧ Cond.initialized (zy_M_fails).cls ∈ AW ∧ Cond.code zy_M_fails zc_M_fails 3 (some .boolean) ∈ AW ∧ (∃ (T : u_T) (N : Nat), zCl[8]? = some ((zy_M_fails).cls, T, N)) ∧ (zy_M_fails).cls ≠ "java/lang/invoke/MethodHandle" ∧ (zy_M_fails).cls ≠ "java/lang/invoke/VarHandle" ∧ (parseMethodDescriptor (zy_M_fails).desc).map (fun d => d.parameters.length) = some 2 := ⟨aw_314, aw_315, aw_316, aw_308, aw_317, ⟨_, _, rfl⟩, by decide, by decide, by decide⟩
theorem fa_M_7_M : FA RX10 7 8 1 RX10 TXM 12 := ⟨uw_10, rfl, by decide, "PressSuiteModel", Or.inl aw_318, Or.inl rfl⟩
theorem fa_M_43_M : FA RX10 43 8 4 RX10 TXM 12 := ⟨uw_10, rfl, by decide, "PressSuiteModel", Or.inl aw_320, Or.inl rfl⟩
theorem fa_M_40_M : FA RX10 40 8 3 RX10 TXM 12 := ⟨uw_10, rfl, by decide, "PressSuiteModel", Or.inl aw_321, Or.inl rfl⟩
theorem fa_M_16_M : FA RX10 16 8 5 RX10 TXM 12 := ⟨uw_10, rfl, by decide, "PressSuiteModel", Or.inl aw_322, Or.inl rfl⟩
theorem cv_M_46_M : Cond.methodLink RX10 46 zy_M_four ∈ AW ∧ Cond.static zy_M_four ∈ AW ∧ Cond.initialized RX10 ∈ AW ∧ Cond.code zy_M_four zc_M_four 4 (some .int) ∈ AW ∧ (zy_M_four).cls = RX10 ∧ (zy_M_four).cls ≠ "java/lang/invoke/MethodHandle" ∧ (zy_M_four).cls ≠ "java/lang/invoke/VarHandle" ∧ (parseMethodDescriptor (zy_M_four).desc).map (fun d => d.parameters.length) = some 4 := ⟨aw_323, aw_324, aw_308, aw_325, rfl, by decide, by decide, by decide⟩
theorem cv_M_50_M : Cond.methodLink RX10 50 zy_M_intAt ∈ AW ∧ Cond.instanceMethod zy_M_intAt ∈ AW ∧ Cond.selects (zy_M_intAt).cls zy_M_intAt zy_M_intAt ∈ AW ∧ Cond.initialized (zy_M_intAt).cls ∈ AW ∧ Cond.code zy_M_intAt zc_M_intAt 2 (some .int) ∈ AW ∧ (∃ (T : u_T) (N : Nat), zCl[8]? = some ((zy_M_intAt).cls, T, N)) ∧ (zy_M_intAt).cls ≠ "java/lang/invoke/MethodHandle" ∧ (zy_M_intAt).cls ≠ "java/lang/invoke/VarHandle" ∧ (parseMethodDescriptor (zy_M_intAt).desc).map (fun d => d.parameters.length) = some 1 := ⟨aw_326, aw_327, aw_328, aw_308, aw_329, ⟨_, _, rfl⟩, by decide, by decide, by decide⟩
theorem fa_M_54_M : FA RX10 54 8 6 RX10 TXM 12 := ⟨uw_10, rfl, by decide, "PressSuiteModel", Or.inl aw_331, Or.inl rfl⟩
theorem fp_M_54_M : FP RX10 54 8 6 RX10 TXM 12 := ⟨fa_M_54_M, ⟨tyXM, tyXM_ok⟩, nmXM, rfl, by decide +kernel⟩
theorem fa_M_57_M : FA RX10 57 8 7 RX10 TXM 12 := ⟨uw_10, rfl, by decide, "PressSuiteModel", Or.inl aw_332, Or.inl rfl⟩
theorem fp_M_57_M : FP RX10 57 8 7 RX10 TXM 12 := ⟨fa_M_57_M, ⟨tyXM, tyXM_ok⟩, nmXM, rfl, by decide +kernel⟩
theorem fa_M_60_M : FA RX10 60 8 9 RX10 TXM 12 := ⟨uw_10, rfl, by decide, "PressSuiteModel", Or.inl aw_333, Or.inl rfl⟩
theorem fp_M_60_M : FP RX10 60 8 9 RX10 TXM 12 := ⟨fa_M_60_M, ⟨tyXM, tyXM_ok⟩, nmXM, rfl, by decide +kernel⟩
theorem cv_M_63_M : Cond.methodLink RX10 63 zy_M_emit ∈ AW ∧ Cond.instanceMethod zy_M_emit ∈ AW ∧ Cond.selects (zy_M_emit).cls zy_M_emit zy_M_emit ∈ AW ∧ Cond.initialized (zy_M_emit).cls ∈ AW ∧ Cond.code zy_M_emit zc_M_emit 2 none ∈ AW ∧ (∃ (T : u_T) (N : Nat), zCl[8]? = some ((zy_M_emit).cls, T, N)) ∧ (zy_M_emit).cls ≠ "java/lang/invoke/MethodHandle" ∧ (zy_M_emit).cls ≠ "java/lang/invoke/VarHandle" ∧ (parseMethodDescriptor (zy_M_emit).desc).map (fun d => d.parameters.length) = some 1 := ⟨aw_334, aw_335, aw_336, aw_308, aw_337, ⟨_, _, rfl⟩, by decide, by decide, by decide⟩
theorem cv_M_67_M : Cond.methodLink RX10 67 zy_M_atMost15 ∈ AW ∧ Cond.static zy_M_atMost15 ∈ AW ∧ Cond.initialized RX10 ∈ AW ∧ Cond.code zy_M_atMost15 zc_M_atMost15 1 (some .int) ∈ AW ∧ (zy_M_atMost15).cls = RX10 ∧ (zy_M_atMost15).cls ≠ "java/lang/invoke/MethodHandle" ∧ (zy_M_atMost15).cls ≠ "java/lang/invoke/VarHandle" ∧ (parseMethodDescriptor (zy_M_atMost15).desc).map (fun d => d.parameters.length) = some 1 := ⟨aw_338, aw_339, aw_308, aw_340, rfl, by decide, by decide, by decide⟩
theorem cv_M_70_M : Cond.methodLink RX10 70 zy_M_emitMore ∈ AW ∧ Cond.instanceMethod zy_M_emitMore ∈ AW ∧ Cond.selects (zy_M_emitMore).cls zy_M_emitMore zy_M_emitMore ∈ AW ∧ Cond.initialized (zy_M_emitMore).cls ∈ AW ∧ Cond.code zy_M_emitMore zc_M_emitMore 3 none ∈ AW ∧ (∃ (T : u_T) (N : Nat), zCl[8]? = some ((zy_M_emitMore).cls, T, N)) ∧ (zy_M_emitMore).cls ≠ "java/lang/invoke/MethodHandle" ∧ (zy_M_emitMore).cls ≠ "java/lang/invoke/VarHandle" ∧ (parseMethodDescriptor (zy_M_emitMore).desc).map (fun d => d.parameters.length) = some 1 := ⟨aw_341, aw_342, aw_343, aw_308, aw_344, ⟨_, _, rfl⟩, by decide, by decide, by decide⟩
theorem cv_M_73_M : Cond.methodLink RX10 73 zy_M_emitLiterals ∈ AW ∧ Cond.instanceMethod zy_M_emitLiterals ∈ AW ∧ Cond.selects (zy_M_emitLiterals).cls zy_M_emitLiterals zy_M_emitLiterals ∈ AW ∧ Cond.initialized (zy_M_emitLiterals).cls ∈ AW ∧ Cond.code zy_M_emitLiterals zc_M_emitLiterals 4 none ∈ AW ∧ (∃ (T : u_T) (N : Nat), zCl[8]? = some ((zy_M_emitLiterals).cls, T, N)) ∧ (zy_M_emitLiterals).cls ≠ "java/lang/invoke/MethodHandle" ∧ (zy_M_emitLiterals).cls ≠ "java/lang/invoke/VarHandle" ∧ (parseMethodDescriptor (zy_M_emitLiterals).desc).map (fun d => d.parameters.length) = some 2 := ⟨aw_345, aw_346, aw_347, aw_308, aw_348, ⟨_, _, rfl⟩, by decide, by decide, by decide⟩
theorem cv_M_77_M : Cond.methodLink RX10 77 zy_M_copyElement ∈ AW ∧ Cond.instanceMethod zy_M_copyElement ∈ AW ∧ Cond.selects (zy_M_copyElement).cls zy_M_copyElement zy_M_copyElement ∈ AW ∧ Cond.initialized (zy_M_copyElement).cls ∈ AW ∧ Cond.code zy_M_copyElement zc_M_copyElement 3 none ∈ AW ∧ (∃ (T : u_T) (N : Nat), zCl[8]? = some ((zy_M_copyElement).cls, T, N)) ∧ (zy_M_copyElement).cls ≠ "java/lang/invoke/MethodHandle" ∧ (zy_M_copyElement).cls ≠ "java/lang/invoke/VarHandle" ∧ (parseMethodDescriptor (zy_M_copyElement).desc).map (fun d => d.parameters.length) = some 2 := ⟨aw_349, aw_350, aw_351, aw_308, aw_352, ⟨_, _, rfl⟩, by decide, by decide, by decide⟩
theorem fa_M_19_M : FA RX10 19 8 8 RX10 TXM 12 := ⟨uw_10, rfl, by decide, "PressSuiteModel", Or.inl aw_353, Or.inl rfl⟩
theorem cv_M_80_M : Cond.methodLink RX10 80 zy_M_slot ∈ AW ∧ Cond.instanceMethod zy_M_slot ∈ AW ∧ Cond.selects (zy_M_slot).cls zy_M_slot zy_M_slot ∈ AW ∧ Cond.initialized (zy_M_slot).cls ∈ AW ∧ Cond.code zy_M_slot zc_M_slot 2 (some .int) ∈ AW ∧ (∃ (T : u_T) (N : Nat), zCl[8]? = some ((zy_M_slot).cls, T, N)) ∧ (zy_M_slot).cls ≠ "java/lang/invoke/MethodHandle" ∧ (zy_M_slot).cls ≠ "java/lang/invoke/VarHandle" ∧ (parseMethodDescriptor (zy_M_slot).desc).map (fun d => d.parameters.length) = some 1 := ⟨aw_354, aw_355, aw_356, aw_308, aw_357, ⟨_, _, rfl⟩, by decide, by decide, by decide⟩
theorem cv_M_83_M : Cond.methodLink RX10 83 zy_M_same ∈ AW ∧ Cond.instanceMethod zy_M_same ∈ AW ∧ Cond.selects (zy_M_same).cls zy_M_same zy_M_same ∈ AW ∧ Cond.initialized (zy_M_same).cls ∈ AW ∧ Cond.code zy_M_same zc_M_same 4 (some .int) ∈ AW ∧ (∃ (T : u_T) (N : Nat), zCl[8]? = some ((zy_M_same).cls, T, N)) ∧ (zy_M_same).cls ≠ "java/lang/invoke/MethodHandle" ∧ (zy_M_same).cls ≠ "java/lang/invoke/VarHandle" ∧ (parseMethodDescriptor (zy_M_same).desc).map (fun d => d.parameters.length) = some 2 := ⟨aw_358, aw_359, aw_360, aw_308, aw_361, ⟨_, _, rfl⟩, by decide, by decide, by decide⟩
theorem cv_M_91_M : Cond.methodLink RX10 91 zy_M_literalElement ∈ AW ∧ Cond.instanceMethod zy_M_literalElement ∈ AW ∧ Cond.selects (zy_M_literalElement).cls zy_M_literalElement zy_M_literalElement ∈ AW ∧ Cond.initialized (zy_M_literalElement).cls ∈ AW ∧ Cond.code zy_M_literalElement zc_M_literalElement 4 none ∈ AW ∧ (∃ (T : u_T) (N : Nat), zCl[8]? = some ((zy_M_literalElement).cls, T, N)) ∧ (zy_M_literalElement).cls ≠ "java/lang/invoke/MethodHandle" ∧ (zy_M_literalElement).cls ≠ "java/lang/invoke/VarHandle" ∧ (parseMethodDescriptor (zy_M_literalElement).desc).map (fun d => d.parameters.length) = some 2 := ⟨aw_362, aw_363, aw_364, aw_308, aw_365, ⟨_, _, rfl⟩, by decide, by decide, by decide⟩
theorem cv_M_94_M : Cond.methodLink RX10 94 zy_M_copyElements ∈ AW ∧ Cond.instanceMethod zy_M_copyElements ∈ AW ∧ Cond.selects (zy_M_copyElements).cls zy_M_copyElements zy_M_copyElements ∈ AW ∧ Cond.initialized (zy_M_copyElements).cls ∈ AW ∧ Cond.code zy_M_copyElements zc_M_copyElements 4 none ∈ AW ∧ (∃ (T : u_T) (N : Nat), zCl[8]? = some ((zy_M_copyElements).cls, T, N)) ∧ (zy_M_copyElements).cls ≠ "java/lang/invoke/MethodHandle" ∧ (zy_M_copyElements).cls ≠ "java/lang/invoke/VarHandle" ∧ (parseMethodDescriptor (zy_M_copyElements).desc).map (fun d => d.parameters.length) = some 2 := ⟨aw_366, aw_367, aw_368, aw_308, aw_369, ⟨_, _, rfl⟩, by decide, by decide, by decide⟩
theorem cv_M_87_M : Cond.methodLink RX10 87 zy_M_sequence ∈ AW ∧ Cond.instanceMethod zy_M_sequence ∈ AW ∧ Cond.selects (zy_M_sequence).cls zy_M_sequence zy_M_sequence ∈ AW ∧ Cond.initialized (zy_M_sequence).cls ∈ AW ∧ Cond.code zy_M_sequence zc_M_sequence 6 none ∈ AW ∧ (∃ (T : u_T) (N : Nat), zCl[8]? = some ((zy_M_sequence).cls, T, N)) ∧ (zy_M_sequence).cls ≠ "java/lang/invoke/MethodHandle" ∧ (zy_M_sequence).cls ≠ "java/lang/invoke/VarHandle" ∧ (parseMethodDescriptor (zy_M_sequence).desc).map (fun d => d.parameters.length) = some 4 := ⟨aw_370, aw_371, aw_372, aw_308, aw_373, ⟨_, _, rfl⟩, by decide, by decide, by decide⟩
theorem fp_M_40_M : FP RX10 40 8 3 RX10 TXM 12 := ⟨fa_M_40_M, ⟨tyXM, tyXM_ok⟩, nmXM, rfl, by decide +kernel⟩
theorem fp_M_43_M : FP RX10 43 8 4 RX10 TXM 12 := ⟨fa_M_43_M, ⟨tyXM, tyXM_ok⟩, nmXM, rfl, by decide +kernel⟩
theorem cv_M_97_M : Cond.methodLink RX10 97 zy_M_lastSequence ∈ AW ∧ Cond.instanceMethod zy_M_lastSequence ∈ AW ∧ Cond.selects (zy_M_lastSequence).cls zy_M_lastSequence zy_M_lastSequence ∈ AW ∧ Cond.initialized (zy_M_lastSequence).cls ∈ AW ∧ Cond.code zy_M_lastSequence zc_M_lastSequence 3 none ∈ AW ∧ (∃ (T : u_T) (N : Nat), zCl[8]? = some ((zy_M_lastSequence).cls, T, N)) ∧ (zy_M_lastSequence).cls ≠ "java/lang/invoke/MethodHandle" ∧ (zy_M_lastSequence).cls ≠ "java/lang/invoke/VarHandle" ∧ (parseMethodDescriptor (zy_M_lastSequence).desc).map (fun d => d.parameters.length) = some 2 := ⟨aw_374, aw_375, aw_376, aw_308, aw_377, ⟨_, _, rfl⟩, by decide, by decide, by decide⟩
theorem cv_M_100_M : Cond.methodLink RX10 100 zy_M_remembers ∈ AW ∧ Cond.instanceMethod zy_M_remembers ∈ AW ∧ Cond.selects (zy_M_remembers).cls zy_M_remembers zy_M_remembers ∈ AW ∧ Cond.initialized (zy_M_remembers).cls ∈ AW ∧ Cond.code zy_M_remembers zc_M_remembers 2 none ∈ AW ∧ (∃ (T : u_T) (N : Nat), zCl[8]? = some ((zy_M_remembers).cls, T, N)) ∧ (zy_M_remembers).cls ≠ "java/lang/invoke/MethodHandle" ∧ (zy_M_remembers).cls ≠ "java/lang/invoke/VarHandle" ∧ (parseMethodDescriptor (zy_M_remembers).desc).map (fun d => d.parameters.length) = some 0 := ⟨aw_378, aw_379, aw_380, aw_308, aw_381, ⟨_, _, rfl⟩, by decide, by decide, by decide⟩
theorem cv_M_103_M : Cond.methodLink RX10 103 zy_M_packs ∈ AW ∧ Cond.instanceMethod zy_M_packs ∈ AW ∧ Cond.selects (zy_M_packs).cls zy_M_packs zy_M_packs ∈ AW ∧ Cond.initialized (zy_M_packs).cls ∈ AW ∧ Cond.code zy_M_packs zc_M_packs 7 none ∈ AW ∧ (∃ (T : u_T) (N : Nat), zCl[8]? = some ((zy_M_packs).cls, T, N)) ∧ (zy_M_packs).cls ≠ "java/lang/invoke/MethodHandle" ∧ (zy_M_packs).cls ≠ "java/lang/invoke/VarHandle" ∧ (parseMethodDescriptor (zy_M_packs).desc).map (fun d => d.parameters.length) = some 1 := ⟨aw_382, aw_383, aw_384, aw_308, aw_385, ⟨_, _, rfl⟩, by decide, by decide, by decide⟩
theorem fa_M_106_M : FA RX10 106 8 11 RX10 TXM 12 := ⟨uw_10, rfl, by decide, "PressSuiteModel", Or.inl aw_386, Or.inl rfl⟩
theorem fp_M_106_M : FP RX10 106 8 11 RX10 TXM 12 := ⟨fa_M_106_M, ⟨tyXM, tyXM_ok⟩, nmXM, rfl, by decide +kernel⟩
theorem fa_M_109_M : FA RX10 109 8 10 RX10 TXM 12 := ⟨uw_10, rfl, by decide, "PressSuiteModel", Or.inl aw_387, Or.inl rfl⟩
theorem cv_M_112_M : Cond.methodLink RX10 112 zy_M_need ∈ AW ∧ Cond.instanceMethod zy_M_need ∈ AW ∧ Cond.selects (zy_M_need).cls zy_M_need zy_M_need ∈ AW ∧ Cond.initialized (zy_M_need).cls ∈ AW ∧ Cond.code zy_M_need zc_M_need 3 none ∈ AW ∧ (∃ (T : u_T) (N : Nat), zCl[8]? = some ((zy_M_need).cls, T, N)) ∧ (zy_M_need).cls ≠ "java/lang/invoke/MethodHandle" ∧ (zy_M_need).cls ≠ "java/lang/invoke/VarHandle" ∧ (parseMethodDescriptor (zy_M_need).desc).map (fun d => d.parameters.length) = some 2 := ⟨aw_388, aw_389, aw_390, aw_308, aw_391, ⟨_, _, rfl⟩, by decide, by decide, by decide⟩
theorem fp_M_109_M : FP RX10 109 8 10 RX10 TXM 12 := ⟨fa_M_109_M, ⟨tyXM, tyXM_ok⟩, nmXM, rfl, by decide +kernel⟩
theorem cv_M_116_M : Cond.methodLink RX10 116 zy_M_next ∈ AW ∧ Cond.instanceMethod zy_M_next ∈ AW ∧ Cond.selects (zy_M_next).cls zy_M_next zy_M_next ∈ AW ∧ Cond.initialized (zy_M_next).cls ∈ AW ∧ Cond.code zy_M_next zc_M_next 1 (some .int) ∈ AW ∧ (∃ (T : u_T) (N : Nat), zCl[8]? = some ((zy_M_next).cls, T, N)) ∧ (zy_M_next).cls ≠ "java/lang/invoke/MethodHandle" ∧ (zy_M_next).cls ≠ "java/lang/invoke/VarHandle" ∧ (parseMethodDescriptor (zy_M_next).desc).map (fun d => d.parameters.length) = some 0 := ⟨aw_392, aw_393, aw_394, aw_308, aw_395, ⟨_, _, rfl⟩, by decide, by decide, by decide⟩
theorem cv_M_120_M : Cond.methodLink RX10 120 zy_M_more ∈ AW ∧ Cond.instanceMethod zy_M_more ∈ AW ∧ Cond.selects (zy_M_more).cls zy_M_more zy_M_more ∈ AW ∧ Cond.initialized (zy_M_more).cls ∈ AW ∧ Cond.code zy_M_more zc_M_more 4 (some .int) ∈ AW ∧ (∃ (T : u_T) (N : Nat), zCl[8]? = some ((zy_M_more).cls, T, N)) ∧ (zy_M_more).cls ≠ "java/lang/invoke/MethodHandle" ∧ (zy_M_more).cls ≠ "java/lang/invoke/VarHandle" ∧ (parseMethodDescriptor (zy_M_more).desc).map (fun d => d.parameters.length) = some 1 := ⟨aw_396, aw_397, aw_398, aw_308, aw_399, ⟨_, _, rfl⟩, by decide, by decide, by decide⟩
theorem cv_M_123_M : Cond.methodLink RX10 123 zy_M_made ∈ AW ∧ Cond.instanceMethod zy_M_made ∈ AW ∧ Cond.selects (zy_M_made).cls zy_M_made zy_M_made ∈ AW ∧ Cond.initialized (zy_M_made).cls ∈ AW ∧ Cond.code zy_M_made zc_M_made 1 (some .int) ∈ AW ∧ (∃ (T : u_T) (N : Nat), zCl[8]? = some ((zy_M_made).cls, T, N)) ∧ (zy_M_made).cls ≠ "java/lang/invoke/MethodHandle" ∧ (zy_M_made).cls ≠ "java/lang/invoke/VarHandle" ∧ (parseMethodDescriptor (zy_M_made).desc).map (fun d => d.parameters.length) = some 0 := ⟨aw_400, aw_401, aw_402, aw_308, aw_403, ⟨_, _, rfl⟩, by decide, by decide, by decide⟩
theorem cv_M_126_M : Cond.methodLink RX10 126 zy_M_literals ∈ AW ∧ Cond.instanceMethod zy_M_literals ∈ AW ∧ Cond.selects (zy_M_literals).cls zy_M_literals zy_M_literals ∈ AW ∧ Cond.initialized (zy_M_literals).cls ∈ AW ∧ Cond.code zy_M_literals zc_M_literals 4 none ∈ AW ∧ (∃ (T : u_T) (N : Nat), zCl[8]? = some ((zy_M_literals).cls, T, N)) ∧ (zy_M_literals).cls ≠ "java/lang/invoke/MethodHandle" ∧ (zy_M_literals).cls ≠ "java/lang/invoke/VarHandle" ∧ (parseMethodDescriptor (zy_M_literals).desc).map (fun d => d.parameters.length) = some 1 := ⟨aw_404, aw_405, aw_406, aw_308, aw_407, ⟨_, _, rfl⟩, by decide, by decide, by decide⟩
theorem cv_M_129_M : Cond.methodLink RX10 129 zy_M_copies ∈ AW ∧ Cond.instanceMethod zy_M_copies ∈ AW ∧ Cond.selects (zy_M_copies).cls zy_M_copies zy_M_copies ∈ AW ∧ Cond.initialized (zy_M_copies).cls ∈ AW ∧ Cond.code zy_M_copies zc_M_copies 4 none ∈ AW ∧ (∃ (T : u_T) (N : Nat), zCl[8]? = some ((zy_M_copies).cls, T, N)) ∧ (zy_M_copies).cls ≠ "java/lang/invoke/MethodHandle" ∧ (zy_M_copies).cls ≠ "java/lang/invoke/VarHandle" ∧ (parseMethodDescriptor (zy_M_copies).desc).map (fun d => d.parameters.length) = some 2 := ⟨aw_408, aw_409, aw_410, aw_308, aw_411, ⟨_, _, rfl⟩, by decide, by decide, by decide⟩
theorem cv_M_132_M : Cond.methodLink RX10 132 zy_M_element ∈ AW ∧ Cond.instanceMethod zy_M_element ∈ AW ∧ Cond.selects (zy_M_element).cls zy_M_element zy_M_element ∈ AW ∧ Cond.initialized (zy_M_element).cls ∈ AW ∧ Cond.code zy_M_element zc_M_element 8 none ∈ AW ∧ (∃ (T : u_T) (N : Nat), zCl[8]? = some ((zy_M_element).cls, T, N)) ∧ (zy_M_element).cls ≠ "java/lang/invoke/MethodHandle" ∧ (zy_M_element).cls ≠ "java/lang/invoke/VarHandle" ∧ (parseMethodDescriptor (zy_M_element).desc).map (fun d => d.parameters.length) = some 1 := ⟨aw_412, aw_413, aw_414, aw_308, aw_415, ⟨_, _, rfl⟩, by decide, by decide, by decide⟩
theorem cv_M_138_M : Cond.methodLink RX10 138 zy_M_readOne ∈ AW ∧ Cond.instanceMethod zy_M_readOne ∈ AW ∧ Cond.selects (zy_M_readOne).cls zy_M_readOne zy_M_readOne ∈ AW ∧ Cond.initialized (zy_M_readOne).cls ∈ AW ∧ Cond.code zy_M_readOne zc_M_readOne 3 none ∈ AW ∧ (∃ (T : u_T) (N : Nat), zCl[8]? = some ((zy_M_readOne).cls, T, N)) ∧ (zy_M_readOne).cls ≠ "java/lang/invoke/MethodHandle" ∧ (zy_M_readOne).cls ≠ "java/lang/invoke/VarHandle" ∧ (parseMethodDescriptor (zy_M_readOne).desc).map (fun d => d.parameters.length) = some 0 := ⟨aw_416, aw_417, aw_418, aw_308, aw_419, ⟨_, _, rfl⟩, by decide, by decide, by decide⟩
theorem cv_M_135_M : Cond.methodLink RX10 135 zy_M_readZero ∈ AW ∧ Cond.instanceMethod zy_M_readZero ∈ AW ∧ Cond.selects (zy_M_readZero).cls zy_M_readZero zy_M_readZero ∈ AW ∧ Cond.initialized (zy_M_readZero).cls ∈ AW ∧ Cond.code zy_M_readZero zc_M_readZero 9 none ∈ AW ∧ (∃ (T : u_T) (N : Nat), zCl[8]? = some ((zy_M_readZero).cls, T, N)) ∧ (zy_M_readZero).cls ≠ "java/lang/invoke/MethodHandle" ∧ (zy_M_readZero).cls ≠ "java/lang/invoke/VarHandle" ∧ (parseMethodDescriptor (zy_M_readZero).desc).map (fun d => d.parameters.length) = some 0 := ⟨aw_420, aw_421, aw_422, aw_308, aw_423, ⟨_, _, rfl⟩, by decide, by decide, by decide⟩
theorem cv_M_142_M : Cond.methodLink RX10 142 zy_M_rowInt ∈ AW ∧ Cond.instanceMethod zy_M_rowInt ∈ AW ∧ Cond.selects (zy_M_rowInt).cls zy_M_rowInt zy_M_rowInt ∈ AW ∧ Cond.initialized (zy_M_rowInt).cls ∈ AW ∧ Cond.code zy_M_rowInt zc_M_rowInt 4 (some .int) ∈ AW ∧ (∃ (T : u_T) (N : Nat), zCl[8]? = some ((zy_M_rowInt).cls, T, N)) ∧ (zy_M_rowInt).cls ≠ "java/lang/invoke/MethodHandle" ∧ (zy_M_rowInt).cls ≠ "java/lang/invoke/VarHandle" ∧ (parseMethodDescriptor (zy_M_rowInt).desc).map (fun d => d.parameters.length) = some 2 := ⟨aw_425, aw_426, aw_427, aw_308, aw_428, ⟨_, _, rfl⟩, by decide, by decide, by decide⟩
theorem cv_M_146_M : Cond.methodLink RX10 146 zy_M_turn ∈ AW ∧ Cond.static zy_M_turn ∈ AW ∧ Cond.initialized RX10 ∈ AW ∧ Cond.code zy_M_turn zc_M_turn 2 (some .int) ∈ AW ∧ (zy_M_turn).cls = RX10 ∧ (zy_M_turn).cls ≠ "java/lang/invoke/MethodHandle" ∧ (zy_M_turn).cls ≠ "java/lang/invoke/VarHandle" ∧ (parseMethodDescriptor (zy_M_turn).desc).map (fun d => d.parameters.length) = some 2 := ⟨aw_430, aw_431, aw_308, aw_432, rfl, by decide, by decide, by decide⟩
theorem cv_M_150_M : Cond.methodLink RX10 150 zy_M_lane ∈ AW ∧ Cond.instanceMethod zy_M_lane ∈ AW ∧ Cond.selects (zy_M_lane).cls zy_M_lane zy_M_lane ∈ AW ∧ Cond.initialized (zy_M_lane).cls ∈ AW ∧ Cond.code zy_M_lane zc_M_lane 6 (some .int) ∈ AW ∧ (∃ (T : u_T) (N : Nat), zCl[8]? = some ((zy_M_lane).cls, T, N)) ∧ (zy_M_lane).cls ≠ "java/lang/invoke/MethodHandle" ∧ (zy_M_lane).cls ≠ "java/lang/invoke/VarHandle" ∧ (parseMethodDescriptor (zy_M_lane).desc).map (fun d => d.parameters.length) = some 3 := ⟨aw_434, aw_435, aw_436, aw_308, aw_437, ⟨_, _, rfl⟩, by decide, by decide, by decide⟩
theorem cv_D_32_R : Cond.methodLink RX4 32 zy_R_clear ∈ AW ∧ Cond.instanceMethod zy_R_clear ∈ AW ∧ Cond.selects (zy_R_clear).cls zy_R_clear zy_R_clear ∈ AW ∧ Cond.initialized (zy_R_clear).cls ∈ AW ∧ Cond.code zy_R_clear zc_R_clear 1 none ∈ AW ∧ (∃ (T : u_T) (N : Nat), zCl[4]? = some ((zy_R_clear).cls, T, N)) ∧ (zy_R_clear).cls ≠ "java/lang/invoke/MethodHandle" ∧ (zy_R_clear).cls ≠ "java/lang/invoke/VarHandle" ∧ (parseMethodDescriptor (zy_R_clear).desc).map (fun d => d.parameters.length) = some 0 := ⟨aw_440, aw_10, aw_11, aw_7, aw_12, ⟨_, _, rfl⟩, by decide, by decide, by decide⟩
theorem fa_X_87_R : FA RX9 87 4 1 RX5 TX5 2 := ⟨uw_5, rfl, by decide, "PressSuite$Row", Or.inr ⟨"PressSuite", nw_10⟩, Or.inl rfl⟩
theorem cv_X_163_R : Cond.methodLink RX9 163 zy_R_intAt ∈ AW ∧ Cond.instanceMethod zy_R_intAt ∈ AW ∧ Cond.selects (zy_R_intAt).cls zy_R_intAt zy_R_intAt ∈ AW ∧ Cond.initialized (zy_R_intAt).cls ∈ AW ∧ Cond.code zy_R_intAt zc_R_intAt 2 (some .int) ∈ AW ∧ (∃ (T : u_T) (N : Nat), zCl[4]? = some ((zy_R_intAt).cls, T, N)) ∧ (zy_R_intAt).cls ≠ "java/lang/invoke/MethodHandle" ∧ (zy_R_intAt).cls ≠ "java/lang/invoke/VarHandle" ∧ (parseMethodDescriptor (zy_R_intAt).desc).map (fun d => d.parameters.length) = some 1 := ⟨aw_444, aw_445, aw_446, aw_7, aw_447, ⟨_, _, rfl⟩, by decide, by decide, by decide⟩
theorem cv_X_159_X : Cond.methodLink RX9 159 zy_X_turnLeft ∈ AW ∧ Cond.static zy_X_turnLeft ∈ AW ∧ Cond.initialized RX9 ∈ AW ∧ Cond.code zy_X_turnLeft zc_X_turnLeft 2 (some .int) ∈ AW ∧ (zy_X_turnLeft).cls = RX9 ∧ (zy_X_turnLeft).cls ≠ "java/lang/invoke/MethodHandle" ∧ (zy_X_turnLeft).cls ≠ "java/lang/invoke/VarHandle" ∧ (parseMethodDescriptor (zy_X_turnLeft).desc).map (fun d => d.parameters.length) = some 2 := ⟨aw_448, aw_449, aw_450, aw_451, rfl, by decide, by decide, by decide⟩
theorem cv_X_155_X : Cond.methodLink RX9 155 zy_X_lane ∈ AW ∧ Cond.static zy_X_lane ∈ AW ∧ Cond.initialized RX9 ∈ AW ∧ Cond.code zy_X_lane zc_X_lane 5 (some .int) ∈ AW ∧ (zy_X_lane).cls = RX9 ∧ (zy_X_lane).cls ≠ "java/lang/invoke/MethodHandle" ∧ (zy_X_lane).cls ≠ "java/lang/invoke/VarHandle" ∧ (parseMethodDescriptor (zy_X_lane).desc).map (fun d => d.parameters.length) = some 3 := ⟨aw_452, aw_453, aw_450, aw_454, rfl, by decide, by decide, by decide⟩
theorem cv_X_122_R : Cond.methodLink RX9 122 zy_R_byteAt ∈ AW ∧ Cond.instanceMethod zy_R_byteAt ∈ AW ∧ Cond.selects (zy_R_byteAt).cls zy_R_byteAt zy_R_byteAt ∈ AW ∧ Cond.initialized (zy_R_byteAt).cls ∈ AW ∧ Cond.code zy_R_byteAt zc_R_byteAt 2 (some .int) ∈ AW ∧ (∃ (T : u_T) (N : Nat), zCl[4]? = some ((zy_R_byteAt).cls, T, N)) ∧ (zy_R_byteAt).cls ≠ "java/lang/invoke/MethodHandle" ∧ (zy_R_byteAt).cls ≠ "java/lang/invoke/VarHandle" ∧ (parseMethodDescriptor (zy_R_byteAt).desc).map (fun d => d.parameters.length) = some 1 := ⟨aw_457, aw_5, aw_6, aw_7, aw_8, ⟨_, _, rfl⟩, by decide, by decide, by decide⟩
end
section
def zf_R_room (rn : Int32) (rl : Nat) : Option (Int32) := some ((Int32.ofNat rl) - rn)

def zf_R_add (rn : Int32) (rl : Nat) (rf : Nat → Int32) (i1 : Int32) : Option (Int32 × (Nat → Int32)) := if rn < 0 then some (rn, rf) else if (Int32.ofNat rl) ≤ rn then some (rn, rf) else gd (¬ (rn < 0 ∨ rl ≤ Int32.toNatClampNeg rn)) <| bnd (upd rf (Int32.toNatClampNeg rn) (vp_nar .byte (i1.toInt8.toInt32))) fun v1 => bnd (rn + (1 : Int32)) fun v2 => some (v2, v1)

def zf_R_clear  : Option (Int32) := some (0 : Int32)

def zf_R_byteAt (rn : Int32) (rl : Nat) (rf : Nat → Int32) (i1 : Int32) : Option (Int32) := if i1 < 0 then some (0 : Int32) else if rn ≤ i1 then some (0 : Int32) else if (Int32.ofNat rl) ≤ i1 then some (0 : Int32) else gd (¬ (i1 < 0 ∨ rl ≤ Int32.toNatClampNeg i1)) <| some ((rf (Int32.toNatClampNeg i1)) &&& (255 : Int32))

def zf_R_intAt (rn : Int32) (rl : Nat) (rf : Nat → Int32) (i1 : Int32) : Option (Int32) := bc1 (zf_R_byteAt rn rl rf i1) fun v1 => bc1 (zf_R_byteAt rn rl rf (i1 + (1 : Int32))) fun v2 => bc1 (zf_R_byteAt rn rl rf (i1 + (2 : Int32))) fun v3 => bc1 (zf_R_byteAt rn rl rf (i1 + (3 : Int32))) fun v4 => some (((v1 ||| (v2 <<< ((8 : Int32) &&& 31))) ||| (v3 <<< ((16 : Int32) &&& 31))) ||| (v4 <<< ((24 : Int32) &&& 31)))

def zf_R_become_L6 (rl : Nat) (on : Int32) (ol : Nat) (of : Nat → Int32) : Nat → (Int32) → (Int32) → (Nat → Int32) → Option (Int32 × Int32 × (Nat → Int32))
  | 0, _, _, _ => none
  | n + 1, v2, v3, v4 => if on ≤ v2 then some (v2, v3, v4) else bc1 (zf_R_byteAt on ol of v2) fun v5 => bc2 (zf_R_add v3 rl v4 v5) fun v6 v7 => bnd (v2 + (1 : Int32)) fun v8 => zf_R_become_L6 rl on ol of n v8 v6 v7
theorem zf_R_become_L6_0 (rl : Nat) (on : Int32) (ol : Nat) (of : Nat → Int32) (v2 : Int32) (v3 : Int32) (v4 : Nat → Int32) : zf_R_become_L6 rl on ol of 0 v2 v3 v4 = none := rfl
theorem zf_R_become_L6_s (rl : Nat) (on : Int32) (ol : Nat) (of : Nat → Int32) (n : Nat) (v2 : Int32) (v3 : Int32) (v4 : Nat → Int32) : zf_R_become_L6 rl on ol of (n + 1) v2 v3 v4 = (if on ≤ v2 then some (v2, v3, v4) else bc1 (zf_R_byteAt on ol of v2) fun v5 => bc2 (zf_R_add v3 rl v4 v5) fun v6 v7 => bnd (v2 + (1 : Int32)) fun v8 => zf_R_become_L6 rl on ol of n v8 v6 v7) := rfl
def zf_R_become (rl : Nat) (rf : Nat → Int32) (on : Int32) (ol : Nat) (of : Nat → Int32) : Option (Int32 × (Nat → Int32)) := bc1 (zf_R_clear) fun v1 => bc3 (zf_R_become_L6 rl on ol of 1000 (0 : Int32) v1 rf) fun x9 x10 x11 => some (x10, x11)

def zf_H_length (pn : Int32) (qn : Int32) : Option (Int32) := some (pn + qn)

def zf_H_byteAt (pn : Int32) (pl : Nat) (pf : Nat → Int32) (qn : Int32) (ql : Nat) (qf : Nat → Int32) (i1 : Int32) : Option (Int32) := if pn ≤ i1 then bc1 (zf_R_byteAt qn ql qf (i1 - pn)) fun v1 => some v1 else bc1 (zf_R_byteAt pn pl pf i1) fun v2 => some v2

def zf_H_intAt (pn : Int32) (pl : Nat) (pf : Nat → Int32) (qn : Int32) (ql : Nat) (qf : Nat → Int32) (i1 : Int32) : Option (Int32) := bc1 (zf_H_byteAt pn pl pf qn ql qf i1) fun v1 => bc1 (zf_H_byteAt pn pl pf qn ql qf (i1 + (1 : Int32))) fun v2 => bc1 (zf_H_byteAt pn pl pf qn ql qf (i1 + (2 : Int32))) fun v3 => bc1 (zf_H_byteAt pn pl pf qn ql qf (i1 + (3 : Int32))) fun v4 => some (((v1 ||| (v2 <<< ((8 : Int32) &&& 31))) ||| (v3 <<< ((16 : Int32) &&& 31))) ||| (v4 <<< ((24 : Int32) &&& 31)))

def zf_P_exchange (pn : Int32) (pl : Nat) (pf : Nat → Int32) (qn : Int32) (ql : Nat) (qf : Nat → Int32) (tf : Nat → Int32) (i1 : Int32) : Option (Int32 × (Nat → Int32)) := bc1 (zf_H_intAt pn pl pf qn ql qf i1) fun v1 => bnd (ush (v1 * (-1640531535 : Int32)) (27 : Int32)) fun v2 => if v2 < 0 then some ((-1 : Int32), tf) else if v2 < (Int32.ofNat 32) then gd (¬ (v2 < 0 ∨ 32 ≤ Int32.toNatClampNeg v2)) <| bnd (tf (Int32.toNatClampNeg v2)) fun v3 => gd (¬ (v2 < 0 ∨ 32 ≤ Int32.toNatClampNeg v2)) <| bnd (upd tf (Int32.toNatClampNeg v2) i1) fun v4 => some (v3, v4) else some ((-1 : Int32), tf)

def zf_P_learnPast_L2  : Nat → (Int32) → (Nat → Int32) → Option (Int32 × (Nat → Int32))
  | 0, _, _ => none
  | n + 1, v1, v2 => if (Int32.ofNat 32) ≤ v1 then some (v1, v2) else gd (¬ (v1 < 0 ∨ 32 ≤ Int32.toNatClampNeg v1)) <| bnd (upd v2 (Int32.toNatClampNeg v1) (-1 : Int32)) fun v3 => bnd (v1 + (1 : Int32)) fun v4 => zf_P_learnPast_L2 n v4 v3
theorem zf_P_learnPast_L2_0  (v1 : Int32) (v2 : Nat → Int32) : zf_P_learnPast_L2  0 v1 v2 = none := rfl
theorem zf_P_learnPast_L2_s  (n : Nat) (v1 : Int32) (v2 : Nat → Int32) : zf_P_learnPast_L2  (n + 1) v1 v2 = (if (Int32.ofNat 32) ≤ v1 then some (v1, v2) else gd (¬ (v1 < 0 ∨ 32 ≤ Int32.toNatClampNeg v1)) <| bnd (upd v2 (Int32.toNatClampNeg v1) (-1 : Int32)) fun v3 => bnd (v1 + (1 : Int32)) fun v4 => zf_P_learnPast_L2 n v4 v3) := rfl
def zf_P_learnPast_L26 (pn : Int32) (pl : Nat) (pf : Nat → Int32) (qn : Int32) (ql : Nat) (qf : Nat → Int32) : Nat → (Int32) → (Nat → Int32) → Option (Int32 × (Nat → Int32))
  | 0, _, _ => none
  | n + 1, v7, v8 => if pn < (v7 + (4 : Int32)) then some (v7, v8) else bc2 (zf_P_exchange pn pl pf qn ql qf v8 v7) fun v9 v10 => bnd (v7 + (1 : Int32)) fun v11 => zf_P_learnPast_L26 pn pl pf qn ql qf n v11 v10
theorem zf_P_learnPast_L26_0 (pn : Int32) (pl : Nat) (pf : Nat → Int32) (qn : Int32) (ql : Nat) (qf : Nat → Int32) (v7 : Int32) (v8 : Nat → Int32) : zf_P_learnPast_L26 pn pl pf qn ql qf 0 v7 v8 = none := rfl
theorem zf_P_learnPast_L26_s (pn : Int32) (pl : Nat) (pf : Nat → Int32) (qn : Int32) (ql : Nat) (qf : Nat → Int32) (n : Nat) (v7 : Int32) (v8 : Nat → Int32) : zf_P_learnPast_L26 pn pl pf qn ql qf (n + 1) v7 v8 = (if pn < (v7 + (4 : Int32)) then some (v7, v8) else bc2 (zf_P_exchange pn pl pf qn ql qf v8 v7) fun v9 v10 => bnd (v7 + (1 : Int32)) fun v11 => zf_P_learnPast_L26 pn pl pf qn ql qf n v11 v10) := rfl
def zf_P_learnPast (pn : Int32) (pl : Nat) (pf : Nat → Int32) (qn : Int32) (ql : Nat) (qf : Nat → Int32) (tf : Nat → Int32) : Option (Nat → Int32) := bc2 (zf_P_learnPast_L2  1000 (0 : Int32) tf) fun x5 x6 => bc2 (zf_P_learnPast_L26 pn pl pf qn ql qf 1000 (0 : Int32) x6) fun x12 x13 => some x13

def zf_SW_begin  : Option (Int32) := bc1 (zf_R_clear) fun v1 => some v1

def zf_P_matchLength_L15 (pn : Int32) (pl : Nat) (pf : Nat → Int32) (qn : Int32) (ql : Nat) (qf : Nat → Int32) (i1 : Int32) (i2 : Int32) (v2 : Int32) : Nat → (Int32) → Option (Int32)
  | 0, _ => none
  | n + 1, v3 => if v2 ≤ v3 then some v3 else bc1 (zf_H_byteAt pn pl pf qn ql qf (i1 + v3)) fun v4 => bc1 (zf_H_byteAt pn pl pf qn ql qf (i2 + v3)) fun v5 => if v4 = v5 then bnd (v3 + (1 : Int32)) fun v6 => zf_P_matchLength_L15 pn pl pf qn ql qf i1 i2 v2 n v6 else some v3
theorem zf_P_matchLength_L15_0 (pn : Int32) (pl : Nat) (pf : Nat → Int32) (qn : Int32) (ql : Nat) (qf : Nat → Int32) (i1 : Int32) (i2 : Int32) (v2 : Int32) (v3 : Int32) : zf_P_matchLength_L15 pn pl pf qn ql qf i1 i2 v2 0 v3 = none := rfl
theorem zf_P_matchLength_L15_s (pn : Int32) (pl : Nat) (pf : Nat → Int32) (qn : Int32) (ql : Nat) (qf : Nat → Int32) (i1 : Int32) (i2 : Int32) (v2 : Int32) (n : Nat) (v3 : Int32) : zf_P_matchLength_L15 pn pl pf qn ql qf i1 i2 v2 (n + 1) v3 = (if v2 ≤ v3 then some v3 else bc1 (zf_H_byteAt pn pl pf qn ql qf (i1 + v3)) fun v4 => bc1 (zf_H_byteAt pn pl pf qn ql qf (i2 + v3)) fun v5 => if v4 = v5 then bnd (v3 + (1 : Int32)) fun v6 => zf_P_matchLength_L15 pn pl pf qn ql qf i1 i2 v2 n v6 else some v3) := rfl
def zf_P_matchLength (pn : Int32) (pl : Nat) (pf : Nat → Int32) (qn : Int32) (ql : Nat) (qf : Nat → Int32) (i1 : Int32) (i2 : Int32) : Option (Int32) := bc1 (zf_H_length pn qn) fun v1 => bnd ((v1 - (5 : Int32)) - i2) fun v2 => bc1 (zf_P_matchLength_L15 pn pl pf qn ql qf i1 i2 v2 1000 (0 : Int32)) fun x7 => some x7

def zf_SW_writeSum_L12 (ol : Nat) : Nat → (Int32) → (Int32) → (Nat → Int32) → Option (Int32 × Int32 × (Nat → Int32))
  | 0, _, _, _ => none
  | n + 1, v2, v3, v4 => if v2 < (255 : Int32) then some (v2, v3, v4) else bc2 (zf_R_add v3 ol v4 (255 : Int32)) fun v5 v6 => bnd (v2 + (-255 : Int32)) fun v7 => zf_SW_writeSum_L12 ol n v7 v5 v6
theorem zf_SW_writeSum_L12_0 (ol : Nat) (v2 : Int32) (v3 : Int32) (v4 : Nat → Int32) : zf_SW_writeSum_L12 ol 0 v2 v3 v4 = none := rfl
theorem zf_SW_writeSum_L12_s (ol : Nat) (n : Nat) (v2 : Int32) (v3 : Int32) (v4 : Nat → Int32) : zf_SW_writeSum_L12 ol (n + 1) v2 v3 v4 = (if v2 < (255 : Int32) then some (v2, v3, v4) else bc2 (zf_R_add v3 ol v4 (255 : Int32)) fun v5 v6 => bnd (v2 + (-255 : Int32)) fun v7 => zf_SW_writeSum_L12 ol n v7 v5 v6) := rfl
def zf_SW_writeSum (on : Int32) (ol : Nat) (of : Nat → Int32) (i1 : Int32) : Option (Int32 × (Nat → Int32)) := if (15 : Int32) ≤ i1 then bnd (i1 - (15 : Int32)) fun v1 => bc3 (zf_SW_writeSum_L12 ol 1000 v1 on of) fun x8 x9 x10 => bc2 (zf_R_add x9 ol x10 x8) fun v11 v12 => some (v11, v12) else some (on, of)

def zf_W_writePlain_L2 (qn : Int32) (ql : Nat) (qf : Nat → Int32) (ol : Nat) (i2 : Int32) : Nat → (Int32) → (Int32) → (Nat → Int32) → Option (Int32 × Int32 × (Nat → Int32))
  | 0, _, _, _ => none
  | n + 1, v1, v2, v3 => if i2 ≤ v1 then some (v1, v2, v3) else bc1 (zf_R_byteAt qn ql qf v1) fun v4 => bc2 (zf_R_add v2 ol v3 v4) fun v5 v6 => bnd (v1 + (1 : Int32)) fun v7 => zf_W_writePlain_L2 qn ql qf ol i2 n v7 v5 v6
theorem zf_W_writePlain_L2_0 (qn : Int32) (ql : Nat) (qf : Nat → Int32) (ol : Nat) (i2 : Int32) (v1 : Int32) (v2 : Int32) (v3 : Nat → Int32) : zf_W_writePlain_L2 qn ql qf ol i2 0 v1 v2 v3 = none := rfl
theorem zf_W_writePlain_L2_s (qn : Int32) (ql : Nat) (qf : Nat → Int32) (ol : Nat) (i2 : Int32) (n : Nat) (v1 : Int32) (v2 : Int32) (v3 : Nat → Int32) : zf_W_writePlain_L2 qn ql qf ol i2 (n + 1) v1 v2 v3 = (if i2 ≤ v1 then some (v1, v2, v3) else bc1 (zf_R_byteAt qn ql qf v1) fun v4 => bc2 (zf_R_add v2 ol v3 v4) fun v5 v6 => bnd (v1 + (1 : Int32)) fun v7 => zf_W_writePlain_L2 qn ql qf ol i2 n v7 v5 v6) := rfl
def zf_W_writePlain (qn : Int32) (ql : Nat) (qf : Nat → Int32) (on : Int32) (ol : Nat) (of : Nat → Int32) (i1 : Int32) (i2 : Int32) : Option (Int32 × (Nat → Int32)) := bc3 (zf_W_writePlain_L2 qn ql qf ol i2 1000 i1 on of) fun x8 x9 x10 => some (x9, x10)

def zf_SW_writeLiterals (qn : Int32) (ql : Nat) (qf : Nat → Int32) (on : Int32) (ol : Nat) (of : Nat → Int32) (i1 : Int32) (i2 : Int32) (i3 : Int32) : Option (Int32 × (Nat → Int32)) := bnd (i2 - i1) fun v1 => bnd (if (15 : Int32) < v1 then (15 : Int32) else v1) fun v2 => bc2 (zf_R_add on ol of ((v2 <<< ((4 : Int32) &&& 31)) ||| i3)) fun v3 v4 => bc2 (zf_SW_writeSum v3 ol v4 v1) fun v5 v6 => bc2 (zf_W_writePlain qn ql qf v5 ol v6 i1 i2) fun v7 v8 => some (v7, v8)

def zf_SW_match (qn : Int32) (ql : Nat) (qf : Nat → Int32) (on : Int32) (ol : Nat) (of : Nat → Int32) (i1 : Int32) (i2 : Int32) (i3 : Int32) (i4 : Int32) : Option (Int32 × (Nat → Int32)) := bnd (i4 - (4 : Int32)) fun v1 => bnd (if (15 : Int32) < v1 then (15 : Int32) else v1) fun v2 => bc2 (zf_SW_writeLiterals qn ql qf on ol of i1 i2 v2) fun v3 v4 => bc2 (zf_R_add v3 ol v4 i3) fun v5 v6 => bc2 (zf_R_add v5 ol v6 (i3 >>> ((8 : Int32) &&& 31))) fun v7 v8 => bc2 (zf_SW_writeSum v7 ol v8 v1) fun v9 v10 => some (v9, v10)

def zf_P_copyFrom_S (pn : Int32) (pl : Nat) (pf : Nat → Int32) (qn : Int32) (ql : Nat) (qf : Nat → Int32) (tf : Nat → Int32) (an : Int32) (mt : Int32) (co : Int32) (i1 : Int32) (on : Int32) (ol : Nat) (of : Nat → Int32) : Option (Int32 × Int32 × Int32 × Int32 × (Nat → Int32) × Int32 × (Nat → Int32)) := bnd (pn + i1) fun v1 => bc2 (zf_P_exchange pn pl pf qn ql qf tf v1) fun v2 v3 => if v2 = (-1 : Int32) then some ((0 : Int32), an, mt, co, v3, on, of) else bc1 (zf_H_intAt pn pl pf qn ql qf v2) fun v4 => bc1 (zf_H_intAt pn pl pf qn ql qf v1) fun v5 => if v4 = v5 then bc1 (zf_P_matchLength pn pl pf qn ql qf v2 v1) fun v6 => bc2 (zf_SW_match qn ql qf on ol of an i1 (v1 - v2) v6) fun v7 v8 => bnd (i1 + v6) fun v9 => bnd (mt + (1 : Int32)) fun v10 => bnd (co + v6) fun v11 => some (v6, v9, v10, v11, v3, v7, v8) else some ((0 : Int32), an, mt, co, v3, on, of)

def zf_SW_end (qn : Int32) (ql : Nat) (qf : Nat → Int32) (on : Int32) (ol : Nat) (of : Nat → Int32) (i1 : Int32) : Option (Int32 × (Nat → Int32)) := bc2 (zf_SW_writeLiterals qn ql qf on ol of i1 qn (0 : Int32)) fun v1 v2 => some (v1, v2)

def zf_P_run_S_L25 (pn : Int32) (pl : Nat) (pf : Nat → Int32) (qn : Int32) (ql : Nat) (qf : Nat → Int32) (ol : Nat) : Nat → (Int32) → (Int32) → (Int32) → (Int32) → (Nat → Int32) → (Int32) → (Nat → Int32) → Option (Int32 × Int32 × Int32 × Int32 × (Nat → Int32) × Int32 × (Nat → Int32))
  | 0, _, _, _, _, _, _, _ => none
  | n + 1, v3, v4, v5, v6, v7, v8, v9 => if qn < (v3 + (12 : Int32)) then some (v3, v4, v5, v6, v7, v8, v9) else bc7 (zf_P_copyFrom_S pn pl pf qn ql qf v7 v4 v5 v6 v3 v8 ol v9) fun v10 v11 v12 v13 v14 v15 v16 => bnd (if (1 : Int32) < v10 then v10 else (1 : Int32)) fun v17 => bnd (v3 + v17) fun v18 => zf_P_run_S_L25 pn pl pf qn ql qf ol n v18 v11 v12 v13 v14 v15 v16
theorem zf_P_run_S_L25_0 (pn : Int32) (pl : Nat) (pf : Nat → Int32) (qn : Int32) (ql : Nat) (qf : Nat → Int32) (ol : Nat) (v3 : Int32) (v4 : Int32) (v5 : Int32) (v6 : Int32) (v7 : Nat → Int32) (v8 : Int32) (v9 : Nat → Int32) : zf_P_run_S_L25 pn pl pf qn ql qf ol 0 v3 v4 v5 v6 v7 v8 v9 = none := rfl
theorem zf_P_run_S_L25_s (pn : Int32) (pl : Nat) (pf : Nat → Int32) (qn : Int32) (ql : Nat) (qf : Nat → Int32) (ol : Nat) (n : Nat) (v3 : Int32) (v4 : Int32) (v5 : Int32) (v6 : Int32) (v7 : Nat → Int32) (v8 : Int32) (v9 : Nat → Int32) : zf_P_run_S_L25 pn pl pf qn ql qf ol (n + 1) v3 v4 v5 v6 v7 v8 v9 = (if qn < (v3 + (12 : Int32)) then some (v3, v4, v5, v6, v7, v8, v9) else bc7 (zf_P_copyFrom_S pn pl pf qn ql qf v7 v4 v5 v6 v3 v8 ol v9) fun v10 v11 v12 v13 v14 v15 v16 => bnd (if (1 : Int32) < v10 then v10 else (1 : Int32)) fun v17 => bnd (v3 + v17) fun v18 => zf_P_run_S_L25 pn pl pf qn ql qf ol n v18 v11 v12 v13 v14 v15 v16) := rfl
def zf_P_run_S (pn : Int32) (pl : Nat) (pf : Nat → Int32) (qn : Int32) (ql : Nat) (qf : Nat → Int32) (tf : Nat → Int32) (ol : Nat) (of : Nat → Int32) : Option (Int32 × Int32 × Int32 × (Nat → Int32) × Int32 × (Nat → Int32)) := bc1 (zf_P_learnPast pn pl pf qn ql qf tf) fun v1 => bc1 (zf_SW_begin) fun v2 => bc7 (zf_P_run_S_L25 pn pl pf qn ql qf ol 1000 (0 : Int32) (0 : Int32) (0 : Int32) (0 : Int32) v1 v2 of) fun x19 x20 x21 x22 x23 x24 x25 => bc2 (zf_SW_end qn ql qf x24 ol x25 x20) fun v26 v27 => some (x20, x21, x22, x23, v26, v27)

def zf_EW_begin_L15 (ol : Nat) : Nat → (Int32) → (Int32) → (Nat → Int32) → Option (Int32 × Int32 × (Nat → Int32))
  | 0, _, _, _ => none
  | n + 1, v2, v3, v4 => if v2 ≤ (127 : Int32) then some (v2, v3, v4) else bc2 (zf_R_add v3 ol v4 ((v2 &&& (127 : Int32)) ||| (128 : Int32))) fun v5 v6 => bnd (ush v2 (7 : Int32)) fun v7 => zf_EW_begin_L15 ol n v7 v5 v6
theorem zf_EW_begin_L15_0 (ol : Nat) (v2 : Int32) (v3 : Int32) (v4 : Nat → Int32) : zf_EW_begin_L15 ol 0 v2 v3 v4 = none := rfl
theorem zf_EW_begin_L15_s (ol : Nat) (n : Nat) (v2 : Int32) (v3 : Int32) (v4 : Nat → Int32) : zf_EW_begin_L15 ol (n + 1) v2 v3 v4 = (if v2 ≤ (127 : Int32) then some (v2, v3, v4) else bc2 (zf_R_add v3 ol v4 ((v2 &&& (127 : Int32)) ||| (128 : Int32))) fun v5 v6 => bnd (ush v2 (7 : Int32)) fun v7 => zf_EW_begin_L15 ol n v7 v5 v6) := rfl
def zf_EW_begin (qn : Int32) (ol : Nat) (of : Nat → Int32) : Option (Int32 × (Nat → Int32)) := bc1 (zf_R_clear) fun v1 => bc3 (zf_EW_begin_L15 ol 1000 qn v1 of) fun x8 x9 x10 => bc2 (zf_R_add x9 ol x10 x8) fun v11 v12 => some (v11, v12)


def zf_EW_writeLiterals (qn : Int32) (ql : Nat) (qf : Nat → Int32) (on : Int32) (ol : Nat) (of : Nat → Int32) (i1 : Int32) (i2 : Int32) : Option (Int32 × (Nat → Int32)) := if i1 < i2 then bnd ((i2 - i1) - (1 : Int32)) fun v1 => bc2 (if (60 : Int32) ≤ v1 then bc2 (zf_R_add on ol of (240 : Int32)) fun v4 v5 => bc2 (zf_R_add v4 ol v5 v1) fun v6 v7 => some (v6, v7) else bc2 (zf_R_add on ol of (v1 <<< ((2 : Int32) &&& 31))) fun v8 v9 => some (v8, v9)) fun u2 u3 => bc2 (zf_W_writePlain qn ql qf u2 ol u3 i1 i2) fun v10 v11 => some (v10, v11) else some (on, of)

def zf_EW_writeLong (on : Int32) (ol : Nat) (of : Nat → Int32) (i1 : Int32) (i2 : Int32) : Option (Int32 × (Nat → Int32)) := bc2 (zf_R_add on ol of (((i2 - (1 : Int32)) <<< ((2 : Int32) &&& 31)) ||| (2 : Int32))) fun v1 v2 => bc2 (zf_R_add v1 ol v2 i1) fun v3 v4 => bc2 (zf_R_add v3 ol v4 (i1 >>> ((8 : Int32) &&& 31))) fun v5 v6 => some (v5, v6)

def zf_EW_writeCopy (on : Int32) (ol : Nat) (of : Nat → Int32) (i1 : Int32) (i2 : Int32) : Option (Int32 × (Nat → Int32)) := if i2 < (4 : Int32) then bc2 (zf_EW_writeLong on ol of i1 i2) fun v1 v2 => some (v1, v2) else if (11 : Int32) < i2 then bc2 (zf_EW_writeLong on ol of i1 i2) fun v3 v4 => some (v3, v4) else if (2048 : Int32) ≤ i1 then bc2 (zf_EW_writeLong on ol of i1 i2) fun v5 v6 => some (v5, v6) else bc2 (zf_R_add on ol of ((((i1 >>> ((8 : Int32) &&& 31)) <<< ((5 : Int32) &&& 31)) ||| ((i2 - (4 : Int32)) <<< ((2 : Int32) &&& 31))) ||| (1 : Int32))) fun v7 v8 => bc2 (zf_R_add v7 ol v8 i1) fun v9 v10 => some (v9, v10)

def zf_EW_match_L10 (ol : Nat) (i3 : Int32) : Nat → (Int32) → (Int32) → (Nat → Int32) → Option (Int32 × Int32 × (Nat → Int32))
  | 0, _, _, _ => none
  | n + 1, v3, v4, v5 => if v3 < (68 : Int32) then some (v3, v4, v5) else bc2 (zf_EW_writeLong v4 ol v5 i3 (64 : Int32)) fun v6 v7 => bnd (v3 + (-64 : Int32)) fun v8 => zf_EW_match_L10 ol i3 n v8 v6 v7
theorem zf_EW_match_L10_0 (ol : Nat) (i3 : Int32) (v3 : Int32) (v4 : Int32) (v5 : Nat → Int32) : zf_EW_match_L10 ol i3 0 v3 v4 v5 = none := rfl
theorem zf_EW_match_L10_s (ol : Nat) (i3 : Int32) (n : Nat) (v3 : Int32) (v4 : Int32) (v5 : Nat → Int32) : zf_EW_match_L10 ol i3 (n + 1) v3 v4 v5 = (if v3 < (68 : Int32) then some (v3, v4, v5) else bc2 (zf_EW_writeLong v4 ol v5 i3 (64 : Int32)) fun v6 v7 => bnd (v3 + (-64 : Int32)) fun v8 => zf_EW_match_L10 ol i3 n v8 v6 v7) := rfl
def zf_EW_match (qn : Int32) (ql : Nat) (qf : Nat → Int32) (on : Int32) (ol : Nat) (of : Nat → Int32) (i1 : Int32) (i2 : Int32) (i3 : Int32) (i4 : Int32) : Option (Int32 × (Nat → Int32)) := bc2 (zf_EW_writeLiterals qn ql qf on ol of i1 i2) fun v1 v2 => bc3 (zf_EW_match_L10 ol i3 1000 i4 v1 v2) fun x9 x10 x11 => bc3 (if x9 ≤ (64 : Int32) then some (x9, x10, x11) else bc2 (zf_EW_writeLong x10 ol x11 i3 (60 : Int32)) fun v15 v16 => bnd (x9 + (-60 : Int32)) fun v17 => some (v17, v15, v16)) fun u12 u13 u14 => bc2 (zf_EW_writeCopy u13 ol u14 i3 u12) fun v18 v19 => some (v18, v19)

def zf_P_copyFrom_E (pn : Int32) (pl : Nat) (pf : Nat → Int32) (qn : Int32) (ql : Nat) (qf : Nat → Int32) (tf : Nat → Int32) (an : Int32) (mt : Int32) (co : Int32) (i1 : Int32) (on : Int32) (ol : Nat) (of : Nat → Int32) : Option (Int32 × Int32 × Int32 × Int32 × (Nat → Int32) × Int32 × (Nat → Int32)) := bnd (pn + i1) fun v1 => bc2 (zf_P_exchange pn pl pf qn ql qf tf v1) fun v2 v3 => if v2 = (-1 : Int32) then some ((0 : Int32), an, mt, co, v3, on, of) else bc1 (zf_H_intAt pn pl pf qn ql qf v2) fun v4 => bc1 (zf_H_intAt pn pl pf qn ql qf v1) fun v5 => if v4 = v5 then bc1 (zf_P_matchLength pn pl pf qn ql qf v2 v1) fun v6 => bc2 (zf_EW_match qn ql qf on ol of an i1 (v1 - v2) v6) fun v7 v8 => bnd (i1 + v6) fun v9 => bnd (mt + (1 : Int32)) fun v10 => bnd (co + v6) fun v11 => some (v6, v9, v10, v11, v3, v7, v8) else some ((0 : Int32), an, mt, co, v3, on, of)

def zf_EW_end (qn : Int32) (ql : Nat) (qf : Nat → Int32) (on : Int32) (ol : Nat) (of : Nat → Int32) (i1 : Int32) : Option (Int32 × (Nat → Int32)) := bc2 (zf_EW_writeLiterals qn ql qf on ol of i1 qn) fun v1 v2 => some (v1, v2)

def zf_P_run_E_L25 (pn : Int32) (pl : Nat) (pf : Nat → Int32) (qn : Int32) (ql : Nat) (qf : Nat → Int32) (ol : Nat) : Nat → (Int32) → (Int32) → (Int32) → (Int32) → (Nat → Int32) → (Int32) → (Nat → Int32) → Option (Int32 × Int32 × Int32 × Int32 × (Nat → Int32) × Int32 × (Nat → Int32))
  | 0, _, _, _, _, _, _, _ => none
  | n + 1, v4, v5, v6, v7, v8, v9, v10 => if qn < (v4 + (12 : Int32)) then some (v4, v5, v6, v7, v8, v9, v10) else bc7 (zf_P_copyFrom_E pn pl pf qn ql qf v8 v5 v6 v7 v4 v9 ol v10) fun v11 v12 v13 v14 v15 v16 v17 => bnd (if (1 : Int32) < v11 then v11 else (1 : Int32)) fun v18 => bnd (v4 + v18) fun v19 => zf_P_run_E_L25 pn pl pf qn ql qf ol n v19 v12 v13 v14 v15 v16 v17
theorem zf_P_run_E_L25_0 (pn : Int32) (pl : Nat) (pf : Nat → Int32) (qn : Int32) (ql : Nat) (qf : Nat → Int32) (ol : Nat) (v4 : Int32) (v5 : Int32) (v6 : Int32) (v7 : Int32) (v8 : Nat → Int32) (v9 : Int32) (v10 : Nat → Int32) : zf_P_run_E_L25 pn pl pf qn ql qf ol 0 v4 v5 v6 v7 v8 v9 v10 = none := rfl
theorem zf_P_run_E_L25_s (pn : Int32) (pl : Nat) (pf : Nat → Int32) (qn : Int32) (ql : Nat) (qf : Nat → Int32) (ol : Nat) (n : Nat) (v4 : Int32) (v5 : Int32) (v6 : Int32) (v7 : Int32) (v8 : Nat → Int32) (v9 : Int32) (v10 : Nat → Int32) : zf_P_run_E_L25 pn pl pf qn ql qf ol (n + 1) v4 v5 v6 v7 v8 v9 v10 = (if qn < (v4 + (12 : Int32)) then some (v4, v5, v6, v7, v8, v9, v10) else bc7 (zf_P_copyFrom_E pn pl pf qn ql qf v8 v5 v6 v7 v4 v9 ol v10) fun v11 v12 v13 v14 v15 v16 v17 => bnd (if (1 : Int32) < v11 then v11 else (1 : Int32)) fun v18 => bnd (v4 + v18) fun v19 => zf_P_run_E_L25 pn pl pf qn ql qf ol n v19 v12 v13 v14 v15 v16 v17) := rfl
def zf_P_run_E (pn : Int32) (pl : Nat) (pf : Nat → Int32) (qn : Int32) (ql : Nat) (qf : Nat → Int32) (tf : Nat → Int32) (ol : Nat) (of : Nat → Int32) : Option (Int32 × Int32 × Int32 × (Nat → Int32) × Int32 × (Nat → Int32)) := bc1 (zf_P_learnPast pn pl pf qn ql qf tf) fun v1 => bc2 (zf_EW_begin qn ol of) fun v2 v3 => bc7 (zf_P_run_E_L25 pn pl pf qn ql qf ol 1000 (0 : Int32) (0 : Int32) (0 : Int32) (0 : Int32) v1 v2 v3) fun x20 x21 x22 x23 x24 x25 x26 => bc2 (zf_EW_end qn ql qf x25 ol x26 x21) fun v27 v28 => some (x21, x22, x23, x24, v27, v28)

def zf_D_refuseIf (rr : Int32) (i1 : Int32) (i2 : Int32) : Option (Int32) := if i1 = 0 then some rr else if rr = (-1 : Int32) then some i2 else some rr

def zf_D_take (sn : Int32) (sl : Nat) (sf : Nat → Int32) (ra : Int32) (rr : Int32) : Option (Int32 × Int32 × Int32) := bc1 (if ra < sn then some (0 : Int32) else some (1 : Int32)) fun u1 => bc1 (zf_D_refuseIf rr u1 sn) fun v2 => if v2 = (-1 : Int32) then bc1 (zf_R_byteAt sn sl sf ra) fun v3 => bnd (ra + (1 : Int32)) fun v4 => some (v3, v4, v2) else some ((0 : Int32), ra, v2)

def zf_SR_takeSum_L19 (sn : Int32) (sl : Nat) (sf : Nat → Int32) : Nat → (Int32) → (Int32) → (Int32) → (Int32) → (Int32) → Option (Int32 × Int32 × Int32 × Int32 × Int32)
  | 0, _, _, _, _, _ => none
  | n + 1, v2, v3, v4, v5, v6 => if sn < v4 then some (v2, v3, v4, v5, v6) else if v3 = (255 : Int32) then bc3 (zf_D_take sn sl sf v5 v6) fun v7 v8 v9 => bnd (v2 + v7) fun v10 => bnd (v4 + (1 : Int32)) fun v11 => zf_SR_takeSum_L19 sn sl sf n v10 v7 v11 v8 v9 else some (v2, v3, v4, v5, v6)
theorem zf_SR_takeSum_L19_0 (sn : Int32) (sl : Nat) (sf : Nat → Int32) (v2 : Int32) (v3 : Int32) (v4 : Int32) (v5 : Int32) (v6 : Int32) : zf_SR_takeSum_L19 sn sl sf 0 v2 v3 v4 v5 v6 = none := rfl
theorem zf_SR_takeSum_L19_s (sn : Int32) (sl : Nat) (sf : Nat → Int32) (n : Nat) (v2 : Int32) (v3 : Int32) (v4 : Int32) (v5 : Int32) (v6 : Int32) : zf_SR_takeSum_L19 sn sl sf (n + 1) v2 v3 v4 v5 v6 = (if sn < v4 then some (v2, v3, v4, v5, v6) else if v3 = (255 : Int32) then bc3 (zf_D_take sn sl sf v5 v6) fun v7 v8 v9 => bnd (v2 + v7) fun v10 => bnd (v4 + (1 : Int32)) fun v11 => zf_SR_takeSum_L19 sn sl sf n v10 v7 v11 v8 v9 else some (v2, v3, v4, v5, v6)) := rfl
def zf_SR_takeSum (sn : Int32) (sl : Nat) (sf : Nat → Int32) (ra : Int32) (rr : Int32) (i1 : Int32) : Option (Int32 × Int32 × Int32) := bc1 (if i1 = (15 : Int32) then some (255 : Int32) else some (0 : Int32)) fun u1 => bc5 (zf_SR_takeSum_L19 sn sl sf 1000 i1 u1 (0 : Int32) ra rr) fun x12 x13 x14 x15 x16 => some (x12, x15, x16)

def zf_D_requireRoom (dn : Int32) (rr : Int32) (i1 : Int32) (i2 : Int32) (i3 : Int32) : Option (Int32) := bc1 (if (dn + i1) ≤ i2 then some (0 : Int32) else some (1 : Int32)) fun u1 => bc1 (zf_D_refuseIf rr u1 i3) fun v2 => some v2

def zf_D_refused (rr : Int32) : Option (Int32) := if rr = (-1 : Int32) then some (0 : Int32) else some (1 : Int32)

def zf_D_copyLiterals_L2 (sn : Int32) (sl : Nat) (sf : Nat → Int32) (dl : Nat) (i1 : Int32) : Nat → (Int32) → (Int32) → (Nat → Int32) → (Int32) → (Int32) → Option (Int32 × Int32 × (Nat → Int32) × Int32 × Int32)
  | 0, _, _, _, _, _ => none
  | n + 1, v1, v2, v3, v4, v5 => if i1 ≤ v1 then some (v1, v2, v3, v4, v5) else bc1 (zf_D_refused v5) fun v6 => if v6 = 0 then bc3 (zf_D_take sn sl sf v4 v5) fun v7 v8 v9 => bc2 (zf_R_add v2 dl v3 v7) fun v10 v11 => bnd (v1 + (1 : Int32)) fun v12 => zf_D_copyLiterals_L2 sn sl sf dl i1 n v12 v10 v11 v8 v9 else some (v1, v2, v3, v4, v5)
theorem zf_D_copyLiterals_L2_0 (sn : Int32) (sl : Nat) (sf : Nat → Int32) (dl : Nat) (i1 : Int32) (v1 : Int32) (v2 : Int32) (v3 : Nat → Int32) (v4 : Int32) (v5 : Int32) : zf_D_copyLiterals_L2 sn sl sf dl i1 0 v1 v2 v3 v4 v5 = none := rfl
theorem zf_D_copyLiterals_L2_s (sn : Int32) (sl : Nat) (sf : Nat → Int32) (dl : Nat) (i1 : Int32) (n : Nat) (v1 : Int32) (v2 : Int32) (v3 : Nat → Int32) (v4 : Int32) (v5 : Int32) : zf_D_copyLiterals_L2 sn sl sf dl i1 (n + 1) v1 v2 v3 v4 v5 = (if i1 ≤ v1 then some (v1, v2, v3, v4, v5) else bc1 (zf_D_refused v5) fun v6 => if v6 = 0 then bc3 (zf_D_take sn sl sf v4 v5) fun v7 v8 v9 => bc2 (zf_R_add v2 dl v3 v7) fun v10 v11 => bnd (v1 + (1 : Int32)) fun v12 => zf_D_copyLiterals_L2 sn sl sf dl i1 n v12 v10 v11 v8 v9 else some (v1, v2, v3, v4, v5)) := rfl
def zf_D_copyLiterals (sn : Int32) (sl : Nat) (sf : Nat → Int32) (dn : Int32) (dl : Nat) (df : Nat → Int32) (ra : Int32) (rr : Int32) (i1 : Int32) : Option (Int32 × (Nat → Int32) × Int32 × Int32) := bc5 (zf_D_copyLiterals_L2 sn sl sf dl i1 1000 (0 : Int32) dn df ra rr) fun x13 x14 x15 x16 x17 => some (x14, x15, x16, x17)

def zf_D_atEnd (sn : Int32) (ra : Int32) : Option (Int32) := if ra < sn then some (0 : Int32) else some (1 : Int32)

def zf_D_takeTwo (sn : Int32) (sl : Nat) (sf : Nat → Int32) (ra : Int32) (rr : Int32) : Option (Int32 × Int32 × Int32) := bc3 (zf_D_take sn sl sf ra rr) fun v1 v2 v3 => bc3 (zf_D_take sn sl sf v2 v3) fun v4 v5 v6 => some ((v1 ||| (v4 <<< ((8 : Int32) &&& 31))), v5, v6)

def zf_D_requireDistance (dn : Int32) (pn : Int32) (rr : Int32) (i1 : Int32) (i2 : Int32) : Option (Int32) := bc1 (if i1 = 0 then some (1 : Int32) else bc1 (zf_H_length pn dn) fun v2 => if i1 ≤ v2 then some (0 : Int32) else some (1 : Int32)) fun u1 => bc1 (zf_D_refuseIf rr u1 i2) fun v3 => some v3

def zf_D_copyBack_L2 (dl : Nat) (pn : Int32) (pl : Nat) (pf : Nat → Int32) (rr : Int32) (i1 : Int32) (i2 : Int32) : Nat → (Int32) → (Int32) → (Nat → Int32) → Option (Int32 × Int32 × (Nat → Int32))
  | 0, _, _, _ => none
  | n + 1, v1, v2, v3 => if i2 ≤ v1 then some (v1, v2, v3) else bc1 (zf_D_refused rr) fun v4 => if v4 = 0 then bc1 (zf_H_length pn v2) fun v5 => bc1 (zf_H_byteAt pn pl pf v2 dl v3 (v5 - i1)) fun v6 => bc2 (zf_R_add v2 dl v3 v6) fun v7 v8 => bnd (v1 + (1 : Int32)) fun v9 => zf_D_copyBack_L2 dl pn pl pf rr i1 i2 n v9 v7 v8 else some (v1, v2, v3)
theorem zf_D_copyBack_L2_0 (dl : Nat) (pn : Int32) (pl : Nat) (pf : Nat → Int32) (rr : Int32) (i1 : Int32) (i2 : Int32) (v1 : Int32) (v2 : Int32) (v3 : Nat → Int32) : zf_D_copyBack_L2 dl pn pl pf rr i1 i2 0 v1 v2 v3 = none := rfl
theorem zf_D_copyBack_L2_s (dl : Nat) (pn : Int32) (pl : Nat) (pf : Nat → Int32) (rr : Int32) (i1 : Int32) (i2 : Int32) (n : Nat) (v1 : Int32) (v2 : Int32) (v3 : Nat → Int32) : zf_D_copyBack_L2 dl pn pl pf rr i1 i2 (n + 1) v1 v2 v3 = (if i2 ≤ v1 then some (v1, v2, v3) else bc1 (zf_D_refused rr) fun v4 => if v4 = 0 then bc1 (zf_H_length pn v2) fun v5 => bc1 (zf_H_byteAt pn pl pf v2 dl v3 (v5 - i1)) fun v6 => bc2 (zf_R_add v2 dl v3 v6) fun v7 v8 => bnd (v1 + (1 : Int32)) fun v9 => zf_D_copyBack_L2 dl pn pl pf rr i1 i2 n v9 v7 v8 else some (v1, v2, v3)) := rfl
def zf_D_copyBack (dn : Int32) (dl : Nat) (df : Nat → Int32) (pn : Int32) (pl : Nat) (pf : Nat → Int32) (rr : Int32) (i1 : Int32) (i2 : Int32) : Option (Int32 × (Nat → Int32)) := bc3 (zf_D_copyBack_L2 dl pn pl pf rr i1 i2 1000 (0 : Int32) dn df) fun x10 x11 x12 => some (x11, x12)

def zf_SR_readSequence (sn : Int32) (sl : Nat) (sf : Nat → Int32) (dn : Int32) (dl : Nat) (df : Nat → Int32) (pn : Int32) (pl : Nat) (pf : Nat → Int32) (ra : Int32) (rr : Int32) : Option (Int32 × Int32 × (Nat → Int32) × Int32 × Int32) := bc3 (zf_D_take sn sl sf ra rr) fun v1 v2 v3 => bc3 (zf_SR_takeSum sn sl sf v2 v3 (v1 >>> ((4 : Int32) &&& 31))) fun v4 v5 v6 => bc1 (zf_D_requireRoom dn v6 v4 (160 : Int32) ra) fun v7 => bc4 (zf_D_copyLiterals sn sl sf dn dl df v5 v7 v4) fun v8 v9 v10 v11 => bc1 (zf_D_refused v11) fun v12 => if v12 = 0 then bc1 (zf_D_atEnd sn v10) fun v13 => if v13 = 0 then bc3 (zf_D_takeTwo sn sl sf v10 v11) fun v14 v15 v16 => bc1 (zf_D_requireDistance v8 pn v16 v14 v10) fun v17 => bc3 (zf_SR_takeSum sn sl sf v15 v17 (v1 &&& (15 : Int32))) fun v18 v19 v20 => bnd (v18 + (4 : Int32)) fun v21 => bc1 (zf_D_requireRoom v8 v20 v21 (160 : Int32) ra) fun v22 => bc2 (zf_D_copyBack v8 dl v9 pn pl pf v22 v14 v21) fun v23 v24 => bc1 (zf_D_refused v22) fun v25 => if v25 = 0 then some ((1 : Int32), v23, v24, v19, v22) else some ((0 : Int32), v23, v24, v19, v22) else some ((0 : Int32), v8, v9, v10, v11) else some ((0 : Int32), v8, v9, v10, v11)

def zf_SR_readAll_L4 (sn : Int32) (sl : Nat) (sf : Nat → Int32) (dl : Nat) (pn : Int32) (pl : Nat) (pf : Nat → Int32) : Nat → (Int32) → (Int32) → (Int32) → (Nat → Int32) → (Int32) → (Int32) → Option (Int32 × Int32 × Int32 × (Nat → Int32) × Int32 × Int32)
  | 0, _, _, _, _, _, _ => none
  | n + 1, v1, v2, v3, v4, v5, v6 => if sn < v2 then some (v1, v2, v3, v4, v5, v6) else if v1 = 0 then some (v1, v2, v3, v4, v5, v6) else bc5 (zf_SR_readSequence sn sl sf v3 dl v4 pn pl pf v5 v6) fun v7 v8 v9 v10 v11 => bnd (v2 + (1 : Int32)) fun v12 => zf_SR_readAll_L4 sn sl sf dl pn pl pf n v7 v12 v8 v9 v10 v11
theorem zf_SR_readAll_L4_0 (sn : Int32) (sl : Nat) (sf : Nat → Int32) (dl : Nat) (pn : Int32) (pl : Nat) (pf : Nat → Int32) (v1 : Int32) (v2 : Int32) (v3 : Int32) (v4 : Nat → Int32) (v5 : Int32) (v6 : Int32) : zf_SR_readAll_L4 sn sl sf dl pn pl pf 0 v1 v2 v3 v4 v5 v6 = none := rfl
theorem zf_SR_readAll_L4_s (sn : Int32) (sl : Nat) (sf : Nat → Int32) (dl : Nat) (pn : Int32) (pl : Nat) (pf : Nat → Int32) (n : Nat) (v1 : Int32) (v2 : Int32) (v3 : Int32) (v4 : Nat → Int32) (v5 : Int32) (v6 : Int32) : zf_SR_readAll_L4 sn sl sf dl pn pl pf (n + 1) v1 v2 v3 v4 v5 v6 = (if sn < v2 then some (v1, v2, v3, v4, v5, v6) else if v1 = 0 then some (v1, v2, v3, v4, v5, v6) else bc5 (zf_SR_readSequence sn sl sf v3 dl v4 pn pl pf v5 v6) fun v7 v8 v9 v10 v11 => bnd (v2 + (1 : Int32)) fun v12 => zf_SR_readAll_L4 sn sl sf dl pn pl pf n v7 v12 v8 v9 v10 v11) := rfl
def zf_SR_readAll (sn : Int32) (sl : Nat) (sf : Nat → Int32) (dn : Int32) (dl : Nat) (df : Nat → Int32) (pn : Int32) (pl : Nat) (pf : Nat → Int32) (ra : Int32) (rr : Int32) : Option (Int32 × (Nat → Int32) × Int32 × Int32) := bc6 (zf_SR_readAll_L4 sn sl sf dl pn pl pf 1000 (1 : Int32) (0 : Int32) dn df ra rr) fun x13 x14 x15 x16 x17 x18 => some (x15, x16, x17, x18)



def zf_ER_takeSize (sn : Int32) (sl : Nat) (sf : Nat → Int32) (ra : Int32) (rr : Int32) : Option (Int32 × Int32 × Int32) := bc3 (zf_D_take sn sl sf ra rr) fun v1 v2 v3 => if (127 : Int32) < v1 then bc3 (zf_D_take sn sl sf v2 v3) fun v4 v5 v6 => bc1 (if v4 ≤ (127 : Int32) then some (0 : Int32) else some (1 : Int32)) fun u7 => bc1 (zf_D_refuseIf v6 u7 (v5 - (1 : Int32))) fun v8 => bnd ((v1 &&& (127 : Int32)) ||| (v4 <<< ((7 : Int32) &&& 31))) fun v9 => bc1 (if v9 ≤ (160 : Int32) then some (0 : Int32) else some (1 : Int32)) fun u10 => bc1 (zf_D_refuseIf v8 u10 (v5 - (1 : Int32))) fun v11 => some (v9, v5, v11) else some (v1, v2, v3)





def zf_ER_readLiterals (sn : Int32) (sl : Nat) (sf : Nat → Int32) (dn : Int32) (dl : Nat) (df : Nat → Int32) (ra : Int32) (rr : Int32) (rp : Int32) (i1 : Int32) (i2 : Int32) : Option (Int32 × (Nat → Int32) × Int32 × Int32) := bc1 (if i1 ≤ (60 : Int32) then some (0 : Int32) else some (1 : Int32)) fun u1 => bc1 (zf_D_refuseIf rr u1 i2) fun v2 => bc3 (if i1 = (60 : Int32) then bc3 (zf_D_take sn sl sf ra v2) fun v6 v7 v8 => some (v6, v7, v8) else some (i1, ra, v2)) fun u3 u4 u5 => bc1 (zf_D_requireRoom dn u5 (u3 + (1 : Int32)) rp i2) fun v9 => bc4 (zf_D_copyLiterals sn sl sf dn dl df u4 v9 (u3 + (1 : Int32))) fun v10 v11 v12 v13 => some (v10, v11, v12, v13)



def zf_ER_readShortCopy (sn : Int32) (sl : Nat) (sf : Nat → Int32) (dn : Int32) (dl : Nat) (df : Nat → Int32) (pn : Int32) (pl : Nat) (pf : Nat → Int32) (ra : Int32) (rr : Int32) (rp : Int32) (i1 : Int32) (i2 : Int32) : Option (Int32 × (Nat → Int32) × Int32 × Int32) := bc3 (zf_D_take sn sl sf ra rr) fun v1 v2 v3 => bnd (((i1 >>> ((5 : Int32) &&& 31)) * (256 : Int32)) + v1) fun v4 => bc1 (zf_D_requireDistance dn pn v3 v4 i2) fun v5 => bnd (((i1 >>> ((2 : Int32) &&& 31)) &&& (7 : Int32)) + (4 : Int32)) fun v6 => bc1 (zf_D_requireRoom dn v5 v6 rp i2) fun v7 => bc2 (zf_D_copyBack dn dl df pn pl pf v7 v4 v6) fun v8 v9 => some (v8, v9, v2, v7)


def zf_ER_readLongCopy (sn : Int32) (sl : Nat) (sf : Nat → Int32) (dn : Int32) (dl : Nat) (df : Nat → Int32) (pn : Int32) (pl : Nat) (pf : Nat → Int32) (ra : Int32) (rr : Int32) (rp : Int32) (i1 : Int32) (i2 : Int32) : Option (Int32 × (Nat → Int32) × Int32 × Int32) := bc3 (zf_D_takeTwo sn sl sf ra rr) fun v1 v2 v3 => bc1 (zf_D_requireDistance dn pn v3 v1 (i2 + (1 : Int32))) fun v4 => bnd ((i1 >>> ((2 : Int32) &&& 31)) + (1 : Int32)) fun v5 => bc1 (zf_D_requireRoom dn v4 v5 rp i2) fun v6 => bc2 (zf_D_copyBack dn dl df pn pl pf v6 v1 v5) fun v7 v8 => some (v7, v8, v2, v6)

def zf_ER_readElement (sn : Int32) (sl : Nat) (sf : Nat → Int32) (dn : Int32) (dl : Nat) (df : Nat → Int32) (pn : Int32) (pl : Nat) (pf : Nat → Int32) (ra : Int32) (rr : Int32) (rp : Int32) : Option (Int32 × (Nat → Int32) × Int32 × Int32) := bc3 (zf_D_take sn sl sf ra rr) fun v1 v2 v3 => if (v1 &&& (3 : Int32)) = 0 then (bc4 (zf_ER_readLiterals sn sl sf dn dl df v2 v3 rp (v1 >>> ((2 : Int32) &&& 31)) ra) fun v4 v5 v6 v7 => some (v4, v5, v6, v7)) else if (v1 &&& (3 : Int32)) = (1 : Int32) then (bc4 (zf_ER_readShortCopy sn sl sf dn dl df pn pl pf v2 v3 rp v1 ra) fun v8 v9 v10 v11 => some (v8, v9, v10, v11)) else if (v1 &&& (3 : Int32)) = (2 : Int32) then (bc4 (zf_ER_readLongCopy sn sl sf dn dl df pn pl pf v2 v3 rp v1 ra) fun v12 v13 v14 v15 => some (v12, v13, v14, v15)) else bc1 (zf_D_refuseIf v3 (1 : Int32) ra) fun v16 => some (dn, df, v2, v16)

def zf_ER_readAll_L10 (sn : Int32) (sl : Nat) (sf : Nat → Int32) (dl : Nat) (pn : Int32) (pl : Nat) (pf : Nat → Int32) (v1 : Int32) : Nat → (Int32) → (Int32) → (Nat → Int32) → (Int32) → (Int32) → Option (Int32 × Int32 × (Nat → Int32) × Int32 × Int32)
  | 0, _, _, _, _, _ => none
  | n + 1, v4, v5, v6, v7, v8 => if sn ≤ v4 then some (v4, v5, v6, v7, v8) else bc1 (zf_D_atEnd sn v7) fun v9 => if v9 = 0 then bc1 (zf_D_refused v8) fun v10 => if v10 = 0 then bc4 (zf_ER_readElement sn sl sf v5 dl v6 pn pl pf v7 v8 v1) fun v11 v12 v13 v14 => bnd (v4 + (1 : Int32)) fun v15 => zf_ER_readAll_L10 sn sl sf dl pn pl pf v1 n v15 v11 v12 v13 v14 else some (v4, v5, v6, v7, v8) else some (v4, v5, v6, v7, v8)
theorem zf_ER_readAll_L10_0 (sn : Int32) (sl : Nat) (sf : Nat → Int32) (dl : Nat) (pn : Int32) (pl : Nat) (pf : Nat → Int32) (v1 : Int32) (v4 : Int32) (v5 : Int32) (v6 : Nat → Int32) (v7 : Int32) (v8 : Int32) : zf_ER_readAll_L10 sn sl sf dl pn pl pf v1 0 v4 v5 v6 v7 v8 = none := rfl
theorem zf_ER_readAll_L10_s (sn : Int32) (sl : Nat) (sf : Nat → Int32) (dl : Nat) (pn : Int32) (pl : Nat) (pf : Nat → Int32) (v1 : Int32) (n : Nat) (v4 : Int32) (v5 : Int32) (v6 : Nat → Int32) (v7 : Int32) (v8 : Int32) : zf_ER_readAll_L10 sn sl sf dl pn pl pf v1 (n + 1) v4 v5 v6 v7 v8 = (if sn ≤ v4 then some (v4, v5, v6, v7, v8) else bc1 (zf_D_atEnd sn v7) fun v9 => if v9 = 0 then bc1 (zf_D_refused v8) fun v10 => if v10 = 0 then bc4 (zf_ER_readElement sn sl sf v5 dl v6 pn pl pf v7 v8 v1) fun v11 v12 v13 v14 => bnd (v4 + (1 : Int32)) fun v15 => zf_ER_readAll_L10 sn sl sf dl pn pl pf v1 n v15 v11 v12 v13 v14 else some (v4, v5, v6, v7, v8) else some (v4, v5, v6, v7, v8)) := rfl
def zf_ER_readAll (sn : Int32) (sl : Nat) (sf : Nat → Int32) (dn : Int32) (dl : Nat) (df : Nat → Int32) (pn : Int32) (pl : Nat) (pf : Nat → Int32) (ra : Int32) (rr : Int32) : Option (Int32 × (Nat → Int32) × Int32 × Int32 × Int32) := bc3 (zf_ER_takeSize sn sl sf ra rr) fun v1 v2 v3 => bc5 (zf_ER_readAll_L10 sn sl sf dl pn pl pf v1 1000 (0 : Int32) dn df v2 v3) fun x16 x17 x18 x19 x20 => bc1 (if v1 ≤ x17 then some (0 : Int32) else some (1 : Int32)) fun u21 => bc1 (zf_D_refuseIf x20 u21 sn) fun v22 => some (x17, x18, x19, v22, v1)

def zf_M_thrown (th : Int32) : Option (Int32) := some th

def zf_M_fails (i1 : Int32) (i2 : Int32) : Option (Int32 × Int32) := bc1 (if i1 = 0 then if i2 = 0 then some (0 : Int32) else some (2 : Int32) else some (1 : Int32)) fun u1 => if u1 ≤ 0 then some ((0 : Int32), u1) else some ((1 : Int32), u1)

def zf_M_isRow (i0 : Int32) : Option (Int32) := if i0 < 0 then some (0 : Int32) else if (3 : Int32) ≤ i0 then some (0 : Int32) else some (1 : Int32)

def zf_M_most (i0 : Int32) : Option (Int32) := if i0 = 0 then some (160 : Int32) else if i0 = (1 : Int32) then some (200 : Int32) else some (64 : Int32)

def zf_M_put_L66 (sz : Nat → Int32) (i1 : Int32) (j2 : Int64) (i4 : Int32) : Nat → (Int32) → (Nat → Int32) → Option (Int32 × (Nat → Int32))
  | 0, _, _ => none
  | n + 1, v7, v8 => if i4 ≤ v7 then some (v7, v8) else gd (¬ (i1 < 0 ∨ 3 ≤ Int32.toNatClampNeg i1)) <| gd (¬ (((((200 : Int32) * i1) + (sz (Int32.toNatClampNeg i1))) + v7) < 0 ∨ 600 ≤ Int32.toNatClampNeg ((((200 : Int32) * i1) + (sz (Int32.toNatClampNeg i1))) + v7))) <| bnd (upd v8 (Int32.toNatClampNeg ((((200 : Int32) * i1) + (sz (Int32.toNatClampNeg i1))) + v7)) (((lshr j2 ((8 : Int32) * v7)) &&& (255 : Int64)).toInt32)) fun v9 => bnd (v7 + (1 : Int32)) fun v10 => zf_M_put_L66 sz i1 j2 i4 n v10 v9
theorem zf_M_put_L66_0 (sz : Nat → Int32) (i1 : Int32) (j2 : Int64) (i4 : Int32) (v7 : Int32) (v8 : Nat → Int32) : zf_M_put_L66 sz i1 j2 i4 0 v7 v8 = none := rfl
theorem zf_M_put_L66_s (sz : Nat → Int32) (i1 : Int32) (j2 : Int64) (i4 : Int32) (n : Nat) (v7 : Int32) (v8 : Nat → Int32) : zf_M_put_L66 sz i1 j2 i4 (n + 1) v7 v8 = (if i4 ≤ v7 then some (v7, v8) else gd (¬ (i1 < 0 ∨ 3 ≤ Int32.toNatClampNeg i1)) <| gd (¬ (((((200 : Int32) * i1) + (sz (Int32.toNatClampNeg i1))) + v7) < 0 ∨ 600 ≤ Int32.toNatClampNeg ((((200 : Int32) * i1) + (sz (Int32.toNatClampNeg i1))) + v7))) <| bnd (upd v8 (Int32.toNatClampNeg ((((200 : Int32) * i1) + (sz (Int32.toNatClampNeg i1))) + v7)) (((lshr j2 ((8 : Int32) * v7)) &&& (255 : Int64)).toInt32)) fun v9 => bnd (v7 + (1 : Int32)) fun v10 => zf_M_put_L66 sz i1 j2 i4 n v10 v9) := rfl
def zf_M_put (mf : Nat → Int32) (sz : Nat → Int32) (i1 : Int32) (j2 : Int64) (i4 : Int32) : Option (Int32 × (Nat → Int32) × (Nat → Int32)) := bc1 (zf_M_isRow i1) fun v1 => bc1 (if v1 = 0 then some (1 : Int32) else if i4 < (1 : Int32) then some (1 : Int32) else if i4 ≤ (8 : Int32) then some (0 : Int32) else some (1 : Int32)) fun u2 => bc1 (if u2 = 0 then gd (¬ (i1 < 0 ∨ 3 ≤ Int32.toNatClampNeg i1)) <| bc1 (zf_M_most i1) fun v4 => if ((sz (Int32.toNatClampNeg i1)) + i4) ≤ v4 then some (0 : Int32) else some (1 : Int32) else some (0 : Int32)) fun u3 => bc2 (zf_M_fails u2 u3) fun v5 v6 => if v5 = 0 then bc2 (zf_M_put_L66 sz i1 j2 i4 1000 (0 : Int32) mf) fun x11 x12 => gd (¬ (i1 < 0 ∨ 3 ≤ Int32.toNatClampNeg i1)) <| gd (¬ (i1 < 0 ∨ 3 ≤ Int32.toNatClampNeg i1)) <| bnd (upd sz (Int32.toNatClampNeg i1) ((sz (Int32.toNatClampNeg i1)) + i4)) fun v13 => some (v6, x12, v13) else some (v6, mf, sz)

def zf_M_empty (sz : Nat → Int32) (i1 : Int32) : Option (Int32 × Int32 × (Nat → Int32)) := bc1 (zf_M_isRow i1) fun v1 => bc1 (if v1 = 0 then some (1 : Int32) else some (0 : Int32)) fun u2 => bc2 (zf_M_fails u2 (0 : Int32)) fun v3 v4 => if v3 = 0 then gd (¬ (i1 < 0 ∨ 3 ≤ Int32.toNatClampNeg i1)) <| bnd (sz (Int32.toNatClampNeg i1)) fun v5 => gd (¬ (i1 < 0 ∨ 3 ≤ Int32.toNatClampNeg i1)) <| bnd (upd sz (Int32.toNatClampNeg i1) (0 : Int32)) fun v6 => some (v5, v4, v6) else some ((0 : Int32), v4, sz)

def zf_M_size (sz : Nat → Int32) (i1 : Int32) : Option (Int32 × Int32) := bc1 (zf_M_isRow i1) fun v1 => bc1 (if v1 = 0 then some (1 : Int32) else some (0 : Int32)) fun u2 => bc2 (zf_M_fails u2 (0 : Int32)) fun v3 v4 => if v3 = 0 then gd (¬ (i1 < 0 ∨ 3 ≤ Int32.toNatClampNeg i1)) <| some ((sz (Int32.toNatClampNeg i1)), v4) else some ((0 : Int32), v4)

def zf_M_get (mf : Nat → Int32) (sz : Nat → Int32) (i1 : Int32) (i2 : Int32) : Option (Int32 × Int32) := bc1 (zf_M_isRow i1) fun v1 => bc1 (if v1 = 0 then some (1 : Int32) else some (0 : Int32)) fun u2 => bc1 (if u2 = 0 then if i2 < 0 then some (1 : Int32) else gd (¬ (i1 < 0 ∨ 3 ≤ Int32.toNatClampNeg i1)) <| if i2 < (sz (Int32.toNatClampNeg i1)) then some (0 : Int32) else some (1 : Int32) else some (0 : Int32)) fun u3 => bc2 (zf_M_fails u2 u3) fun v4 v5 => if v4 = 0 then gd (¬ ((((200 : Int32) * i1) + i2) < 0 ∨ 600 ≤ Int32.toNatClampNeg (((200 : Int32) * i1) + i2))) <| some ((mf (Int32.toNatClampNeg (((200 : Int32) * i1) + i2))), v5) else some ((0 : Int32), v5)

def zf_M_found (mc : Int32) (cp : Int32) (i1 : Int32) : Option (Int32 × Int32) := bc1 (if i1 = 0 then some (0 : Int32) else if i1 = (1 : Int32) then some (0 : Int32) else some (1 : Int32)) fun u1 => bc2 (zf_M_fails u1 (0 : Int32)) fun v2 v3 => if v2 = 0 then if i1 = 0 then some (mc, v3) else some (cp, v3) else some ((0 : Int32), v3)

def zf_M_four (i0 : Int32) (i1 : Int32) (i2 : Int32) (i3 : Int32) : Option (Int32) := some (((i0 ||| (i1 <<< ((8 : Int32) &&& 31))) ||| (i2 <<< ((16 : Int32) &&& 31))) ||| (i3 <<< ((24 : Int32) &&& 31)))

def zf_M_intAt (hi : Nat → Int32) (i1 : Int32) : Option (Int32) := gd (¬ (i1 < 0 ∨ 224 ≤ Int32.toNatClampNeg i1)) <| gd (¬ ((i1 + (1 : Int32)) < 0 ∨ 224 ≤ Int32.toNatClampNeg (i1 + (1 : Int32)))) <| gd (¬ ((i1 + (2 : Int32)) < 0 ∨ 224 ≤ Int32.toNatClampNeg (i1 + (2 : Int32)))) <| gd (¬ ((i1 + (3 : Int32)) < 0 ∨ 224 ≤ Int32.toNatClampNeg (i1 + (3 : Int32)))) <| bc1 (zf_M_four (hi (Int32.toNatClampNeg i1)) (hi (Int32.toNatClampNeg (i1 + (1 : Int32)))) (hi (Int32.toNatClampNeg (i1 + (2 : Int32)))) (hi (Int32.toNatClampNeg (i1 + (3 : Int32))))) fun v1 => some v1

def zf_M_slot (hi : Nat → Int32) (i1 : Int32) : Option (Int32) := bc1 (zf_M_intAt hi i1) fun v1 => some (ush (v1 * (-1640531535 : Int32)) (27 : Int32))

def zf_M_remembers_L12 (mf : Nat → Int32) (v1 : Int32) : Nat → (Int32) → (Nat → Int32) → Option (Int32 × (Nat → Int32))
  | 0, _, _ => none
  | n + 1, v2, v3 => if v1 ≤ v2 then some (v2, v3) else gd (¬ (((400 : Int32) + v2) < 0 ∨ 600 ≤ Int32.toNatClampNeg ((400 : Int32) + v2))) <| gd (¬ (v2 < 0 ∨ 224 ≤ Int32.toNatClampNeg v2)) <| bnd (upd v3 (Int32.toNatClampNeg v2) (mf (Int32.toNatClampNeg ((400 : Int32) + v2)))) fun v4 => bnd (v2 + (1 : Int32)) fun v5 => zf_M_remembers_L12 mf v1 n v5 v4
theorem zf_M_remembers_L12_0 (mf : Nat → Int32) (v1 : Int32) (v2 : Int32) (v3 : Nat → Int32) : zf_M_remembers_L12 mf v1 0 v2 v3 = none := rfl
theorem zf_M_remembers_L12_s (mf : Nat → Int32) (v1 : Int32) (n : Nat) (v2 : Int32) (v3 : Nat → Int32) : zf_M_remembers_L12 mf v1 (n + 1) v2 v3 = (if v1 ≤ v2 then some (v2, v3) else gd (¬ (((400 : Int32) + v2) < 0 ∨ 600 ≤ Int32.toNatClampNeg ((400 : Int32) + v2))) <| gd (¬ (v2 < 0 ∨ 224 ≤ Int32.toNatClampNeg v2)) <| bnd (upd v3 (Int32.toNatClampNeg v2) (mf (Int32.toNatClampNeg ((400 : Int32) + v2)))) fun v4 => bnd (v2 + (1 : Int32)) fun v5 => zf_M_remembers_L12 mf v1 n v5 v4) := rfl
def zf_M_remembers (mf : Nat → Int32) (sz : Nat → Int32) (hi : Nat → Int32) : Option (Int32 × Int32 × (Nat → Int32)) := gd (¬ ((2 : Int32) < 0 ∨ 3 ≤ Int32.toNatClampNeg (2 : Int32))) <| bnd (sz (Int32.toNatClampNeg (2 : Int32))) fun v1 => bc2 (zf_M_remembers_L12 mf v1 1000 (0 : Int32) hi) fun x6 x7 => some (v1, v1, x7)

def zf_M_emit (mf : Nat → Int32) (ou : Int32) (i1 : Int32) : Option (Int32 × (Nat → Int32)) := gd (¬ (((200 : Int32) + ou) < 0 ∨ 600 ≤ Int32.toNatClampNeg ((200 : Int32) + ou))) <| bnd (upd mf (Int32.toNatClampNeg ((200 : Int32) + ou)) (i1 &&& (255 : Int32))) fun v1 => bnd (ou + (1 : Int32)) fun v2 => some (v2, v1)

def zf_M_emitLiterals_L2 (hi : Nat → Int32) (i2 : Int32) : Nat → (Int32) → (Int32) → (Nat → Int32) → Option (Int32 × Int32 × (Nat → Int32))
  | 0, _, _, _ => none
  | n + 1, v1, v2, v3 => if i2 ≤ v1 then some (v1, v2, v3) else gd (¬ (v1 < 0 ∨ 224 ≤ Int32.toNatClampNeg v1)) <| bc2 (zf_M_emit v3 v2 (hi (Int32.toNatClampNeg v1))) fun v4 v5 => bnd (v1 + (1 : Int32)) fun v6 => zf_M_emitLiterals_L2 hi i2 n v6 v4 v5
theorem zf_M_emitLiterals_L2_0 (hi : Nat → Int32) (i2 : Int32) (v1 : Int32) (v2 : Int32) (v3 : Nat → Int32) : zf_M_emitLiterals_L2 hi i2 0 v1 v2 v3 = none := rfl
theorem zf_M_emitLiterals_L2_s (hi : Nat → Int32) (i2 : Int32) (n : Nat) (v1 : Int32) (v2 : Int32) (v3 : Nat → Int32) : zf_M_emitLiterals_L2 hi i2 (n + 1) v1 v2 v3 = (if i2 ≤ v1 then some (v1, v2, v3) else gd (¬ (v1 < 0 ∨ 224 ≤ Int32.toNatClampNeg v1)) <| bc2 (zf_M_emit v3 v2 (hi (Int32.toNatClampNeg v1))) fun v4 v5 => bnd (v1 + (1 : Int32)) fun v6 => zf_M_emitLiterals_L2 hi i2 n v6 v4 v5) := rfl
def zf_M_emitLiterals (mf : Nat → Int32) (hi : Nat → Int32) (ou : Int32) (i1 : Int32) (i2 : Int32) : Option (Int32 × (Nat → Int32)) := bc3 (zf_M_emitLiterals_L2 hi i2 1000 i1 ou mf) fun x7 x8 x9 => some (x8, x9)

def zf_M_emitMore_L12  : Nat → (Int32) → (Int32) → (Nat → Int32) → Option (Int32 × Int32 × (Nat → Int32))
  | 0, _, _, _ => none
  | n + 1, v2, v3, v4 => if v2 < (255 : Int32) then some (v2, v3, v4) else bc2 (zf_M_emit v4 v3 (255 : Int32)) fun v5 v6 => bnd (v2 + (-255 : Int32)) fun v7 => zf_M_emitMore_L12 n v7 v5 v6
theorem zf_M_emitMore_L12_0  (v2 : Int32) (v3 : Int32) (v4 : Nat → Int32) : zf_M_emitMore_L12  0 v2 v3 v4 = none := rfl
theorem zf_M_emitMore_L12_s  (n : Nat) (v2 : Int32) (v3 : Int32) (v4 : Nat → Int32) : zf_M_emitMore_L12  (n + 1) v2 v3 v4 = (if v2 < (255 : Int32) then some (v2, v3, v4) else bc2 (zf_M_emit v4 v3 (255 : Int32)) fun v5 v6 => bnd (v2 + (-255 : Int32)) fun v7 => zf_M_emitMore_L12 n v7 v5 v6) := rfl
def zf_M_emitMore (mf : Nat → Int32) (ou : Int32) (i1 : Int32) : Option (Int32 × (Nat → Int32)) := if (15 : Int32) ≤ i1 then bnd (i1 - (15 : Int32)) fun v1 => bc3 (zf_M_emitMore_L12  1000 v1 ou mf) fun x8 x9 x10 => bc2 (zf_M_emit x10 x9 x8) fun v11 v12 => some (v11, v12) else some (ou, mf)

def zf_M_atMost15 (i0 : Int32) : Option (Int32) := if (15 : Int32) ≤ i0 then some (15 : Int32) else some i0

def zf_M_sequence (mf : Nat → Int32) (hi : Nat → Int32) (ou : Int32) (i1 : Int32) (i2 : Int32) (i3 : Int32) (i4 : Int32) : Option (Int32 × (Nat → Int32)) := bnd (i2 - i1) fun v1 => bc1 (zf_M_atMost15 v1) fun v2 => bc1 (zf_M_atMost15 (i3 - (4 : Int32))) fun v3 => bc2 (zf_M_emit mf ou ((v2 <<< ((4 : Int32) &&& 31)) ||| v3)) fun v4 v5 => bc2 (zf_M_emitMore v5 v4 v1) fun v6 v7 => bc2 (zf_M_emitLiterals v7 hi v6 i1 i2) fun v8 v9 => bc2 (zf_M_emit v9 v8 i4) fun v10 v11 => bc2 (zf_M_emit v11 v10 (i4 >>> ((8 : Int32) &&& 31))) fun v12 v13 => bc2 (zf_M_emitMore v13 v12 (i3 - (4 : Int32))) fun v14 v15 => some (v14, v15)

def zf_M_lastSequence (mf : Nat → Int32) (hi : Nat → Int32) (ou : Int32) (i1 : Int32) (i2 : Int32) : Option (Int32 × (Nat → Int32)) := bc1 (zf_M_atMost15 (i2 - i1)) fun v1 => bc2 (zf_M_emit mf ou (v1 <<< ((4 : Int32) &&& 31))) fun v2 v3 => bc2 (zf_M_emitMore v3 v2 (i2 - i1)) fun v4 v5 => bc2 (zf_M_emitLiterals v5 hi v4 i1 i2) fun v6 v7 => some (v6, v7)

def zf_M_literalElement (mf : Nat → Int32) (hi : Nat → Int32) (ou : Int32) (i1 : Int32) (i2 : Int32) : Option (Int32 × (Nat → Int32)) := bnd ((i2 - i1) - (1 : Int32)) fun v1 => if 0 ≤ v1 then bc1 (if (60 : Int32) ≤ v1 then some (60 : Int32) else some v1) fun u2 => bc2 (zf_M_emit mf ou (u2 <<< ((2 : Int32) &&& 31))) fun v3 v4 => bc2 (if v1 ≤ (59 : Int32) then some (v3, v4) else bc2 (zf_M_emit v4 v3 v1) fun v7 v8 => some (v7, v8)) fun u5 u6 => bc2 (zf_M_emitLiterals u6 hi u5 i1 i2) fun v9 v10 => some (v9, v10) else some (ou, mf)

def zf_M_copyElement (mf : Nat → Int32) (ou : Int32) (i1 : Int32) (i2 : Int32) : Option (Int32 × (Nat → Int32)) := if i1 ≤ (3 : Int32) then bc2 (zf_M_emit mf ou ((2 : Int32) ||| ((i1 - (1 : Int32)) <<< ((2 : Int32) &&& 31)))) fun v1 v2 => bc2 (zf_M_emit v2 v1 i2) fun v3 v4 => bc2 (zf_M_emit v4 v3 (i2 >>> ((8 : Int32) &&& 31))) fun v5 v6 => some (v5, v6) else if (12 : Int32) ≤ i1 then bc2 (zf_M_emit mf ou ((2 : Int32) ||| ((i1 - (1 : Int32)) <<< ((2 : Int32) &&& 31)))) fun v7 v8 => bc2 (zf_M_emit v8 v7 i2) fun v9 v10 => bc2 (zf_M_emit v10 v9 (i2 >>> ((8 : Int32) &&& 31))) fun v11 v12 => some (v11, v12) else if (2048 : Int32) ≤ i2 then bc2 (zf_M_emit mf ou ((2 : Int32) ||| ((i1 - (1 : Int32)) <<< ((2 : Int32) &&& 31)))) fun v13 v14 => bc2 (zf_M_emit v14 v13 i2) fun v15 v16 => bc2 (zf_M_emit v16 v15 (i2 >>> ((8 : Int32) &&& 31))) fun v17 v18 => some (v17, v18) else bc2 (zf_M_emit mf ou (((1 : Int32) ||| ((i1 - (4 : Int32)) <<< ((2 : Int32) &&& 31))) ||| ((i2 >>> ((8 : Int32) &&& 31)) <<< ((5 : Int32) &&& 31)))) fun v19 v20 => bc2 (zf_M_emit v20 v19 i2) fun v21 v22 => some (v21, v22)

def zf_M_copyElements_L2 (i2 : Int32) : Nat → (Int32) → (Int32) → (Nat → Int32) → Option (Int32 × Int32 × (Nat → Int32))
  | 0, _, _, _ => none
  | n + 1, v1, v2, v3 => if v1 < (68 : Int32) then some (v1, v2, v3) else bc2 (zf_M_copyElement v3 v2 (64 : Int32) i2) fun v4 v5 => bnd (v1 + (-64 : Int32)) fun v6 => zf_M_copyElements_L2 i2 n v6 v4 v5
theorem zf_M_copyElements_L2_0 (i2 : Int32) (v1 : Int32) (v2 : Int32) (v3 : Nat → Int32) : zf_M_copyElements_L2 i2 0 v1 v2 v3 = none := rfl
theorem zf_M_copyElements_L2_s (i2 : Int32) (n : Nat) (v1 : Int32) (v2 : Int32) (v3 : Nat → Int32) : zf_M_copyElements_L2 i2 (n + 1) v1 v2 v3 = (if v1 < (68 : Int32) then some (v1, v2, v3) else bc2 (zf_M_copyElement v3 v2 (64 : Int32) i2) fun v4 v5 => bnd (v1 + (-64 : Int32)) fun v6 => zf_M_copyElements_L2 i2 n v6 v4 v5) := rfl
def zf_M_copyElements (mf : Nat → Int32) (ou : Int32) (i1 : Int32) (i2 : Int32) : Option (Int32 × (Nat → Int32)) := bc3 (zf_M_copyElements_L2 i2 1000 i1 ou mf) fun x7 x8 x9 => bc3 (if x7 ≤ (64 : Int32) then some (x7, x8, x9) else bc2 (zf_M_copyElement x9 x8 (60 : Int32) i2) fun v13 v14 => bnd (x7 + (-60 : Int32)) fun v15 => some (v15, v13, v14)) fun u10 u11 u12 => bc2 (zf_M_copyElement u12 u11 u10 i2) fun v16 v17 => some (v16, v17)

def zf_M_same_L2 (hi : Nat → Int32) (en : Int32) (i1 : Int32) (i2 : Int32) : Nat → (Int32) → Option (Int32)
  | 0, _ => none
  | n + 1, v1 => if (en - (5 : Int32)) ≤ (i2 + v1) then some v1 else gd (¬ ((i1 + v1) < 0 ∨ 224 ≤ Int32.toNatClampNeg (i1 + v1))) <| gd (¬ ((i2 + v1) < 0 ∨ 224 ≤ Int32.toNatClampNeg (i2 + v1))) <| if (hi (Int32.toNatClampNeg (i1 + v1))) = (hi (Int32.toNatClampNeg (i2 + v1))) then bnd (v1 + (1 : Int32)) fun v2 => zf_M_same_L2 hi en i1 i2 n v2 else some v1
theorem zf_M_same_L2_0 (hi : Nat → Int32) (en : Int32) (i1 : Int32) (i2 : Int32) (v1 : Int32) : zf_M_same_L2 hi en i1 i2 0 v1 = none := rfl
theorem zf_M_same_L2_s (hi : Nat → Int32) (en : Int32) (i1 : Int32) (i2 : Int32) (n : Nat) (v1 : Int32) : zf_M_same_L2 hi en i1 i2 (n + 1) v1 = (if (en - (5 : Int32)) ≤ (i2 + v1) then some v1 else gd (¬ ((i1 + v1) < 0 ∨ 224 ≤ Int32.toNatClampNeg (i1 + v1))) <| gd (¬ ((i2 + v1) < 0 ∨ 224 ≤ Int32.toNatClampNeg (i2 + v1))) <| if (hi (Int32.toNatClampNeg (i1 + v1))) = (hi (Int32.toNatClampNeg (i2 + v1))) then bnd (v1 + (1 : Int32)) fun v2 => zf_M_same_L2 hi en i1 i2 n v2 else some v1) := rfl
def zf_M_same (hi : Nat → Int32) (en : Int32) (i1 : Int32) (i2 : Int32) : Option (Int32) := bc1 (zf_M_same_L2 hi en i1 i2 1000 (0 : Int32)) fun x3 => some x3

def zf_M_packs_L2  : Nat → (Int32) → (Nat → Int32) → Option (Int32 × (Nat → Int32))
  | 0, _, _ => none
  | n + 1, v1, v2 => if (32 : Int32) ≤ v1 then some (v1, v2) else gd (¬ (v1 < 0 ∨ 32 ≤ Int32.toNatClampNeg v1)) <| bnd (upd v2 (Int32.toNatClampNeg v1) (-1 : Int32)) fun v3 => bnd (v1 + (1 : Int32)) fun v4 => zf_M_packs_L2 n v4 v3
theorem zf_M_packs_L2_0  (v1 : Int32) (v2 : Nat → Int32) : zf_M_packs_L2  0 v1 v2 = none := rfl
theorem zf_M_packs_L2_s  (n : Nat) (v1 : Int32) (v2 : Nat → Int32) : zf_M_packs_L2  (n + 1) v1 v2 = (if (32 : Int32) ≤ v1 then some (v1, v2) else gd (¬ (v1 < 0 ∨ 32 ≤ Int32.toNatClampNeg v1)) <| bnd (upd v2 (Int32.toNatClampNeg v1) (-1 : Int32)) fun v3 => bnd (v1 + (1 : Int32)) fun v4 => zf_M_packs_L2 n v4 v3) := rfl
def zf_M_packs_L23 (hi : Nat → Int32) (bg : Int32) : Nat → (Int32) → (Nat → Int32) → Option (Int32 × (Nat → Int32))
  | 0, _, _ => none
  | n + 1, v7, v8 => if bg < (v7 + (4 : Int32)) then some (v7, v8) else bc1 (zf_M_slot hi v7) fun v9 => gd (¬ (v9 < 0 ∨ 32 ≤ Int32.toNatClampNeg v9)) <| bnd (upd v8 (Int32.toNatClampNeg v9) v7) fun v10 => bnd (v7 + (1 : Int32)) fun v11 => zf_M_packs_L23 hi bg n v11 v10
theorem zf_M_packs_L23_0 (hi : Nat → Int32) (bg : Int32) (v7 : Int32) (v8 : Nat → Int32) : zf_M_packs_L23 hi bg 0 v7 v8 = none := rfl
theorem zf_M_packs_L23_s (hi : Nat → Int32) (bg : Int32) (n : Nat) (v7 : Int32) (v8 : Nat → Int32) : zf_M_packs_L23 hi bg (n + 1) v7 v8 = (if bg < (v7 + (4 : Int32)) then some (v7, v8) else bc1 (zf_M_slot hi v7) fun v9 => gd (¬ (v9 < 0 ∨ 32 ≤ Int32.toNatClampNeg v9)) <| bnd (upd v8 (Int32.toNatClampNeg v9) v7) fun v10 => bnd (v7 + (1 : Int32)) fun v11 => zf_M_packs_L23 hi bg n v11 v10) := rfl
def zf_M_packs_L60 (hi : Nat → Int32) (en : Int32) (i1 : Int32) : Nat → (Int32) → (Int32) → (Int32) → (Int32) → (Int32) → (Nat → Int32) → (Nat → Int32) → Option (Int32 × Int32 × Int32 × Int32 × Int32 × (Nat → Int32) × (Nat → Int32))
  | 0, _, _, _, _, _, _, _ => none
  | n + 1, v14, v15, v16, v17, v18, v19, v20 => if (en - v15) < (12 : Int32) then some (v14, v15, v16, v17, v18, v19, v20) else bc1 (zf_M_slot hi v15) fun v21 => gd (¬ (v21 < 0 ∨ 32 ≤ Int32.toNatClampNeg v21)) <| bnd (v20 (Int32.toNatClampNeg v21)) fun v22 => gd (¬ (v21 < 0 ∨ 32 ≤ Int32.toNatClampNeg v21)) <| bnd (upd v20 (Int32.toNatClampNeg v21) v15) fun v23 => bc6 (if v22 < 0 then bnd (v15 + (1 : Int32)) fun v30 => some (v14, v30, v16, v17, v18, v19) else bc1 (zf_M_intAt hi v22) fun v31 => bc1 (zf_M_intAt hi v15) fun v32 => if v31 = v32 then bc1 (zf_M_same hi en v22 v15) fun v34 => bc2 (if i1 = 0 then bc2 (zf_M_sequence v19 hi v18 v14 v15 v34 (v15 - v22)) fun v41 v42 => some (v41, v42) else bc2 (zf_M_literalElement v19 hi v18 v14 v15) fun v37 v38 => bc2 (zf_M_copyElements v38 v37 v34 (v15 - v22)) fun v39 v40 => some (v39, v40)) fun u35 u36 => bnd (v16 + (1 : Int32)) fun v43 => bnd (v17 + v34) fun v44 => bnd (v15 + v34) fun v45 => some (v45, v45, v43, v44, u35, u36) else bnd (v15 + (1 : Int32)) fun v33 => some (v14, v33, v16, v17, v18, v19)) fun u24 u25 u26 u27 u28 u29 => zf_M_packs_L60 hi en i1 n u24 u25 u26 u27 u28 u29 v23
theorem zf_M_packs_L60_0 (hi : Nat → Int32) (en : Int32) (i1 : Int32) (v14 : Int32) (v15 : Int32) (v16 : Int32) (v17 : Int32) (v18 : Int32) (v19 : Nat → Int32) (v20 : Nat → Int32) : zf_M_packs_L60 hi en i1 0 v14 v15 v16 v17 v18 v19 v20 = none := rfl
theorem zf_M_packs_L60_s (hi : Nat → Int32) (en : Int32) (i1 : Int32) (n : Nat) (v14 : Int32) (v15 : Int32) (v16 : Int32) (v17 : Int32) (v18 : Int32) (v19 : Nat → Int32) (v20 : Nat → Int32) : zf_M_packs_L60 hi en i1 (n + 1) v14 v15 v16 v17 v18 v19 v20 = (if (en - v15) < (12 : Int32) then some (v14, v15, v16, v17, v18, v19, v20) else bc1 (zf_M_slot hi v15) fun v21 => gd (¬ (v21 < 0 ∨ 32 ≤ Int32.toNatClampNeg v21)) <| bnd (v20 (Int32.toNatClampNeg v21)) fun v22 => gd (¬ (v21 < 0 ∨ 32 ≤ Int32.toNatClampNeg v21)) <| bnd (upd v20 (Int32.toNatClampNeg v21) v15) fun v23 => bc6 (if v22 < 0 then bnd (v15 + (1 : Int32)) fun v30 => some (v14, v30, v16, v17, v18, v19) else bc1 (zf_M_intAt hi v22) fun v31 => bc1 (zf_M_intAt hi v15) fun v32 => if v31 = v32 then bc1 (zf_M_same hi en v22 v15) fun v34 => bc2 (if i1 = 0 then bc2 (zf_M_sequence v19 hi v18 v14 v15 v34 (v15 - v22)) fun v41 v42 => some (v41, v42) else bc2 (zf_M_literalElement v19 hi v18 v14 v15) fun v37 v38 => bc2 (zf_M_copyElements v38 v37 v34 (v15 - v22)) fun v39 v40 => some (v39, v40)) fun u35 u36 => bnd (v16 + (1 : Int32)) fun v43 => bnd (v17 + v34) fun v44 => bnd (v15 + v34) fun v45 => some (v45, v45, v43, v44, u35, u36) else bnd (v15 + (1 : Int32)) fun v33 => some (v14, v33, v16, v17, v18, v19)) fun u24 u25 u26 u27 u28 u29 => zf_M_packs_L60 hi en i1 n u24 u25 u26 u27 u28 u29 v23) := rfl
def zf_M_packs (mf : Nat → Int32) (mc : Int32) (cp : Int32) (hi : Nat → Int32) (bg : Int32) (en : Int32) (tb : Nat → Int32) (ou : Int32) (i1 : Int32) : Option (Int32 × Int32 × Int32 × (Nat → Int32) × (Nat → Int32)) := bc2 (zf_M_packs_L2  1000 (0 : Int32) tb) fun x5 x6 => bc2 (zf_M_packs_L23 hi bg 1000 (0 : Int32) x6) fun x12 x13 => bc7 (zf_M_packs_L60 hi en i1 1000 bg bg mc cp ou mf x13) fun x46 x47 x48 x49 x50 x51 x52 => if i1 = 0 then bc2 (zf_M_lastSequence x51 hi x50 x46 en) fun v55 v56 => some (x48, x49, v55, v56, x52) else bc2 (zf_M_literalElement x51 hi x50 x46 en) fun v53 v54 => some (x48, x49, v53, v54, x52)

def zf_M_pack_L30 (mf : Nat → Int32) (sz : Nat → Int32) (v4 : Int32) : Nat → (Int32) → (Nat → Int32) → Option (Int32 × (Nat → Int32))
  | 0, _, _ => none
  | n + 1, v7, v8 => gd (¬ ((0 : Int32) < 0 ∨ 3 ≤ Int32.toNatClampNeg (0 : Int32))) <| if (sz (Int32.toNatClampNeg (0 : Int32))) ≤ v7 then some (v7, v8) else gd (¬ (v7 < 0 ∨ 600 ≤ Int32.toNatClampNeg v7)) <| gd (¬ ((v4 + v7) < 0 ∨ 224 ≤ Int32.toNatClampNeg (v4 + v7))) <| bnd (upd v8 (Int32.toNatClampNeg (v4 + v7)) (mf (Int32.toNatClampNeg v7))) fun v9 => bnd (v7 + (1 : Int32)) fun v10 => zf_M_pack_L30 mf sz v4 n v10 v9
theorem zf_M_pack_L30_0 (mf : Nat → Int32) (sz : Nat → Int32) (v4 : Int32) (v7 : Int32) (v8 : Nat → Int32) : zf_M_pack_L30 mf sz v4 0 v7 v8 = none := rfl
theorem zf_M_pack_L30_s (mf : Nat → Int32) (sz : Nat → Int32) (v4 : Int32) (n : Nat) (v7 : Int32) (v8 : Nat → Int32) : zf_M_pack_L30 mf sz v4 (n + 1) v7 v8 = (gd (¬ ((0 : Int32) < 0 ∨ 3 ≤ Int32.toNatClampNeg (0 : Int32))) <| if (sz (Int32.toNatClampNeg (0 : Int32))) ≤ v7 then some (v7, v8) else gd (¬ (v7 < 0 ∨ 600 ≤ Int32.toNatClampNeg v7)) <| gd (¬ ((v4 + v7) < 0 ∨ 224 ≤ Int32.toNatClampNeg (v4 + v7))) <| bnd (upd v8 (Int32.toNatClampNeg (v4 + v7)) (mf (Int32.toNatClampNeg v7))) fun v9 => bnd (v7 + (1 : Int32)) fun v10 => zf_M_pack_L30 mf sz v4 n v10 v9) := rfl
def zf_M_pack (mf : Nat → Int32) (sz : Nat → Int32) (mc : Int32) (cp : Int32) (hi : Nat → Int32) (bg : Int32) (en : Int32) (tb : Nat → Int32) (ou : Int32) (i1 : Int32) : Option (Int32 × Int32 × Int32 × Int32 × Int32 × Int32 × Int32 × (Nat → Int32) × (Nat → Int32) × (Nat → Int32) × (Nat → Int32)) := bc1 (if i1 = 0 then some (0 : Int32) else if i1 = (1 : Int32) then some (0 : Int32) else some (1 : Int32)) fun u1 => bc2 (zf_M_fails u1 (0 : Int32)) fun v2 v3 => if v2 = 0 then bc3 (zf_M_remembers mf sz hi) fun v4 v5 v6 => bc2 (zf_M_pack_L30 mf sz v4 1000 (0 : Int32) v6) fun x11 x12 => gd (¬ ((0 : Int32) < 0 ∨ 3 ≤ Int32.toNatClampNeg (0 : Int32))) <| bnd (v4 + (sz (Int32.toNatClampNeg (0 : Int32)))) fun v13 => bc3 (if i1 = (1 : Int32) then gd (¬ ((0 : Int32) < 0 ∨ 3 ≤ Int32.toNatClampNeg (0 : Int32))) <| bnd (sz (Int32.toNatClampNeg (0 : Int32))) fun v17 => bc1 (if (128 : Int32) ≤ v17 then some ((v17 &&& (127 : Int32)) ||| (128 : Int32)) else some v17) fun u18 => bc2 (zf_M_emit mf (0 : Int32) u18) fun v19 v20 => if v17 ≤ (127 : Int32) then some (v17, v19, v20) else bc2 (zf_M_emit v20 v19 (v17 >>> ((7 : Int32) &&& 31))) fun v21 v22 => some (v17, v21, v22) else some (x11, (0 : Int32), mf)) fun u14 u15 u16 => bc5 (zf_M_packs u16 (0 : Int32) (0 : Int32) x12 v4 v13 tb u15 i1) fun v23 v24 v25 v26 v27 => gd (¬ ((1 : Int32) < 0 ∨ 3 ≤ Int32.toNatClampNeg (1 : Int32))) <| bnd (upd sz (Int32.toNatClampNeg (1 : Int32)) v25) fun v28 => some (v25, v3, v23, v24, v4, v13, v25, v26, v28, x12, v27) else some ((0 : Int32), v3, mc, cp, bg, en, ou, mf, sz, hi, tb)

def zf_M_need (fa : Int32) (i1 : Int32) (i2 : Int32) : Option (Int32) := if 0 ≤ fa then some fa else if i1 = 0 then some i2 else some fa

def zf_M_next (mf : Nat → Int32) (sz : Nat → Int32) (mp : Int32) (fa : Int32) : Option (Int32 × Int32 × Int32) := gd (¬ ((1 : Int32) < 0 ∨ 3 ≤ Int32.toNatClampNeg (1 : Int32))) <| bc1 (if (sz (Int32.toNatClampNeg (1 : Int32))) ≤ mp then some (0 : Int32) else some (1 : Int32)) fun u1 => gd (¬ ((1 : Int32) < 0 ∨ 3 ≤ Int32.toNatClampNeg (1 : Int32))) <| bc1 (zf_M_need fa u1 (sz (Int32.toNatClampNeg (1 : Int32)))) fun v2 => if v2 < 0 then bnd (mp + (1 : Int32)) fun v3 => gd (¬ ((((200 : Int32) + v3) - (1 : Int32)) < 0 ∨ 600 ≤ Int32.toNatClampNeg (((200 : Int32) + v3) - (1 : Int32)))) <| some ((mf (Int32.toNatClampNeg (((200 : Int32) + v3) - (1 : Int32)))), v3, v2) else some ((0 : Int32), mp, v2)

def zf_M_made (bg : Int32) (en : Int32) : Option (Int32) := some (en - bg)

def zf_M_literals_L2 (mf : Nat → Int32) (sz : Nat → Int32) (i1 : Int32) : Nat → (Int32) → (Int32) → (Int32) → (Int32) → (Nat → Int32) → Option (Int32 × Int32 × Int32 × Int32 × (Nat → Int32))
  | 0, _, _, _, _, _ => none
  | n + 1, v1, v2, v3, v4, v5 => if i1 ≤ v1 then some (v1, v2, v3, v4, v5) else if 0 ≤ v4 then some (v1, v2, v3, v4, v5) else bc3 (zf_M_next mf sz v3 v4) fun v6 v7 v8 => bc2 (if 0 ≤ v8 then some (v2, v5) else gd (¬ (v2 < 0 ∨ 224 ≤ Int32.toNatClampNeg v2)) <| bnd (upd v5 (Int32.toNatClampNeg v2) v6) fun v11 => bnd (v2 + (1 : Int32)) fun v12 => some (v12, v11)) fun u9 u10 => bnd (v1 + (1 : Int32)) fun v13 => zf_M_literals_L2 mf sz i1 n v13 u9 v7 v8 u10
theorem zf_M_literals_L2_0 (mf : Nat → Int32) (sz : Nat → Int32) (i1 : Int32) (v1 : Int32) (v2 : Int32) (v3 : Int32) (v4 : Int32) (v5 : Nat → Int32) : zf_M_literals_L2 mf sz i1 0 v1 v2 v3 v4 v5 = none := rfl
theorem zf_M_literals_L2_s (mf : Nat → Int32) (sz : Nat → Int32) (i1 : Int32) (n : Nat) (v1 : Int32) (v2 : Int32) (v3 : Int32) (v4 : Int32) (v5 : Nat → Int32) : zf_M_literals_L2 mf sz i1 (n + 1) v1 v2 v3 v4 v5 = (if i1 ≤ v1 then some (v1, v2, v3, v4, v5) else if 0 ≤ v4 then some (v1, v2, v3, v4, v5) else bc3 (zf_M_next mf sz v3 v4) fun v6 v7 v8 => bc2 (if 0 ≤ v8 then some (v2, v5) else gd (¬ (v2 < 0 ∨ 224 ≤ Int32.toNatClampNeg v2)) <| bnd (upd v5 (Int32.toNatClampNeg v2) v6) fun v11 => bnd (v2 + (1 : Int32)) fun v12 => some (v12, v11)) fun u9 u10 => bnd (v1 + (1 : Int32)) fun v13 => zf_M_literals_L2 mf sz i1 n v13 u9 v7 v8 u10) := rfl
def zf_M_literals (mf : Nat → Int32) (sz : Nat → Int32) (hi : Nat → Int32) (en : Int32) (mp : Int32) (fa : Int32) (i1 : Int32) : Option (Int32 × Int32 × Int32 × (Nat → Int32)) := bc5 (zf_M_literals_L2 mf sz i1 1000 (0 : Int32) en mp fa hi) fun x14 x15 x16 x17 x18 => some (x15, x16, x17, x18)

def zf_M_copies_L2 (fa : Int32) (i1 : Int32) (i2 : Int32) : Nat → (Int32) → (Int32) → (Nat → Int32) → Option (Int32 × Int32 × (Nat → Int32))
  | 0, _, _, _ => none
  | n + 1, v1, v2, v3 => if i1 ≤ v1 then some (v1, v2, v3) else if 0 ≤ fa then some (v1, v2, v3) else gd (¬ ((v2 - i2) < 0 ∨ 224 ≤ Int32.toNatClampNeg (v2 - i2))) <| gd (¬ (v2 < 0 ∨ 224 ≤ Int32.toNatClampNeg v2)) <| bnd (upd v3 (Int32.toNatClampNeg v2) (v3 (Int32.toNatClampNeg (v2 - i2)))) fun v4 => bnd (v2 + (1 : Int32)) fun v5 => bnd (v1 + (1 : Int32)) fun v6 => zf_M_copies_L2 fa i1 i2 n v6 v5 v4
theorem zf_M_copies_L2_0 (fa : Int32) (i1 : Int32) (i2 : Int32) (v1 : Int32) (v2 : Int32) (v3 : Nat → Int32) : zf_M_copies_L2 fa i1 i2 0 v1 v2 v3 = none := rfl
theorem zf_M_copies_L2_s (fa : Int32) (i1 : Int32) (i2 : Int32) (n : Nat) (v1 : Int32) (v2 : Int32) (v3 : Nat → Int32) : zf_M_copies_L2 fa i1 i2 (n + 1) v1 v2 v3 = (if i1 ≤ v1 then some (v1, v2, v3) else if 0 ≤ fa then some (v1, v2, v3) else gd (¬ ((v2 - i2) < 0 ∨ 224 ≤ Int32.toNatClampNeg (v2 - i2))) <| gd (¬ (v2 < 0 ∨ 224 ≤ Int32.toNatClampNeg v2)) <| bnd (upd v3 (Int32.toNatClampNeg v2) (v3 (Int32.toNatClampNeg (v2 - i2)))) fun v4 => bnd (v2 + (1 : Int32)) fun v5 => bnd (v1 + (1 : Int32)) fun v6 => zf_M_copies_L2 fa i1 i2 n v6 v5 v4) := rfl
def zf_M_copies (hi : Nat → Int32) (en : Int32) (fa : Int32) (i1 : Int32) (i2 : Int32) : Option (Int32 × (Nat → Int32)) := bc3 (zf_M_copies_L2 fa i1 i2 1000 (0 : Int32) en hi) fun x7 x8 x9 => some (x8, x9)

def zf_M_more_L16 (mf : Nat → Int32) (sz : Nat → Int32) : Nat → (Int32) → (Int32) → (Int32) → (Int32) → Option (Int32 × Int32 × Int32 × Int32)
  | 0, _, _, _, _ => none
  | n + 1, v2, v3, v4, v5 => if v3 = (255 : Int32) then if 0 ≤ v5 then some (v2, v3, v4, v5) else bc3 (zf_M_next mf sz v4 v5) fun v6 v7 v8 => bnd (v2 + v6) fun v9 => zf_M_more_L16 mf sz n v9 v6 v7 v8 else some (v2, v3, v4, v5)
theorem zf_M_more_L16_0 (mf : Nat → Int32) (sz : Nat → Int32) (v2 : Int32) (v3 : Int32) (v4 : Int32) (v5 : Int32) : zf_M_more_L16 mf sz 0 v2 v3 v4 v5 = none := rfl
theorem zf_M_more_L16_s (mf : Nat → Int32) (sz : Nat → Int32) (n : Nat) (v2 : Int32) (v3 : Int32) (v4 : Int32) (v5 : Int32) : zf_M_more_L16 mf sz (n + 1) v2 v3 v4 v5 = (if v3 = (255 : Int32) then if 0 ≤ v5 then some (v2, v3, v4, v5) else bc3 (zf_M_next mf sz v4 v5) fun v6 v7 v8 => bnd (v2 + v6) fun v9 => zf_M_more_L16 mf sz n v9 v6 v7 v8 else some (v2, v3, v4, v5)) := rfl
def zf_M_more (mf : Nat → Int32) (sz : Nat → Int32) (mp : Int32) (fa : Int32) (i1 : Int32) : Option (Int32 × Int32 × Int32) := bc1 (if i1 = (15 : Int32) then some (255 : Int32) else some (0 : Int32)) fun u1 => bc4 (zf_M_more_L16 mf sz 1000 i1 u1 mp fa) fun x10 x11 x12 x13 => some (x10, x12, x13)

def zf_M_readZero_L2 (mf : Nat → Int32) (sz : Nat → Int32) (bg : Int32) : Nat → (Int32) → (Int32) → (Int32) → (Int32) → (Nat → Int32) → Option (Int32 × Int32 × Int32 × Int32 × (Nat → Int32))
  | 0, _, _, _, _, _ => none
  | n + 1, v1, v2, v3, v4, v5 => if v1 = 0 then some (v1, v2, v3, v4, v5) else if 0 ≤ v4 then some (v1, v2, v3, v4, v5) else bc3 (zf_M_next mf sz v3 v4) fun v6 v7 v8 => bc3 (zf_M_more mf sz v7 v8 (v6 >>> ((4 : Int32) &&& 31))) fun v9 v10 v11 => bc1 (zf_M_made bg v2) fun v12 => bc1 (if (160 : Int32) < (v12 + v9) then some (0 : Int32) else some (1 : Int32)) fun u13 => bc1 (zf_M_need v11 u13 v3) fun v14 => bc4 (zf_M_literals mf sz v5 v2 v10 v14 v9) fun v15 v16 v17 v18 => gd (¬ ((1 : Int32) < 0 ∨ 3 ≤ Int32.toNatClampNeg (1 : Int32))) <| bc1 (if (sz (Int32.toNatClampNeg (1 : Int32))) ≤ v16 then some (0 : Int32) else some (1 : Int32)) fun u19 => bc4 (if u19 = 0 then some (v15, v16, v17, v18) else if 0 ≤ v17 then some (v15, v16, v17, v18) else bc3 (zf_M_next mf sz v16 v17) fun v24 v25 v26 => bc3 (zf_M_next mf sz v25 v26) fun v27 v28 v29 => bnd (v24 ||| (v27 <<< ((8 : Int32) &&& 31))) fun v30 => bc1 (if v30 ≤ 0 then some (0 : Int32) else if v15 < v30 then some (0 : Int32) else some (1 : Int32)) fun u31 => bc1 (zf_M_need v29 u31 v16) fun v32 => bc3 (zf_M_more mf sz v28 v32 (v6 &&& (15 : Int32))) fun v33 v34 v35 => bnd (v33 + (4 : Int32)) fun v36 => bc1 (zf_M_made bg v15) fun v37 => bc1 (if (160 : Int32) < (v37 + v36) then some (0 : Int32) else some (1 : Int32)) fun u38 => bc1 (zf_M_need v35 u38 v3) fun v39 => bc2 (zf_M_copies v18 v15 v39 v36 v30) fun v40 v41 => some (v40, v34, v39, v41)) fun u20 u21 u22 u23 => zf_M_readZero_L2 mf sz bg n u19 u20 u21 u22 u23
theorem zf_M_readZero_L2_0 (mf : Nat → Int32) (sz : Nat → Int32) (bg : Int32) (v1 : Int32) (v2 : Int32) (v3 : Int32) (v4 : Int32) (v5 : Nat → Int32) : zf_M_readZero_L2 mf sz bg 0 v1 v2 v3 v4 v5 = none := rfl
theorem zf_M_readZero_L2_s (mf : Nat → Int32) (sz : Nat → Int32) (bg : Int32) (n : Nat) (v1 : Int32) (v2 : Int32) (v3 : Int32) (v4 : Int32) (v5 : Nat → Int32) : zf_M_readZero_L2 mf sz bg (n + 1) v1 v2 v3 v4 v5 = (if v1 = 0 then some (v1, v2, v3, v4, v5) else if 0 ≤ v4 then some (v1, v2, v3, v4, v5) else bc3 (zf_M_next mf sz v3 v4) fun v6 v7 v8 => bc3 (zf_M_more mf sz v7 v8 (v6 >>> ((4 : Int32) &&& 31))) fun v9 v10 v11 => bc1 (zf_M_made bg v2) fun v12 => bc1 (if (160 : Int32) < (v12 + v9) then some (0 : Int32) else some (1 : Int32)) fun u13 => bc1 (zf_M_need v11 u13 v3) fun v14 => bc4 (zf_M_literals mf sz v5 v2 v10 v14 v9) fun v15 v16 v17 v18 => gd (¬ ((1 : Int32) < 0 ∨ 3 ≤ Int32.toNatClampNeg (1 : Int32))) <| bc1 (if (sz (Int32.toNatClampNeg (1 : Int32))) ≤ v16 then some (0 : Int32) else some (1 : Int32)) fun u19 => bc4 (if u19 = 0 then some (v15, v16, v17, v18) else if 0 ≤ v17 then some (v15, v16, v17, v18) else bc3 (zf_M_next mf sz v16 v17) fun v24 v25 v26 => bc3 (zf_M_next mf sz v25 v26) fun v27 v28 v29 => bnd (v24 ||| (v27 <<< ((8 : Int32) &&& 31))) fun v30 => bc1 (if v30 ≤ 0 then some (0 : Int32) else if v15 < v30 then some (0 : Int32) else some (1 : Int32)) fun u31 => bc1 (zf_M_need v29 u31 v16) fun v32 => bc3 (zf_M_more mf sz v28 v32 (v6 &&& (15 : Int32))) fun v33 v34 v35 => bnd (v33 + (4 : Int32)) fun v36 => bc1 (zf_M_made bg v15) fun v37 => bc1 (if (160 : Int32) < (v37 + v36) then some (0 : Int32) else some (1 : Int32)) fun u38 => bc1 (zf_M_need v35 u38 v3) fun v39 => bc2 (zf_M_copies v18 v15 v39 v36 v30) fun v40 v41 => some (v40, v34, v39, v41)) fun u20 u21 u22 u23 => zf_M_readZero_L2 mf sz bg n u19 u20 u21 u22 u23) := rfl
def zf_M_readZero (mf : Nat → Int32) (sz : Nat → Int32) (hi : Nat → Int32) (bg : Int32) (en : Int32) (mp : Int32) (fa : Int32) : Option (Int32 × Int32 × Int32 × (Nat → Int32)) := bc5 (zf_M_readZero_L2 mf sz bg 1000 (1 : Int32) en mp fa hi) fun x42 x43 x44 x45 x46 => some (x43, x44, x45, x46)

def zf_M_element (mf : Nat → Int32) (sz : Nat → Int32) (hi : Nat → Int32) (bg : Int32) (en : Int32) (mp : Int32) (fa : Int32) (i1 : Int32) : Option (Int32 × Int32 × Int32 × (Nat → Int32)) := bc3 (zf_M_next mf sz mp fa) fun v1 v2 v3 => bnd (v1 &&& (3 : Int32)) fun v4 => bc1 (if (3 : Int32) ≤ v4 then some (0 : Int32) else if 0 < v4 then some (1 : Int32) else if (60 : Int32) < (v1 >>> ((2 : Int32) &&& 31)) then some (0 : Int32) else some (1 : Int32)) fun u5 => bc1 (zf_M_need v3 u5 mp) fun v6 => bc1 (if v4 = 0 then some ((v1 >>> ((2 : Int32) &&& 31)) + (1 : Int32)) else if v4 = (1 : Int32) then some (((v1 >>> ((2 : Int32) &&& 31)) &&& (7 : Int32)) + (4 : Int32)) else some ((v1 >>> ((2 : Int32) &&& 31)) + (1 : Int32))) fun u7 => if v4 = 0 then bc3 (if u7 = (61 : Int32) then bc3 (zf_M_next mf sz v2 v6) fun v28 v29 v30 => bnd (v28 + (1 : Int32)) fun v31 => some (v31, v29, v30) else some (u7, v2, v6)) fun u25 u26 u27 => bc1 (zf_M_made bg en) fun v32 => bc1 (if i1 < (v32 + u25) then some (0 : Int32) else some (1 : Int32)) fun u33 => bc1 (zf_M_need u27 u33 mp) fun v34 => bc4 (zf_M_literals mf sz hi en u26 v34 u25) fun v35 v36 v37 v38 => some (v35, v36, v37, v38) else bc1 (if v4 = (1 : Int32) then some mp else some v2) fun u8 => bc3 (zf_M_next mf sz v2 v6) fun v9 v10 v11 => bc3 (if v4 = (1 : Int32) then some ((v9 + ((v1 >>> ((5 : Int32) &&& 31)) * (256 : Int32))), v10, v11) else bc3 (zf_M_next mf sz v10 v11) fun v15 v16 v17 => some ((v9 ||| (v15 <<< ((8 : Int32) &&& 31))), v16, v17)) fun u12 u13 u14 => bc1 (if u12 ≤ 0 then some (0 : Int32) else if en < u12 then some (0 : Int32) else some (1 : Int32)) fun u18 => bc1 (zf_M_need u14 u18 u8) fun v19 => bc1 (zf_M_made bg en) fun v20 => bc1 (if i1 < (v20 + u7) then some (0 : Int32) else some (1 : Int32)) fun u21 => bc1 (zf_M_need v19 u21 mp) fun v22 => bc2 (zf_M_copies hi en v22 u7 u12) fun v23 v24 => some (v23, u13, v22, v24)

def zf_M_readOne_L65 (mf : Nat → Int32) (sz : Nat → Int32) (bg : Int32) (u4 : Int32) : Nat → (Int32) → (Int32) → (Int32) → (Nat → Int32) → Option (Int32 × Int32 × Int32 × (Nat → Int32))
  | 0, _, _, _, _ => none
  | n + 1, v15, v16, v17, v18 => if 0 ≤ v17 then some (v15, v16, v17, v18) else gd (¬ ((1 : Int32) < 0 ∨ 3 ≤ Int32.toNatClampNeg (1 : Int32))) <| if (sz (Int32.toNatClampNeg (1 : Int32))) ≤ v16 then some (v15, v16, v17, v18) else bc4 (zf_M_element mf sz v18 bg v15 v16 v17 u4) fun v19 v20 v21 v22 => zf_M_readOne_L65 mf sz bg u4 n v19 v20 v21 v22
theorem zf_M_readOne_L65_0 (mf : Nat → Int32) (sz : Nat → Int32) (bg : Int32) (u4 : Int32) (v15 : Int32) (v16 : Int32) (v17 : Int32) (v18 : Nat → Int32) : zf_M_readOne_L65 mf sz bg u4 0 v15 v16 v17 v18 = none := rfl
theorem zf_M_readOne_L65_s (mf : Nat → Int32) (sz : Nat → Int32) (bg : Int32) (u4 : Int32) (n : Nat) (v15 : Int32) (v16 : Int32) (v17 : Int32) (v18 : Nat → Int32) : zf_M_readOne_L65 mf sz bg u4 (n + 1) v15 v16 v17 v18 = (if 0 ≤ v17 then some (v15, v16, v17, v18) else gd (¬ ((1 : Int32) < 0 ∨ 3 ≤ Int32.toNatClampNeg (1 : Int32))) <| if (sz (Int32.toNatClampNeg (1 : Int32))) ≤ v16 then some (v15, v16, v17, v18) else bc4 (zf_M_element mf sz v18 bg v15 v16 v17 u4) fun v19 v20 v21 v22 => zf_M_readOne_L65 mf sz bg u4 n v19 v20 v21 v22) := rfl
def zf_M_readOne (mf : Nat → Int32) (sz : Nat → Int32) (hi : Nat → Int32) (bg : Int32) (en : Int32) (mp : Int32) (fa : Int32) : Option (Int32 × Int32 × Int32 × (Nat → Int32)) := bc3 (zf_M_next mf sz mp fa) fun v1 v2 v3 => bc3 (if v1 ≤ (127 : Int32) then some (v1, v2, v3) else bc3 (zf_M_next mf sz v2 v3) fun v7 v8 v9 => bc1 (if (128 : Int32) ≤ v7 then some (0 : Int32) else some (1 : Int32)) fun u10 => bc1 (zf_M_need v9 u10 (1 : Int32)) fun v11 => bnd ((v1 &&& (127 : Int32)) ||| (v7 <<< ((7 : Int32) &&& 31))) fun v12 => some (v12, v8, v11)) fun u4 u5 u6 => bc1 (if (160 : Int32) < u4 then some (0 : Int32) else some (1 : Int32)) fun u13 => bc1 (zf_M_need u6 u13 (u5 - (1 : Int32))) fun v14 => bc4 (zf_M_readOne_L65 mf sz bg u4 1000 en u5 v14 hi) fun x23 x24 x25 x26 => bc1 (zf_M_made bg x23) fun v27 => bc1 (if v27 = u4 then some (1 : Int32) else some (0 : Int32)) fun u28 => gd (¬ ((1 : Int32) < 0 ∨ 3 ≤ Int32.toNatClampNeg (1 : Int32))) <| bc1 (zf_M_need x25 u28 (sz (Int32.toNatClampNeg (1 : Int32)))) fun v29 => some (x23, x24, v29, x26)

def zf_M_unpack_L79 (v4 : Int32) (u10 : Nat → Int32) (v20 : Nat → Int32) : Nat → (Int32) → (Nat → Int32) → Option (Int32 × (Nat → Int32))
  | 0, _, _ => none
  | n + 1, v21, v22 => gd (¬ ((0 : Int32) < 0 ∨ 3 ≤ Int32.toNatClampNeg (0 : Int32))) <| if (v20 (Int32.toNatClampNeg (0 : Int32))) ≤ v21 then some (v21, v22) else gd (¬ ((v4 + v21) < 0 ∨ 224 ≤ Int32.toNatClampNeg (v4 + v21))) <| gd (¬ (v21 < 0 ∨ 600 ≤ Int32.toNatClampNeg v21)) <| bnd (upd v22 (Int32.toNatClampNeg v21) (u10 (Int32.toNatClampNeg (v4 + v21)))) fun v23 => bnd (v21 + (1 : Int32)) fun v24 => zf_M_unpack_L79 v4 u10 v20 n v24 v23
theorem zf_M_unpack_L79_0 (v4 : Int32) (u10 : Nat → Int32) (v20 : Nat → Int32) (v21 : Int32) (v22 : Nat → Int32) : zf_M_unpack_L79 v4 u10 v20 0 v21 v22 = none := rfl
theorem zf_M_unpack_L79_s (v4 : Int32) (u10 : Nat → Int32) (v20 : Nat → Int32) (n : Nat) (v21 : Int32) (v22 : Nat → Int32) : zf_M_unpack_L79 v4 u10 v20 (n + 1) v21 v22 = (gd (¬ ((0 : Int32) < 0 ∨ 3 ≤ Int32.toNatClampNeg (0 : Int32))) <| if (v20 (Int32.toNatClampNeg (0 : Int32))) ≤ v21 then some (v21, v22) else gd (¬ ((v4 + v21) < 0 ∨ 224 ≤ Int32.toNatClampNeg (v4 + v21))) <| gd (¬ (v21 < 0 ∨ 600 ≤ Int32.toNatClampNeg v21)) <| bnd (upd v22 (Int32.toNatClampNeg v21) (u10 (Int32.toNatClampNeg (v4 + v21)))) fun v23 => bnd (v21 + (1 : Int32)) fun v24 => zf_M_unpack_L79 v4 u10 v20 n v24 v23) := rfl
def zf_M_unpack (mf : Nat → Int32) (sz : Nat → Int32) (hi : Nat → Int32) (bg : Int32) (en : Int32) (mp : Int32) (fa : Int32) (i1 : Int32) : Option (Int32 × Int32 × Int32 × Int32 × Int32 × Int32 × (Nat → Int32) × (Nat → Int32) × (Nat → Int32)) := bc1 (if i1 = 0 then some (0 : Int32) else if i1 = (1 : Int32) then some (0 : Int32) else some (1 : Int32)) fun u1 => bc2 (zf_M_fails u1 (0 : Int32)) fun v2 v3 => if v2 = 0 then bc3 (zf_M_remembers mf sz hi) fun v4 v5 v6 => bc4 (if i1 = 0 then bc4 (zf_M_readZero mf sz v6 v4 v5 (0 : Int32) (-1 : Int32)) fun v15 v16 v17 v18 => some (v15, v16, v17, v18) else bc4 (zf_M_readOne mf sz v6 v4 v5 (0 : Int32) (-1 : Int32)) fun v11 v12 v13 v14 => some (v11, v12, v13, v14)) fun u7 u8 u9 u10 => if u9 < 0 then bc1 (zf_M_made v4 u7) fun v19 => gd (¬ ((0 : Int32) < 0 ∨ 3 ≤ Int32.toNatClampNeg (0 : Int32))) <| bnd (upd sz (Int32.toNatClampNeg (0 : Int32)) v19) fun v20 => bc2 (zf_M_unpack_L79 v4 u10 v20 1000 (0 : Int32) mf) fun x25 x26 => gd (¬ ((0 : Int32) < 0 ∨ 3 ≤ Int32.toNatClampNeg (0 : Int32))) <| some ((v20 (Int32.toNatClampNeg (0 : Int32))), v3, v4, u7, u8, u9, x26, v20, u10) else some (((-1 : Int32) - u9), v3, v4, u7, u8, u9, mf, sz, u10) else some ((0 : Int32), v3, bg, en, mp, fa, mf, sz, hi)

def zf_M_crc_L54  : Nat → (Int32) → (Int32) → Option (Int32 × Int32)
  | 0, _, _ => none
  | n + 1, v8, v9 => if (8 : Int32) ≤ v9 then some (v8, v9) else bc1 (if (v8 &&& (1 : Int32)) = (1 : Int32) then some (1 : Int32) else some (0 : Int32)) fun u10 => bnd (ush v8 (1 : Int32)) fun v11 => bc1 (if u10 = 0 then some v11 else bnd (v11 ^^^ (-2097792136 : Int32)) fun v13 => some v13) fun u12 => bnd (v9 + (1 : Int32)) fun v14 => zf_M_crc_L54 n u12 v14
theorem zf_M_crc_L54_0  (v8 : Int32) (v9 : Int32) : zf_M_crc_L54  0 v8 v9 = none := rfl
theorem zf_M_crc_L54_s  (n : Nat) (v8 : Int32) (v9 : Int32) : zf_M_crc_L54  (n + 1) v8 v9 = (if (8 : Int32) ≤ v9 then some (v8, v9) else bc1 (if (v8 &&& (1 : Int32)) = (1 : Int32) then some (1 : Int32) else some (0 : Int32)) fun u10 => bnd (ush v8 (1 : Int32)) fun v11 => bc1 (if u10 = 0 then some v11 else bnd (v11 ^^^ (-2097792136 : Int32)) fun v13 => some v13) fun u12 => bnd (v9 + (1 : Int32)) fun v14 => zf_M_crc_L54 n u12 v14) := rfl
def zf_M_crc_L26 (mf : Nat → Int32) (sz : Nat → Int32) (i1 : Int32) : Nat → (Int32) → (Int32) → Option (Int32 × Int32)
  | 0, _, _ => none
  | n + 1, v5, v6 => gd (¬ (i1 < 0 ∨ 3 ≤ Int32.toNatClampNeg i1)) <| if (sz (Int32.toNatClampNeg i1)) ≤ v6 then some (v5, v6) else gd (¬ ((((200 : Int32) * i1) + v6) < 0 ∨ 600 ≤ Int32.toNatClampNeg (((200 : Int32) * i1) + v6))) <| bnd (v5 ^^^ (mf (Int32.toNatClampNeg (((200 : Int32) * i1) + v6)))) fun v7 => bc2 (zf_M_crc_L54  1000 v7 (0 : Int32)) fun x15 x16 => bnd (v6 + (1 : Int32)) fun v17 => zf_M_crc_L26 mf sz i1 n x15 v17
theorem zf_M_crc_L26_0 (mf : Nat → Int32) (sz : Nat → Int32) (i1 : Int32) (v5 : Int32) (v6 : Int32) : zf_M_crc_L26 mf sz i1 0 v5 v6 = none := rfl
theorem zf_M_crc_L26_s (mf : Nat → Int32) (sz : Nat → Int32) (i1 : Int32) (n : Nat) (v5 : Int32) (v6 : Int32) : zf_M_crc_L26 mf sz i1 (n + 1) v5 v6 = (gd (¬ (i1 < 0 ∨ 3 ≤ Int32.toNatClampNeg i1)) <| if (sz (Int32.toNatClampNeg i1)) ≤ v6 then some (v5, v6) else gd (¬ ((((200 : Int32) * i1) + v6) < 0 ∨ 600 ≤ Int32.toNatClampNeg (((200 : Int32) * i1) + v6))) <| bnd (v5 ^^^ (mf (Int32.toNatClampNeg (((200 : Int32) * i1) + v6)))) fun v7 => bc2 (zf_M_crc_L54  1000 v7 (0 : Int32)) fun x15 x16 => bnd (v6 + (1 : Int32)) fun v17 => zf_M_crc_L26 mf sz i1 n x15 v17) := rfl
def zf_M_crc (mf : Nat → Int32) (sz : Nat → Int32) (i1 : Int32) : Option (Int32 × Int32) := bc1 (zf_M_isRow i1) fun v1 => bc1 (if v1 = 0 then some (1 : Int32) else some (0 : Int32)) fun u2 => bc2 (zf_M_fails u2 (0 : Int32)) fun v3 v4 => if v3 = 0 then bc2 (zf_M_crc_L26 mf sz i1 1000 (-1 : Int32) (0 : Int32)) fun x18 x19 => some ((x18 ^^^ (-1 : Int32)), v4) else some ((0 : Int32), v4)

def zf_M_turn (i0 : Int32) (i1 : Int32) : Option (Int32) := some ((i0 <<< (i1 &&& 31)) ||| (ush i0 ((32 : Int32) - i1)))

def zf_M_rowInt (mf : Nat → Int32) (i1 : Int32) (i2 : Int32) : Option (Int32) := bnd (((200 : Int32) * i1) + i2) fun v1 => gd (¬ (v1 < 0 ∨ 600 ≤ Int32.toNatClampNeg v1)) <| gd (¬ ((v1 + (1 : Int32)) < 0 ∨ 600 ≤ Int32.toNatClampNeg (v1 + (1 : Int32)))) <| gd (¬ ((v1 + (2 : Int32)) < 0 ∨ 600 ≤ Int32.toNatClampNeg (v1 + (2 : Int32)))) <| gd (¬ ((v1 + (3 : Int32)) < 0 ∨ 600 ≤ Int32.toNatClampNeg (v1 + (3 : Int32)))) <| bc1 (zf_M_four (mf (Int32.toNatClampNeg v1)) (mf (Int32.toNatClampNeg (v1 + (1 : Int32)))) (mf (Int32.toNatClampNeg (v1 + (2 : Int32)))) (mf (Int32.toNatClampNeg (v1 + (3 : Int32))))) fun v2 => some v2

def zf_M_lane_L6 (mf : Nat → Int32) (sz : Nat → Int32) (i1 : Int32) (i2 : Int32) : Nat → (Int32) → (Int32) → Option (Int32 × Int32)
  | 0, _, _ => none
  | n + 1, v1, v2 => gd (¬ (i1 < 0 ∨ 3 ≤ Int32.toNatClampNeg i1)) <| if (sz (Int32.toNatClampNeg i1)) < (v2 + (16 : Int32)) then some (v1, v2) else bc1 (zf_M_rowInt mf i1 (v2 + ((4 : Int32) * i2))) fun v3 => bc1 (zf_M_turn (v1 + (v3 * (-2048144777 : Int32))) (13 : Int32)) fun v4 => bnd (v4 * (-1640531535 : Int32)) fun v5 => bnd (v2 + (16 : Int32)) fun v6 => zf_M_lane_L6 mf sz i1 i2 n v5 v6
theorem zf_M_lane_L6_0 (mf : Nat → Int32) (sz : Nat → Int32) (i1 : Int32) (i2 : Int32) (v1 : Int32) (v2 : Int32) : zf_M_lane_L6 mf sz i1 i2 0 v1 v2 = none := rfl
theorem zf_M_lane_L6_s (mf : Nat → Int32) (sz : Nat → Int32) (i1 : Int32) (i2 : Int32) (n : Nat) (v1 : Int32) (v2 : Int32) : zf_M_lane_L6 mf sz i1 i2 (n + 1) v1 v2 = (gd (¬ (i1 < 0 ∨ 3 ≤ Int32.toNatClampNeg i1)) <| if (sz (Int32.toNatClampNeg i1)) < (v2 + (16 : Int32)) then some (v1, v2) else bc1 (zf_M_rowInt mf i1 (v2 + ((4 : Int32) * i2))) fun v3 => bc1 (zf_M_turn (v1 + (v3 * (-2048144777 : Int32))) (13 : Int32)) fun v4 => bnd (v4 * (-1640531535 : Int32)) fun v5 => bnd (v2 + (16 : Int32)) fun v6 => zf_M_lane_L6 mf sz i1 i2 n v5 v6) := rfl
def zf_M_lane (mf : Nat → Int32) (sz : Nat → Int32) (i1 : Int32) (i2 : Int32) (i3 : Int32) : Option (Int32) := bc2 (zf_M_lane_L6 mf sz i1 i2 1000 i3 (0 : Int32)) fun x7 x8 => some x7

def zf_M_hash_L124 (mf : Nat → Int32) (i1 : Int32) (v5 : Int32) : Nat → (Int32) → (Int32) → (Int32) → Option (Int32 × Int32 × Int32)
  | 0, _, _, _ => none
  | n + 1, v19, v20, v21 => if v5 < (v21 + (4 : Int32)) then some (v19, v20, v21) else bc1 (zf_M_rowInt mf i1 v21) fun v22 => bc1 (zf_M_turn (v19 + (v22 * (-1028477379 : Int32))) (17 : Int32)) fun v23 => bnd (v23 * (668265263 : Int32)) fun v24 => bnd (v21 + (4 : Int32)) fun v25 => bnd (v21 + (4 : Int32)) fun v26 => zf_M_hash_L124 mf i1 v5 n v24 v25 v26
theorem zf_M_hash_L124_0 (mf : Nat → Int32) (i1 : Int32) (v5 : Int32) (v19 : Int32) (v20 : Int32) (v21 : Int32) : zf_M_hash_L124 mf i1 v5 0 v19 v20 v21 = none := rfl
theorem zf_M_hash_L124_s (mf : Nat → Int32) (i1 : Int32) (v5 : Int32) (n : Nat) (v19 : Int32) (v20 : Int32) (v21 : Int32) : zf_M_hash_L124 mf i1 v5 (n + 1) v19 v20 v21 = (if v5 < (v21 + (4 : Int32)) then some (v19, v20, v21) else bc1 (zf_M_rowInt mf i1 v21) fun v22 => bc1 (zf_M_turn (v19 + (v22 * (-1028477379 : Int32))) (17 : Int32)) fun v23 => bnd (v23 * (668265263 : Int32)) fun v24 => bnd (v21 + (4 : Int32)) fun v25 => bnd (v21 + (4 : Int32)) fun v26 => zf_M_hash_L124 mf i1 v5 n v24 v25 v26) := rfl
def zf_M_hash_L171 (mf : Nat → Int32) (i1 : Int32) (v5 : Int32) : Nat → (Int32) → (Int32) → Option (Int32 × Int32)
  | 0, _, _ => none
  | n + 1, v30, v31 => if v5 ≤ v31 then some (v30, v31) else gd (¬ ((((200 : Int32) * i1) + v31) < 0 ∨ 600 ≤ Int32.toNatClampNeg (((200 : Int32) * i1) + v31))) <| bc1 (zf_M_turn (v30 + ((mf (Int32.toNatClampNeg (((200 : Int32) * i1) + v31))) * (374761393 : Int32))) (11 : Int32)) fun v32 => bnd (v32 * (-1640531535 : Int32)) fun v33 => bnd (v31 + (1 : Int32)) fun v34 => zf_M_hash_L171 mf i1 v5 n v33 v34
theorem zf_M_hash_L171_0 (mf : Nat → Int32) (i1 : Int32) (v5 : Int32) (v30 : Int32) (v31 : Int32) : zf_M_hash_L171 mf i1 v5 0 v30 v31 = none := rfl
theorem zf_M_hash_L171_s (mf : Nat → Int32) (i1 : Int32) (v5 : Int32) (n : Nat) (v30 : Int32) (v31 : Int32) : zf_M_hash_L171 mf i1 v5 (n + 1) v30 v31 = (if v5 ≤ v31 then some (v30, v31) else gd (¬ ((((200 : Int32) * i1) + v31) < 0 ∨ 600 ≤ Int32.toNatClampNeg (((200 : Int32) * i1) + v31))) <| bc1 (zf_M_turn (v30 + ((mf (Int32.toNatClampNeg (((200 : Int32) * i1) + v31))) * (374761393 : Int32))) (11 : Int32)) fun v32 => bnd (v32 * (-1640531535 : Int32)) fun v33 => bnd (v31 + (1 : Int32)) fun v34 => zf_M_hash_L171 mf i1 v5 n v33 v34) := rfl
def zf_M_hash (mf : Nat → Int32) (sz : Nat → Int32) (i1 : Int32) (i2 : Int32) : Option (Int32 × Int32) := bc1 (zf_M_isRow i1) fun v1 => bc1 (if v1 = 0 then some (1 : Int32) else some (0 : Int32)) fun u2 => bc2 (zf_M_fails u2 (0 : Int32)) fun v3 v4 => if v3 = 0 then gd (¬ (i1 < 0 ∨ 3 ≤ Int32.toNatClampNeg i1)) <| bnd (sz (Int32.toNatClampNeg i1)) fun v5 => bnd (i2 + (374761393 : Int32)) fun v6 => bc1 (if v5 < (16 : Int32) then some v6 else bc1 (zf_M_lane mf sz i1 (0 : Int32) ((i2 + (-1640531535 : Int32)) + (-2048144777 : Int32))) fun v8 => bc1 (zf_M_turn v8 (1 : Int32)) fun v9 => bc1 (zf_M_lane mf sz i1 (1 : Int32) (i2 + (-2048144777 : Int32))) fun v10 => bc1 (zf_M_turn v10 (7 : Int32)) fun v11 => bc1 (zf_M_lane mf sz i1 (2 : Int32) i2) fun v12 => bc1 (zf_M_turn v12 (12 : Int32)) fun v13 => bc1 (zf_M_lane mf sz i1 (3 : Int32) (i2 - (-1640531535 : Int32))) fun v14 => bc1 (zf_M_turn v14 (18 : Int32)) fun v15 => bnd (((v9 + v11) + v13) + v15) fun v16 => some v16) fun u7 => bnd (u7 + v5) fun v17 => bnd ((v5 / (16 : Int32)) * (16 : Int32)) fun v18 => bc3 (zf_M_hash_L124 mf i1 v5 1000 v17 v18 v18) fun x27 x28 x29 => bc2 (zf_M_hash_L171 mf i1 v5 1000 x27 x28) fun x35 x36 => bnd (x35 ^^^ (ush x35 (15 : Int32))) fun v37 => bnd (v37 * (-2048144777 : Int32)) fun v38 => bnd (v38 ^^^ (ush v38 (13 : Int32))) fun v39 => bnd (v39 * (-1028477379 : Int32)) fun v40 => some ((v40 ^^^ (ush v40 (16 : Int32))), v4) else some ((0 : Int32), v4)

def zf_D_rewind  : Option (Int32 × Int32 × Int32) := bc1 (zf_R_clear) fun v1 => some (v1, (0 : Int32), (-1 : Int32))


def zf_X_crcStep_L4  : Nat → (Int32) → (Int32) → Option (Int32 × Int32)
  | 0, _, _ => none
  | n + 1, v1, v2 => if (8 : Int32) ≤ v2 then some (v1, v2) else bc1 (if (v1 &&& (1 : Int32)) = (1 : Int32) then some ((ush v1 (1 : Int32)) ^^^ (-2097792136 : Int32)) else some (ush v1 (1 : Int32))) fun u3 => bnd (v2 + (1 : Int32)) fun v4 => zf_X_crcStep_L4 n u3 v4
theorem zf_X_crcStep_L4_0  (v1 : Int32) (v2 : Int32) : zf_X_crcStep_L4  0 v1 v2 = none := rfl
theorem zf_X_crcStep_L4_s  (n : Nat) (v1 : Int32) (v2 : Int32) : zf_X_crcStep_L4  (n + 1) v1 v2 = (if (8 : Int32) ≤ v2 then some (v1, v2) else bc1 (if (v1 &&& (1 : Int32)) = (1 : Int32) then some ((ush v1 (1 : Int32)) ^^^ (-2097792136 : Int32)) else some (ush v1 (1 : Int32))) fun u3 => bnd (v2 + (1 : Int32)) fun v4 => zf_X_crcStep_L4 n u3 v4) := rfl
def zf_X_crcStep (i0 : Int32) : Option (Int32) := bc2 (zf_X_crcStep_L4  1000 i0 (0 : Int32)) fun x5 x6 => some x5

def zf_X_turnLeft (i0 : Int32) (i1 : Int32) : Option (Int32) := some ((i0 <<< (i1 &&& 31)) ||| (ush i0 ((32 : Int32) - i1)))

def zf_X_lane_L5 (rn : Int32) (rl : Nat) (rf : Nat → Int32) (i1 : Int32) : Nat → (Int32) → (Int32) → Option (Int32 × Int32)
  | 0, _, _ => none
  | n + 1, v1, v2 => if rn < (v2 + (16 : Int32)) then some (v1, v2) else bc1 (zf_R_intAt rn rl rf (v2 + i1)) fun v3 => bc1 (zf_X_turnLeft (v1 + (v3 * (-2048144777 : Int32))) (13 : Int32)) fun v4 => bnd (v4 * (-1640531535 : Int32)) fun v5 => bnd (v2 + (16 : Int32)) fun v6 => zf_X_lane_L5 rn rl rf i1 n v5 v6
theorem zf_X_lane_L5_0 (rn : Int32) (rl : Nat) (rf : Nat → Int32) (i1 : Int32) (v1 : Int32) (v2 : Int32) : zf_X_lane_L5 rn rl rf i1 0 v1 v2 = none := rfl
theorem zf_X_lane_L5_s (rn : Int32) (rl : Nat) (rf : Nat → Int32) (i1 : Int32) (n : Nat) (v1 : Int32) (v2 : Int32) : zf_X_lane_L5 rn rl rf i1 (n + 1) v1 v2 = (if rn < (v2 + (16 : Int32)) then some (v1, v2) else bc1 (zf_R_intAt rn rl rf (v2 + i1)) fun v3 => bc1 (zf_X_turnLeft (v1 + (v3 * (-2048144777 : Int32))) (13 : Int32)) fun v4 => bnd (v4 * (-1640531535 : Int32)) fun v5 => bnd (v2 + (16 : Int32)) fun v6 => zf_X_lane_L5 rn rl rf i1 n v5 v6) := rfl
def zf_X_lane (rn : Int32) (rl : Nat) (rf : Nat → Int32) (i1 : Int32) (i2 : Int32) : Option (Int32) := bc2 (zf_X_lane_L5 rn rl rf i1 1000 i2 (0 : Int32)) fun x7 x8 => some x7

def zf_X_mixLanes (rn : Int32) (rl : Nat) (rf : Nat → Int32) (i1 : Int32) : Option (Int32) := bc1 (zf_X_lane rn rl rf (0 : Int32) ((i1 + (-1640531535 : Int32)) + (-2048144777 : Int32))) fun v1 => bc1 (zf_X_turnLeft v1 (1 : Int32)) fun v2 => bc1 (zf_X_lane rn rl rf (4 : Int32) (i1 + (-2048144777 : Int32))) fun v3 => bc1 (zf_X_turnLeft v3 (7 : Int32)) fun v4 => bc1 (zf_X_lane rn rl rf (8 : Int32) i1) fun v5 => bc1 (zf_X_turnLeft v5 (12 : Int32)) fun v6 => bc1 (zf_X_lane rn rl rf (12 : Int32) (i1 - (-1640531535 : Int32))) fun v7 => bc1 (zf_X_turnLeft v7 (18 : Int32)) fun v8 => some (((v2 + v4) + v6) + v8)

def zf_X_mixRest_L19 (rn : Int32) (rl : Nat) (rf : Nat → Int32) (v1 : Int32) : Nat → (Int32) → (Int32) → Option (Int32 × Int32)
  | 0, _, _ => none
  | n + 1, v3, v4 => if v1 ≤ v4 then some (v3, v4) else bc1 (zf_R_intAt rn rl rf v4) fun v5 => bc1 (zf_X_turnLeft (v3 + (v5 * (-1028477379 : Int32))) (17 : Int32)) fun v6 => bnd (v6 * (668265263 : Int32)) fun v7 => bnd (v4 + (4 : Int32)) fun v8 => zf_X_mixRest_L19 rn rl rf v1 n v7 v8
theorem zf_X_mixRest_L19_0 (rn : Int32) (rl : Nat) (rf : Nat → Int32) (v1 : Int32) (v3 : Int32) (v4 : Int32) : zf_X_mixRest_L19 rn rl rf v1 0 v3 v4 = none := rfl
theorem zf_X_mixRest_L19_s (rn : Int32) (rl : Nat) (rf : Nat → Int32) (v1 : Int32) (n : Nat) (v3 : Int32) (v4 : Int32) : zf_X_mixRest_L19 rn rl rf v1 (n + 1) v3 v4 = (if v1 ≤ v4 then some (v3, v4) else bc1 (zf_R_intAt rn rl rf v4) fun v5 => bc1 (zf_X_turnLeft (v3 + (v5 * (-1028477379 : Int32))) (17 : Int32)) fun v6 => bnd (v6 * (668265263 : Int32)) fun v7 => bnd (v4 + (4 : Int32)) fun v8 => zf_X_mixRest_L19 rn rl rf v1 n v7 v8) := rfl
def zf_X_mixRest_L54 (rn : Int32) (rl : Nat) (rf : Nat → Int32) : Nat → (Int32) → (Int32) → Option (Int32 × Int32)
  | 0, _, _ => none
  | n + 1, v11, v12 => if rn ≤ v12 then some (v11, v12) else bc1 (zf_R_byteAt rn rl rf v12) fun v13 => bc1 (zf_X_turnLeft (v11 + (v13 * (374761393 : Int32))) (11 : Int32)) fun v14 => bnd (v14 * (-1640531535 : Int32)) fun v15 => bnd (v12 + (1 : Int32)) fun v16 => zf_X_mixRest_L54 rn rl rf n v15 v16
theorem zf_X_mixRest_L54_0 (rn : Int32) (rl : Nat) (rf : Nat → Int32) (v11 : Int32) (v12 : Int32) : zf_X_mixRest_L54 rn rl rf 0 v11 v12 = none := rfl
theorem zf_X_mixRest_L54_s (rn : Int32) (rl : Nat) (rf : Nat → Int32) (n : Nat) (v11 : Int32) (v12 : Int32) : zf_X_mixRest_L54 rn rl rf (n + 1) v11 v12 = (if rn ≤ v12 then some (v11, v12) else bc1 (zf_R_byteAt rn rl rf v12) fun v13 => bc1 (zf_X_turnLeft (v11 + (v13 * (374761393 : Int32))) (11 : Int32)) fun v14 => bnd (v14 * (-1640531535 : Int32)) fun v15 => bnd (v12 + (1 : Int32)) fun v16 => zf_X_mixRest_L54 rn rl rf n v15 v16) := rfl
def zf_X_mixRest (rn : Int32) (rl : Nat) (rf : Nat → Int32) (i1 : Int32) : Option (Int32) := bnd (rn &&& (-4 : Int32)) fun v1 => bnd (rn &&& (-16 : Int32)) fun v2 => bc2 (zf_X_mixRest_L19 rn rl rf v1 1000 i1 v2) fun x9 x10 => bc2 (zf_X_mixRest_L54 rn rl rf 1000 x9 v1) fun x17 x18 => some x17

def zf_X_finish (i0 : Int32) : Option (Int32) := bnd (i0 ^^^ (ush i0 (15 : Int32))) fun v1 => bnd (v1 * (-2048144777 : Int32)) fun v2 => bnd (v2 ^^^ (ush v2 (13 : Int32))) fun v3 => bnd (v3 * (-1028477379 : Int32)) fun v4 => bnd (v4 ^^^ (ush v4 (16 : Int32))) fun v5 => some v5
end
section
set_option maxHeartbeats 4000000 in
set_option maxRecDepth 100000 in
theorem zk_R_room (l : Launch) (D : va_G) (cB cI cJ : ClassId) (ra : Nat) (rb : Nat) (rn : Int32) (rl : Nat) (rf : Nat → Int32) (r : Int32) (h : zf_R_room rn rl = some r) : CoI l zy_R_room zw_R_room { frames := 0, cells := 0, slots := 0, locals := 0 } D cB cI cJ [.ref ra] [(ra, .inr (4, [.ref rb, .int rn])), (rb, .inl (cB, rl, .inl rf))] r [(ra, .inr (4, [.ref rb, .int rn])), (rb, .inl (cB, rl, .inl rf))] := by
  unfold zf_R_room at h
  refine CoI.ofG (cc := zc_R_room) (maxL := 1) (own := RX5) (by decide) rfl rfl rfl trivial (Nat.le_of_ble_eq_true rfl) (L0 := [(0, .ref ra)]) rfl (fun k F E => ?_)
  refine G_aload_n F zd_R_room_0 rfl (j := 0) rfl ?_
  refine G_get F fa_R_7_R (q := 0) zd_R_room_1 rfl rfl ?_
  refine G_alenB F zd_R_room_4 (q := 1) rfl ?_
  refine G_aload_n F zd_R_room_5 rfl (j := 0) rfl ?_
  refine G_get F fa_R_13_R (q := 0) zd_R_room_6 rfl rfl ?_
  refine G_isub F zd_R_room_9 ?_
  have q1 := Option.some.inj h
  subst q1
  exact E 10 _ zd_R_room_10

set_option maxHeartbeats 4000000 in
set_option maxRecDepth 100000 in
theorem zk_R_add (l : Launch) (D : va_G) (cB cI cJ : ClassId) (ra : Nat) (rb : Nat) (rn : Int32) (rl : Nat) (rf : Nat → Int32) (i1 : Int32) (rn' : Int32) (rf' : Nat → Int32) (h : zf_R_add rn rl rf i1 = some (rn', rf')) : CoV l zy_R_add zw_R_add { frames := 0, cells := 0, slots := 0, locals := 0 } D cB cI cJ [.ref ra, .int i1] [(ra, .inr (4, [.ref rb, .int rn])), (rb, .inl (cB, rl, .inl rf))] [(ra, .inr (4, [.ref rb, .int rn'])), (rb, .inl (cB, rl, .inl rf'))] := by
  unfold zf_R_add at h
  refine CoV.ofG (cc := zc_R_add) (maxL := 2) (own := RX5) (by decide) rfl rfl rfl trivial (Nat.le_of_ble_eq_true rfl) (L0 := [(0, .ref ra), (1, .int i1)]) rfl (fun k F E => ?_)
  refine G_aload_n F zd_R_add_0 rfl (j := 0) rfl ?_
  refine G_get F fa_R_13_R (q := 0) zd_R_add_1 rfl rfl ?_
  refine G_if_lt F zd_R_add_4 (tgt := 40) rfl (fun h0 => ?_) (fun h0 => ?_)
  · have h := iP h h0
    obtain ⟨q1, q2⟩ := inj2 h
    subst q1
    subst q2
    exact E 40 _ zd_R_add_40
  · have h := iN h h0
    refine G_aload_n F zd_R_add_7 rfl (j := 0) rfl ?_
    refine G_get F fa_R_13_R (q := 0) zd_R_add_8 rfl rfl ?_
    refine G_aload_n F zd_R_add_11 rfl (j := 0) rfl ?_
    refine G_get F fa_R_7_R (q := 0) zd_R_add_12 rfl rfl ?_
    refine G_alenB F zd_R_add_15 (q := 1) rfl ?_
    refine G_icmp_ge F zd_R_add_16 (tgt := 40) rfl (fun h0 => ?_) (fun h0 => ?_)
    · have h := iP h h0
      obtain ⟨q1, q2⟩ := inj2 h
      subst q1
      subst q2
      exact E 40 _ zd_R_add_40
    · have h := iN h h0
      refine G_aload_n F zd_R_add_19 rfl (j := 0) rfl ?_
      refine G_get F fa_R_7_R (q := 0) zd_R_add_20 rfl rfl ?_
      refine G_aload_n F zd_R_add_23 rfl (j := 0) rfl ?_
      refine G_get F fa_R_13_R (q := 0) zd_R_add_24 rfl rfl ?_
      refine G_iload_n F zd_R_add_27 rfl (j := 1) rfl ?_
      refine G_i2b F zd_R_add_28 ?_
      obtain ⟨h0, h⟩ := gd_s h
      obtain ⟨v1, ev1, h⟩ := bnd_s h
      refine G_bastore F zd_R_add_29 (q := 1) rfl h0 ev1 (ws' := [(ra, .inr (4, [.ref rb, .int rn])), (rb, .inl (cB, rl, .inl v1))]) rfl ?_
      refine G_aload_n F zd_R_add_30 rfl (j := 0) rfl ?_
      refine G_dup F zd_R_add_31 rfl ?_
      refine G_get F fa_R_13_R (q := 0) zd_R_add_32 rfl rfl ?_
      refine G_iconst (v := (1 : Int32)) F zd_R_add_35 (by decide) ?_
      refine G_iadd F zd_R_add_36 ?_
      obtain ⟨v2, ev2, h⟩ := bnd_s h
      refine G_topi ev2 ?_
      refine G_put F fp_R_13_R (q := 0) zd_R_add_37 rfl (Nat.le_of_ble_eq_true rfl) (ws' := [(ra, .inr (4, [.ref rb, .int v2])), (rb, .inl (cB, rl, .inl v1))]) rfl ?_
      obtain ⟨q1, q2⟩ := inj2 h
      subst q1
      subst q2
      exact E 40 _ zd_R_add_40

set_option maxHeartbeats 4000000 in
set_option maxRecDepth 100000 in
theorem zk_R_clear (l : Launch) (D : va_G) (cB cI cJ : ClassId) (ra : Nat) (rb : Nat) (rn : Int32) (rl : Nat) (rf : Nat → Int32) (rn' : Int32) (h : zf_R_clear  = some rn') : CoV l zy_R_clear zw_R_clear { frames := 0, cells := 0, slots := 0, locals := 0 } D cB cI cJ [.ref ra] [(ra, .inr (4, [.ref rb, .int rn])), (rb, .inl (cB, rl, .inl rf))] [(ra, .inr (4, [.ref rb, .int rn'])), (rb, .inl (cB, rl, .inl rf))] := by
  unfold zf_R_clear at h
  refine CoV.ofG (cc := zc_R_clear) (maxL := 1) (own := RX5) (by decide) rfl rfl rfl trivial (Nat.le_of_ble_eq_true rfl) (L0 := [(0, .ref ra)]) rfl (fun k F E => ?_)
  refine G_aload_n F zd_R_clear_0 rfl (j := 0) rfl ?_
  refine G_iconst (v := (0 : Int32)) F zd_R_clear_1 (by decide) ?_
  refine G_put F fp_R_13_R (q := 0) zd_R_clear_2 rfl (Nat.le_of_ble_eq_true rfl) (ws' := [(ra, .inr (4, [.ref rb, .int (0 : Int32)])), (rb, .inl (cB, rl, .inl rf))]) rfl ?_
  have q1 := Option.some.inj h
  subst q1
  exact E 5 _ zd_R_clear_5

set_option maxHeartbeats 4000000 in
set_option maxRecDepth 100000 in
theorem zk_R_byteAt (l : Launch) (D : va_G) (cB cI cJ : ClassId) (ra : Nat) (rb : Nat) (rn : Int32) (rl : Nat) (rf : Nat → Int32) (i1 : Int32) (r : Int32) (h : zf_R_byteAt rn rl rf i1 = some r) : CoI l zy_R_byteAt zw_R_byteAt { frames := 0, cells := 0, slots := 0, locals := 0 } D cB cI cJ [.ref ra, .int i1] [(ra, .inr (4, [.ref rb, .int rn])), (rb, .inl (cB, rl, .inl rf))] r [(ra, .inr (4, [.ref rb, .int rn])), (rb, .inl (cB, rl, .inl rf))] := by
  unfold zf_R_byteAt at h
  refine CoI.ofG (cc := zc_R_byteAt) (maxL := 2) (own := RX5) (by decide) rfl rfl rfl trivial (Nat.le_of_ble_eq_true rfl) (L0 := [(0, .ref ra), (1, .int i1)]) rfl (fun k F E => ?_)
  refine G_iload_n F zd_R_byteAt_0 rfl (j := 1) rfl ?_
  refine G_if_lt F zd_R_byteAt_1 (tgt := 34) rfl (fun h0 => ?_) (fun h0 => ?_)
  · have h := iP h h0
    refine G_iconst (v := (0 : Int32)) F zd_R_byteAt_34 (by decide) ?_
    have q1 := Option.some.inj h
    subst q1
    exact E 35 _ zd_R_byteAt_35
  · have h := iN h h0
    refine G_iload_n F zd_R_byteAt_4 rfl (j := 1) rfl ?_
    refine G_aload_n F zd_R_byteAt_5 rfl (j := 0) rfl ?_
    refine G_get F fa_R_13_R (q := 0) zd_R_byteAt_6 rfl rfl ?_
    refine G_icmp_ge F zd_R_byteAt_9 (tgt := 34) rfl (fun h0 => ?_) (fun h0 => ?_)
    · have h := iP h h0
      refine G_iconst (v := (0 : Int32)) F zd_R_byteAt_34 (by decide) ?_
      have q1 := Option.some.inj h
      subst q1
      exact E 35 _ zd_R_byteAt_35
    · have h := iN h h0
      refine G_iload_n F zd_R_byteAt_12 rfl (j := 1) rfl ?_
      refine G_aload_n F zd_R_byteAt_13 rfl (j := 0) rfl ?_
      refine G_get F fa_R_7_R (q := 0) zd_R_byteAt_14 rfl rfl ?_
      refine G_alenB F zd_R_byteAt_17 (q := 1) rfl ?_
      refine G_icmp_ge F zd_R_byteAt_18 (tgt := 34) rfl (fun h0 => ?_) (fun h0 => ?_)
      · have h := iP h h0
        refine G_iconst (v := (0 : Int32)) F zd_R_byteAt_34 (by decide) ?_
        have q1 := Option.some.inj h
        subst q1
        exact E 35 _ zd_R_byteAt_35
      · have h := iN h h0
        refine G_aload_n F zd_R_byteAt_21 rfl (j := 0) rfl ?_
        refine G_get F fa_R_7_R (q := 0) zd_R_byteAt_22 rfl rfl ?_
        refine G_iload_n F zd_R_byteAt_25 rfl (j := 1) rfl ?_
        obtain ⟨h0, h⟩ := gd_s h
        refine G_baload F zd_R_byteAt_26 (q := 1) rfl h0 ?_
        refine G_sipush (v := (255 : Int32)) F zd_R_byteAt_27 (by decide) ?_
        refine G_iand F zd_R_byteAt_30 ?_
        refine G_goto F zd_R_byteAt_31 (tgt := 35) rfl ?_
        have q1 := Option.some.inj h
        subst q1
        exact E 35 _ zd_R_byteAt_35

set_option maxHeartbeats 4000000 in
set_option maxRecDepth 100000 in
theorem zk_R_intAt (l : Launch) (D : va_G) (cB cI cJ : ClassId) (ra : Nat) (rb : Nat) (rn : Int32) (rl : Nat) (rf : Nat → Int32) (i1 : Int32) (r : Int32) (h : zf_R_intAt rn rl rf i1 = some r) : CoI l zy_R_intAt zw_R_intAt { frames := 1, cells := 0, slots := 0, locals := 21 } D cB cI cJ [.ref ra, .int i1] [(ra, .inr (4, [.ref rb, .int rn])), (rb, .inl (cB, rl, .inl rf))] r [(ra, .inr (4, [.ref rb, .int rn])), (rb, .inl (cB, rl, .inl rf))] := by
  unfold zf_R_intAt at h
  refine CoI.ofG (cc := zc_R_intAt) (maxL := 2) (own := RX5) (by decide) rfl rfl rfl trivial (Nat.le_of_ble_eq_true rfl) (L0 := [(0, .ref ra), (1, .int i1)]) rfl (fun k F E => ?_)
  refine G_aload_n F zd_R_intAt_0 rfl (j := 0) rfl ?_
  refine G_iload_n F zd_R_intAt_1 rfl (j := 1) rfl ?_
  obtain ⟨v1, hc2, h⟩ := bc1_s h
  refine G_calliV0 F (zk_R_byteAt l D cB cI cJ ra rb rn rl rf i1 v1 hc2) (rest := []) [0, 1] rfl rfl (q0 := 0) rfl cv_R_17_R rfl rfl ⟨Nat.le_of_ble_eq_true rfl, Nat.le_of_ble_eq_true rfl⟩ hf0 rfl (Nat.le_of_ble_eq_true rfl) zd_R_intAt_2 rfl ?_
  refine G_aload_n F zd_R_intAt_5 rfl (j := 0) rfl ?_
  refine G_iload_n F zd_R_intAt_6 rfl (j := 1) rfl ?_
  refine G_iconst (v := (1 : Int32)) F zd_R_intAt_7 (by decide) ?_
  refine G_iadd F zd_R_intAt_8 ?_
  obtain ⟨v2, hc9, h⟩ := bc1_s h
  refine G_calliV0 F (zk_R_byteAt l D cB cI cJ ra rb rn rl rf (i1 + (1 : Int32)) v2 hc9) (rest := [.int v1]) [0, 1] rfl rfl (q0 := 0) rfl cv_R_17_R rfl rfl ⟨Nat.le_of_ble_eq_true rfl, Nat.le_of_ble_eq_true rfl⟩ hf0 rfl (Nat.le_of_ble_eq_true rfl) zd_R_intAt_9 rfl ?_
  refine G_bipush (v := (8 : Int32)) F zd_R_intAt_12 (by decide) ?_
  refine G_ishl F zd_R_intAt_14 ?_
  refine G_ior F zd_R_intAt_15 ?_
  refine G_aload_n F zd_R_intAt_16 rfl (j := 0) rfl ?_
  refine G_iload_n F zd_R_intAt_17 rfl (j := 1) rfl ?_
  refine G_iconst (v := (2 : Int32)) F zd_R_intAt_18 (by decide) ?_
  refine G_iadd F zd_R_intAt_19 ?_
  obtain ⟨v3, hc20, h⟩ := bc1_s h
  refine G_calliV0 F (zk_R_byteAt l D cB cI cJ ra rb rn rl rf (i1 + (2 : Int32)) v3 hc20) (rest := [.int (v1 ||| (v2 <<< ((8 : Int32) &&& 31)))]) [0, 1] rfl rfl (q0 := 0) rfl cv_R_17_R rfl rfl ⟨Nat.le_of_ble_eq_true rfl, Nat.le_of_ble_eq_true rfl⟩ hf0 rfl (Nat.le_of_ble_eq_true rfl) zd_R_intAt_20 rfl ?_
  refine G_bipush (v := (16 : Int32)) F zd_R_intAt_23 (by decide) ?_
  refine G_ishl F zd_R_intAt_25 ?_
  refine G_ior F zd_R_intAt_26 ?_
  refine G_aload_n F zd_R_intAt_27 rfl (j := 0) rfl ?_
  refine G_iload_n F zd_R_intAt_28 rfl (j := 1) rfl ?_
  refine G_iconst (v := (3 : Int32)) F zd_R_intAt_29 (by decide) ?_
  refine G_iadd F zd_R_intAt_30 ?_
  obtain ⟨v4, hc31, h⟩ := bc1_s h
  refine G_calliV0 F (zk_R_byteAt l D cB cI cJ ra rb rn rl rf (i1 + (3 : Int32)) v4 hc31) (rest := [.int ((v1 ||| (v2 <<< ((8 : Int32) &&& 31))) ||| (v3 <<< ((16 : Int32) &&& 31)))]) [0, 1] rfl rfl (q0 := 0) rfl cv_R_17_R rfl rfl ⟨Nat.le_of_ble_eq_true rfl, Nat.le_of_ble_eq_true rfl⟩ hf0 rfl (Nat.le_of_ble_eq_true rfl) zd_R_intAt_31 rfl ?_
  refine G_bipush (v := (24 : Int32)) F zd_R_intAt_34 (by decide) ?_
  refine G_ishl F zd_R_intAt_36 ?_
  refine G_ior F zd_R_intAt_37 ?_
  have q1 := Option.some.inj h
  subst q1
  exact E 38 _ zd_R_intAt_38

set_option maxHeartbeats 4000000 in
set_option maxRecDepth 100000 in
theorem zl_R_become_6 {k : GC} {l : Launch} {D : va_G} {cB cI cJ : ClassId} (F : GF k l { frames := 1, cells := 0, slots := 0, locals := 21 } zc_R_become 3 RX5 D cB cI cJ) (rl : Nat) (on : Int32) (ol : Nat) (of : Nat → Int32) (ra : Nat) (rb : Nat) (oa : Nat) (ob : Nat) : ∀ (n : Nat) (v2 : Int32) (v3 : Int32) (v4 : Nat → Int32) (w2 : Int32) (w3 : Int32) (w4 : Nat → Int32), zf_R_become_L6 rl on ol of n v2 v3 v4 = some (w2, w3, w4) → G D 3 k 0 0 29 [(0, .ref ra), (1, .ref oa), (2, .int w2)] [] [(ra, .inr (4, [.ref rb, .int w3])), (rb, .inl (cB, rl, .inl w4)), (oa, .inr (4, [.ref ob, .int on])), (ob, .inl (cB, ol, .inl of))] → G D 3 k 0 0 6 [(0, .ref ra), (1, .ref oa), (2, .int v2)] [] [(ra, .inr (4, [.ref rb, .int v3])), (rb, .inl (cB, rl, .inl v4)), (oa, .inr (4, [.ref ob, .int on])), (ob, .inl (cB, ol, .inl of))] := by
  intro n
  induction n with
  | zero =>
    intro v2 v3 v4 w2 w3 w4 h
    rw [zf_R_become_L6_0] at h
    cases h
  | succ n ih =>
    intro v2 v3 v4 w2 w3 w4 h hx
    have h := (zf_R_become_L6_s rl on ol of n v2 v3 v4).symm.trans h
    refine G_iload_n F zd_R_become_6 rfl (j := 2) rfl ?_
    refine G_aload_n F zd_R_become_7 rfl (j := 1) rfl ?_
    refine G_get F fa_R_13_R (q := 2) zd_R_become_8 rfl rfl ?_
    refine G_icmp_ge F zd_R_become_11 (tgt := 29) rfl (fun h0 => ?_) (fun h0 => ?_)
    · have h := iP h h0
      obtain ⟨q1, q2, q3⟩ := inj3 h
      subst q1
      subst q2
      subst q3
      exact G_lv [0, 1, 2] rfl hx
    · have h := iN h h0
      refine G_aload_n F zd_R_become_14 rfl (j := 0) rfl ?_
      refine G_aload_n F zd_R_become_15 rfl (j := 1) rfl ?_
      refine G_iload_n F zd_R_become_16 rfl (j := 2) rfl ?_
      obtain ⟨v5, hc17, h⟩ := bc1_s h
      refine G_calliV0 F (zk_R_byteAt l D cB cI cJ oa ob on ol of v2 v5 hc17) (rest := [.ref ra]) [2, 3] rfl rfl (q0 := 2) rfl cv_R_17_R rfl rfl ⟨Nat.le_of_ble_eq_true rfl, Nat.le_of_ble_eq_true rfl⟩ hf0 rfl (Nat.le_of_ble_eq_true rfl) zd_R_become_17 rfl ?_
      obtain ⟨v6, v7, hc20, h⟩ := bc2_s h
      refine G_callvV F (zk_R_add l D cB cI cJ ra rb v3 rl v4 v5 v6 v7 hc20) (rest := []) [0, 1] rfl rfl rfl (ws' := [(ra, .inr (4, [.ref rb, .int v6])), (rb, .inl (cB, rl, .inl v7)), (oa, .inr (4, [.ref ob, .int on])), (ob, .inl (cB, ol, .inl of))]) rfl (q0 := 0) rfl cv_R_24_R rfl rfl ⟨Nat.le_of_ble_eq_true rfl, Nat.le_of_ble_eq_true rfl⟩ hf0 rfl (Nat.le_of_ble_eq_true rfl) zd_R_become_20 rfl ?_
      obtain ⟨v8, ev8, h⟩ := bnd_s h
      refine G_iinc F zd_R_become_23 (j := 2) rfl (w := (1 : Int32)) (by decide) ev8 (by decide) (L' := [(2, .int v8), (0, .ref ra), (1, .ref oa)]) rfl ?_
      refine G_goto F zd_R_become_26 (tgt := 6) rfl ?_
      exact G_lv [1, 2, 0] rfl (ih _ _ _ _ _ _ h hx)
set_option maxHeartbeats 4000000 in
set_option maxRecDepth 100000 in
theorem zk_R_become (l : Launch) (D : va_G) (cB cI cJ : ClassId) (ra : Nat) (rb : Nat) (oa : Nat) (ob : Nat) (rn : Int32) (rl : Nat) (rf : Nat → Int32) (on : Int32) (ol : Nat) (of : Nat → Int32) (rn' : Int32) (rf' : Nat → Int32) (h : zf_R_become rl rf on ol of = some (rn', rf')) : CoV l zy_R_become zw_R_become { frames := 1, cells := 0, slots := 0, locals := 21 } D cB cI cJ [.ref ra, .ref oa] [(ra, .inr (4, [.ref rb, .int rn])), (rb, .inl (cB, rl, .inl rf)), (oa, .inr (4, [.ref ob, .int on])), (ob, .inl (cB, ol, .inl of))] [(ra, .inr (4, [.ref rb, .int rn'])), (rb, .inl (cB, rl, .inl rf')), (oa, .inr (4, [.ref ob, .int on])), (ob, .inl (cB, ol, .inl of))] := by
  unfold zf_R_become at h
  refine CoV.ofG (cc := zc_R_become) (maxL := 3) (own := RX5) (by decide) rfl rfl rfl trivial (Nat.le_of_ble_eq_true rfl) (L0 := [(0, .ref ra), (1, .ref oa)]) rfl (fun k F E => ?_)
  refine G_aload_n F zd_R_become_0 rfl (j := 0) rfl ?_
  obtain ⟨v1, hc1, h⟩ := bc1_s h
  refine G_callvV F (zk_R_clear l D cB cI cJ ra rb rn rl rf v1 hc1) (rest := []) [0, 1] rfl rfl rfl (ws' := [(ra, .inr (4, [.ref rb, .int v1])), (rb, .inl (cB, rl, .inl rf)), (oa, .inr (4, [.ref ob, .int on])), (ob, .inl (cB, ol, .inl of))]) rfl (q0 := 0) rfl cv_R_21_R rfl rfl ⟨Nat.le_of_ble_eq_true rfl, Nat.le_of_ble_eq_true rfl⟩ hf0 rfl (Nat.le_of_ble_eq_true rfl) zd_R_become_1 rfl ?_
  refine G_iconst (v := (0 : Int32)) F zd_R_become_4 (by decide) ?_
  refine G_istore_n F zd_R_become_5 rfl (by decide) (L' := [(2, .int (0 : Int32)), (0, .ref ra), (1, .ref oa)]) rfl ?_
  obtain ⟨x9, x10, x11, hl6, h⟩ := bc3_s h
  refine G_lv [1, 2, 0] rfl (zl_R_become_6 F rl on ol of ra rb oa ob 1000 (0 : Int32) v1 rf x9 x10 x11 hl6 ?_)
  obtain ⟨q1, q2⟩ := inj2 h
  subst q1
  subst q2
  exact E 29 _ zd_R_become_29

set_option maxHeartbeats 4000000 in
set_option maxRecDepth 100000 in
theorem zk_H_length (l : Launch) (D : va_G) (cB cI cJ : ClassId) (pa : Nat) (pb : Nat) (qa : Nat) (qb : Nat) (ha : Nat) (pn : Int32) (pl : Nat) (pf : Nat → Int32) (qn : Int32) (ql : Nat) (qf : Nat → Int32) (r : Int32) (h : zf_H_length pn qn = some r) : CoI l zy_H_length zw_H_length { frames := 0, cells := 0, slots := 0, locals := 0 } D cB cI cJ [.ref ha] [(pa, .inr (4, [.ref pb, .int pn])), (pb, .inl (cB, pl, .inl pf)), (qa, .inr (4, [.ref qb, .int qn])), (qb, .inl (cB, ql, .inl qf)), (ha, .inr (2, [.ref pa, .ref qa]))] r [(pa, .inr (4, [.ref pb, .int pn])), (pb, .inl (cB, pl, .inl pf)), (qa, .inr (4, [.ref qb, .int qn])), (qb, .inl (cB, ql, .inl qf)), (ha, .inr (2, [.ref pa, .ref qa]))] := by
  unfold zf_H_length at h
  refine CoI.ofG (cc := zc_H_length) (maxL := 1) (own := RX2) (by decide) rfl rfl rfl trivial (Nat.le_of_ble_eq_true rfl) (L0 := [(0, .ref ha)]) rfl (fun k F E => ?_)
  refine G_aload_n F zd_H_length_0 rfl (j := 0) rfl ?_
  refine G_get F fa_H_7_H (q := 4) zd_H_length_1 rfl rfl ?_
  refine G_get F fa_H_16_R (q := 0) zd_H_length_4 rfl rfl ?_
  refine G_aload_n F zd_H_length_7 rfl (j := 0) rfl ?_
  refine G_get F fa_H_13_H (q := 4) zd_H_length_8 rfl rfl ?_
  refine G_get F fa_H_16_R (q := 2) zd_H_length_11 rfl rfl ?_
  refine G_iadd F zd_H_length_14 ?_
  have q1 := Option.some.inj h
  subst q1
  exact E 15 _ zd_H_length_15

set_option maxHeartbeats 4000000 in
set_option maxRecDepth 100000 in
theorem zk_H_byteAt (l : Launch) (D : va_G) (cB cI cJ : ClassId) (pa : Nat) (pb : Nat) (qa : Nat) (qb : Nat) (ha : Nat) (pn : Int32) (pl : Nat) (pf : Nat → Int32) (qn : Int32) (ql : Nat) (qf : Nat → Int32) (i1 : Int32) (r : Int32) (h : zf_H_byteAt pn pl pf qn ql qf i1 = some r) : CoI l zy_H_byteAt zw_H_byteAt { frames := 1, cells := 0, slots := 0, locals := 21 } D cB cI cJ [.ref ha, .int i1] [(pa, .inr (4, [.ref pb, .int pn])), (pb, .inl (cB, pl, .inl pf)), (qa, .inr (4, [.ref qb, .int qn])), (qb, .inl (cB, ql, .inl qf)), (ha, .inr (2, [.ref pa, .ref qa]))] r [(pa, .inr (4, [.ref pb, .int pn])), (pb, .inl (cB, pl, .inl pf)), (qa, .inr (4, [.ref qb, .int qn])), (qb, .inl (cB, ql, .inl qf)), (ha, .inr (2, [.ref pa, .ref qa]))] := by
  unfold zf_H_byteAt at h
  refine CoI.ofG (cc := zc_H_byteAt) (maxL := 2) (own := RX2) (by decide) rfl rfl rfl trivial (Nat.le_of_ble_eq_true rfl) (L0 := [(0, .ref ha), (1, .int i1)]) rfl (fun k F E => ?_)
  refine G_iload_n F zd_H_byteAt_0 rfl (j := 1) rfl ?_
  refine G_aload_n F zd_H_byteAt_1 rfl (j := 0) rfl ?_
  refine G_get F fa_H_7_H (q := 4) zd_H_byteAt_2 rfl rfl ?_
  refine G_get F fa_H_16_R (q := 0) zd_H_byteAt_5 rfl rfl ?_
  refine G_icmp_ge F zd_H_byteAt_8 (tgt := 22) rfl (fun h0 => ?_) (fun h0 => ?_)
  · have h := iP h h0
    refine G_aload_n F zd_H_byteAt_22 rfl (j := 0) rfl ?_
    refine G_get F fa_H_13_H (q := 4) zd_H_byteAt_23 rfl rfl ?_
    refine G_iload_n F zd_H_byteAt_26 rfl (j := 1) rfl ?_
    refine G_aload_n F zd_H_byteAt_27 rfl (j := 0) rfl ?_
    refine G_get F fa_H_7_H (q := 4) zd_H_byteAt_28 rfl rfl ?_
    refine G_get F fa_H_16_R (q := 0) zd_H_byteAt_31 rfl rfl ?_
    refine G_isub F zd_H_byteAt_34 ?_
    obtain ⟨v1, hc35, h⟩ := bc1_s h
    refine G_calliV0 F (zk_R_byteAt l D cB cI cJ qa qb qn ql qf (i1 - pn) v1 hc35) (rest := []) [2, 3] rfl rfl (q0 := 2) rfl cv_H_22_R rfl rfl ⟨Nat.le_of_ble_eq_true rfl, Nat.le_of_ble_eq_true rfl⟩ hf0 rfl (Nat.le_of_ble_eq_true rfl) zd_H_byteAt_35 rfl ?_
    have q1 := Option.some.inj h
    subst q1
    exact E 38 _ zd_H_byteAt_38
  · have h := iN h h0
    refine G_aload_n F zd_H_byteAt_11 rfl (j := 0) rfl ?_
    refine G_get F fa_H_7_H (q := 4) zd_H_byteAt_12 rfl rfl ?_
    refine G_iload_n F zd_H_byteAt_15 rfl (j := 1) rfl ?_
    obtain ⟨v2, hc16, h⟩ := bc1_s h
    refine G_calliV0 F (zk_R_byteAt l D cB cI cJ pa pb pn pl pf i1 v2 hc16) (rest := []) [0, 1] rfl rfl (q0 := 0) rfl cv_H_22_R rfl rfl ⟨Nat.le_of_ble_eq_true rfl, Nat.le_of_ble_eq_true rfl⟩ hf0 rfl (Nat.le_of_ble_eq_true rfl) zd_H_byteAt_16 rfl ?_
    refine G_goto F zd_H_byteAt_19 (tgt := 38) rfl ?_
    have q1 := Option.some.inj h
    subst q1
    exact E 38 _ zd_H_byteAt_38

set_option maxHeartbeats 4000000 in
set_option maxRecDepth 100000 in
theorem zk_H_intAt (l : Launch) (D : va_G) (cB cI cJ : ClassId) (pa : Nat) (pb : Nat) (qa : Nat) (qb : Nat) (ha : Nat) (pn : Int32) (pl : Nat) (pf : Nat → Int32) (qn : Int32) (ql : Nat) (qf : Nat → Int32) (i1 : Int32) (r : Int32) (h : zf_H_intAt pn pl pf qn ql qf i1 = some r) : CoI l zy_H_intAt zw_H_intAt { frames := 2, cells := 0, slots := 0, locals := 42 } D cB cI cJ [.ref ha, .int i1] [(pa, .inr (4, [.ref pb, .int pn])), (pb, .inl (cB, pl, .inl pf)), (qa, .inr (4, [.ref qb, .int qn])), (qb, .inl (cB, ql, .inl qf)), (ha, .inr (2, [.ref pa, .ref qa]))] r [(pa, .inr (4, [.ref pb, .int pn])), (pb, .inl (cB, pl, .inl pf)), (qa, .inr (4, [.ref qb, .int qn])), (qb, .inl (cB, ql, .inl qf)), (ha, .inr (2, [.ref pa, .ref qa]))] := by
  unfold zf_H_intAt at h
  refine CoI.ofG (cc := zc_H_intAt) (maxL := 2) (own := RX2) (by decide) rfl rfl rfl trivial (Nat.le_of_ble_eq_true rfl) (L0 := [(0, .ref ha), (1, .int i1)]) rfl (fun k F E => ?_)
  refine G_aload_n F zd_H_intAt_0 rfl (j := 0) rfl ?_
  refine G_iload_n F zd_H_intAt_1 rfl (j := 1) rfl ?_
  obtain ⟨v1, hc2, h⟩ := bc1_s h
  refine G_calliV0 F (zk_H_byteAt l D cB cI cJ pa pb qa qb ha pn pl pf qn ql qf i1 v1 hc2) (rest := []) [0, 1, 2, 3, 4] rfl rfl (q0 := 4) rfl cv_H_26_H rfl rfl ⟨Nat.le_of_ble_eq_true rfl, Nat.le_of_ble_eq_true rfl⟩ hf0 rfl (Nat.le_of_ble_eq_true rfl) zd_H_intAt_2 rfl ?_
  refine G_aload_n F zd_H_intAt_5 rfl (j := 0) rfl ?_
  refine G_iload_n F zd_H_intAt_6 rfl (j := 1) rfl ?_
  refine G_iconst (v := (1 : Int32)) F zd_H_intAt_7 (by decide) ?_
  refine G_iadd F zd_H_intAt_8 ?_
  obtain ⟨v2, hc9, h⟩ := bc1_s h
  refine G_calliV0 F (zk_H_byteAt l D cB cI cJ pa pb qa qb ha pn pl pf qn ql qf (i1 + (1 : Int32)) v2 hc9) (rest := [.int v1]) [0, 1, 2, 3, 4] rfl rfl (q0 := 4) rfl cv_H_26_H rfl rfl ⟨Nat.le_of_ble_eq_true rfl, Nat.le_of_ble_eq_true rfl⟩ hf0 rfl (Nat.le_of_ble_eq_true rfl) zd_H_intAt_9 rfl ?_
  refine G_bipush (v := (8 : Int32)) F zd_H_intAt_12 (by decide) ?_
  refine G_ishl F zd_H_intAt_14 ?_
  refine G_ior F zd_H_intAt_15 ?_
  refine G_aload_n F zd_H_intAt_16 rfl (j := 0) rfl ?_
  refine G_iload_n F zd_H_intAt_17 rfl (j := 1) rfl ?_
  refine G_iconst (v := (2 : Int32)) F zd_H_intAt_18 (by decide) ?_
  refine G_iadd F zd_H_intAt_19 ?_
  obtain ⟨v3, hc20, h⟩ := bc1_s h
  refine G_calliV0 F (zk_H_byteAt l D cB cI cJ pa pb qa qb ha pn pl pf qn ql qf (i1 + (2 : Int32)) v3 hc20) (rest := [.int (v1 ||| (v2 <<< ((8 : Int32) &&& 31)))]) [0, 1, 2, 3, 4] rfl rfl (q0 := 4) rfl cv_H_26_H rfl rfl ⟨Nat.le_of_ble_eq_true rfl, Nat.le_of_ble_eq_true rfl⟩ hf0 rfl (Nat.le_of_ble_eq_true rfl) zd_H_intAt_20 rfl ?_
  refine G_bipush (v := (16 : Int32)) F zd_H_intAt_23 (by decide) ?_
  refine G_ishl F zd_H_intAt_25 ?_
  refine G_ior F zd_H_intAt_26 ?_
  refine G_aload_n F zd_H_intAt_27 rfl (j := 0) rfl ?_
  refine G_iload_n F zd_H_intAt_28 rfl (j := 1) rfl ?_
  refine G_iconst (v := (3 : Int32)) F zd_H_intAt_29 (by decide) ?_
  refine G_iadd F zd_H_intAt_30 ?_
  obtain ⟨v4, hc31, h⟩ := bc1_s h
  refine G_calliV0 F (zk_H_byteAt l D cB cI cJ pa pb qa qb ha pn pl pf qn ql qf (i1 + (3 : Int32)) v4 hc31) (rest := [.int ((v1 ||| (v2 <<< ((8 : Int32) &&& 31))) ||| (v3 <<< ((16 : Int32) &&& 31)))]) [0, 1, 2, 3, 4] rfl rfl (q0 := 4) rfl cv_H_26_H rfl rfl ⟨Nat.le_of_ble_eq_true rfl, Nat.le_of_ble_eq_true rfl⟩ hf0 rfl (Nat.le_of_ble_eq_true rfl) zd_H_intAt_31 rfl ?_
  refine G_bipush (v := (24 : Int32)) F zd_H_intAt_34 (by decide) ?_
  refine G_ishl F zd_H_intAt_36 ?_
  refine G_ior F zd_H_intAt_37 ?_
  have q1 := Option.some.inj h
  subst q1
  exact E 38 _ zd_H_intAt_38
end

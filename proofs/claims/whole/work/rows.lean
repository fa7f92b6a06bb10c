section
-- ===== PART A: goes FIRST, ahead of the names: the tables' words, and 'selects' of the private methods out of them =====
/-- a private method of a class that the tables say can be made, by its rows of tables_1 -/
def lw_okq (q : MethodName × Nat) : Prop := (q.1.cls ≠ "java/lang/invoke/MethodHandle" ∧ q.1.cls ≠ "java/lang/invoke/VarHandle") ∧ Cond.instantiable q.1.cls q.2 ∈ tables_1 ∧ Cond.privateMethod q.1 ∈ tables_1 ∧ Cond.instanceMethod q.1 ∈ tables_1
theorem lw_p0 : lw_okq (⟨"PressSuite", "rowOf", "(I)LPressSuite$Row;"⟩, 9) := ⟨⟨by decide +kernel, by decide +kernel⟩, List.mem_of_getElem? (i := 19) (by decide +kernel), List.mem_of_getElem? (i := 216) (by decide +kernel), List.mem_of_getElem? (i := 217) (by decide +kernel)⟩
theorem lw_p1 : lw_okq (⟨"java/lang/Throwable", "fillInStackTrace", "(I)Ljava/lang/Throwable;"⟩, 6) := ⟨⟨by decide +kernel, by decide +kernel⟩, List.mem_of_getElem? (i := 257) (by decide +kernel), List.mem_of_getElem? (i := 255) (by decide +kernel), List.mem_of_getElem? (i := 256) (by decide +kernel)⟩
theorem lw_p2 : lw_okq (⟨"PressSuite$Packer", "learnPast", "()V"⟩, 7) := ⟨⟨by decide +kernel, by decide +kernel⟩, List.mem_of_getElem? (i := 49) (by decide +kernel), List.mem_of_getElem? (i := 337) (by decide +kernel), List.mem_of_getElem? (i := 338) (by decide +kernel)⟩
theorem lw_p3 : lw_okq (⟨"PressSuite$Packer", "exchange", "(I)I"⟩, 7) := ⟨⟨by decide +kernel, by decide +kernel⟩, List.mem_of_getElem? (i := 49) (by decide +kernel), List.mem_of_getElem? (i := 341) (by decide +kernel), List.mem_of_getElem? (i := 342) (by decide +kernel)⟩
theorem lw_p4 : lw_okq (⟨"PressSuite$Packer", "copyFrom", "(ILPressSuite$Writer;)I"⟩, 7) := ⟨⟨by decide +kernel, by decide +kernel⟩, List.mem_of_getElem? (i := 49) (by decide +kernel), List.mem_of_getElem? (i := 370) (by decide +kernel), List.mem_of_getElem? (i := 371) (by decide +kernel)⟩
theorem lw_p5 : lw_okq (⟨"PressSuite$Packer", "matchLength", "(II)I"⟩, 7) := ⟨⟨by decide +kernel, by decide +kernel⟩, List.mem_of_getElem? (i := 49) (by decide +kernel), List.mem_of_getElem? (i := 374) (by decide +kernel), List.mem_of_getElem? (i := 375) (by decide +kernel)⟩
theorem lw_p6 : lw_okq (⟨"PressSuite$ElementWriter", "writeLiterals", "(II)V"⟩, 2) := ⟨⟨by decide +kernel, by decide +kernel⟩, List.mem_of_getElem? (i := 117) (by decide +kernel), List.mem_of_getElem? (i := 389) (by decide +kernel), List.mem_of_getElem? (i := 390) (by decide +kernel)⟩
theorem lw_p7 : lw_okq (⟨"PressSuite$ElementWriter", "writeLong", "(II)V"⟩, 2) := ⟨⟨by decide +kernel, by decide +kernel⟩, List.mem_of_getElem? (i := 117) (by decide +kernel), List.mem_of_getElem? (i := 401) (by decide +kernel), List.mem_of_getElem? (i := 402) (by decide +kernel)⟩
theorem lw_p8 : lw_okq (⟨"PressSuite$ElementWriter", "writeCopy", "(II)V"⟩, 2) := ⟨⟨by decide +kernel, by decide +kernel⟩, List.mem_of_getElem? (i := 117) (by decide +kernel), List.mem_of_getElem? (i := 405) (by decide +kernel), List.mem_of_getElem? (i := 406) (by decide +kernel)⟩
theorem lw_p9 : lw_okq (⟨"PressSuite$SequenceWriter", "writeLiterals", "(III)V"⟩, 2) := ⟨⟨by decide +kernel, by decide +kernel⟩, List.mem_of_getElem? (i := 93) (by decide +kernel), List.mem_of_getElem? (i := 415) (by decide +kernel), List.mem_of_getElem? (i := 416) (by decide +kernel)⟩
theorem lw_p10 : lw_okq (⟨"PressSuite$SequenceWriter", "writeSum", "(I)V"⟩, 2) := ⟨⟨by decide +kernel, by decide +kernel⟩, List.mem_of_getElem? (i := 93) (by decide +kernel), List.mem_of_getElem? (i := 420) (by decide +kernel), List.mem_of_getElem? (i := 421) (by decide +kernel)⟩
theorem lw_p11 : lw_okq (⟨"PressSuite$ElementReader", "takeSize", "()I"⟩, 6) := ⟨⟨by decide +kernel, by decide +kernel⟩, List.mem_of_getElem? (i := 164) (by decide +kernel), List.mem_of_getElem? (i := 459) (by decide +kernel), List.mem_of_getElem? (i := 460) (by decide +kernel)⟩
theorem lw_p12 : lw_okq (⟨"PressSuite$ElementReader", "readElement", "()V"⟩, 6) := ⟨⟨by decide +kernel, by decide +kernel⟩, List.mem_of_getElem? (i := 164) (by decide +kernel), List.mem_of_getElem? (i := 492) (by decide +kernel), List.mem_of_getElem? (i := 493) (by decide +kernel)⟩
theorem lw_p13 : lw_okq (⟨"PressSuite$ElementReader", "readLiterals", "(II)V"⟩, 6) := ⟨⟨by decide +kernel, by decide +kernel⟩, List.mem_of_getElem? (i := 164) (by decide +kernel), List.mem_of_getElem? (i := 496) (by decide +kernel), List.mem_of_getElem? (i := 497) (by decide +kernel)⟩
theorem lw_p14 : lw_okq (⟨"PressSuite$ElementReader", "readShortCopy", "(II)V"⟩, 6) := ⟨⟨by decide +kernel, by decide +kernel⟩, List.mem_of_getElem? (i := 164) (by decide +kernel), List.mem_of_getElem? (i := 515) (by decide +kernel), List.mem_of_getElem? (i := 516) (by decide +kernel)⟩
theorem lw_p15 : lw_okq (⟨"PressSuite$ElementReader", "readLongCopy", "(II)V"⟩, 6) := ⟨⟨by decide +kernel, by decide +kernel⟩, List.mem_of_getElem? (i := 164) (by decide +kernel), List.mem_of_getElem? (i := 533) (by decide +kernel), List.mem_of_getElem? (i := 534) (by decide +kernel)⟩
def lw_privs_1 : List (MethodName × Nat) := [(⟨"PressSuite", "rowOf", "(I)LPressSuite$Row;"⟩, 9), (⟨"java/lang/Throwable", "fillInStackTrace", "(I)Ljava/lang/Throwable;"⟩, 6), (⟨"PressSuite$Packer", "learnPast", "()V"⟩, 7), (⟨"PressSuite$Packer", "exchange", "(I)I"⟩, 7), (⟨"PressSuite$Packer", "copyFrom", "(ILPressSuite$Writer;)I"⟩, 7), (⟨"PressSuite$Packer", "matchLength", "(II)I"⟩, 7), (⟨"PressSuite$ElementWriter", "writeLiterals", "(II)V"⟩, 2), (⟨"PressSuite$ElementWriter", "writeLong", "(II)V"⟩, 2), (⟨"PressSuite$ElementWriter", "writeCopy", "(II)V"⟩, 2), (⟨"PressSuite$SequenceWriter", "writeLiterals", "(III)V"⟩, 2), (⟨"PressSuite$SequenceWriter", "writeSum", "(I)V"⟩, 2), (⟨"PressSuite$ElementReader", "takeSize", "()I"⟩, 6), (⟨"PressSuite$ElementReader", "readElement", "()V"⟩, 6), (⟨"PressSuite$ElementReader", "readLiterals", "(II)V"⟩, 6), (⟨"PressSuite$ElementReader", "readShortCopy", "(II)V"⟩, 6), (⟨"PressSuite$ElementReader", "readLongCopy", "(II)V"⟩, 6)]
theorem lw_r1 : ∀ q ∈ lw_privs_1, lw_okq q := List.forall_mem_cons.mpr ⟨lw_p0, List.forall_mem_cons.mpr ⟨lw_p1, List.forall_mem_cons.mpr ⟨lw_p2, List.forall_mem_cons.mpr ⟨lw_p3, List.forall_mem_cons.mpr ⟨lw_p4, List.forall_mem_cons.mpr ⟨lw_p5, List.forall_mem_cons.mpr ⟨lw_p6, List.forall_mem_cons.mpr ⟨lw_p7, List.forall_mem_cons.mpr ⟨lw_p8, List.forall_mem_cons.mpr ⟨lw_p9, List.forall_mem_cons.mpr ⟨lw_p10, List.forall_mem_cons.mpr ⟨lw_p11, List.forall_mem_cons.mpr ⟨lw_p12, List.forall_mem_cons.mpr ⟨lw_p13, List.forall_mem_cons.mpr ⟨lw_p14, List.forall_mem_cons.mpr ⟨lw_p15, fun _ h => absurd h List.not_mem_nil⟩⟩⟩⟩⟩⟩⟩⟩⟩⟩⟩⟩⟩⟩⟩⟩
theorem lw_p16 : lw_okq (⟨"PressSuite$SequenceReader", "readSequence", "()Z"⟩, 5) := ⟨⟨by decide +kernel, by decide +kernel⟩, List.mem_of_getElem? (i := 126) (by decide +kernel), List.mem_of_getElem? (i := 546) (by decide +kernel), List.mem_of_getElem? (i := 547) (by decide +kernel)⟩
theorem lw_p17 : lw_okq (⟨"PressSuite$SequenceReader", "takeSum", "(I)I"⟩, 5) := ⟨⟨by decide +kernel, by decide +kernel⟩, List.mem_of_getElem? (i := 126) (by decide +kernel), List.mem_of_getElem? (i := 553) (by decide +kernel), List.mem_of_getElem? (i := 554) (by decide +kernel)⟩
theorem lw_p18 : lw_okq (⟨"PressSuiteModel", "fails", "(ZZ)Z"⟩, 12) := ⟨⟨by decide +kernel, by decide +kernel⟩, List.mem_of_getElem? (i := 652) (by decide +kernel), List.mem_of_getElem? (i := 709) (by decide +kernel), List.mem_of_getElem? (i := 710) (by decide +kernel)⟩
theorem lw_p19 : lw_okq (⟨"PressSuiteModel", "remembers", "()V"⟩, 12) := ⟨⟨by decide +kernel, by decide +kernel⟩, List.mem_of_getElem? (i := 652) (by decide +kernel), List.mem_of_getElem? (i := 734) (by decide +kernel), List.mem_of_getElem? (i := 735) (by decide +kernel)⟩
theorem lw_p20 : lw_okq (⟨"PressSuiteModel", "emit", "(I)V"⟩, 12) := ⟨⟨by decide +kernel, by decide +kernel⟩, List.mem_of_getElem? (i := 652) (by decide +kernel), List.mem_of_getElem? (i := 738) (by decide +kernel), List.mem_of_getElem? (i := 739) (by decide +kernel)⟩
theorem lw_p21 : lw_okq (⟨"PressSuiteModel", "packs", "(I)V"⟩, 12) := ⟨⟨by decide +kernel, by decide +kernel⟩, List.mem_of_getElem? (i := 652) (by decide +kernel), List.mem_of_getElem? (i := 742) (by decide +kernel), List.mem_of_getElem? (i := 743) (by decide +kernel)⟩
theorem lw_p22 : lw_okq (⟨"PressSuiteModel", "slot", "(I)I"⟩, 12) := ⟨⟨by decide +kernel, by decide +kernel⟩, List.mem_of_getElem? (i := 652) (by decide +kernel), List.mem_of_getElem? (i := 746) (by decide +kernel), List.mem_of_getElem? (i := 747) (by decide +kernel)⟩
theorem lw_p23 : lw_okq (⟨"PressSuiteModel", "intAt", "(I)I"⟩, 12) := ⟨⟨by decide +kernel, by decide +kernel⟩, List.mem_of_getElem? (i := 652) (by decide +kernel), List.mem_of_getElem? (i := 750) (by decide +kernel), List.mem_of_getElem? (i := 751) (by decide +kernel)⟩
theorem lw_p24 : lw_okq (⟨"PressSuiteModel", "same", "(II)I"⟩, 12) := ⟨⟨by decide +kernel, by decide +kernel⟩, List.mem_of_getElem? (i := 652) (by decide +kernel), List.mem_of_getElem? (i := 758) (by decide +kernel), List.mem_of_getElem? (i := 759) (by decide +kernel)⟩
theorem lw_p25 : lw_okq (⟨"PressSuiteModel", "sequence", "(IIII)V"⟩, 12) := ⟨⟨by decide +kernel, by decide +kernel⟩, List.mem_of_getElem? (i := 652) (by decide +kernel), List.mem_of_getElem? (i := 762) (by decide +kernel), List.mem_of_getElem? (i := 763) (by decide +kernel)⟩
theorem lw_p26 : lw_okq (⟨"PressSuiteModel", "emitMore", "(I)V"⟩, 12) := ⟨⟨by decide +kernel, by decide +kernel⟩, List.mem_of_getElem? (i := 652) (by decide +kernel), List.mem_of_getElem? (i := 769) (by decide +kernel), List.mem_of_getElem? (i := 770) (by decide +kernel)⟩
theorem lw_p27 : lw_okq (⟨"PressSuiteModel", "emitLiterals", "(II)V"⟩, 12) := ⟨⟨by decide +kernel, by decide +kernel⟩, List.mem_of_getElem? (i := 652) (by decide +kernel), List.mem_of_getElem? (i := 773) (by decide +kernel), List.mem_of_getElem? (i := 774) (by decide +kernel)⟩
theorem lw_p28 : lw_okq (⟨"PressSuiteModel", "literalElement", "(II)V"⟩, 12) := ⟨⟨by decide +kernel, by decide +kernel⟩, List.mem_of_getElem? (i := 652) (by decide +kernel), List.mem_of_getElem? (i := 777) (by decide +kernel), List.mem_of_getElem? (i := 778) (by decide +kernel)⟩
theorem lw_p29 : lw_okq (⟨"PressSuiteModel", "copyElements", "(II)V"⟩, 12) := ⟨⟨by decide +kernel, by decide +kernel⟩, List.mem_of_getElem? (i := 652) (by decide +kernel), List.mem_of_getElem? (i := 781) (by decide +kernel), List.mem_of_getElem? (i := 782) (by decide +kernel)⟩
theorem lw_p30 : lw_okq (⟨"PressSuiteModel", "copyElement", "(II)V"⟩, 12) := ⟨⟨by decide +kernel, by decide +kernel⟩, List.mem_of_getElem? (i := 652) (by decide +kernel), List.mem_of_getElem? (i := 785) (by decide +kernel), List.mem_of_getElem? (i := 786) (by decide +kernel)⟩
theorem lw_p31 : lw_okq (⟨"PressSuiteModel", "lastSequence", "(II)V"⟩, 12) := ⟨⟨by decide +kernel, by decide +kernel⟩, List.mem_of_getElem? (i := 652) (by decide +kernel), List.mem_of_getElem? (i := 789) (by decide +kernel), List.mem_of_getElem? (i := 790) (by decide +kernel)⟩
def lw_privs_2 : List (MethodName × Nat) := [(⟨"PressSuite$SequenceReader", "readSequence", "()Z"⟩, 5), (⟨"PressSuite$SequenceReader", "takeSum", "(I)I"⟩, 5), (⟨"PressSuiteModel", "fails", "(ZZ)Z"⟩, 12), (⟨"PressSuiteModel", "remembers", "()V"⟩, 12), (⟨"PressSuiteModel", "emit", "(I)V"⟩, 12), (⟨"PressSuiteModel", "packs", "(I)V"⟩, 12), (⟨"PressSuiteModel", "slot", "(I)I"⟩, 12), (⟨"PressSuiteModel", "intAt", "(I)I"⟩, 12), (⟨"PressSuiteModel", "same", "(II)I"⟩, 12), (⟨"PressSuiteModel", "sequence", "(IIII)V"⟩, 12), (⟨"PressSuiteModel", "emitMore", "(I)V"⟩, 12), (⟨"PressSuiteModel", "emitLiterals", "(II)V"⟩, 12), (⟨"PressSuiteModel", "literalElement", "(II)V"⟩, 12), (⟨"PressSuiteModel", "copyElements", "(II)V"⟩, 12), (⟨"PressSuiteModel", "copyElement", "(II)V"⟩, 12), (⟨"PressSuiteModel", "lastSequence", "(II)V"⟩, 12)]
theorem lw_r2 : ∀ q ∈ lw_privs_2, lw_okq q := List.forall_mem_cons.mpr ⟨lw_p16, List.forall_mem_cons.mpr ⟨lw_p17, List.forall_mem_cons.mpr ⟨lw_p18, List.forall_mem_cons.mpr ⟨lw_p19, List.forall_mem_cons.mpr ⟨lw_p20, List.forall_mem_cons.mpr ⟨lw_p21, List.forall_mem_cons.mpr ⟨lw_p22, List.forall_mem_cons.mpr ⟨lw_p23, List.forall_mem_cons.mpr ⟨lw_p24, List.forall_mem_cons.mpr ⟨lw_p25, List.forall_mem_cons.mpr ⟨lw_p26, List.forall_mem_cons.mpr ⟨lw_p27, List.forall_mem_cons.mpr ⟨lw_p28, List.forall_mem_cons.mpr ⟨lw_p29, List.forall_mem_cons.mpr ⟨lw_p30, List.forall_mem_cons.mpr ⟨lw_p31, fun _ h => absurd h List.not_mem_nil⟩⟩⟩⟩⟩⟩⟩⟩⟩⟩⟩⟩⟩⟩⟩⟩
theorem lw_p32 : lw_okq (⟨"PressSuiteModel", "readZero", "()V"⟩, 12) := ⟨⟨by decide +kernel, by decide +kernel⟩, List.mem_of_getElem? (i := 652) (by decide +kernel), List.mem_of_getElem? (i := 797) (by decide +kernel), List.mem_of_getElem? (i := 798) (by decide +kernel)⟩
theorem lw_p33 : lw_okq (⟨"PressSuiteModel", "next", "()I"⟩, 12) := ⟨⟨by decide +kernel, by decide +kernel⟩, List.mem_of_getElem? (i := 652) (by decide +kernel), List.mem_of_getElem? (i := 801) (by decide +kernel), List.mem_of_getElem? (i := 802) (by decide +kernel)⟩
theorem lw_p34 : lw_okq (⟨"PressSuiteModel", "need", "(ZI)V"⟩, 12) := ⟨⟨by decide +kernel, by decide +kernel⟩, List.mem_of_getElem? (i := 652) (by decide +kernel), List.mem_of_getElem? (i := 805) (by decide +kernel), List.mem_of_getElem? (i := 806) (by decide +kernel)⟩
theorem lw_p35 : lw_okq (⟨"PressSuiteModel", "more", "(I)I"⟩, 12) := ⟨⟨by decide +kernel, by decide +kernel⟩, List.mem_of_getElem? (i := 652) (by decide +kernel), List.mem_of_getElem? (i := 809) (by decide +kernel), List.mem_of_getElem? (i := 810) (by decide +kernel)⟩
theorem lw_p36 : lw_okq (⟨"PressSuiteModel", "made", "()I"⟩, 12) := ⟨⟨by decide +kernel, by decide +kernel⟩, List.mem_of_getElem? (i := 652) (by decide +kernel), List.mem_of_getElem? (i := 813) (by decide +kernel), List.mem_of_getElem? (i := 814) (by decide +kernel)⟩
theorem lw_p37 : lw_okq (⟨"PressSuiteModel", "literals", "(I)V"⟩, 12) := ⟨⟨by decide +kernel, by decide +kernel⟩, List.mem_of_getElem? (i := 652) (by decide +kernel), List.mem_of_getElem? (i := 817) (by decide +kernel), List.mem_of_getElem? (i := 818) (by decide +kernel)⟩
theorem lw_p38 : lw_okq (⟨"PressSuiteModel", "copies", "(II)V"⟩, 12) := ⟨⟨by decide +kernel, by decide +kernel⟩, List.mem_of_getElem? (i := 652) (by decide +kernel), List.mem_of_getElem? (i := 821) (by decide +kernel), List.mem_of_getElem? (i := 822) (by decide +kernel)⟩
theorem lw_p39 : lw_okq (⟨"PressSuiteModel", "readOne", "()V"⟩, 12) := ⟨⟨by decide +kernel, by decide +kernel⟩, List.mem_of_getElem? (i := 652) (by decide +kernel), List.mem_of_getElem? (i := 825) (by decide +kernel), List.mem_of_getElem? (i := 826) (by decide +kernel)⟩
theorem lw_p40 : lw_okq (⟨"PressSuiteModel", "element", "(I)V"⟩, 12) := ⟨⟨by decide +kernel, by decide +kernel⟩, List.mem_of_getElem? (i := 652) (by decide +kernel), List.mem_of_getElem? (i := 829) (by decide +kernel), List.mem_of_getElem? (i := 830) (by decide +kernel)⟩
theorem lw_p41 : lw_okq (⟨"PressSuiteModel", "lane", "(III)I"⟩, 12) := ⟨⟨by decide +kernel, by decide +kernel⟩, List.mem_of_getElem? (i := 652) (by decide +kernel), List.mem_of_getElem? (i := 844) (by decide +kernel), List.mem_of_getElem? (i := 845) (by decide +kernel)⟩
theorem lw_p42 : lw_okq (⟨"PressSuiteModel", "rowInt", "(II)I"⟩, 12) := ⟨⟨by decide +kernel, by decide +kernel⟩, List.mem_of_getElem? (i := 652) (by decide +kernel), List.mem_of_getElem? (i := 848) (by decide +kernel), List.mem_of_getElem? (i := 849) (by decide +kernel)⟩
def lw_privs_3 : List (MethodName × Nat) := [(⟨"PressSuiteModel", "readZero", "()V"⟩, 12), (⟨"PressSuiteModel", "next", "()I"⟩, 12), (⟨"PressSuiteModel", "need", "(ZI)V"⟩, 12), (⟨"PressSuiteModel", "more", "(I)I"⟩, 12), (⟨"PressSuiteModel", "made", "()I"⟩, 12), (⟨"PressSuiteModel", "literals", "(I)V"⟩, 12), (⟨"PressSuiteModel", "copies", "(II)V"⟩, 12), (⟨"PressSuiteModel", "readOne", "()V"⟩, 12), (⟨"PressSuiteModel", "element", "(I)V"⟩, 12), (⟨"PressSuiteModel", "lane", "(III)I"⟩, 12), (⟨"PressSuiteModel", "rowInt", "(II)I"⟩, 12)]
theorem lw_r3 : ∀ q ∈ lw_privs_3, lw_okq q := List.forall_mem_cons.mpr ⟨lw_p32, List.forall_mem_cons.mpr ⟨lw_p33, List.forall_mem_cons.mpr ⟨lw_p34, List.forall_mem_cons.mpr ⟨lw_p35, List.forall_mem_cons.mpr ⟨lw_p36, List.forall_mem_cons.mpr ⟨lw_p37, List.forall_mem_cons.mpr ⟨lw_p38, List.forall_mem_cons.mpr ⟨lw_p39, List.forall_mem_cons.mpr ⟨lw_p40, List.forall_mem_cons.mpr ⟨lw_p41, List.forall_mem_cons.mpr ⟨lw_p42, fun _ h => absurd h List.not_mem_nil⟩⟩⟩⟩⟩⟩⟩⟩⟩⟩⟩
def lw_privs : List (MethodName × Nat) := lw_privs_1 ++ (lw_privs_2 ++ (lw_privs_3))
def lw_tbl : List Cond := k2_sels lw_privs ++ tables_1
theorem lw_privs_ok : ∀ q ∈ lw_privs, lw_okq q := by
  show ∀ q ∈ lw_privs_1 ++ (lw_privs_2 ++ (lw_privs_3)), lw_okq q
  exact List.forall_mem_append.mpr ⟨lw_r1, List.forall_mem_append.mpr ⟨lw_r2, lw_r3⟩⟩

def RX0 : String := "PressSuite$ElementReader"
def TX0 : u_T := fun k => match k with
  | 0 => ("PressSuite$Reader", "source", "LPressSuite$Row;", true)
  | 1 => ("PressSuite$Reader", "draft", "LPressSuite$Row;", true)
  | 2 => ("PressSuite$Reader", "history", "LPressSuite$History;", true)
  | 3 => ("PressSuite$Reader", "at", "I", false)
  | 4 => ("PressSuite$Reader", "refusedAt", "I", false)
  | _ => ("PressSuite$ElementReader", "promised", "I", false)
def tyX0 : Nat → FieldType := fun k => match k with
  | 0 => .object "PressSuite$Row"
  | 1 => .object "PressSuite$Row"
  | 2 => .object "PressSuite$History"
  | 3 => .int
  | 4 => .int
  | _ => .int
abbrev wsX00 : List Cond := u_ws RX0 TX0 6
theorem nmX0 : ∀ a, a < 6 → ∀ b, b < 6 → a ≠ b → (TX0 a).2.1 ≠ (TX0 b).2.1 := by decide +kernel
theorem tyX0_ok : ∀ k, k < 6 → parseFieldDescriptor (TX0 k).2.2.1 = some (tyX0 k) := by decide +kernel
abbrev cX0_init : ByteArray := prog_2_method_1_code
def yX0_init : MethodName := ⟨RX0, "<init>", "(LPressSuite$Row;LPressSuite$Row;LPressSuite$Row;)V"⟩
def RX1 : String := "PressSuite$ElementWriter"
def TX1 : u_T := fun k => match k with
  | 0 => ("PressSuite$Writer", "plain", "LPressSuite$Row;", true)
  | _ => ("PressSuite$Writer", "out", "LPressSuite$Row;", true)
def tyX1 : Nat → FieldType := fun k => match k with
  | 0 => .object "PressSuite$Row"
  | _ => .object "PressSuite$Row"
abbrev wsX10 : List Cond := u_ws RX1 TX1 2
theorem nmX1 : ∀ a, a < 2 → ∀ b, b < 2 → a ≠ b → (TX1 a).2.1 ≠ (TX1 b).2.1 := by decide +kernel
theorem tyX1_ok : ∀ k, k < 2 → parseFieldDescriptor (TX1 k).2.2.1 = some (tyX1 k) := by decide +kernel
abbrev cX1_init : ByteArray := prog_3_method_1_code
def yX1_init : MethodName := ⟨RX1, "<init>", "(LPressSuite$Row;LPressSuite$Row;)V"⟩
def RX2 : String := "PressSuite$History"
def TX2 : u_T := fun k => match k with
  | 0 => ("PressSuite$History", "past", "LPressSuite$Row;", true)
  | _ => ("PressSuite$History", "plain", "LPressSuite$Row;", true)
def tyX2 : Nat → FieldType := fun k => match k with
  | 0 => .object "PressSuite$Row"
  | _ => .object "PressSuite$Row"
abbrev wsX20 : List Cond := u_ws RX2 TX2 2
theorem nmX2 : ∀ a, a < 2 → ∀ b, b < 2 → a ≠ b → (TX2 a).2.1 ≠ (TX2 b).2.1 := by decide +kernel
theorem tyX2_ok : ∀ k, k < 2 → parseFieldDescriptor (TX2 k).2.2.1 = some (tyX2 k) := by decide +kernel
abbrev cX2_init : ByteArray := prog_4_method_1_code
def yX2_init : MethodName := ⟨RX2, "<init>", "(LPressSuite$Row;LPressSuite$Row;)V"⟩
def RX3 : String := "PressSuite$Packer"
def TX3 : u_T := fun k => match k with
  | 0 => ("PressSuite$Packer", "past", "LPressSuite$Row;", true)
  | 1 => ("PressSuite$Packer", "plain", "LPressSuite$Row;", true)
  | 2 => ("PressSuite$Packer", "history", "LPressSuite$History;", true)
  | 3 => ("PressSuite$Packer", "table", "[I", true)
  | 4 => ("PressSuite$Packer", "anchor", "I", false)
  | 5 => ("PressSuite$Packer", "matches", "I", false)
  | _ => ("PressSuite$Packer", "copied", "I", false)
def tyX3 : Nat → FieldType := fun k => match k with
  | 0 => .object "PressSuite$Row"
  | 1 => .object "PressSuite$Row"
  | 2 => .object "PressSuite$History"
  | 3 => .array .int
  | 4 => .int
  | 5 => .int
  | _ => .int
abbrev wsX30 : List Cond := u_ws RX3 TX3 7
theorem nmX3 : ∀ a, a < 7 → ∀ b, b < 7 → a ≠ b → (TX3 a).2.1 ≠ (TX3 b).2.1 := by decide +kernel
theorem tyX3_ok : ∀ k, k < 7 → parseFieldDescriptor (TX3 k).2.2.1 = some (tyX3 k) := by decide +kernel
abbrev cX3_init : ByteArray := prog_5_method_1_code
def yX3_init : MethodName := ⟨RX3, "<init>", "(LPressSuite$Row;LPressSuite$Row;)V"⟩
def RX4 : String := "PressSuite$Reader"
def TX4 : u_T := fun k => match k with
  | _ => ("", "", "", false)
def tyX4 : Nat → FieldType := fun k => match k with
  | _ => .int
abbrev wsX40 : List Cond := u_ws RX4 TX4 0
theorem nmX4 : ∀ a, a < 0 → ∀ b, b < 0 → a ≠ b → (TX4 a).2.1 ≠ (TX4 b).2.1 := by decide +kernel
theorem tyX4_ok : ∀ k, k < 0 → parseFieldDescriptor (TX4 k).2.2.1 = some (tyX4 k) := by decide +kernel
abbrev cX4_init : ByteArray := prog_6_method_1_code
def yX4_init : MethodName := ⟨RX4, "<init>", "(LPressSuite$Row;LPressSuite$Row;LPressSuite$Row;)V"⟩
def RX5 : String := "PressSuite$Row"
def TX5 : u_T := fun k => match k with
  | 0 => ("PressSuite$Row", "bytes", "[B", true)
  | _ => ("PressSuite$Row", "count", "I", false)
def tyX5 : Nat → FieldType := fun k => match k with
  | 0 => .array .byte
  | _ => .int
abbrev wsX50 : List Cond := u_ws RX5 TX5 2
theorem nmX5 : ∀ a, a < 2 → ∀ b, b < 2 → a ≠ b → (TX5 a).2.1 ≠ (TX5 b).2.1 := by decide +kernel
theorem tyX5_ok : ∀ k, k < 2 → parseFieldDescriptor (TX5 k).2.2.1 = some (tyX5 k) := by decide +kernel
abbrev cX5_init : ByteArray := prog_7_method_1_code
def yX5_init : MethodName := ⟨RX5, "<init>", "(I)V"⟩
def RX6 : String := "PressSuite$SequenceReader"
def TX6 : u_T := fun k => match k with
  | 0 => ("PressSuite$Reader", "source", "LPressSuite$Row;", true)
  | 1 => ("PressSuite$Reader", "draft", "LPressSuite$Row;", true)
  | 2 => ("PressSuite$Reader", "history", "LPressSuite$History;", true)
  | 3 => ("PressSuite$Reader", "at", "I", false)
  | _ => ("PressSuite$Reader", "refusedAt", "I", false)
def tyX6 : Nat → FieldType := fun k => match k with
  | 0 => .object "PressSuite$Row"
  | 1 => .object "PressSuite$Row"
  | 2 => .object "PressSuite$History"
  | 3 => .int
  | _ => .int
abbrev wsX60 : List Cond := u_ws RX6 TX6 5
theorem nmX6 : ∀ a, a < 5 → ∀ b, b < 5 → a ≠ b → (TX6 a).2.1 ≠ (TX6 b).2.1 := by decide +kernel
theorem tyX6_ok : ∀ k, k < 5 → parseFieldDescriptor (TX6 k).2.2.1 = some (tyX6 k) := by decide +kernel
abbrev cX6_init : ByteArray := prog_8_method_1_code
def yX6_init : MethodName := ⟨RX6, "<init>", "(LPressSuite$Row;LPressSuite$Row;LPressSuite$Row;)V"⟩
def RX7 : String := "PressSuite$SequenceWriter"
def TX7 : u_T := fun k => match k with
  | 0 => ("PressSuite$Writer", "plain", "LPressSuite$Row;", true)
  | _ => ("PressSuite$Writer", "out", "LPressSuite$Row;", true)
def tyX7 : Nat → FieldType := fun k => match k with
  | 0 => .object "PressSuite$Row"
  | _ => .object "PressSuite$Row"
abbrev wsX70 : List Cond := u_ws RX7 TX7 2
theorem nmX7 : ∀ a, a < 2 → ∀ b, b < 2 → a ≠ b → (TX7 a).2.1 ≠ (TX7 b).2.1 := by decide +kernel
theorem tyX7_ok : ∀ k, k < 2 → parseFieldDescriptor (TX7 k).2.2.1 = some (tyX7 k) := by decide +kernel
abbrev cX7_init : ByteArray := prog_9_method_1_code
def yX7_init : MethodName := ⟨RX7, "<init>", "(LPressSuite$Row;LPressSuite$Row;)V"⟩
def RX8 : String := "PressSuite$Writer"
def TX8 : u_T := fun k => match k with
  | _ => ("", "", "", false)
def tyX8 : Nat → FieldType := fun k => match k with
  | _ => .int
abbrev wsX80 : List Cond := u_ws RX8 TX8 0
theorem nmX8 : ∀ a, a < 0 → ∀ b, b < 0 → a ≠ b → (TX8 a).2.1 ≠ (TX8 b).2.1 := by decide +kernel
theorem tyX8_ok : ∀ k, k < 0 → parseFieldDescriptor (TX8 k).2.2.1 = some (tyX8 k) := by decide +kernel
abbrev cX8_init : ByteArray := prog_10_method_1_code
def yX8_init : MethodName := ⟨RX8, "<init>", "(LPressSuite$Row;LPressSuite$Row;)V"⟩
def RX9 : String := "PressSuite"
def TX9 : u_T := fun k => match k with
  | 0 => ("PressSuite", "plain", "LPressSuite$Row;", true)
  | 1 => ("PressSuite", "packed", "LPressSuite$Row;", true)
  | 2 => ("PressSuite", "past", "LPressSuite$Row;", true)
  | 3 => ("PressSuite", "draft", "LPressSuite$Row;", true)
  | 4 => ("PressSuite", "packer", "LPressSuite$Packer;", true)
  | 5 => ("PressSuite", "sequenceWriter", "LPressSuite$Writer;", true)
  | 6 => ("PressSuite", "elementWriter", "LPressSuite$Writer;", true)
  | 7 => ("PressSuite", "sequenceReader", "LPressSuite$Reader;", true)
  | _ => ("PressSuite", "elementReader", "LPressSuite$Reader;", true)
def tyX9 : Nat → FieldType := fun k => match k with
  | 0 => .object "PressSuite$Row"
  | 1 => .object "PressSuite$Row"
  | 2 => .object "PressSuite$Row"
  | 3 => .object "PressSuite$Row"
  | 4 => .object "PressSuite$Packer"
  | 5 => .object "PressSuite$Writer"
  | 6 => .object "PressSuite$Writer"
  | 7 => .object "PressSuite$Reader"
  | _ => .object "PressSuite$Reader"
abbrev wsX90 : List Cond := u_ws RX9 TX9 9
theorem nmX9 : ∀ a, a < 9 → ∀ b, b < 9 → a ≠ b → (TX9 a).2.1 ≠ (TX9 b).2.1 := by decide +kernel
theorem tyX9_ok : ∀ k, k < 9 → parseFieldDescriptor (TX9 k).2.2.1 = some (tyX9 k) := by decide +kernel
abbrev cX9_init : ByteArray := prog_1_method_1_code
def yX9_init : MethodName := ⟨RX9, "<init>", "()V"⟩
abbrev cX9_put : ByteArray := prog_1_method_2_code
def yX9_put : MethodName := ⟨RX9, "put", "(IJI)V"⟩
abbrev cX9_rowOf : ByteArray := prog_1_method_11_code
def yX9_rowOf : MethodName := ⟨RX9, "rowOf", "(I)LPressSuite$Row;"⟩
def RX10 : String := "PressSuiteModel"
def TX10 : u_T := fun k => match k with
  | _ => ("", "", "", false)
def tyX10 : Nat → FieldType := fun k => match k with
  | _ => .int
abbrev wsX100 : List Cond := u_ws RX10 TX10 0
theorem nmX10 : ∀ a, a < 0 → ∀ b, b < 0 → a ≠ b → (TX10 a).2.1 ≠ (TX10 b).2.1 := by decide +kernel
theorem tyX10_ok : ∀ k, k < 0 → parseFieldDescriptor (TX10 k).2.2.1 = some (tyX10 k) := by decide +kernel
def RJ9 : String := "java/lang/Math"
def TJ9 : u_T := fun k => match k with
  | _ => ("", "", "", false)
def tyJ9 : Nat → FieldType := fun k => match k with
  | _ => .int
abbrev wsJ90 : List Cond := u_ws RJ9 TJ9 0
theorem nmJ9 : ∀ a, a < 0 → ∀ b, b < 0 → a ≠ b → (TJ9 a).2.1 ≠ (TJ9 b).2.1 := by decide +kernel
theorem tyJ9_ok : ∀ k, k < 0 → parseFieldDescriptor (TJ9 k).2.2.1 = some (tyJ9 k) := by decide +kernel
def RJ0 : String := "java/lang/String"
def TJ0 : u_T := fun k => match k with
  | _ => ("", "", "", false)
def tyJ0 : Nat → FieldType := fun k => match k with
  | _ => .int
abbrev wsJ00 : List Cond := u_ws RJ0 TJ0 0
theorem nmJ0 : ∀ a, a < 0 → ∀ b, b < 0 → a ≠ b → (TJ0 a).2.1 ≠ (TJ0 b).2.1 := by decide +kernel
theorem tyJ0_ok : ∀ k, k < 0 → parseFieldDescriptor (TJ0 k).2.2.1 = some (tyJ0 k) := by decide +kernel
def RL : String := "PressSuiteLaw"
abbrev cL_put : ByteArray := method_3_code
def yL_put : MethodName := ⟨RL, "put", "(LPressSuite;IJI)I"⟩
abbrev cL_law : ByteArray := code
def yL_law : MethodName := ⟨RL, "law", "([I)Z"⟩
end
section
def TXM : u_T := fun k => match k with
  | 0 => ("PressSuiteModel", "thrown", "I", false)
  | 1 => ("PressSuiteModel", "bytes", "[I", true)
  | 2 => ("PressSuiteModel", "sizes", "[I", true)
  | 3 => ("PressSuiteModel", "matches", "I", false)
  | 4 => ("PressSuiteModel", "copied", "I", false)
  | 5 => ("PressSuiteModel", "history", "[I", true)
  | 6 => ("PressSuiteModel", "begin", "I", false)
  | 7 => ("PressSuiteModel", "end", "I", false)
  | 8 => ("PressSuiteModel", "table", "[I", true)
  | 9 => ("PressSuiteModel", "out", "I", false)
  | 10 => ("PressSuiteModel", "at", "I", false)
  | _ => ("PressSuiteModel", "fault", "I", false)
def tyXM : Nat → FieldType := fun k => match k with
  | 0 => .int
  | 1 => .array .int
  | 2 => .array .int
  | 3 => .int
  | 4 => .int
  | 5 => .array .int
  | 6 => .int
  | 7 => .int
  | 8 => .array .int
  | 9 => .int
  | 10 => .int
  | _ => .int
theorem nmXM : ∀ a, a < 12 → ∀ b, b < 12 → a ≠ b → (TXM a).2.1 ≠ (TXM b).2.1 := by decide +kernel
theorem tyXM_ok : ∀ k, k < 12 → parseFieldDescriptor (TXM k).2.2.1 = some (tyXM k) := by decide +kernel
abbrev zCl : List vw_C := [(RX0, TX0, 6), (RX1, TX1, 2), (RX2, TX2, 2), (RX3, TX3, 7), (RX5, TX5, 2), (RX6, TX6, 5), (RX7, TX7, 2), (RX9, TX9, 9), (RX10, TXM, 12)]
def AW : List Cond := lw_tbl.filter goodWord
theorem aw_good : ∀ w ∈ AW, (w.onTables && w.keeps) = true ∨ ∃ ty, w = .arrayClass ty := fun w h => good_of_word (List.mem_filter.mp h).2
theorem aw_tbl : ∀ w ∈ AW, w ∈ lw_tbl := fun w h => (List.mem_filter.mp h).1
theorem aw_of {w : Cond} (i : Nat) (h : lw_tbl[i]? = some w) (g : goodWord w = true) : w ∈ AW := List.mem_filter.mpr ⟨List.mem_of_getElem? h, g⟩
def nestW (w : Cond) : Bool := match w with
  | .fieldLinkNest _ _ _ _ _ _ => true
  | .declares _ => true
  | _ => false
def NW : List Cond := lw_tbl.filter nestW
theorem nw_of {w : Cond} (i : Nat) (h : lw_tbl[i]? = some w) (g : nestW w = true) : w ∈ NW := List.mem_filter.mpr ⟨List.mem_of_getElem? h, g⟩
def NK (U : State) : Prop := ∀ w ∈ NW, va_Nw w U
theorem NK_warm {s U : State} (hW : s.WarmedH U.vm) (h : NK s) : NK U := by
  intro w hw
  have h1 := h w hw
  have h2 := (List.mem_filter.mp hw).2
  cases w <;> simp only [nestW] at h2 <;> first | exact va_Nw.warmF hW h1 | exact va_Nw.warmD hW h1 | cases h2
theorem NK_same {u U : State} (hv : u.vm = U.vm) (h : NK u) : NK U := by
  intro w hw
  have h1 := h w hw
  have h2 := (List.mem_filter.mp hw).2
  cases w <;> simp only [nestW] at h2 <;> first | exact va_Nw.same rfl hv h1 | cases h2
theorem NK_of {b : Nat} {s : State} (h : ∀ w ∈ lw_tbl, w.before #[Value.ref b] s = true) : NK s := by
  intro w hw
  have h1 := h w (List.mem_filter.mp hw).1
  have h2 := (List.mem_filter.mp hw).2
  cases w <;> simp only [nestW] at h2 <;> first | exact va_Nw.of rfl h1 | cases h2
abbrev zc_ER_init : ByteArray := prog_2_method_1_code
def zy_ER_init : MethodName := ⟨RX0, "<init>", "(LPressSuite$Row;LPressSuite$Row;LPressSuite$Row;)V"⟩
abbrev zw_ER_init : List Cond := .code zy_ER_init zc_ER_init 4 none :: AW
abbrev zc_ER_readAll : ByteArray := prog_2_method_2_code
def zy_ER_readAll : MethodName := ⟨RX0, "readAll", "()V"⟩
abbrev zw_ER_readAll : List Cond := .code zy_ER_readAll zc_ER_readAll 2 none :: AW
abbrev zc_ER_takeSize : ByteArray := prog_2_method_3_code
def zy_ER_takeSize : MethodName := ⟨RX0, "takeSize", "()I"⟩
abbrev zw_ER_takeSize : List Cond := .code zy_ER_takeSize zc_ER_takeSize 4 (some .int) :: AW
abbrev zc_ER_readElement : ByteArray := prog_2_method_4_code
def zy_ER_readElement : MethodName := ⟨RX0, "readElement", "()V"⟩
abbrev zw_ER_readElement : List Cond := .code zy_ER_readElement zc_ER_readElement 3 none :: AW
abbrev zc_ER_readLiterals : ByteArray := prog_2_method_5_code
def zy_ER_readLiterals : MethodName := ⟨RX0, "readLiterals", "(II)V"⟩
abbrev zw_ER_readLiterals : List Cond := .code zy_ER_readLiterals zc_ER_readLiterals 4 none :: AW
abbrev zc_ER_readShortCopy : ByteArray := prog_2_method_6_code
def zy_ER_readShortCopy : MethodName := ⟨RX0, "readShortCopy", "(II)V"⟩
abbrev zw_ER_readShortCopy : List Cond := .code zy_ER_readShortCopy zc_ER_readShortCopy 5 none :: AW
abbrev zc_ER_readLongCopy : ByteArray := prog_2_method_7_code
def zy_ER_readLongCopy : MethodName := ⟨RX0, "readLongCopy", "(II)V"⟩
abbrev zw_ER_readLongCopy : List Cond := .code zy_ER_readLongCopy zc_ER_readLongCopy 5 none :: AW
abbrev zc_EW_init : ByteArray := prog_3_method_1_code
def zy_EW_init : MethodName := ⟨RX1, "<init>", "(LPressSuite$Row;LPressSuite$Row;)V"⟩
abbrev zw_EW_init : List Cond := .code zy_EW_init zc_EW_init 3 none :: AW
abbrev zc_EW_begin : ByteArray := prog_3_method_2_code
def zy_EW_begin : MethodName := ⟨RX1, "begin", "()V"⟩
abbrev zw_EW_begin : List Cond := .code zy_EW_begin zc_EW_begin 2 none :: AW
abbrev zc_EW_match : ByteArray := prog_3_method_3_code
def zy_EW_match : MethodName := ⟨RX1, "match", "(IIII)V"⟩
abbrev zw_EW_match : List Cond := .code zy_EW_match zc_EW_match 6 none :: AW
abbrev zc_EW_end : ByteArray := prog_3_method_4_code
def zy_EW_end : MethodName := ⟨RX1, "end", "(I)V"⟩
abbrev zw_EW_end : List Cond := .code zy_EW_end zc_EW_end 2 none :: AW
abbrev zc_EW_writeLiterals : ByteArray := prog_3_method_5_code
def zy_EW_writeLiterals : MethodName := ⟨RX1, "writeLiterals", "(II)V"⟩
abbrev zw_EW_writeLiterals : List Cond := .code zy_EW_writeLiterals zc_EW_writeLiterals 4 none :: AW
abbrev zc_EW_writeCopy : ByteArray := prog_3_method_6_code
def zy_EW_writeCopy : MethodName := ⟨RX1, "writeCopy", "(II)V"⟩
abbrev zw_EW_writeCopy : List Cond := .code zy_EW_writeCopy zc_EW_writeCopy 3 none :: AW
abbrev zc_EW_writeLong : ByteArray := prog_3_method_7_code
def zy_EW_writeLong : MethodName := ⟨RX1, "writeLong", "(II)V"⟩
abbrev zw_EW_writeLong : List Cond := .code zy_EW_writeLong zc_EW_writeLong 3 none :: AW
abbrev zc_H_init : ByteArray := prog_4_method_1_code
def zy_H_init : MethodName := ⟨RX2, "<init>", "(LPressSuite$Row;LPressSuite$Row;)V"⟩
abbrev zw_H_init : List Cond := .code zy_H_init zc_H_init 3 none :: AW
abbrev zc_H_length : ByteArray := prog_4_method_2_code
def zy_H_length : MethodName := ⟨RX2, "length", "()I"⟩
abbrev zw_H_length : List Cond := .code zy_H_length zc_H_length 1 (some .int) :: AW
abbrev zc_H_byteAt : ByteArray := prog_4_method_3_code
def zy_H_byteAt : MethodName := ⟨RX2, "byteAt", "(I)I"⟩
abbrev zw_H_byteAt : List Cond := .code zy_H_byteAt zc_H_byteAt 2 (some .int) :: AW
abbrev zc_H_intAt : ByteArray := prog_4_method_4_code
def zy_H_intAt : MethodName := ⟨RX2, "intAt", "(I)I"⟩
abbrev zw_H_intAt : List Cond := .code zy_H_intAt zc_H_intAt 2 (some .int) :: AW
abbrev zc_P_init : ByteArray := prog_5_method_1_code
def zy_P_init : MethodName := ⟨RX3, "<init>", "(LPressSuite$Row;LPressSuite$Row;)V"⟩
abbrev zw_P_init : List Cond := .code zy_P_init zc_P_init 3 none :: AW
abbrev zc_P_run : ByteArray := prog_5_method_2_code
def zy_P_run : MethodName := ⟨RX3, "run", "(LPressSuite$Writer;)V"⟩
abbrev zw_P_run : List Cond := .code zy_P_run zc_P_run 3 none :: AW
abbrev zc_P_learnPast : ByteArray := prog_5_method_3_code
def zy_P_learnPast : MethodName := ⟨RX3, "learnPast", "()V"⟩
abbrev zw_P_learnPast : List Cond := .code zy_P_learnPast zc_P_learnPast 2 none :: AW
abbrev zc_P_copyFrom : ByteArray := prog_5_method_4_code
def zy_P_copyFrom : MethodName := ⟨RX3, "copyFrom", "(ILPressSuite$Writer;)I"⟩
abbrev zw_P_copyFrom : List Cond := .code zy_P_copyFrom zc_P_copyFrom 6 (some .int) :: AW
abbrev zc_P_matchLength : ByteArray := prog_5_method_5_code
def zy_P_matchLength : MethodName := ⟨RX3, "matchLength", "(II)I"⟩
abbrev zw_P_matchLength : List Cond := .code zy_P_matchLength zc_P_matchLength 5 (some .int) :: AW
abbrev zc_P_exchange : ByteArray := prog_5_method_6_code
def zy_P_exchange : MethodName := ⟨RX3, "exchange", "(I)I"⟩
abbrev zw_P_exchange : List Cond := .code zy_P_exchange zc_P_exchange 4 (some .int) :: AW
abbrev zc_D_init : ByteArray := prog_6_method_1_code
def zy_D_init : MethodName := ⟨RX4, "<init>", "(LPressSuite$Row;LPressSuite$Row;LPressSuite$Row;)V"⟩
abbrev zw_D_init : List Cond := .code zy_D_init zc_D_init 4 none :: AW
abbrev zc_D_rewind : ByteArray := prog_6_method_3_code
def zy_D_rewind : MethodName := ⟨RX4, "rewind", "()V"⟩
abbrev zw_D_rewind : List Cond := .code zy_D_rewind zc_D_rewind 1 none :: AW
abbrev zc_D_refused : ByteArray := prog_6_method_4_code
def zy_D_refused : MethodName := ⟨RX4, "refused", "()Z"⟩
abbrev zw_D_refused : List Cond := .code zy_D_refused zc_D_refused 1 (some .boolean) :: AW
abbrev zc_D_atEnd : ByteArray := prog_6_method_5_code
def zy_D_atEnd : MethodName := ⟨RX4, "atEnd", "()Z"⟩
abbrev zw_D_atEnd : List Cond := .code zy_D_atEnd zc_D_atEnd 1 (some .boolean) :: AW
abbrev zc_D_refuseIf : ByteArray := prog_6_method_6_code
def zy_D_refuseIf : MethodName := ⟨RX4, "refuseIf", "(ZI)V"⟩
abbrev zw_D_refuseIf : List Cond := .code zy_D_refuseIf zc_D_refuseIf 3 none :: AW
abbrev zc_D_take : ByteArray := prog_6_method_7_code
def zy_D_take : MethodName := ⟨RX4, "take", "()I"⟩
abbrev zw_D_take : List Cond := .code zy_D_take zc_D_take 2 (some .int) :: AW
abbrev zc_D_takeTwo : ByteArray := prog_6_method_8_code
def zy_D_takeTwo : MethodName := ⟨RX4, "takeTwo", "()I"⟩
abbrev zw_D_takeTwo : List Cond := .code zy_D_takeTwo zc_D_takeTwo 2 (some .int) :: AW
abbrev zc_D_requireDistance : ByteArray := prog_6_method_9_code
def zy_D_requireDistance : MethodName := ⟨RX4, "requireDistance", "(II)V"⟩
abbrev zw_D_requireDistance : List Cond := .code zy_D_requireDistance zc_D_requireDistance 3 none :: AW
abbrev zc_D_requireRoom : ByteArray := prog_6_method_10_code
def zy_D_requireRoom : MethodName := ⟨RX4, "requireRoom", "(III)V"⟩
abbrev zw_D_requireRoom : List Cond := .code zy_D_requireRoom zc_D_requireRoom 4 none :: AW
abbrev zc_D_copyLiterals : ByteArray := prog_6_method_11_code
def zy_D_copyLiterals : MethodName := ⟨RX4, "copyLiterals", "(I)V"⟩
abbrev zw_D_copyLiterals : List Cond := .code zy_D_copyLiterals zc_D_copyLiterals 3 none :: AW
abbrev zc_D_copyBack : ByteArray := prog_6_method_12_code
def zy_D_copyBack : MethodName := ⟨RX4, "copyBack", "(II)V"⟩
abbrev zw_D_copyBack : List Cond := .code zy_D_copyBack zc_D_copyBack 4 none :: AW
abbrev zc_R_init : ByteArray := prog_7_method_1_code
def zy_R_init : MethodName := ⟨RX5, "<init>", "(I)V"⟩
abbrev zw_R_init : List Cond := .code zy_R_init zc_R_init 2 none :: AW
abbrev zc_R_room : ByteArray := prog_7_method_2_code
def zy_R_room : MethodName := ⟨RX5, "room", "()I"⟩
abbrev zw_R_room : List Cond := .code zy_R_room zc_R_room 1 (some .int) :: AW
abbrev zc_R_add : ByteArray := prog_7_method_3_code
def zy_R_add : MethodName := ⟨RX5, "add", "(I)V"⟩
abbrev zw_R_add : List Cond := .code zy_R_add zc_R_add 2 none :: AW
abbrev zc_R_clear : ByteArray := prog_7_method_4_code
def zy_R_clear : MethodName := ⟨RX5, "clear", "()V"⟩
abbrev zw_R_clear : List Cond := .code zy_R_clear zc_R_clear 1 none :: AW
abbrev zc_R_byteAt : ByteArray := prog_7_method_5_code
def zy_R_byteAt : MethodName := ⟨RX5, "byteAt", "(I)I"⟩
abbrev zw_R_byteAt : List Cond := .code zy_R_byteAt zc_R_byteAt 2 (some .int) :: AW
abbrev zc_R_intAt : ByteArray := prog_7_method_6_code
def zy_R_intAt : MethodName := ⟨RX5, "intAt", "(I)I"⟩
abbrev zw_R_intAt : List Cond := .code zy_R_intAt zc_R_intAt 2 (some .int) :: AW
abbrev zc_R_become : ByteArray := prog_7_method_7_code
def zy_R_become : MethodName := ⟨RX5, "become", "(LPressSuite$Row;)V"⟩
abbrev zw_R_become : List Cond := .code zy_R_become zc_R_become 3 none :: AW
abbrev zc_SR_init : ByteArray := prog_8_method_1_code
def zy_SR_init : MethodName := ⟨RX6, "<init>", "(LPressSuite$Row;LPressSuite$Row;LPressSuite$Row;)V"⟩
abbrev zw_SR_init : List Cond := .code zy_SR_init zc_SR_init 4 none :: AW
abbrev zc_SR_readAll : ByteArray := prog_8_method_2_code
def zy_SR_readAll : MethodName := ⟨RX6, "readAll", "()V"⟩
abbrev zw_SR_readAll : List Cond := .code zy_SR_readAll zc_SR_readAll 3 none :: AW
abbrev zc_SR_readSequence : ByteArray := prog_8_method_3_code
def zy_SR_readSequence : MethodName := ⟨RX6, "readSequence", "()Z"⟩
abbrev zw_SR_readSequence : List Cond := .code zy_SR_readSequence zc_SR_readSequence 7 (some .boolean) :: AW
abbrev zc_SR_takeSum : ByteArray := prog_8_method_4_code
def zy_SR_takeSum : MethodName := ⟨RX6, "takeSum", "(I)I"⟩
abbrev zw_SR_takeSum : List Cond := .code zy_SR_takeSum zc_SR_takeSum 5 (some .int) :: AW
abbrev zc_SW_init : ByteArray := prog_9_method_1_code
def zy_SW_init : MethodName := ⟨RX7, "<init>", "(LPressSuite$Row;LPressSuite$Row;)V"⟩
abbrev zw_SW_init : List Cond := .code zy_SW_init zc_SW_init 3 none :: AW
abbrev zc_SW_begin : ByteArray := prog_9_method_2_code
def zy_SW_begin : MethodName := ⟨RX7, "begin", "()V"⟩
abbrev zw_SW_begin : List Cond := .code zy_SW_begin zc_SW_begin 1 none :: AW
abbrev zc_SW_match : ByteArray := prog_9_method_3_code
def zy_SW_match : MethodName := ⟨RX7, "match", "(IIII)V"⟩
abbrev zw_SW_match : List Cond := .code zy_SW_match zc_SW_match 6 none :: AW
abbrev zc_SW_end : ByteArray := prog_9_method_4_code
def zy_SW_end : MethodName := ⟨RX7, "end", "(I)V"⟩
abbrev zw_SW_end : List Cond := .code zy_SW_end zc_SW_end 2 none :: AW
abbrev zc_SW_writeLiterals : ByteArray := prog_9_method_5_code
def zy_SW_writeLiterals : MethodName := ⟨RX7, "writeLiterals", "(III)V"⟩
abbrev zw_SW_writeLiterals : List Cond := .code zy_SW_writeLiterals zc_SW_writeLiterals 5 none :: AW
abbrev zc_SW_writeSum : ByteArray := prog_9_method_6_code
def zy_SW_writeSum : MethodName := ⟨RX7, "writeSum", "(I)V"⟩
abbrev zw_SW_writeSum : List Cond := .code zy_SW_writeSum zc_SW_writeSum 3 none :: AW
abbrev zc_W_init : ByteArray := prog_10_method_1_code
def zy_W_init : MethodName := ⟨RX8, "<init>", "(LPressSuite$Row;LPressSuite$Row;)V"⟩
abbrev zw_W_init : List Cond := .code zy_W_init zc_W_init 3 none :: AW
abbrev zc_W_writePlain : ByteArray := prog_10_method_5_code
def zy_W_writePlain : MethodName := ⟨RX8, "writePlain", "(II)V"⟩
abbrev zw_W_writePlain : List Cond := .code zy_W_writePlain zc_W_writePlain 4 none :: AW
abbrev zc_X_init : ByteArray := prog_1_method_1_code
def zy_X_init : MethodName := ⟨RX9, "<init>", "()V"⟩
abbrev zw_X_init : List Cond := .code zy_X_init zc_X_init 1 none :: AW
abbrev zc_X_put : ByteArray := prog_1_method_2_code
def zy_X_put : MethodName := ⟨RX9, "put", "(IJI)V"⟩
abbrev zw_X_put : List Cond := .code zy_X_put zc_X_put 7 none :: AW
abbrev zc_X_empty : ByteArray := prog_1_method_3_code
def zy_X_empty : MethodName := ⟨RX9, "empty", "(I)I"⟩
abbrev zw_X_empty : List Cond := .code zy_X_empty zc_X_empty 4 (some .int) :: AW
abbrev zc_X_pack : ByteArray := prog_1_method_4_code
def zy_X_pack : MethodName := ⟨RX9, "pack", "(I)I"⟩
abbrev zw_X_pack : List Cond := .code zy_X_pack zc_X_pack 2 (some .int) :: AW
abbrev zc_X_unpack : ByteArray := prog_1_method_5_code
def zy_X_unpack : MethodName := ⟨RX9, "unpack", "(I)I"⟩
abbrev zw_X_unpack : List Cond := .code zy_X_unpack zc_X_unpack 3 (some .int) :: AW
abbrev zc_X_size : ByteArray := prog_1_method_6_code
def zy_X_size : MethodName := ⟨RX9, "size", "(I)I"⟩
abbrev zw_X_size : List Cond := .code zy_X_size zc_X_size 2 (some .int) :: AW
abbrev zc_X_get : ByteArray := prog_1_method_7_code
def zy_X_get : MethodName := ⟨RX9, "get", "(II)I"⟩
abbrev zw_X_get : List Cond := .code zy_X_get zc_X_get 4 (some .int) :: AW
abbrev zc_X_found : ByteArray := prog_1_method_8_code
def zy_X_found : MethodName := ⟨RX9, "found", "(I)I"⟩
abbrev zw_X_found : List Cond := .code zy_X_found zc_X_found 2 (some .int) :: AW
abbrev zc_X_crc : ByteArray := prog_1_method_9_code
def zy_X_crc : MethodName := ⟨RX9, "crc", "(I)I"⟩
abbrev zw_X_crc : List Cond := .code zy_X_crc zc_X_crc 5 (some .int) :: AW
abbrev zc_X_hash : ByteArray := prog_1_method_10_code
def zy_X_hash : MethodName := ⟨RX9, "hash", "(II)I"⟩
abbrev zw_X_hash : List Cond := .code zy_X_hash zc_X_hash 5 (some .int) :: AW
abbrev zc_X_rowOf : ByteArray := prog_1_method_11_code
def zy_X_rowOf : MethodName := ⟨RX9, "rowOf", "(I)LPressSuite$Row;"⟩
abbrev zw_X_rowOf : List Cond := .code zy_X_rowOf zc_X_rowOf 2 (some (.object "PressSuite$Row")) :: AW
abbrev zc_X_requireFormat : ByteArray := prog_1_method_12_code
def zy_X_requireFormat : MethodName := ⟨RX9, "requireFormat", "(I)V"⟩
abbrev zw_X_requireFormat : List Cond := .code zy_X_requireFormat zc_X_requireFormat 1 none :: AW
abbrev zc_X_crcStep : ByteArray := prog_1_method_13_code
def zy_X_crcStep : MethodName := ⟨RX9, "crcStep", "(I)I"⟩
abbrev zw_X_crcStep : List Cond := .code zy_X_crcStep zc_X_crcStep 3 (some .int) :: AW
abbrev zc_X_mixLanes : ByteArray := prog_1_method_14_code
def zy_X_mixLanes : MethodName := ⟨RX9, "mixLanes", "(LPressSuite$Row;I)I"⟩
abbrev zw_X_mixLanes : List Cond := .code zy_X_mixLanes zc_X_mixLanes 2 (some .int) :: AW
abbrev zc_X_lane : ByteArray := prog_1_method_15_code
def zy_X_lane : MethodName := ⟨RX9, "lane", "(LPressSuite$Row;II)I"⟩
abbrev zw_X_lane : List Cond := .code zy_X_lane zc_X_lane 5 (some .int) :: AW
abbrev zc_X_mixRest : ByteArray := prog_1_method_16_code
def zy_X_mixRest : MethodName := ⟨RX9, "mixRest", "(LPressSuite$Row;I)I"⟩
abbrev zw_X_mixRest : List Cond := .code zy_X_mixRest zc_X_mixRest 5 (some .int) :: AW
abbrev zc_X_finish : ByteArray := prog_1_method_17_code
def zy_X_finish : MethodName := ⟨RX9, "finish", "(I)I"⟩
abbrev zw_X_finish : List Cond := .code zy_X_finish zc_X_finish 2 (some .int) :: AW
abbrev zc_X_turnLeft : ByteArray := prog_1_method_18_code
def zy_X_turnLeft : MethodName := ⟨RX9, "turnLeft", "(II)I"⟩
abbrev zw_X_turnLeft : List Cond := .code zy_X_turnLeft zc_X_turnLeft 2 (some .int) :: AW
abbrev zc_L_put : ByteArray := method_3_code
def zy_L_put : MethodName := ⟨RL, "put", "(LPressSuite;IJI)I"⟩
abbrev zw_L_put : List Cond := .code zy_L_put zc_L_put 6 (some .int) :: AW
abbrev zc_L_empty : ByteArray := method_4_code
def zy_L_empty : MethodName := ⟨RL, "empty", "(LPressSuite;I[J)I"⟩
abbrev zw_L_empty : List Cond := .code zy_L_empty zc_L_empty 4 (some .int) :: AW
abbrev zc_L_pack : ByteArray := method_5_code
def zy_L_pack : MethodName := ⟨RL, "pack", "(LPressSuite;I[J)I"⟩
abbrev zw_L_pack : List Cond := .code zy_L_pack zc_L_pack 4 (some .int) :: AW
abbrev zc_L_unpack : ByteArray := method_6_code
def zy_L_unpack : MethodName := ⟨RL, "unpack", "(LPressSuite;I[J)I"⟩
abbrev zw_L_unpack : List Cond := .code zy_L_unpack zc_L_unpack 4 (some .int) :: AW
abbrev zc_L_size : ByteArray := method_7_code
def zy_L_size : MethodName := ⟨RL, "size", "(LPressSuite;I[J)I"⟩
abbrev zw_L_size : List Cond := .code zy_L_size zc_L_size 4 (some .int) :: AW
abbrev zc_L_get : ByteArray := method_8_code
def zy_L_get : MethodName := ⟨RL, "get", "(LPressSuite;II[J)I"⟩
abbrev zw_L_get : List Cond := .code zy_L_get zc_L_get 5 (some .int) :: AW
abbrev zc_L_found : ByteArray := method_9_code
def zy_L_found : MethodName := ⟨RL, "found", "(LPressSuite;I[J)I"⟩
abbrev zw_L_found : List Cond := .code zy_L_found zc_L_found 4 (some .int) :: AW
abbrev zc_L_crc : ByteArray := method_10_code
def zy_L_crc : MethodName := ⟨RL, "crc", "(LPressSuite;I[J)I"⟩
abbrev zw_L_crc : List Cond := .code zy_L_crc zc_L_crc 4 (some .int) :: AW
abbrev zc_L_hash : ByteArray := method_11_code
def zy_L_hash : MethodName := ⟨RL, "hash", "(LPressSuite;II[J)I"⟩
abbrev zw_L_hash : List Cond := .code zy_L_hash zc_L_hash 5 (some .int) :: AW
abbrev zc_L_law : ByteArray := code
def zy_L_law : MethodName := ⟨RL, "law", "([I)Z"⟩
abbrev zw_L_law : List Cond := .code zy_L_law zc_L_law 7 (some .boolean) :: AW
abbrev zc_M_init : ByteArray := prog_12_method_1_code
def zy_M_init : MethodName := ⟨RX10, "<init>", "()V"⟩
abbrev zw_M_init : List Cond := .code zy_M_init zc_M_init 1 none :: AW
abbrev zc_M_thrown : ByteArray := prog_12_method_2_code
def zy_M_thrown : MethodName := ⟨RX10, "thrown", "()I"⟩
abbrev zw_M_thrown : List Cond := .code zy_M_thrown zc_M_thrown 1 (some .int) :: AW
abbrev zc_M_fails : ByteArray := prog_12_method_3_code
def zy_M_fails : MethodName := ⟨RX10, "fails", "(ZZ)Z"⟩
abbrev zw_M_fails : List Cond := .code zy_M_fails zc_M_fails 3 (some .boolean) :: AW
abbrev zc_M_isRow : ByteArray := prog_12_method_4_code
def zy_M_isRow : MethodName := ⟨RX10, "isRow", "(I)Z"⟩
abbrev zw_M_isRow : List Cond := .code zy_M_isRow zc_M_isRow 1 (some .boolean) :: AW
abbrev zc_M_most : ByteArray := prog_12_method_5_code
def zy_M_most : MethodName := ⟨RX10, "most", "(I)I"⟩
abbrev zw_M_most : List Cond := .code zy_M_most zc_M_most 1 (some .int) :: AW
abbrev zc_M_put : ByteArray := prog_12_method_6_code
def zy_M_put : MethodName := ⟨RX10, "put", "(IJI)V"⟩
abbrev zw_M_put : List Cond := .code zy_M_put zc_M_put 7 none :: AW
abbrev zc_M_empty : ByteArray := prog_12_method_7_code
def zy_M_empty : MethodName := ⟨RX10, "empty", "(I)I"⟩
abbrev zw_M_empty : List Cond := .code zy_M_empty zc_M_empty 3 (some .int) :: AW
abbrev zc_M_size : ByteArray := prog_12_method_8_code
def zy_M_size : MethodName := ⟨RX10, "size", "(I)I"⟩
abbrev zw_M_size : List Cond := .code zy_M_size zc_M_size 2 (some .int) :: AW
abbrev zc_M_get : ByteArray := prog_12_method_9_code
def zy_M_get : MethodName := ⟨RX10, "get", "(II)I"⟩
abbrev zw_M_get : List Cond := .code zy_M_get zc_M_get 4 (some .int) :: AW
abbrev zc_M_found : ByteArray := prog_12_method_10_code
def zy_M_found : MethodName := ⟨RX10, "found", "(I)I"⟩
abbrev zw_M_found : List Cond := .code zy_M_found zc_M_found 2 (some .int) :: AW
abbrev zc_M_four : ByteArray := prog_12_method_11_code
def zy_M_four : MethodName := ⟨RX10, "four", "(IIII)I"⟩
abbrev zw_M_four : List Cond := .code zy_M_four zc_M_four 4 (some .int) :: AW
abbrev zc_M_intAt : ByteArray := prog_12_method_12_code
def zy_M_intAt : MethodName := ⟨RX10, "intAt", "(I)I"⟩
abbrev zw_M_intAt : List Cond := .code zy_M_intAt zc_M_intAt 2 (some .int) :: AW
abbrev zc_M_slot : ByteArray := prog_12_method_13_code
def zy_M_slot : MethodName := ⟨RX10, "slot", "(I)I"⟩
abbrev zw_M_slot : List Cond := .code zy_M_slot zc_M_slot 2 (some .int) :: AW
abbrev zc_M_remembers : ByteArray := prog_12_method_14_code
def zy_M_remembers : MethodName := ⟨RX10, "remembers", "()V"⟩
abbrev zw_M_remembers : List Cond := .code zy_M_remembers zc_M_remembers 2 none :: AW
abbrev zc_M_emit : ByteArray := prog_12_method_15_code
def zy_M_emit : MethodName := ⟨RX10, "emit", "(I)V"⟩
abbrev zw_M_emit : List Cond := .code zy_M_emit zc_M_emit 2 none :: AW
abbrev zc_M_emitLiterals : ByteArray := prog_12_method_16_code
def zy_M_emitLiterals : MethodName := ⟨RX10, "emitLiterals", "(II)V"⟩
abbrev zw_M_emitLiterals : List Cond := .code zy_M_emitLiterals zc_M_emitLiterals 4 none :: AW
abbrev zc_M_emitMore : ByteArray := prog_12_method_17_code
def zy_M_emitMore : MethodName := ⟨RX10, "emitMore", "(I)V"⟩
abbrev zw_M_emitMore : List Cond := .code zy_M_emitMore zc_M_emitMore 3 none :: AW
abbrev zc_M_atMost15 : ByteArray := prog_12_method_18_code
def zy_M_atMost15 : MethodName := ⟨RX10, "atMost15", "(I)I"⟩
abbrev zw_M_atMost15 : List Cond := .code zy_M_atMost15 zc_M_atMost15 1 (some .int) :: AW
abbrev zc_M_sequence : ByteArray := prog_12_method_19_code
def zy_M_sequence : MethodName := ⟨RX10, "sequence", "(IIII)V"⟩
abbrev zw_M_sequence : List Cond := .code zy_M_sequence zc_M_sequence 6 none :: AW
abbrev zc_M_lastSequence : ByteArray := prog_12_method_20_code
def zy_M_lastSequence : MethodName := ⟨RX10, "lastSequence", "(II)V"⟩
abbrev zw_M_lastSequence : List Cond := .code zy_M_lastSequence zc_M_lastSequence 3 none :: AW
abbrev zc_M_literalElement : ByteArray := prog_12_method_21_code
def zy_M_literalElement : MethodName := ⟨RX10, "literalElement", "(II)V"⟩
abbrev zw_M_literalElement : List Cond := .code zy_M_literalElement zc_M_literalElement 4 none :: AW
abbrev zc_M_copyElement : ByteArray := prog_12_method_22_code
def zy_M_copyElement : MethodName := ⟨RX10, "copyElement", "(II)V"⟩
abbrev zw_M_copyElement : List Cond := .code zy_M_copyElement zc_M_copyElement 3 none :: AW
abbrev zc_M_copyElements : ByteArray := prog_12_method_23_code
def zy_M_copyElements : MethodName := ⟨RX10, "copyElements", "(II)V"⟩
abbrev zw_M_copyElements : List Cond := .code zy_M_copyElements zc_M_copyElements 4 none :: AW
abbrev zc_M_same : ByteArray := prog_12_method_24_code
def zy_M_same : MethodName := ⟨RX10, "same", "(II)I"⟩
abbrev zw_M_same : List Cond := .code zy_M_same zc_M_same 4 (some .int) :: AW
abbrev zc_M_packs : ByteArray := prog_12_method_25_code
def zy_M_packs : MethodName := ⟨RX10, "packs", "(I)V"⟩
abbrev zw_M_packs : List Cond := .code zy_M_packs zc_M_packs 7 none :: AW
abbrev zc_M_pack : ByteArray := prog_12_method_26_code
def zy_M_pack : MethodName := ⟨RX10, "pack", "(I)I"⟩
abbrev zw_M_pack : List Cond := .code zy_M_pack zc_M_pack 3 (some .int) :: AW
abbrev zc_M_need : ByteArray := prog_12_method_27_code
def zy_M_need : MethodName := ⟨RX10, "need", "(ZI)V"⟩
abbrev zw_M_need : List Cond := .code zy_M_need zc_M_need 3 none :: AW
abbrev zc_M_next : ByteArray := prog_12_method_28_code
def zy_M_next : MethodName := ⟨RX10, "next", "()I"⟩
abbrev zw_M_next : List Cond := .code zy_M_next zc_M_next 1 (some .int) :: AW
abbrev zc_M_made : ByteArray := prog_12_method_29_code
def zy_M_made : MethodName := ⟨RX10, "made", "()I"⟩
abbrev zw_M_made : List Cond := .code zy_M_made zc_M_made 1 (some .int) :: AW
abbrev zc_M_literals : ByteArray := prog_12_method_30_code
def zy_M_literals : MethodName := ⟨RX10, "literals", "(I)V"⟩
abbrev zw_M_literals : List Cond := .code zy_M_literals zc_M_literals 4 none :: AW
abbrev zc_M_copies : ByteArray := prog_12_method_31_code
def zy_M_copies : MethodName := ⟨RX10, "copies", "(II)V"⟩
abbrev zw_M_copies : List Cond := .code zy_M_copies zc_M_copies 4 none :: AW
abbrev zc_M_more : ByteArray := prog_12_method_32_code
def zy_M_more : MethodName := ⟨RX10, "more", "(I)I"⟩
abbrev zw_M_more : List Cond := .code zy_M_more zc_M_more 4 (some .int) :: AW
abbrev zc_M_readZero : ByteArray := prog_12_method_33_code
def zy_M_readZero : MethodName := ⟨RX10, "readZero", "()V"⟩
abbrev zw_M_readZero : List Cond := .code zy_M_readZero zc_M_readZero 9 none :: AW
abbrev zc_M_element : ByteArray := prog_12_method_34_code
def zy_M_element : MethodName := ⟨RX10, "element", "(I)V"⟩
abbrev zw_M_element : List Cond := .code zy_M_element zc_M_element 8 none :: AW
abbrev zc_M_readOne : ByteArray := prog_12_method_35_code
def zy_M_readOne : MethodName := ⟨RX10, "readOne", "()V"⟩
abbrev zw_M_readOne : List Cond := .code zy_M_readOne zc_M_readOne 3 none :: AW
abbrev zc_M_unpack : ByteArray := prog_12_method_36_code
def zy_M_unpack : MethodName := ⟨RX10, "unpack", "(I)I"⟩
abbrev zw_M_unpack : List Cond := .code zy_M_unpack zc_M_unpack 3 (some .int) :: AW
abbrev zc_M_crc : ByteArray := prog_12_method_37_code
def zy_M_crc : MethodName := ⟨RX10, "crc", "(I)I"⟩
abbrev zw_M_crc : List Cond := .code zy_M_crc zc_M_crc 6 (some .int) :: AW
abbrev zc_M_turn : ByteArray := prog_12_method_38_code
def zy_M_turn : MethodName := ⟨RX10, "turn", "(II)I"⟩
abbrev zw_M_turn : List Cond := .code zy_M_turn zc_M_turn 2 (some .int) :: AW
abbrev zc_M_rowInt : ByteArray := prog_12_method_39_code
def zy_M_rowInt : MethodName := ⟨RX10, "rowInt", "(II)I"⟩
abbrev zw_M_rowInt : List Cond := .code zy_M_rowInt zc_M_rowInt 4 (some .int) :: AW
abbrev zc_M_lane : ByteArray := prog_12_method_40_code
def zy_M_lane : MethodName := ⟨RX10, "lane", "(III)I"⟩
abbrev zw_M_lane : List Cond := .code zy_M_lane zc_M_lane 6 (some .int) :: AW
abbrev zc_M_hash : ByteArray := prog_12_method_41_code
def zy_M_hash : MethodName := ⟨RX10, "hash", "(II)I"⟩
abbrev zw_M_hash : List Cond := .code zy_M_hash zc_M_hash 7 (some .int) :: AW
theorem aw_0 : (Cond.laysFinal RX5 "PressSuite$Row" "bytes" "[B") ∈ AW := aw_of 85 (by decide +kernel) (by decide +kernel)
theorem aw_1 : (Cond.lays RX5 "PressSuite$Row" "count" "I") ∈ AW := aw_of 87 (by decide +kernel) (by decide +kernel)
theorem aw_2 : (Cond.fieldLink RX5 7 "PressSuite$Row" "bytes" "[B") ∈ AW := aw_of 75 (by decide +kernel) (by decide +kernel)
theorem aw_3 : (Cond.fieldLink RX5 13 "PressSuite$Row" "count" "I") ∈ AW := aw_of 77 (by decide +kernel) (by decide +kernel)
theorem aw_4 : (Cond.methodLink RX5 17 zy_R_byteAt) ∈ AW := aw_of 626 (by decide +kernel) (by decide +kernel)
theorem aw_5 : (Cond.instanceMethod zy_R_byteAt) ∈ AW := aw_of 396 (by decide +kernel) (by decide +kernel)
theorem aw_6 : (Cond.selects RX5 zy_R_byteAt zy_R_byteAt) ∈ AW := aw_of 397 (by decide +kernel) (by decide +kernel)
theorem aw_7 : (Cond.initialized RX5) ∈ AW := aw_of 45 (by decide +kernel) (by decide +kernel)
theorem aw_8 : (Cond.code zy_R_byteAt zc_R_byteAt 2 (some .int)) ∈ AW := aw_of 398 (by decide +kernel) (by decide +kernel)
theorem aw_9 : (Cond.methodLink RX5 21 zy_R_clear) ∈ AW := aw_of 625 (by decide +kernel) (by decide +kernel)
theorem aw_10 : (Cond.instanceMethod zy_R_clear) ∈ AW := aw_of 361 (by decide +kernel) (by decide +kernel)
theorem aw_11 : (Cond.selects RX5 zy_R_clear zy_R_clear) ∈ AW := aw_of 362 (by decide +kernel) (by decide +kernel)
theorem aw_12 : (Cond.code zy_R_clear zc_R_clear 1 none) ∈ AW := aw_of 363 (by decide +kernel) (by decide +kernel)
theorem aw_13 : (Cond.methodLink RX5 24 zy_R_add) ∈ AW := aw_of 627 (by decide +kernel) (by decide +kernel)
theorem aw_14 : (Cond.instanceMethod zy_R_add) ∈ AW := aw_of 350 (by decide +kernel) (by decide +kernel)
theorem aw_15 : (Cond.selects RX5 zy_R_add zy_R_add) ∈ AW := aw_of 351 (by decide +kernel) (by decide +kernel)
theorem aw_16 : (Cond.code zy_R_add zc_R_add 2 none) ∈ AW := aw_of 352 (by decide +kernel) (by decide +kernel)
theorem aw_17 : (Cond.laysFinal RX2 "PressSuite$History" "past" "LPressSuite$Row;") ∈ AW := aw_of 105 (by decide +kernel) (by decide +kernel)
theorem aw_18 : (Cond.laysFinal RX2 "PressSuite$History" "plain" "LPressSuite$Row;") ∈ AW := aw_of 107 (by decide +kernel) (by decide +kernel)
theorem aw_19 : (Cond.fieldLink RX2 7 "PressSuite$History" "past" "LPressSuite$Row;") ∈ AW := aw_of 103 (by decide +kernel) (by decide +kernel)
theorem aw_20 : (Cond.fieldLink RX2 13 "PressSuite$History" "plain" "LPressSuite$Row;") ∈ AW := aw_of 104 (by decide +kernel) (by decide +kernel)
theorem aw_21 : (Cond.methodLink RX2 22 zy_R_byteAt) ∈ AW := aw_of 395 (by decide +kernel) (by decide +kernel)
theorem aw_22 : (Cond.methodLink RX2 26 zy_H_byteAt) ∈ AW := aw_of 391 (by decide +kernel) (by decide +kernel)
theorem aw_23 : (Cond.instanceMethod zy_H_byteAt) ∈ AW := aw_of 392 (by decide +kernel) (by decide +kernel)
theorem aw_24 : (Cond.selects RX2 zy_H_byteAt zy_H_byteAt) ∈ AW := aw_of 393 (by decide +kernel) (by decide +kernel)
theorem aw_25 : (Cond.initialized RX2) ∈ AW := aw_of 47 (by decide +kernel) (by decide +kernel)
theorem aw_26 : (Cond.code zy_H_byteAt zc_H_byteAt 2 (some .int)) ∈ AW := aw_of 394 (by decide +kernel) (by decide +kernel)
theorem aw_27 : (Cond.laysFinal RX3 "PressSuite$Packer" "past" "LPressSuite$Row;") ∈ AW := aw_of 119 (by decide +kernel) (by decide +kernel)
theorem aw_28 : (Cond.laysFinal RX3 "PressSuite$Packer" "plain" "LPressSuite$Row;") ∈ AW := aw_of 121 (by decide +kernel) (by decide +kernel)
theorem aw_29 : (Cond.laysFinal RX3 "PressSuite$Packer" "history" "LPressSuite$History;") ∈ AW := aw_of 123 (by decide +kernel) (by decide +kernel)
theorem aw_30 : (Cond.laysFinal RX3 "PressSuite$Packer" "table" "[I") ∈ AW := aw_of 125 (by decide +kernel) (by decide +kernel)
theorem aw_31 : (Cond.lays RX3 "PressSuite$Packer" "anchor" "I") ∈ AW := aw_of 127 (by decide +kernel) (by decide +kernel)
theorem aw_32 : (Cond.lays RX3 "PressSuite$Packer" "matches" "I") ∈ AW := aw_of 129 (by decide +kernel) (by decide +kernel)
theorem aw_33 : (Cond.lays RX3 "PressSuite$Packer" "copied" "I") ∈ AW := aw_of 131 (by decide +kernel) (by decide +kernel)
theorem aw_34 : (Cond.fieldLink RX3 29 "PressSuite$Packer" "anchor" "I") ∈ AW := aw_of 114 (by decide +kernel) (by decide +kernel)
theorem aw_35 : (Cond.fieldLink RX3 33 "PressSuite$Packer" "matches" "I") ∈ AW := aw_of 115 (by decide +kernel) (by decide +kernel)
theorem aw_36 : (Cond.fieldLink RX3 36 "PressSuite$Packer" "copied" "I") ∈ AW := aw_of 117 (by decide +kernel) (by decide +kernel)
theorem aw_37 : (Cond.fieldLink RX3 25 "PressSuite$Packer" "table" "[I") ∈ AW := aw_of 113 (by decide +kernel) (by decide +kernel)
theorem aw_38 : (Cond.fieldLink RX3 7 "PressSuite$Packer" "past" "LPressSuite$Row;") ∈ AW := aw_of 110 (by decide +kernel) (by decide +kernel)
theorem aw_39 : (Cond.fieldLink RX3 21 "PressSuite$Packer" "history" "LPressSuite$History;") ∈ AW := aw_of 112 (by decide +kernel) (by decide +kernel)
theorem aw_40 : (Cond.methodLink RX3 70 zy_H_intAt) ∈ AW := aw_of 387 (by decide +kernel) (by decide +kernel)
theorem aw_41 : (Cond.instanceMethod zy_H_intAt) ∈ AW := aw_of 388 (by decide +kernel) (by decide +kernel)
theorem aw_42 : (Cond.selects RX2 zy_H_intAt zy_H_intAt) ∈ AW := aw_of 389 (by decide +kernel) (by decide +kernel)
theorem aw_43 : (Cond.code zy_H_intAt zc_H_intAt 2 (some .int)) ∈ AW := aw_of 390 (by decide +kernel) (by decide +kernel)
theorem aw_44 : (Cond.constant RX3 87 (-1640531535)) ∈ AW := aw_of 399 (by decide +kernel) (by decide +kernel)
theorem aw_45 : (Cond.methodLink RX3 66 zy_P_exchange) ∈ AW := aw_of 383 (by decide +kernel) (by decide +kernel)
theorem aw_46 : (Cond.instanceMethod zy_P_exchange) ∈ AW := aw_of 385 (by decide +kernel) (by decide +kernel)
theorem aw_47 : (Cond.selects RX3 zy_P_exchange zy_P_exchange) ∈ AW := aw_of 3 (by decide +kernel) (by decide +kernel)
theorem aw_48 : (Cond.initialized RX3) ∈ AW := aw_of 46 (by decide +kernel) (by decide +kernel)
theorem aw_49 : (Cond.code zy_P_exchange zc_P_exchange 4 (some .int)) ∈ AW := aw_of 386 (by decide +kernel) (by decide +kernel)
theorem aw_50 : (Cond.methodLink RX3 39 zy_P_learnPast) ∈ AW := aw_of 379 (by decide +kernel) (by decide +kernel)
theorem aw_51 : (Cond.instanceMethod zy_P_learnPast) ∈ AW := aw_of 381 (by decide +kernel) (by decide +kernel)
theorem aw_52 : (Cond.selects RX3 zy_P_learnPast zy_P_learnPast) ∈ AW := aw_of 2 (by decide +kernel) (by decide +kernel)
theorem aw_53 : (Cond.code zy_P_learnPast zc_P_learnPast 2 none) ∈ AW := aw_of 382 (by decide +kernel) (by decide +kernel)
theorem aw_54 : (Cond.laysFinal RX7 "PressSuite$Writer" "plain" "LPressSuite$Row;") ∈ AW := aw_of 154 (by decide +kernel) (by decide +kernel)
theorem aw_55 : (Cond.laysFinal RX7 "PressSuite$Writer" "out" "LPressSuite$Row;") ∈ AW := aw_of 156 (by decide +kernel) (by decide +kernel)
theorem aw_56 : (Cond.fieldLink RX7 7 "PressSuite$SequenceWriter" "out" "LPressSuite$Row;") ∈ AW := aw_of 152 (by decide +kernel) (by decide +kernel)
theorem aw_57 : (Cond.sameField "PressSuite$SequenceWriter" "PressSuite$Writer" "out" "LPressSuite$Row;") ∈ AW := aw_of 153 (by decide +kernel) (by decide +kernel)
theorem aw_58 : (Cond.methodLink RX7 13 zy_R_clear) ∈ AW := aw_of 411 (by decide +kernel) (by decide +kernel)
theorem aw_59 : (Cond.methodLink RX3 42 ⟨"PressSuite$Writer", "begin", "()V"⟩) ∈ AW := aw_of 400 (by decide +kernel) (by decide +kernel)
theorem aw_60 : (Cond.sameMethod "PressSuite$Writer" "PressSuite$Writer" "begin" "()V") ∈ AW := aw_of 402 (by decide +kernel) (by decide +kernel)
theorem aw_61 : (Cond.selects RX7 ⟨"PressSuite$Writer", "begin", "()V"⟩ zy_SW_begin) ∈ AW := aw_of 408 (by decide +kernel) (by decide +kernel)
theorem aw_62 : (Cond.instanceMethod zy_SW_begin) ∈ AW := aw_of 409 (by decide +kernel) (by decide +kernel)
theorem aw_63 : (Cond.initialized RX7) ∈ AW := aw_of 49 (by decide +kernel) (by decide +kernel)
theorem aw_64 : (Cond.code zy_SW_begin zc_SW_begin 1 none) ∈ AW := aw_of 410 (by decide +kernel) (by decide +kernel)
theorem aw_65 : (Cond.fieldLink RX3 13 "PressSuite$Packer" "plain" "LPressSuite$Row;") ∈ AW := aw_of 111 (by decide +kernel) (by decide +kernel)
theorem aw_66 : (Cond.methodLink RX3 80 zy_H_length) ∈ AW := aw_of 420 (by decide +kernel) (by decide +kernel)
theorem aw_67 : (Cond.instanceMethod zy_H_length) ∈ AW := aw_of 421 (by decide +kernel) (by decide +kernel)
theorem aw_68 : (Cond.selects RX2 zy_H_length zy_H_length) ∈ AW := aw_of 422 (by decide +kernel) (by decide +kernel)
theorem aw_69 : (Cond.code zy_H_length zc_H_length 1 (some .int)) ∈ AW := aw_of 423 (by decide +kernel) (by decide +kernel)
theorem aw_70 : (Cond.methodLink RX3 84 zy_H_byteAt) ∈ AW := aw_of 424 (by decide +kernel) (by decide +kernel)
theorem aw_71 : (Cond.methodLink RX3 73 zy_P_matchLength) ∈ AW := aw_of 416 (by decide +kernel) (by decide +kernel)
theorem aw_72 : (Cond.instanceMethod zy_P_matchLength) ∈ AW := aw_of 418 (by decide +kernel) (by decide +kernel)
theorem aw_73 : (Cond.selects RX3 zy_P_matchLength zy_P_matchLength) ∈ AW := aw_of 5 (by decide +kernel) (by decide +kernel)
theorem aw_74 : (Cond.code zy_P_matchLength zc_P_matchLength 5 (some .int)) ∈ AW := aw_of 419 (by decide +kernel) (by decide +kernel)
theorem aw_75 : (Cond.methodLink RX7 19 Lib.Math.min.name) ∈ AW := aw_of 454 (by decide +kernel) (by decide +kernel)
theorem aw_76 : (Cond.static Lib.Math.min.name) ∈ AW := aw_of 455 (by decide +kernel) (by decide +kernel)
theorem aw_77 : (Cond.initialized "java/lang/Math") ∈ AW := aw_of 60 (by decide +kernel) (by decide +kernel)
theorem aw_78 : (Cond.code Lib.Math.min.name Lib.Math.min.code 2 (some .int)) ∈ AW := aw_of 456 (by decide +kernel) (by decide +kernel)
theorem aw_79 : (Cond.methodLink RX7 29 zy_R_add) ∈ AW := aw_of 461 (by decide +kernel) (by decide +kernel)
theorem aw_80 : (Cond.methodLink RX7 33 zy_SW_writeSum) ∈ AW := aw_of 462 (by decide +kernel) (by decide +kernel)
theorem aw_81 : (Cond.instanceMethod zy_SW_writeSum) ∈ AW := aw_of 464 (by decide +kernel) (by decide +kernel)
theorem aw_82 : (Cond.selects RX7 zy_SW_writeSum zy_SW_writeSum) ∈ AW := aw_of 10 (by decide +kernel) (by decide +kernel)
theorem aw_83 : (Cond.code zy_SW_writeSum zc_SW_writeSum 3 none) ∈ AW := aw_of 465 (by decide +kernel) (by decide +kernel)
theorem aw_84 : (Cond.fieldLink RX8 13 "PressSuite$Writer" "out" "LPressSuite$Row;") ∈ AW := aw_of 149 (by decide +kernel) (by decide +kernel)
theorem aw_85 : (Cond.fieldLink RX8 7 "PressSuite$Writer" "plain" "LPressSuite$Row;") ∈ AW := aw_of 144 (by decide +kernel) (by decide +kernel)
theorem aw_86 : (Cond.methodLink RX8 16 zy_R_byteAt) ∈ AW := aw_of 441 (by decide +kernel) (by decide +kernel)
theorem aw_87 : (Cond.methodLink RX8 22 zy_R_add) ∈ AW := aw_of 442 (by decide +kernel) (by decide +kernel)
theorem aw_88 : (Cond.methodLink RX7 43 ⟨"PressSuite$SequenceWriter", "writePlain", "(II)V"⟩) ∈ AW := aw_of 466 (by decide +kernel) (by decide +kernel)
theorem aw_89 : (Cond.sameMethod "PressSuite$SequenceWriter" "PressSuite$Writer" "writePlain" "(II)V") ∈ AW := aw_of 467 (by decide +kernel) (by decide +kernel)
theorem aw_90 : (Cond.selects RX7 ⟨"PressSuite$SequenceWriter", "writePlain", "(II)V"⟩ zy_W_writePlain) ∈ AW := aw_of 468 (by decide +kernel) (by decide +kernel)
theorem aw_91 : (Cond.instanceMethod zy_W_writePlain) ∈ AW := aw_of 439 (by decide +kernel) (by decide +kernel)
theorem aw_92 : (Cond.initialized RX8) ∈ AW := aw_of 48 (by decide +kernel) (by decide +kernel)
theorem aw_93 : (Cond.code zy_W_writePlain zc_W_writePlain 4 none) ∈ AW := aw_of 440 (by decide +kernel) (by decide +kernel)
theorem aw_94 : (Cond.methodLink RX7 25 zy_SW_writeLiterals) ∈ AW := aw_of 457 (by decide +kernel) (by decide +kernel)
theorem aw_95 : (Cond.instanceMethod zy_SW_writeLiterals) ∈ AW := aw_of 459 (by decide +kernel) (by decide +kernel)
theorem aw_96 : (Cond.selects RX7 zy_SW_writeLiterals zy_SW_writeLiterals) ∈ AW := aw_of 9 (by decide +kernel) (by decide +kernel)
theorem aw_97 : (Cond.code zy_SW_writeLiterals zc_SW_writeLiterals 5 none) ∈ AW := aw_of 460 (by decide +kernel) (by decide +kernel)
theorem aw_98 : (Cond.methodLink RX3 76 ⟨"PressSuite$Writer", "match", "(IIII)V"⟩) ∈ AW := aw_of 425 (by decide +kernel) (by decide +kernel)
theorem aw_99 : (Cond.sameMethod "PressSuite$Writer" "PressSuite$Writer" "match" "(IIII)V") ∈ AW := aw_of 427 (by decide +kernel) (by decide +kernel)
theorem aw_100 : (Cond.selects RX7 ⟨"PressSuite$Writer", "match", "(IIII)V"⟩ zy_SW_match) ∈ AW := aw_of 451 (by decide +kernel) (by decide +kernel)
theorem aw_101 : (Cond.instanceMethod zy_SW_match) ∈ AW := aw_of 452 (by decide +kernel) (by decide +kernel)
theorem aw_102 : (Cond.code zy_SW_match zc_SW_match 6 none) ∈ AW := aw_of 453 (by decide +kernel) (by decide +kernel)
theorem aw_103 : (Cond.methodLink RX3 52 zy_P_copyFrom) ∈ AW := aw_of 412 (by decide +kernel) (by decide +kernel)
theorem aw_104 : (Cond.instanceMethod zy_P_copyFrom) ∈ AW := aw_of 414 (by decide +kernel) (by decide +kernel)
theorem aw_105 : (Cond.selects RX3 zy_P_copyFrom zy_P_copyFrom) ∈ AW := aw_of 4 (by decide +kernel) (by decide +kernel)
theorem aw_106 : (Cond.code zy_P_copyFrom zc_P_copyFrom 6 (some .int)) ∈ AW := aw_of 415 (by decide +kernel) (by decide +kernel)
theorem aw_107 : (Cond.methodLink RX3 56 Lib.Math.max.name) ∈ AW := aw_of 469 (by decide +kernel) (by decide +kernel)
theorem aw_108 : (Cond.static Lib.Math.max.name) ∈ AW := aw_of 470 (by decide +kernel) (by decide +kernel)
theorem aw_109 : (Cond.code Lib.Math.max.name Lib.Math.max.code 2 (some .int)) ∈ AW := aw_of 471 (by decide +kernel) (by decide +kernel)
theorem aw_110 : (Cond.fieldLink RX7 36 "PressSuite$SequenceWriter" "plain" "LPressSuite$Row;") ∈ AW := aw_of 147 (by decide +kernel) (by decide +kernel)
theorem aw_111 : (Cond.sameField "PressSuite$SequenceWriter" "PressSuite$Writer" "plain" "LPressSuite$Row;") ∈ AW := aw_of 148 (by decide +kernel) (by decide +kernel)
theorem aw_112 : (Cond.methodLink RX3 62 ⟨"PressSuite$Writer", "end", "(I)V"⟩) ∈ AW := aw_of 472 (by decide +kernel) (by decide +kernel)
theorem aw_113 : (Cond.sameMethod "PressSuite$Writer" "PressSuite$Writer" "end" "(I)V") ∈ AW := aw_of 474 (by decide +kernel) (by decide +kernel)
theorem aw_114 : (Cond.selects RX7 ⟨"PressSuite$Writer", "end", "(I)V"⟩ zy_SW_end) ∈ AW := aw_of 478 (by decide +kernel) (by decide +kernel)
theorem aw_115 : (Cond.instanceMethod zy_SW_end) ∈ AW := aw_of 479 (by decide +kernel) (by decide +kernel)
theorem aw_116 : (Cond.code zy_SW_end zc_SW_end 2 none) ∈ AW := aw_of 480 (by decide +kernel) (by decide +kernel)
theorem aw_117 : (Cond.laysFinal RX1 "PressSuite$Writer" "plain" "LPressSuite$Row;") ∈ AW := aw_of 165 (by decide +kernel) (by decide +kernel)
theorem aw_118 : (Cond.laysFinal RX1 "PressSuite$Writer" "out" "LPressSuite$Row;") ∈ AW := aw_of 166 (by decide +kernel) (by decide +kernel)
theorem aw_119 : (Cond.fieldLink RX1 7 "PressSuite$ElementWriter" "out" "LPressSuite$Row;") ∈ AW := aw_of 150 (by decide +kernel) (by decide +kernel)
theorem aw_120 : (Cond.sameField "PressSuite$ElementWriter" "PressSuite$Writer" "out" "LPressSuite$Row;") ∈ AW := aw_of 151 (by decide +kernel) (by decide +kernel)
theorem aw_121 : (Cond.methodLink RX1 13 zy_R_clear) ∈ AW := aw_of 406 (by decide +kernel) (by decide +kernel)
theorem aw_122 : (Cond.fieldLink RX1 19 "PressSuite$ElementWriter" "plain" "LPressSuite$Row;") ∈ AW := aw_of 145 (by decide +kernel) (by decide +kernel)
theorem aw_123 : (Cond.sameField "PressSuite$ElementWriter" "PressSuite$Writer" "plain" "LPressSuite$Row;") ∈ AW := aw_of 146 (by decide +kernel) (by decide +kernel)
theorem aw_124 : (Cond.methodLink RX1 26 zy_R_add) ∈ AW := aw_of 407 (by decide +kernel) (by decide +kernel)
theorem aw_125 : (Cond.selects RX1 ⟨"PressSuite$Writer", "begin", "()V"⟩ zy_EW_begin) ∈ AW := aw_of 403 (by decide +kernel) (by decide +kernel)
theorem aw_126 : (Cond.instanceMethod zy_EW_begin) ∈ AW := aw_of 404 (by decide +kernel) (by decide +kernel)
theorem aw_127 : (Cond.initialized RX1) ∈ AW := aw_of 50 (by decide +kernel) (by decide +kernel)
theorem aw_128 : (Cond.code zy_EW_begin zc_EW_begin 2 none) ∈ AW := aw_of 405 (by decide +kernel) (by decide +kernel)
theorem aw_129 : (Cond.methodLink RX1 40 ⟨"PressSuite$ElementWriter", "writePlain", "(II)V"⟩) ∈ AW := aw_of 435 (by decide +kernel) (by decide +kernel)
theorem aw_130 : (Cond.sameMethod "PressSuite$ElementWriter" "PressSuite$Writer" "writePlain" "(II)V") ∈ AW := aw_of 436 (by decide +kernel) (by decide +kernel)
theorem aw_131 : (Cond.selects RX1 ⟨"PressSuite$ElementWriter", "writePlain", "(II)V"⟩ zy_W_writePlain) ∈ AW := aw_of 438 (by decide +kernel) (by decide +kernel)
theorem aw_132 : (Cond.methodLink RX1 30 zy_EW_writeLiterals) ∈ AW := aw_of 431 (by decide +kernel) (by decide +kernel)
theorem aw_133 : (Cond.instanceMethod zy_EW_writeLiterals) ∈ AW := aw_of 433 (by decide +kernel) (by decide +kernel)
theorem aw_134 : (Cond.selects RX1 zy_EW_writeLiterals zy_EW_writeLiterals) ∈ AW := aw_of 6 (by decide +kernel) (by decide +kernel)
theorem aw_135 : (Cond.code zy_EW_writeLiterals zc_EW_writeLiterals 4 none) ∈ AW := aw_of 434 (by decide +kernel) (by decide +kernel)
theorem aw_136 : (Cond.methodLink RX1 34 zy_EW_writeLong) ∈ AW := aw_of 443 (by decide +kernel) (by decide +kernel)
theorem aw_137 : (Cond.instanceMethod zy_EW_writeLong) ∈ AW := aw_of 445 (by decide +kernel) (by decide +kernel)
theorem aw_138 : (Cond.selects RX1 zy_EW_writeLong zy_EW_writeLong) ∈ AW := aw_of 7 (by decide +kernel) (by decide +kernel)
theorem aw_139 : (Cond.code zy_EW_writeLong zc_EW_writeLong 3 none) ∈ AW := aw_of 446 (by decide +kernel) (by decide +kernel)
theorem aw_140 : (Cond.methodLink RX1 37 zy_EW_writeCopy) ∈ AW := aw_of 447 (by decide +kernel) (by decide +kernel)
theorem aw_141 : (Cond.instanceMethod zy_EW_writeCopy) ∈ AW := aw_of 449 (by decide +kernel) (by decide +kernel)
theorem aw_142 : (Cond.selects RX1 zy_EW_writeCopy zy_EW_writeCopy) ∈ AW := aw_of 8 (by decide +kernel) (by decide +kernel)
theorem aw_143 : (Cond.code zy_EW_writeCopy zc_EW_writeCopy 3 none) ∈ AW := aw_of 450 (by decide +kernel) (by decide +kernel)
theorem aw_144 : (Cond.selects RX1 ⟨"PressSuite$Writer", "match", "(IIII)V"⟩ zy_EW_match) ∈ AW := aw_of 428 (by decide +kernel) (by decide +kernel)
theorem aw_145 : (Cond.instanceMethod zy_EW_match) ∈ AW := aw_of 429 (by decide +kernel) (by decide +kernel)
theorem aw_146 : (Cond.code zy_EW_match zc_EW_match 6 none) ∈ AW := aw_of 430 (by decide +kernel) (by decide +kernel)
theorem aw_147 : (Cond.selects RX1 ⟨"PressSuite$Writer", "end", "(I)V"⟩ zy_EW_end) ∈ AW := aw_of 475 (by decide +kernel) (by decide +kernel)
theorem aw_148 : (Cond.instanceMethod zy_EW_end) ∈ AW := aw_of 476 (by decide +kernel) (by decide +kernel)
theorem aw_149 : (Cond.code zy_EW_end zc_EW_end 2 none) ∈ AW := aw_of 477 (by decide +kernel) (by decide +kernel)
theorem aw_150 : (Cond.laysFinal RX6 "PressSuite$Reader" "source" "LPressSuite$Row;") ∈ AW := aw_of 195 (by decide +kernel) (by decide +kernel)
theorem aw_151 : (Cond.laysFinal RX6 "PressSuite$Reader" "draft" "LPressSuite$Row;") ∈ AW := aw_of 197 (by decide +kernel) (by decide +kernel)
theorem aw_152 : (Cond.laysFinal RX6 "PressSuite$Reader" "history" "LPressSuite$History;") ∈ AW := aw_of 199 (by decide +kernel) (by decide +kernel)
theorem aw_153 : (Cond.lays RX6 "PressSuite$Reader" "at" "I") ∈ AW := aw_of 201 (by decide +kernel) (by decide +kernel)
theorem aw_154 : (Cond.lays RX6 "PressSuite$Reader" "refusedAt" "I") ∈ AW := aw_of 203 (by decide +kernel) (by decide +kernel)
theorem aw_155 : (Cond.fieldLink RX6 9 "PressSuite$SequenceReader" "source" "LPressSuite$Row;") ∈ AW := aw_of 180 (by decide +kernel) (by decide +kernel)
theorem aw_156 : (Cond.sameField "PressSuite$SequenceReader" "PressSuite$Reader" "source" "LPressSuite$Row;") ∈ AW := aw_of 181 (by decide +kernel) (by decide +kernel)
theorem aw_157 : (Cond.fieldLink RX6 25 "PressSuite$SequenceReader" "at" "I") ∈ AW := aw_of 188 (by decide +kernel) (by decide +kernel)
theorem aw_158 : (Cond.sameField "PressSuite$SequenceReader" "PressSuite$Reader" "at" "I") ∈ AW := aw_of 189 (by decide +kernel) (by decide +kernel)
theorem aw_159 : (Cond.fieldLink RX4 25 "PressSuite$Reader" "at" "I") ∈ AW := aw_of 190 (by decide +kernel) (by decide +kernel)
theorem aw_160 : (Cond.fieldLink RX4 7 "PressSuite$Reader" "source" "LPressSuite$Row;") ∈ AW := aw_of 179 (by decide +kernel) (by decide +kernel)
theorem aw_161 : (Cond.fieldLink RX4 29 "PressSuite$Reader" "refusedAt" "I") ∈ AW := aw_of 193 (by decide +kernel) (by decide +kernel)
theorem aw_162 : (Cond.methodLink RX4 40 ⟨"PressSuite$Reader", "refuseIf", "(ZI)V"⟩) ∈ AW := aw_of 511 (by decide +kernel) (by decide +kernel)
theorem aw_163 : (Cond.sameMethod "PressSuite$Reader" "PressSuite$Reader" "refuseIf" "(ZI)V") ∈ AW := aw_of 513 (by decide +kernel) (by decide +kernel)
theorem aw_164 : (Cond.selects RX6 ⟨"PressSuite$Reader", "refuseIf", "(ZI)V"⟩ zy_D_refuseIf) ∈ AW := aw_of 515 (by decide +kernel) (by decide +kernel)
theorem aw_165 : (Cond.instanceMethod zy_D_refuseIf) ∈ AW := aw_of 512 (by decide +kernel) (by decide +kernel)
theorem aw_166 : (Cond.initialized RX4) ∈ AW := aw_of 51 (by decide +kernel) (by decide +kernel)
theorem aw_167 : (Cond.code zy_D_refuseIf zc_D_refuseIf 3 none) ∈ AW := aw_of 516 (by decide +kernel) (by decide +kernel)
theorem aw_168 : (Cond.methodLink RX4 44 zy_R_byteAt) ∈ AW := aw_of 517 (by decide +kernel) (by decide +kernel)
theorem aw_169 : (Cond.methodLink RX6 28 ⟨"PressSuite$SequenceReader", "take", "()I"⟩) ∈ AW := aw_of 592 (by decide +kernel) (by decide +kernel)
theorem aw_170 : (Cond.sameMethod "PressSuite$SequenceReader" "PressSuite$Reader" "take" "()I") ∈ AW := aw_of 593 (by decide +kernel) (by decide +kernel)
theorem aw_171 : (Cond.selects RX6 ⟨"PressSuite$SequenceReader", "take", "()I"⟩ zy_D_take) ∈ AW := aw_of 594 (by decide +kernel) (by decide +kernel)
theorem aw_172 : (Cond.instanceMethod zy_D_take) ∈ AW := aw_of 509 (by decide +kernel) (by decide +kernel)
theorem aw_173 : (Cond.code zy_D_take zc_D_take 2 (some .int)) ∈ AW := aw_of 510 (by decide +kernel) (by decide +kernel)
theorem aw_174 : (Cond.methodLink RX6 32 zy_SR_takeSum) ∈ AW := aw_of 595 (by decide +kernel) (by decide +kernel)
theorem aw_175 : (Cond.instanceMethod zy_SR_takeSum) ∈ AW := aw_of 597 (by decide +kernel) (by decide +kernel)
theorem aw_176 : (Cond.selects RX6 zy_SR_takeSum zy_SR_takeSum) ∈ AW := aw_of 17 (by decide +kernel) (by decide +kernel)
theorem aw_177 : (Cond.initialized RX6) ∈ AW := aw_of 52 (by decide +kernel) (by decide +kernel)
theorem aw_178 : (Cond.code zy_SR_takeSum zc_SR_takeSum 5 (some .int)) ∈ AW := aw_of 598 (by decide +kernel) (by decide +kernel)
theorem aw_179 : (Cond.fieldLink RX4 13 "PressSuite$Reader" "draft" "LPressSuite$Row;") ∈ AW := aw_of 184 (by decide +kernel) (by decide +kernel)
theorem aw_180 : (Cond.methodLink RX6 36 ⟨"PressSuite$SequenceReader", "requireRoom", "(III)V"⟩) ∈ AW := aw_of 599 (by decide +kernel) (by decide +kernel)
theorem aw_181 : (Cond.sameMethod "PressSuite$SequenceReader" "PressSuite$Reader" "requireRoom" "(III)V") ∈ AW := aw_of 600 (by decide +kernel) (by decide +kernel)
theorem aw_182 : (Cond.selects RX6 ⟨"PressSuite$SequenceReader", "requireRoom", "(III)V"⟩ zy_D_requireRoom) ∈ AW := aw_of 601 (by decide +kernel) (by decide +kernel)
theorem aw_183 : (Cond.instanceMethod zy_D_requireRoom) ∈ AW := aw_of 546 (by decide +kernel) (by decide +kernel)
theorem aw_184 : (Cond.code zy_D_requireRoom zc_D_requireRoom 4 none) ∈ AW := aw_of 547 (by decide +kernel) (by decide +kernel)
theorem aw_185 : (Cond.methodLink RX4 55 ⟨"PressSuite$Reader", "refused", "()Z"⟩) ∈ AW := aw_of 554 (by decide +kernel) (by decide +kernel)
theorem aw_186 : (Cond.sameMethod "PressSuite$Reader" "PressSuite$Reader" "refused" "()Z") ∈ AW := aw_of 902 (by decide +kernel) (by decide +kernel)
theorem aw_187 : (Cond.selects RX6 ⟨"PressSuite$Reader", "refused", "()Z"⟩ zy_D_refused) ∈ AW := aw_of 904 (by decide +kernel) (by decide +kernel)
theorem aw_188 : (Cond.instanceMethod zy_D_refused) ∈ AW := aw_of 532 (by decide +kernel) (by decide +kernel)
theorem aw_189 : (Cond.code zy_D_refused zc_D_refused 1 (some .boolean)) ∈ AW := aw_of 533 (by decide +kernel) (by decide +kernel)
theorem aw_190 : (Cond.methodLink RX4 48 ⟨"PressSuite$Reader", "take", "()I"⟩) ∈ AW := aw_of 555 (by decide +kernel) (by decide +kernel)
theorem aw_191 : (Cond.sameMethod "PressSuite$Reader" "PressSuite$Reader" "take" "()I") ∈ AW := aw_of 905 (by decide +kernel) (by decide +kernel)
theorem aw_192 : (Cond.selects RX6 ⟨"PressSuite$Reader", "take", "()I"⟩ zy_D_take) ∈ AW := aw_of 907 (by decide +kernel) (by decide +kernel)
theorem aw_193 : (Cond.methodLink RX4 59 zy_R_add) ∈ AW := aw_of 556 (by decide +kernel) (by decide +kernel)
theorem aw_194 : (Cond.methodLink RX6 40 ⟨"PressSuite$SequenceReader", "copyLiterals", "(I)V"⟩) ∈ AW := aw_of 602 (by decide +kernel) (by decide +kernel)
theorem aw_195 : (Cond.sameMethod "PressSuite$SequenceReader" "PressSuite$Reader" "copyLiterals" "(I)V") ∈ AW := aw_of 603 (by decide +kernel) (by decide +kernel)
theorem aw_196 : (Cond.selects RX6 ⟨"PressSuite$SequenceReader", "copyLiterals", "(I)V"⟩ zy_D_copyLiterals) ∈ AW := aw_of 604 (by decide +kernel) (by decide +kernel)
theorem aw_197 : (Cond.instanceMethod zy_D_copyLiterals) ∈ AW := aw_of 552 (by decide +kernel) (by decide +kernel)
theorem aw_198 : (Cond.code zy_D_copyLiterals zc_D_copyLiterals 3 none) ∈ AW := aw_of 553 (by decide +kernel) (by decide +kernel)
theorem aw_199 : (Cond.methodLink RX6 44 ⟨"PressSuite$SequenceReader", "refused", "()Z"⟩) ∈ AW := aw_of 605 (by decide +kernel) (by decide +kernel)
theorem aw_200 : (Cond.sameMethod "PressSuite$SequenceReader" "PressSuite$Reader" "refused" "()Z") ∈ AW := aw_of 606 (by decide +kernel) (by decide +kernel)
theorem aw_201 : (Cond.selects RX6 ⟨"PressSuite$SequenceReader", "refused", "()Z"⟩ zy_D_refused) ∈ AW := aw_of 607 (by decide +kernel) (by decide +kernel)
theorem aw_202 : (Cond.methodLink RX6 47 ⟨"PressSuite$SequenceReader", "atEnd", "()Z"⟩) ∈ AW := aw_of 608 (by decide +kernel) (by decide +kernel)
theorem aw_203 : (Cond.sameMethod "PressSuite$SequenceReader" "PressSuite$Reader" "atEnd" "()Z") ∈ AW := aw_of 609 (by decide +kernel) (by decide +kernel)
theorem aw_204 : (Cond.selects RX6 ⟨"PressSuite$SequenceReader", "atEnd", "()Z"⟩ zy_D_atEnd) ∈ AW := aw_of 610 (by decide +kernel) (by decide +kernel)
theorem aw_205 : (Cond.instanceMethod zy_D_atEnd) ∈ AW := aw_of 526 (by decide +kernel) (by decide +kernel)
theorem aw_206 : (Cond.code zy_D_atEnd zc_D_atEnd 1 (some .boolean)) ∈ AW := aw_of 527 (by decide +kernel) (by decide +kernel)
theorem aw_207 : (Cond.methodLink RX6 50 ⟨"PressSuite$SequenceReader", "takeTwo", "()I"⟩) ∈ AW := aw_of 611 (by decide +kernel) (by decide +kernel)
theorem aw_208 : (Cond.sameMethod "PressSuite$SequenceReader" "PressSuite$Reader" "takeTwo" "()I") ∈ AW := aw_of 612 (by decide +kernel) (by decide +kernel)
theorem aw_209 : (Cond.selects RX6 ⟨"PressSuite$SequenceReader", "takeTwo", "()I"⟩ zy_D_takeTwo) ∈ AW := aw_of 613 (by decide +kernel) (by decide +kernel)
theorem aw_210 : (Cond.instanceMethod zy_D_takeTwo) ∈ AW := aw_of 583 (by decide +kernel) (by decide +kernel)
theorem aw_211 : (Cond.code zy_D_takeTwo zc_D_takeTwo 2 (some .int)) ∈ AW := aw_of 584 (by decide +kernel) (by decide +kernel)
theorem aw_212 : (Cond.fieldLink RX4 21 "PressSuite$Reader" "history" "LPressSuite$History;") ∈ AW := aw_of 187 (by decide +kernel) (by decide +kernel)
theorem aw_213 : (Cond.methodLink RX4 52 zy_H_length) ∈ AW := aw_of 567 (by decide +kernel) (by decide +kernel)
theorem aw_214 : (Cond.methodLink RX6 53 ⟨"PressSuite$SequenceReader", "requireDistance", "(II)V"⟩) ∈ AW := aw_of 614 (by decide +kernel) (by decide +kernel)
theorem aw_215 : (Cond.sameMethod "PressSuite$SequenceReader" "PressSuite$Reader" "requireDistance" "(II)V") ∈ AW := aw_of 615 (by decide +kernel) (by decide +kernel)
theorem aw_216 : (Cond.selects RX6 ⟨"PressSuite$SequenceReader", "requireDistance", "(II)V"⟩ zy_D_requireDistance) ∈ AW := aw_of 616 (by decide +kernel) (by decide +kernel)
theorem aw_217 : (Cond.instanceMethod zy_D_requireDistance) ∈ AW := aw_of 565 (by decide +kernel) (by decide +kernel)
theorem aw_218 : (Cond.code zy_D_requireDistance zc_D_requireDistance 3 none) ∈ AW := aw_of 566 (by decide +kernel) (by decide +kernel)
theorem aw_219 : (Cond.methodLink RX4 63 zy_H_byteAt) ∈ AW := aw_of 574 (by decide +kernel) (by decide +kernel)
theorem aw_220 : (Cond.methodLink RX6 57 ⟨"PressSuite$SequenceReader", "copyBack", "(II)V"⟩) ∈ AW := aw_of 617 (by decide +kernel) (by decide +kernel)
theorem aw_221 : (Cond.sameMethod "PressSuite$SequenceReader" "PressSuite$Reader" "copyBack" "(II)V") ∈ AW := aw_of 618 (by decide +kernel) (by decide +kernel)
theorem aw_222 : (Cond.selects RX6 ⟨"PressSuite$SequenceReader", "copyBack", "(II)V"⟩ zy_D_copyBack) ∈ AW := aw_of 619 (by decide +kernel) (by decide +kernel)
theorem aw_223 : (Cond.instanceMethod zy_D_copyBack) ∈ AW := aw_of 572 (by decide +kernel) (by decide +kernel)
theorem aw_224 : (Cond.code zy_D_copyBack zc_D_copyBack 4 none) ∈ AW := aw_of 573 (by decide +kernel) (by decide +kernel)
theorem aw_225 : (Cond.methodLink RX6 21 zy_SR_readSequence) ∈ AW := aw_of 588 (by decide +kernel) (by decide +kernel)
theorem aw_226 : (Cond.instanceMethod zy_SR_readSequence) ∈ AW := aw_of 590 (by decide +kernel) (by decide +kernel)
theorem aw_227 : (Cond.selects RX6 zy_SR_readSequence zy_SR_readSequence) ∈ AW := aw_of 16 (by decide +kernel) (by decide +kernel)
theorem aw_228 : (Cond.code zy_SR_readSequence zc_SR_readSequence 7 (some .boolean)) ∈ AW := aw_of 591 (by decide +kernel) (by decide +kernel)
theorem aw_229 : (Cond.laysFinal RX0 "PressSuite$Reader" "source" "LPressSuite$Row;") ∈ AW := aw_of 215 (by decide +kernel) (by decide +kernel)
theorem aw_230 : (Cond.laysFinal RX0 "PressSuite$Reader" "draft" "LPressSuite$Row;") ∈ AW := aw_of 216 (by decide +kernel) (by decide +kernel)
theorem aw_231 : (Cond.laysFinal RX0 "PressSuite$Reader" "history" "LPressSuite$History;") ∈ AW := aw_of 217 (by decide +kernel) (by decide +kernel)
theorem aw_232 : (Cond.lays RX0 "PressSuite$Reader" "at" "I") ∈ AW := aw_of 218 (by decide +kernel) (by decide +kernel)
theorem aw_233 : (Cond.lays RX0 "PressSuite$Reader" "refusedAt" "I") ∈ AW := aw_of 219 (by decide +kernel) (by decide +kernel)
theorem aw_234 : (Cond.lays RX0 "PressSuite$ElementReader" "promised" "I") ∈ AW := aw_of 213 (by decide +kernel) (by decide +kernel)
theorem aw_235 : (Cond.selects RX0 ⟨"PressSuite$Reader", "refuseIf", "(ZI)V"⟩ zy_D_refuseIf) ∈ AW := aw_of 514 (by decide +kernel) (by decide +kernel)
theorem aw_236 : (Cond.methodLink RX0 46 ⟨"PressSuite$ElementReader", "take", "()I"⟩) ∈ AW := aw_of 505 (by decide +kernel) (by decide +kernel)
theorem aw_237 : (Cond.sameMethod "PressSuite$ElementReader" "PressSuite$Reader" "take" "()I") ∈ AW := aw_of 506 (by decide +kernel) (by decide +kernel)
theorem aw_238 : (Cond.selects RX0 ⟨"PressSuite$ElementReader", "take", "()I"⟩ zy_D_take) ∈ AW := aw_of 508 (by decide +kernel) (by decide +kernel)
theorem aw_239 : (Cond.fieldLink RX0 49 "PressSuite$ElementReader" "at" "I") ∈ AW := aw_of 191 (by decide +kernel) (by decide +kernel)
theorem aw_240 : (Cond.sameField "PressSuite$ElementReader" "PressSuite$Reader" "at" "I") ∈ AW := aw_of 192 (by decide +kernel) (by decide +kernel)
theorem aw_241 : (Cond.methodLink RX0 42 ⟨"PressSuite$ElementReader", "refuseIf", "(ZI)V"⟩) ∈ AW := aw_of 518 (by decide +kernel) (by decide +kernel)
theorem aw_242 : (Cond.sameMethod "PressSuite$ElementReader" "PressSuite$Reader" "refuseIf" "(ZI)V") ∈ AW := aw_of 519 (by decide +kernel) (by decide +kernel)
theorem aw_243 : (Cond.selects RX0 ⟨"PressSuite$ElementReader", "refuseIf", "(ZI)V"⟩ zy_D_refuseIf) ∈ AW := aw_of 521 (by decide +kernel) (by decide +kernel)
theorem aw_244 : (Cond.methodLink RX0 9 zy_ER_takeSize) ∈ AW := aw_of 501 (by decide +kernel) (by decide +kernel)
theorem aw_245 : (Cond.instanceMethod zy_ER_takeSize) ∈ AW := aw_of 503 (by decide +kernel) (by decide +kernel)
theorem aw_246 : (Cond.selects RX0 zy_ER_takeSize zy_ER_takeSize) ∈ AW := aw_of 11 (by decide +kernel) (by decide +kernel)
theorem aw_247 : (Cond.initialized RX0) ∈ AW := aw_of 53 (by decide +kernel) (by decide +kernel)
theorem aw_248 : (Cond.code zy_ER_takeSize zc_ER_takeSize 4 (some .int)) ∈ AW := aw_of 504 (by decide +kernel) (by decide +kernel)
theorem aw_249 : (Cond.fieldLink RX0 15 "PressSuite$ElementReader" "promised" "I") ∈ AW := aw_of 212 (by decide +kernel) (by decide +kernel)
theorem aw_250 : (Cond.fieldLink RX0 19 "PressSuite$ElementReader" "source" "LPressSuite$Row;") ∈ AW := aw_of 182 (by decide +kernel) (by decide +kernel)
theorem aw_251 : (Cond.sameField "PressSuite$ElementReader" "PressSuite$Reader" "source" "LPressSuite$Row;") ∈ AW := aw_of 183 (by decide +kernel) (by decide +kernel)
theorem aw_252 : (Cond.methodLink RX0 28 ⟨"PressSuite$ElementReader", "atEnd", "()Z"⟩) ∈ AW := aw_of 522 (by decide +kernel) (by decide +kernel)
theorem aw_253 : (Cond.sameMethod "PressSuite$ElementReader" "PressSuite$Reader" "atEnd" "()Z") ∈ AW := aw_of 523 (by decide +kernel) (by decide +kernel)
theorem aw_254 : (Cond.selects RX0 ⟨"PressSuite$ElementReader", "atEnd", "()Z"⟩ zy_D_atEnd) ∈ AW := aw_of 525 (by decide +kernel) (by decide +kernel)
theorem aw_255 : (Cond.methodLink RX0 32 ⟨"PressSuite$ElementReader", "refused", "()Z"⟩) ∈ AW := aw_of 528 (by decide +kernel) (by decide +kernel)
theorem aw_256 : (Cond.sameMethod "PressSuite$ElementReader" "PressSuite$Reader" "refused" "()Z") ∈ AW := aw_of 529 (by decide +kernel) (by decide +kernel)
theorem aw_257 : (Cond.selects RX0 ⟨"PressSuite$ElementReader", "refused", "()Z"⟩ zy_D_refused) ∈ AW := aw_of 531 (by decide +kernel) (by decide +kernel)
theorem aw_258 : (Cond.methodLink RX0 62 ⟨"PressSuite$ElementReader", "requireRoom", "(III)V"⟩) ∈ AW := aw_of 542 (by decide +kernel) (by decide +kernel)
theorem aw_259 : (Cond.sameMethod "PressSuite$ElementReader" "PressSuite$Reader" "requireRoom" "(III)V") ∈ AW := aw_of 543 (by decide +kernel) (by decide +kernel)
theorem aw_260 : (Cond.selects RX0 ⟨"PressSuite$ElementReader", "requireRoom", "(III)V"⟩ zy_D_requireRoom) ∈ AW := aw_of 545 (by decide +kernel) (by decide +kernel)
theorem aw_261 : (Cond.selects RX0 ⟨"PressSuite$Reader", "refused", "()Z"⟩ zy_D_refused) ∈ AW := aw_of 903 (by decide +kernel) (by decide +kernel)
theorem aw_262 : (Cond.selects RX0 ⟨"PressSuite$Reader", "take", "()I"⟩ zy_D_take) ∈ AW := aw_of 906 (by decide +kernel) (by decide +kernel)
theorem aw_263 : (Cond.methodLink RX0 66 ⟨"PressSuite$ElementReader", "copyLiterals", "(I)V"⟩) ∈ AW := aw_of 548 (by decide +kernel) (by decide +kernel)
theorem aw_264 : (Cond.sameMethod "PressSuite$ElementReader" "PressSuite$Reader" "copyLiterals" "(I)V") ∈ AW := aw_of 549 (by decide +kernel) (by decide +kernel)
theorem aw_265 : (Cond.selects RX0 ⟨"PressSuite$ElementReader", "copyLiterals", "(I)V"⟩ zy_D_copyLiterals) ∈ AW := aw_of 551 (by decide +kernel) (by decide +kernel)
theorem aw_266 : (Cond.methodLink RX0 52 zy_ER_readLiterals) ∈ AW := aw_of 538 (by decide +kernel) (by decide +kernel)
theorem aw_267 : (Cond.instanceMethod zy_ER_readLiterals) ∈ AW := aw_of 540 (by decide +kernel) (by decide +kernel)
theorem aw_268 : (Cond.selects RX0 zy_ER_readLiterals zy_ER_readLiterals) ∈ AW := aw_of 13 (by decide +kernel) (by decide +kernel)
theorem aw_269 : (Cond.code zy_ER_readLiterals zc_ER_readLiterals 4 none) ∈ AW := aw_of 541 (by decide +kernel) (by decide +kernel)
theorem aw_270 : (Cond.methodLink RX0 70 ⟨"PressSuite$ElementReader", "requireDistance", "(II)V"⟩) ∈ AW := aw_of 561 (by decide +kernel) (by decide +kernel)
theorem aw_271 : (Cond.sameMethod "PressSuite$ElementReader" "PressSuite$Reader" "requireDistance" "(II)V") ∈ AW := aw_of 562 (by decide +kernel) (by decide +kernel)
theorem aw_272 : (Cond.selects RX0 ⟨"PressSuite$ElementReader", "requireDistance", "(II)V"⟩ zy_D_requireDistance) ∈ AW := aw_of 564 (by decide +kernel) (by decide +kernel)
theorem aw_273 : (Cond.methodLink RX0 73 ⟨"PressSuite$ElementReader", "copyBack", "(II)V"⟩) ∈ AW := aw_of 568 (by decide +kernel) (by decide +kernel)
theorem aw_274 : (Cond.sameMethod "PressSuite$ElementReader" "PressSuite$Reader" "copyBack" "(II)V") ∈ AW := aw_of 569 (by decide +kernel) (by decide +kernel)
theorem aw_275 : (Cond.selects RX0 ⟨"PressSuite$ElementReader", "copyBack", "(II)V"⟩ zy_D_copyBack) ∈ AW := aw_of 571 (by decide +kernel) (by decide +kernel)
theorem aw_276 : (Cond.methodLink RX0 56 zy_ER_readShortCopy) ∈ AW := aw_of 557 (by decide +kernel) (by decide +kernel)
theorem aw_277 : (Cond.instanceMethod zy_ER_readShortCopy) ∈ AW := aw_of 559 (by decide +kernel) (by decide +kernel)
theorem aw_278 : (Cond.selects RX0 zy_ER_readShortCopy zy_ER_readShortCopy) ∈ AW := aw_of 14 (by decide +kernel) (by decide +kernel)
theorem aw_279 : (Cond.code zy_ER_readShortCopy zc_ER_readShortCopy 5 none) ∈ AW := aw_of 560 (by decide +kernel) (by decide +kernel)
theorem aw_280 : (Cond.methodLink RX0 76 ⟨"PressSuite$ElementReader", "takeTwo", "()I"⟩) ∈ AW := aw_of 579 (by decide +kernel) (by decide +kernel)
theorem aw_281 : (Cond.sameMethod "PressSuite$ElementReader" "PressSuite$Reader" "takeTwo" "()I") ∈ AW := aw_of 580 (by decide +kernel) (by decide +kernel)
theorem aw_282 : (Cond.selects RX0 ⟨"PressSuite$ElementReader", "takeTwo", "()I"⟩ zy_D_takeTwo) ∈ AW := aw_of 582 (by decide +kernel) (by decide +kernel)
theorem aw_283 : (Cond.methodLink RX0 59 zy_ER_readLongCopy) ∈ AW := aw_of 575 (by decide +kernel) (by decide +kernel)
theorem aw_284 : (Cond.instanceMethod zy_ER_readLongCopy) ∈ AW := aw_of 577 (by decide +kernel) (by decide +kernel)
theorem aw_285 : (Cond.selects RX0 zy_ER_readLongCopy zy_ER_readLongCopy) ∈ AW := aw_of 15 (by decide +kernel) (by decide +kernel)
theorem aw_286 : (Cond.code zy_ER_readLongCopy zc_ER_readLongCopy 5 none) ∈ AW := aw_of 578 (by decide +kernel) (by decide +kernel)
theorem aw_287 : (Cond.methodLink RX0 35 zy_ER_readElement) ∈ AW := aw_of 534 (by decide +kernel) (by decide +kernel)
theorem aw_288 : (Cond.instanceMethod zy_ER_readElement) ∈ AW := aw_of 536 (by decide +kernel) (by decide +kernel)
theorem aw_289 : (Cond.selects RX0 zy_ER_readElement zy_ER_readElement) ∈ AW := aw_of 12 (by decide +kernel) (by decide +kernel)
theorem aw_290 : (Cond.code zy_ER_readElement zc_ER_readElement 3 none) ∈ AW := aw_of 537 (by decide +kernel) (by decide +kernel)
theorem aw_291 : (Cond.fieldLink RX0 39 "PressSuite$ElementReader" "draft" "LPressSuite$Row;") ∈ AW := aw_of 185 (by decide +kernel) (by decide +kernel)
theorem aw_292 : (Cond.sameField "PressSuite$ElementReader" "PressSuite$Reader" "draft" "LPressSuite$Row;") ∈ AW := aw_of 186 (by decide +kernel) (by decide +kernel)
theorem aw_293 : (Cond.lays RX10 "PressSuiteModel" "thrown" "I") ∈ AW := aw_of 712 (by decide +kernel) (by decide +kernel)
theorem aw_294 : (Cond.laysFinal RX10 "PressSuiteModel" "bytes" "[I") ∈ AW := aw_of 714 (by decide +kernel) (by decide +kernel)
theorem aw_295 : (Cond.laysFinal RX10 "PressSuiteModel" "sizes" "[I") ∈ AW := aw_of 716 (by decide +kernel) (by decide +kernel)
theorem aw_296 : (Cond.lays RX10 "PressSuiteModel" "matches" "I") ∈ AW := aw_of 718 (by decide +kernel) (by decide +kernel)
theorem aw_297 : (Cond.lays RX10 "PressSuiteModel" "copied" "I") ∈ AW := aw_of 720 (by decide +kernel) (by decide +kernel)
theorem aw_298 : (Cond.laysFinal RX10 "PressSuiteModel" "history" "[I") ∈ AW := aw_of 722 (by decide +kernel) (by decide +kernel)
theorem aw_299 : (Cond.lays RX10 "PressSuiteModel" "begin" "I") ∈ AW := aw_of 724 (by decide +kernel) (by decide +kernel)
theorem aw_300 : (Cond.lays RX10 "PressSuiteModel" "end" "I") ∈ AW := aw_of 726 (by decide +kernel) (by decide +kernel)
theorem aw_301 : (Cond.laysFinal RX10 "PressSuiteModel" "table" "[I") ∈ AW := aw_of 728 (by decide +kernel) (by decide +kernel)
theorem aw_302 : (Cond.lays RX10 "PressSuiteModel" "out" "I") ∈ AW := aw_of 730 (by decide +kernel) (by decide +kernel)
theorem aw_303 : (Cond.lays RX10 "PressSuiteModel" "at" "I") ∈ AW := aw_of 732 (by decide +kernel) (by decide +kernel)
theorem aw_304 : (Cond.lays RX10 "PressSuiteModel" "fault" "I") ∈ AW := aw_of 734 (by decide +kernel) (by decide +kernel)
theorem aw_305 : (Cond.fieldLink RX10 22 "PressSuiteModel" "thrown" "I") ∈ AW := aw_of 700 (by decide +kernel) (by decide +kernel)
theorem aw_306 : (Cond.methodLink RX10 26 zy_M_isRow) ∈ AW := aw_of 745 (by decide +kernel) (by decide +kernel)
theorem aw_307 : (Cond.static zy_M_isRow) ∈ AW := aw_of 746 (by decide +kernel) (by decide +kernel)
theorem aw_308 : (Cond.initialized RX10) ∈ AW := aw_of 54 (by decide +kernel) (by decide +kernel)
theorem aw_309 : (Cond.code zy_M_isRow zc_M_isRow 1 (some .boolean)) ∈ AW := aw_of 747 (by decide +kernel) (by decide +kernel)
theorem aw_310 : (Cond.fieldLink RX10 13 "PressSuiteModel" "sizes" "[I") ∈ AW := aw_of 702 (by decide +kernel) (by decide +kernel)
theorem aw_311 : (Cond.methodLink RX10 30 zy_M_most) ∈ AW := aw_of 748 (by decide +kernel) (by decide +kernel)
theorem aw_312 : (Cond.static zy_M_most) ∈ AW := aw_of 749 (by decide +kernel) (by decide +kernel)
theorem aw_313 : (Cond.code zy_M_most zc_M_most 1 (some .int)) ∈ AW := aw_of 750 (by decide +kernel) (by decide +kernel)
theorem aw_314 : (Cond.methodLink RX10 34 zy_M_fails) ∈ AW := aw_of 751 (by decide +kernel) (by decide +kernel)
theorem aw_315 : (Cond.instanceMethod zy_M_fails) ∈ AW := aw_of 753 (by decide +kernel) (by decide +kernel)
theorem aw_316 : (Cond.selects RX10 zy_M_fails zy_M_fails) ∈ AW := aw_of 18 (by decide +kernel) (by decide +kernel)
theorem aw_317 : (Cond.code zy_M_fails zc_M_fails 3 (some .boolean)) ∈ AW := aw_of 754 (by decide +kernel) (by decide +kernel)
theorem aw_318 : (Cond.fieldLink RX10 7 "PressSuiteModel" "bytes" "[I") ∈ AW := aw_of 701 (by decide +kernel) (by decide +kernel)
theorem aw_319 : (Cond.constantLong RX10 38 255) ∈ AW := aw_of 755 (by decide +kernel) (by decide +kernel)
theorem aw_320 : (Cond.fieldLink RX10 43 "PressSuiteModel" "copied" "I") ∈ AW := aw_of 704 (by decide +kernel) (by decide +kernel)
theorem aw_321 : (Cond.fieldLink RX10 40 "PressSuiteModel" "matches" "I") ∈ AW := aw_of 703 (by decide +kernel) (by decide +kernel)
theorem aw_322 : (Cond.fieldLink RX10 16 "PressSuiteModel" "history" "[I") ∈ AW := aw_of 705 (by decide +kernel) (by decide +kernel)
theorem aw_323 : (Cond.methodLink RX10 46 zy_M_four) ∈ AW := aw_of 796 (by decide +kernel) (by decide +kernel)
theorem aw_324 : (Cond.static zy_M_four) ∈ AW := aw_of 797 (by decide +kernel) (by decide +kernel)
theorem aw_325 : (Cond.code zy_M_four zc_M_four 4 (some .int)) ∈ AW := aw_of 798 (by decide +kernel) (by decide +kernel)
theorem aw_326 : (Cond.methodLink RX10 50 zy_M_intAt) ∈ AW := aw_of 792 (by decide +kernel) (by decide +kernel)
theorem aw_327 : (Cond.instanceMethod zy_M_intAt) ∈ AW := aw_of 794 (by decide +kernel) (by decide +kernel)
theorem aw_328 : (Cond.selects RX10 zy_M_intAt zy_M_intAt) ∈ AW := aw_of 23 (by decide +kernel) (by decide +kernel)
theorem aw_329 : (Cond.code zy_M_intAt zc_M_intAt 2 (some .int)) ∈ AW := aw_of 795 (by decide +kernel) (by decide +kernel)
theorem aw_330 : (Cond.constant RX10 53 (-1640531535)) ∈ AW := aw_of 799 (by decide +kernel) (by decide +kernel)
theorem aw_331 : (Cond.fieldLink RX10 54 "PressSuiteModel" "begin" "I") ∈ AW := aw_of 706 (by decide +kernel) (by decide +kernel)
theorem aw_332 : (Cond.fieldLink RX10 57 "PressSuiteModel" "end" "I") ∈ AW := aw_of 707 (by decide +kernel) (by decide +kernel)
theorem aw_333 : (Cond.fieldLink RX10 60 "PressSuiteModel" "out" "I") ∈ AW := aw_of 709 (by decide +kernel) (by decide +kernel)
theorem aw_334 : (Cond.methodLink RX10 63 zy_M_emit) ∈ AW := aw_of 780 (by decide +kernel) (by decide +kernel)
theorem aw_335 : (Cond.instanceMethod zy_M_emit) ∈ AW := aw_of 782 (by decide +kernel) (by decide +kernel)
theorem aw_336 : (Cond.selects RX10 zy_M_emit zy_M_emit) ∈ AW := aw_of 20 (by decide +kernel) (by decide +kernel)
theorem aw_337 : (Cond.code zy_M_emit zc_M_emit 2 none) ∈ AW := aw_of 783 (by decide +kernel) (by decide +kernel)
theorem aw_338 : (Cond.methodLink RX10 67 zy_M_atMost15) ∈ AW := aw_of 808 (by decide +kernel) (by decide +kernel)
theorem aw_339 : (Cond.static zy_M_atMost15) ∈ AW := aw_of 809 (by decide +kernel) (by decide +kernel)
theorem aw_340 : (Cond.code zy_M_atMost15 zc_M_atMost15 1 (some .int)) ∈ AW := aw_of 810 (by decide +kernel) (by decide +kernel)
theorem aw_341 : (Cond.methodLink RX10 70 zy_M_emitMore) ∈ AW := aw_of 811 (by decide +kernel) (by decide +kernel)
theorem aw_342 : (Cond.instanceMethod zy_M_emitMore) ∈ AW := aw_of 813 (by decide +kernel) (by decide +kernel)
theorem aw_343 : (Cond.selects RX10 zy_M_emitMore zy_M_emitMore) ∈ AW := aw_of 26 (by decide +kernel) (by decide +kernel)
theorem aw_344 : (Cond.code zy_M_emitMore zc_M_emitMore 3 none) ∈ AW := aw_of 814 (by decide +kernel) (by decide +kernel)
theorem aw_345 : (Cond.methodLink RX10 73 zy_M_emitLiterals) ∈ AW := aw_of 815 (by decide +kernel) (by decide +kernel)
theorem aw_346 : (Cond.instanceMethod zy_M_emitLiterals) ∈ AW := aw_of 817 (by decide +kernel) (by decide +kernel)
theorem aw_347 : (Cond.selects RX10 zy_M_emitLiterals zy_M_emitLiterals) ∈ AW := aw_of 27 (by decide +kernel) (by decide +kernel)
theorem aw_348 : (Cond.code zy_M_emitLiterals zc_M_emitLiterals 4 none) ∈ AW := aw_of 818 (by decide +kernel) (by decide +kernel)
theorem aw_349 : (Cond.methodLink RX10 77 zy_M_copyElement) ∈ AW := aw_of 827 (by decide +kernel) (by decide +kernel)
theorem aw_350 : (Cond.instanceMethod zy_M_copyElement) ∈ AW := aw_of 829 (by decide +kernel) (by decide +kernel)
theorem aw_351 : (Cond.selects RX10 zy_M_copyElement zy_M_copyElement) ∈ AW := aw_of 30 (by decide +kernel) (by decide +kernel)
theorem aw_352 : (Cond.code zy_M_copyElement zc_M_copyElement 3 none) ∈ AW := aw_of 830 (by decide +kernel) (by decide +kernel)
theorem aw_353 : (Cond.fieldLink RX10 19 "PressSuiteModel" "table" "[I") ∈ AW := aw_of 708 (by decide +kernel) (by decide +kernel)
theorem aw_354 : (Cond.methodLink RX10 80 zy_M_slot) ∈ AW := aw_of 788 (by decide +kernel) (by decide +kernel)
theorem aw_355 : (Cond.instanceMethod zy_M_slot) ∈ AW := aw_of 790 (by decide +kernel) (by decide +kernel)
theorem aw_356 : (Cond.selects RX10 zy_M_slot zy_M_slot) ∈ AW := aw_of 22 (by decide +kernel) (by decide +kernel)
theorem aw_357 : (Cond.code zy_M_slot zc_M_slot 2 (some .int)) ∈ AW := aw_of 791 (by decide +kernel) (by decide +kernel)
theorem aw_358 : (Cond.methodLink RX10 83 zy_M_same) ∈ AW := aw_of 800 (by decide +kernel) (by decide +kernel)
theorem aw_359 : (Cond.instanceMethod zy_M_same) ∈ AW := aw_of 802 (by decide +kernel) (by decide +kernel)
theorem aw_360 : (Cond.selects RX10 zy_M_same zy_M_same) ∈ AW := aw_of 24 (by decide +kernel) (by decide +kernel)
theorem aw_361 : (Cond.code zy_M_same zc_M_same 4 (some .int)) ∈ AW := aw_of 803 (by decide +kernel) (by decide +kernel)
theorem aw_362 : (Cond.methodLink RX10 91 zy_M_literalElement) ∈ AW := aw_of 819 (by decide +kernel) (by decide +kernel)
theorem aw_363 : (Cond.instanceMethod zy_M_literalElement) ∈ AW := aw_of 821 (by decide +kernel) (by decide +kernel)
theorem aw_364 : (Cond.selects RX10 zy_M_literalElement zy_M_literalElement) ∈ AW := aw_of 28 (by decide +kernel) (by decide +kernel)
theorem aw_365 : (Cond.code zy_M_literalElement zc_M_literalElement 4 none) ∈ AW := aw_of 822 (by decide +kernel) (by decide +kernel)
theorem aw_366 : (Cond.methodLink RX10 94 zy_M_copyElements) ∈ AW := aw_of 823 (by decide +kernel) (by decide +kernel)
theorem aw_367 : (Cond.instanceMethod zy_M_copyElements) ∈ AW := aw_of 825 (by decide +kernel) (by decide +kernel)
theorem aw_368 : (Cond.selects RX10 zy_M_copyElements zy_M_copyElements) ∈ AW := aw_of 29 (by decide +kernel) (by decide +kernel)
theorem aw_369 : (Cond.code zy_M_copyElements zc_M_copyElements 4 none) ∈ AW := aw_of 826 (by decide +kernel) (by decide +kernel)
theorem aw_370 : (Cond.methodLink RX10 87 zy_M_sequence) ∈ AW := aw_of 804 (by decide +kernel) (by decide +kernel)
theorem aw_371 : (Cond.instanceMethod zy_M_sequence) ∈ AW := aw_of 806 (by decide +kernel) (by decide +kernel)
theorem aw_372 : (Cond.selects RX10 zy_M_sequence zy_M_sequence) ∈ AW := aw_of 25 (by decide +kernel) (by decide +kernel)
theorem aw_373 : (Cond.code zy_M_sequence zc_M_sequence 6 none) ∈ AW := aw_of 807 (by decide +kernel) (by decide +kernel)
theorem aw_374 : (Cond.methodLink RX10 97 zy_M_lastSequence) ∈ AW := aw_of 831 (by decide +kernel) (by decide +kernel)
theorem aw_375 : (Cond.instanceMethod zy_M_lastSequence) ∈ AW := aw_of 833 (by decide +kernel) (by decide +kernel)
theorem aw_376 : (Cond.selects RX10 zy_M_lastSequence zy_M_lastSequence) ∈ AW := aw_of 31 (by decide +kernel) (by decide +kernel)
theorem aw_377 : (Cond.code zy_M_lastSequence zc_M_lastSequence 3 none) ∈ AW := aw_of 834 (by decide +kernel) (by decide +kernel)
theorem aw_378 : (Cond.methodLink RX10 100 zy_M_remembers) ∈ AW := aw_of 776 (by decide +kernel) (by decide +kernel)
theorem aw_379 : (Cond.instanceMethod zy_M_remembers) ∈ AW := aw_of 778 (by decide +kernel) (by decide +kernel)
theorem aw_380 : (Cond.selects RX10 zy_M_remembers zy_M_remembers) ∈ AW := aw_of 19 (by decide +kernel) (by decide +kernel)
theorem aw_381 : (Cond.code zy_M_remembers zc_M_remembers 2 none) ∈ AW := aw_of 779 (by decide +kernel) (by decide +kernel)
theorem aw_382 : (Cond.methodLink RX10 103 zy_M_packs) ∈ AW := aw_of 784 (by decide +kernel) (by decide +kernel)
theorem aw_383 : (Cond.instanceMethod zy_M_packs) ∈ AW := aw_of 786 (by decide +kernel) (by decide +kernel)
theorem aw_384 : (Cond.selects RX10 zy_M_packs zy_M_packs) ∈ AW := aw_of 21 (by decide +kernel) (by decide +kernel)
theorem aw_385 : (Cond.code zy_M_packs zc_M_packs 7 none) ∈ AW := aw_of 787 (by decide +kernel) (by decide +kernel)
theorem aw_386 : (Cond.fieldLink RX10 106 "PressSuiteModel" "fault" "I") ∈ AW := aw_of 711 (by decide +kernel) (by decide +kernel)
theorem aw_387 : (Cond.fieldLink RX10 109 "PressSuiteModel" "at" "I") ∈ AW := aw_of 710 (by decide +kernel) (by decide +kernel)
theorem aw_388 : (Cond.methodLink RX10 112 zy_M_need) ∈ AW := aw_of 847 (by decide +kernel) (by decide +kernel)
theorem aw_389 : (Cond.instanceMethod zy_M_need) ∈ AW := aw_of 849 (by decide +kernel) (by decide +kernel)
theorem aw_390 : (Cond.selects RX10 zy_M_need zy_M_need) ∈ AW := aw_of 34 (by decide +kernel) (by decide +kernel)
theorem aw_391 : (Cond.code zy_M_need zc_M_need 3 none) ∈ AW := aw_of 850 (by decide +kernel) (by decide +kernel)
theorem aw_392 : (Cond.methodLink RX10 116 zy_M_next) ∈ AW := aw_of 843 (by decide +kernel) (by decide +kernel)
theorem aw_393 : (Cond.instanceMethod zy_M_next) ∈ AW := aw_of 845 (by decide +kernel) (by decide +kernel)
theorem aw_394 : (Cond.selects RX10 zy_M_next zy_M_next) ∈ AW := aw_of 33 (by decide +kernel) (by decide +kernel)
theorem aw_395 : (Cond.code zy_M_next zc_M_next 1 (some .int)) ∈ AW := aw_of 846 (by decide +kernel) (by decide +kernel)
theorem aw_396 : (Cond.methodLink RX10 120 zy_M_more) ∈ AW := aw_of 851 (by decide +kernel) (by decide +kernel)
theorem aw_397 : (Cond.instanceMethod zy_M_more) ∈ AW := aw_of 853 (by decide +kernel) (by decide +kernel)
theorem aw_398 : (Cond.selects RX10 zy_M_more zy_M_more) ∈ AW := aw_of 35 (by decide +kernel) (by decide +kernel)
theorem aw_399 : (Cond.code zy_M_more zc_M_more 4 (some .int)) ∈ AW := aw_of 854 (by decide +kernel) (by decide +kernel)
theorem aw_400 : (Cond.methodLink RX10 123 zy_M_made) ∈ AW := aw_of 855 (by decide +kernel) (by decide +kernel)
theorem aw_401 : (Cond.instanceMethod zy_M_made) ∈ AW := aw_of 857 (by decide +kernel) (by decide +kernel)
theorem aw_402 : (Cond.selects RX10 zy_M_made zy_M_made) ∈ AW := aw_of 36 (by decide +kernel) (by decide +kernel)
theorem aw_403 : (Cond.code zy_M_made zc_M_made 1 (some .int)) ∈ AW := aw_of 858 (by decide +kernel) (by decide +kernel)
theorem aw_404 : (Cond.methodLink RX10 126 zy_M_literals) ∈ AW := aw_of 859 (by decide +kernel) (by decide +kernel)
theorem aw_405 : (Cond.instanceMethod zy_M_literals) ∈ AW := aw_of 861 (by decide +kernel) (by decide +kernel)
theorem aw_406 : (Cond.selects RX10 zy_M_literals zy_M_literals) ∈ AW := aw_of 37 (by decide +kernel) (by decide +kernel)
theorem aw_407 : (Cond.code zy_M_literals zc_M_literals 4 none) ∈ AW := aw_of 862 (by decide +kernel) (by decide +kernel)
theorem aw_408 : (Cond.methodLink RX10 129 zy_M_copies) ∈ AW := aw_of 863 (by decide +kernel) (by decide +kernel)
theorem aw_409 : (Cond.instanceMethod zy_M_copies) ∈ AW := aw_of 865 (by decide +kernel) (by decide +kernel)
theorem aw_410 : (Cond.selects RX10 zy_M_copies zy_M_copies) ∈ AW := aw_of 38 (by decide +kernel) (by decide +kernel)
theorem aw_411 : (Cond.code zy_M_copies zc_M_copies 4 none) ∈ AW := aw_of 866 (by decide +kernel) (by decide +kernel)
theorem aw_412 : (Cond.methodLink RX10 132 zy_M_element) ∈ AW := aw_of 871 (by decide +kernel) (by decide +kernel)
theorem aw_413 : (Cond.instanceMethod zy_M_element) ∈ AW := aw_of 873 (by decide +kernel) (by decide +kernel)
theorem aw_414 : (Cond.selects RX10 zy_M_element zy_M_element) ∈ AW := aw_of 40 (by decide +kernel) (by decide +kernel)
theorem aw_415 : (Cond.code zy_M_element zc_M_element 8 none) ∈ AW := aw_of 874 (by decide +kernel) (by decide +kernel)
theorem aw_416 : (Cond.methodLink RX10 138 zy_M_readOne) ∈ AW := aw_of 867 (by decide +kernel) (by decide +kernel)
theorem aw_417 : (Cond.instanceMethod zy_M_readOne) ∈ AW := aw_of 869 (by decide +kernel) (by decide +kernel)
theorem aw_418 : (Cond.selects RX10 zy_M_readOne zy_M_readOne) ∈ AW := aw_of 39 (by decide +kernel) (by decide +kernel)
theorem aw_419 : (Cond.code zy_M_readOne zc_M_readOne 3 none) ∈ AW := aw_of 870 (by decide +kernel) (by decide +kernel)
theorem aw_420 : (Cond.methodLink RX10 135 zy_M_readZero) ∈ AW := aw_of 839 (by decide +kernel) (by decide +kernel)
theorem aw_421 : (Cond.instanceMethod zy_M_readZero) ∈ AW := aw_of 841 (by decide +kernel) (by decide +kernel)
theorem aw_422 : (Cond.selects RX10 zy_M_readZero zy_M_readZero) ∈ AW := aw_of 32 (by decide +kernel) (by decide +kernel)
theorem aw_423 : (Cond.code zy_M_readZero zc_M_readZero 9 none) ∈ AW := aw_of 842 (by decide +kernel) (by decide +kernel)
theorem aw_424 : (Cond.constant RX10 141 (-2097792136)) ∈ AW := aw_of 879 (by decide +kernel) (by decide +kernel)
theorem aw_425 : (Cond.methodLink RX10 142 zy_M_rowInt) ∈ AW := aw_of 890 (by decide +kernel) (by decide +kernel)
theorem aw_426 : (Cond.instanceMethod zy_M_rowInt) ∈ AW := aw_of 892 (by decide +kernel) (by decide +kernel)
theorem aw_427 : (Cond.selects RX10 zy_M_rowInt zy_M_rowInt) ∈ AW := aw_of 42 (by decide +kernel) (by decide +kernel)
theorem aw_428 : (Cond.code zy_M_rowInt zc_M_rowInt 4 (some .int)) ∈ AW := aw_of 893 (by decide +kernel) (by decide +kernel)
theorem aw_429 : (Cond.constant RX10 145 (-2048144777)) ∈ AW := aw_of 885 (by decide +kernel) (by decide +kernel)
theorem aw_430 : (Cond.methodLink RX10 146 zy_M_turn) ∈ AW := aw_of 894 (by decide +kernel) (by decide +kernel)
theorem aw_431 : (Cond.static zy_M_turn) ∈ AW := aw_of 895 (by decide +kernel) (by decide +kernel)
theorem aw_432 : (Cond.code zy_M_turn zc_M_turn 2 (some .int)) ∈ AW := aw_of 896 (by decide +kernel) (by decide +kernel)
theorem aw_433 : (Cond.constant RX10 149 374761393) ∈ AW := aw_of 884 (by decide +kernel) (by decide +kernel)
theorem aw_434 : (Cond.methodLink RX10 150 zy_M_lane) ∈ AW := aw_of 886 (by decide +kernel) (by decide +kernel)
theorem aw_435 : (Cond.instanceMethod zy_M_lane) ∈ AW := aw_of 888 (by decide +kernel) (by decide +kernel)
theorem aw_436 : (Cond.selects RX10 zy_M_lane zy_M_lane) ∈ AW := aw_of 41 (by decide +kernel) (by decide +kernel)
theorem aw_437 : (Cond.code zy_M_lane zc_M_lane 6 (some .int)) ∈ AW := aw_of 889 (by decide +kernel) (by decide +kernel)
theorem aw_438 : (Cond.constant RX10 154 (-1028477379)) ∈ AW := aw_of 897 (by decide +kernel) (by decide +kernel)
theorem aw_439 : (Cond.constant RX10 155 668265263) ∈ AW := aw_of 898 (by decide +kernel) (by decide +kernel)
theorem aw_440 : (Cond.methodLink RX4 32 zy_R_clear) ∈ AW := aw_of 494 (by decide +kernel) (by decide +kernel)
theorem aw_441 : (Cond.constant RX9 152 (-2097792136)) ∈ AW := aw_of 662 (by decide +kernel) (by decide +kernel)
theorem aw_442 : (Cond.constant RX9 153 (-1640531535)) ∈ AW := aw_of 673 (by decide +kernel) (by decide +kernel)
theorem aw_443 : (Cond.constant RX9 154 (-2048144777)) ∈ AW := aw_of 674 (by decide +kernel) (by decide +kernel)
theorem aw_444 : (Cond.methodLink RX9 163 zy_R_intAt) ∈ AW := aw_of 678 (by decide +kernel) (by decide +kernel)
theorem aw_445 : (Cond.instanceMethod zy_R_intAt) ∈ AW := aw_of 679 (by decide +kernel) (by decide +kernel)
theorem aw_446 : (Cond.selects RX5 zy_R_intAt zy_R_intAt) ∈ AW := aw_of 680 (by decide +kernel) (by decide +kernel)
theorem aw_447 : (Cond.code zy_R_intAt zc_R_intAt 2 (some .int)) ∈ AW := aw_of 681 (by decide +kernel) (by decide +kernel)
theorem aw_448 : (Cond.methodLink RX9 159 zy_X_turnLeft) ∈ AW := aw_of 682 (by decide +kernel) (by decide +kernel)
theorem aw_449 : (Cond.static zy_X_turnLeft) ∈ AW := aw_of 683 (by decide +kernel) (by decide +kernel)
theorem aw_450 : (Cond.initialized RX9) ∈ AW := aw_of 44 (by decide +kernel) (by decide +kernel)
theorem aw_451 : (Cond.code zy_X_turnLeft zc_X_turnLeft 2 (some .int)) ∈ AW := aw_of 684 (by decide +kernel) (by decide +kernel)
theorem aw_452 : (Cond.methodLink RX9 155 zy_X_lane) ∈ AW := aw_of 675 (by decide +kernel) (by decide +kernel)
theorem aw_453 : (Cond.static zy_X_lane) ∈ AW := aw_of 676 (by decide +kernel) (by decide +kernel)
theorem aw_454 : (Cond.code zy_X_lane zc_X_lane 5 (some .int)) ∈ AW := aw_of 677 (by decide +kernel) (by decide +kernel)
theorem aw_455 : (Cond.constant RX9 166 (-1028477379)) ∈ AW := aw_of 689 (by decide +kernel) (by decide +kernel)
theorem aw_456 : (Cond.constant RX9 167 668265263) ∈ AW := aw_of 690 (by decide +kernel) (by decide +kernel)
theorem aw_457 : (Cond.methodLink RX9 122 zy_R_byteAt) ∈ AW := aw_of 643 (by decide +kernel) (by decide +kernel)
theorem aw_458 : (Cond.constant RX9 141 374761393) ∈ AW := aw_of 685 (by decide +kernel) (by decide +kernel)
theorem aw_459 : (Cond.code zy_R_room zc_R_room 1 (some .int)) ∈ AW := aw_of 332 (by decide +kernel) (by decide +kernel)
theorem aw_460 : (Cond.code zy_R_become zc_R_become 3 none) ∈ AW := aw_of 624 (by decide +kernel) (by decide +kernel)
theorem aw_461 : (Cond.code zy_P_run zc_P_run 3 none) ∈ AW := aw_of 378 (by decide +kernel) (by decide +kernel)
theorem aw_462 : (Cond.code zy_SR_readAll zc_SR_readAll 3 none) ∈ AW := aw_of 587 (by decide +kernel) (by decide +kernel)
theorem aw_463 : (Cond.code zy_ER_readAll zc_ER_readAll 2 none) ∈ AW := aw_of 500 (by decide +kernel) (by decide +kernel)
theorem aw_464 : (Cond.code zy_M_thrown zc_M_thrown 1 (some .int)) ∈ AW := aw_of 740 (by decide +kernel) (by decide +kernel)
theorem aw_465 : (Cond.code zy_M_put zc_M_put 7 none) ∈ AW := aw_of 744 (by decide +kernel) (by decide +kernel)
theorem aw_466 : (Cond.code zy_M_empty zc_M_empty 3 (some .int)) ∈ AW := aw_of 759 (by decide +kernel) (by decide +kernel)
theorem aw_467 : (Cond.code zy_M_size zc_M_size 2 (some .int)) ∈ AW := aw_of 763 (by decide +kernel) (by decide +kernel)
theorem aw_468 : (Cond.code zy_M_get zc_M_get 4 (some .int)) ∈ AW := aw_of 767 (by decide +kernel) (by decide +kernel)
theorem aw_469 : (Cond.code zy_M_found zc_M_found 2 (some .int)) ∈ AW := aw_of 771 (by decide +kernel) (by decide +kernel)
theorem aw_470 : (Cond.code zy_M_pack zc_M_pack 3 (some .int)) ∈ AW := aw_of 775 (by decide +kernel) (by decide +kernel)
theorem aw_471 : (Cond.code zy_M_unpack zc_M_unpack 3 (some .int)) ∈ AW := aw_of 838 (by decide +kernel) (by decide +kernel)
theorem aw_472 : (Cond.code zy_M_crc zc_M_crc 6 (some .int)) ∈ AW := aw_of 878 (by decide +kernel) (by decide +kernel)
theorem aw_473 : (Cond.code zy_M_hash zc_M_hash 7 (some .int)) ∈ AW := aw_of 883 (by decide +kernel) (by decide +kernel)
theorem aw_474 : (Cond.code zy_D_rewind zc_D_rewind 1 none) ∈ AW := aw_of 493 (by decide +kernel) (by decide +kernel)
theorem aw_475 : (Cond.code zy_X_crcStep zc_X_crcStep 3 (some .int)) ∈ AW := aw_of 661 (by decide +kernel) (by decide +kernel)
theorem aw_476 : (Cond.code zy_X_mixLanes zc_X_mixLanes 2 (some .int)) ∈ AW := aw_of 672 (by decide +kernel) (by decide +kernel)
theorem aw_477 : (Cond.code zy_X_mixRest zc_X_mixRest 5 (some .int)) ∈ AW := aw_of 688 (by decide +kernel) (by decide +kernel)
theorem aw_478 : (Cond.code zy_X_finish zc_X_finish 2 (some .int)) ∈ AW := aw_of 693 (by decide +kernel) (by decide +kernel)
theorem nw_0 : (Cond.fieldLinkNest RX2 16 "PressSuite$Row" "count" "I" "PressSuite") ∈ NW := nw_of 76 (by decide +kernel) (by decide +kernel)
theorem nw_1 : (Cond.fieldLinkNest RX3 47 "PressSuite$Row" "count" "I" "PressSuite") ∈ NW := nw_of 81 (by decide +kernel) (by decide +kernel)
theorem nw_2 : (Cond.declares ⟨"PressSuite$Writer", "begin", "()V"⟩) ∈ NW := nw_of 401 (by decide +kernel) (by decide +kernel)
theorem nw_3 : (Cond.declares ⟨"PressSuite$Writer", "match", "(IIII)V"⟩) ∈ NW := nw_of 426 (by decide +kernel) (by decide +kernel)
theorem nw_4 : (Cond.fieldLinkNest RX7 39 "PressSuite$Row" "count" "I" "PressSuite") ∈ NW := nw_of 83 (by decide +kernel) (by decide +kernel)
theorem nw_5 : (Cond.declares ⟨"PressSuite$Writer", "end", "(I)V"⟩) ∈ NW := nw_of 473 (by decide +kernel) (by decide +kernel)
theorem nw_6 : (Cond.fieldLinkNest RX1 22 "PressSuite$Row" "count" "I" "PressSuite") ∈ NW := nw_of 79 (by decide +kernel) (by decide +kernel)
theorem nw_7 : (Cond.fieldLinkNest RX6 15 "PressSuite$Row" "count" "I" "PressSuite") ∈ NW := nw_of 78 (by decide +kernel) (by decide +kernel)
theorem nw_8 : (Cond.fieldLinkNest RX4 37 "PressSuite$Row" "count" "I" "PressSuite") ∈ NW := nw_of 84 (by decide +kernel) (by decide +kernel)
theorem nw_9 : (Cond.fieldLinkNest RX0 23 "PressSuite$Row" "count" "I" "PressSuite") ∈ NW := nw_of 80 (by decide +kernel) (by decide +kernel)
theorem nw_10 : (Cond.fieldLinkNest RX9 87 "PressSuite$Row" "count" "I" "PressSuite") ∈ NW := nw_of 82 (by decide +kernel) (by decide +kernel)
theorem uw_5 : ∀ w ∈ u_ws RX5 TX5 2, w ∈ AW := by
  intro w hw
  have e : u_ws RX5 TX5 2 = [Cond.laysFinal RX5 "PressSuite$Row" "bytes" "[B", Cond.lays RX5 "PressSuite$Row" "count" "I"] := rfl
  rw [e] at hw
  simp only [List.mem_cons, List.not_mem_nil, or_false] at hw
  rcases hw with rfl | rfl
  · exact aw_0
  · exact aw_1
theorem uw_2 : ∀ w ∈ u_ws RX2 TX2 2, w ∈ AW := by
  intro w hw
  have e : u_ws RX2 TX2 2 = [Cond.laysFinal RX2 "PressSuite$History" "past" "LPressSuite$Row;", Cond.laysFinal RX2 "PressSuite$History" "plain" "LPressSuite$Row;"] := rfl
  rw [e] at hw
  simp only [List.mem_cons, List.not_mem_nil, or_false] at hw
  rcases hw with rfl | rfl
  · exact aw_17
  · exact aw_18
theorem uw_3 : ∀ w ∈ u_ws RX3 TX3 7, w ∈ AW := by
  intro w hw
  have e : u_ws RX3 TX3 7 = [Cond.laysFinal RX3 "PressSuite$Packer" "past" "LPressSuite$Row;", Cond.laysFinal RX3 "PressSuite$Packer" "plain" "LPressSuite$Row;", Cond.laysFinal RX3 "PressSuite$Packer" "history" "LPressSuite$History;", Cond.laysFinal RX3 "PressSuite$Packer" "table" "[I", Cond.lays RX3 "PressSuite$Packer" "anchor" "I", Cond.lays RX3 "PressSuite$Packer" "matches" "I", Cond.lays RX3 "PressSuite$Packer" "copied" "I"] := rfl
  rw [e] at hw
  simp only [List.mem_cons, List.not_mem_nil, or_false] at hw
  rcases hw with rfl | rfl | rfl | rfl | rfl | rfl | rfl
  · exact aw_27
  · exact aw_28
  · exact aw_29
  · exact aw_30
  · exact aw_31
  · exact aw_32
  · exact aw_33
theorem uw_7 : ∀ w ∈ u_ws RX7 TX7 2, w ∈ AW := by
  intro w hw
  have e : u_ws RX7 TX7 2 = [Cond.laysFinal RX7 "PressSuite$Writer" "plain" "LPressSuite$Row;", Cond.laysFinal RX7 "PressSuite$Writer" "out" "LPressSuite$Row;"] := rfl
  rw [e] at hw
  simp only [List.mem_cons, List.not_mem_nil, or_false] at hw
  rcases hw with rfl | rfl
  · exact aw_54
  · exact aw_55
theorem uw_1 : ∀ w ∈ u_ws RX1 TX1 2, w ∈ AW := by
  intro w hw
  have e : u_ws RX1 TX1 2 = [Cond.laysFinal RX1 "PressSuite$Writer" "plain" "LPressSuite$Row;", Cond.laysFinal RX1 "PressSuite$Writer" "out" "LPressSuite$Row;"] := rfl
  rw [e] at hw
  simp only [List.mem_cons, List.not_mem_nil, or_false] at hw
  rcases hw with rfl | rfl
  · exact aw_117
  · exact aw_118
theorem uw_6 : ∀ w ∈ u_ws RX6 TX6 5, w ∈ AW := by
  intro w hw
  have e : u_ws RX6 TX6 5 = [Cond.laysFinal RX6 "PressSuite$Reader" "source" "LPressSuite$Row;", Cond.laysFinal RX6 "PressSuite$Reader" "draft" "LPressSuite$Row;", Cond.laysFinal RX6 "PressSuite$Reader" "history" "LPressSuite$History;", Cond.lays RX6 "PressSuite$Reader" "at" "I", Cond.lays RX6 "PressSuite$Reader" "refusedAt" "I"] := rfl
  rw [e] at hw
  simp only [List.mem_cons, List.not_mem_nil, or_false] at hw
  rcases hw with rfl | rfl | rfl | rfl | rfl
  · exact aw_150
  · exact aw_151
  · exact aw_152
  · exact aw_153
  · exact aw_154
theorem uw_0 : ∀ w ∈ u_ws RX0 TX0 6, w ∈ AW := by
  intro w hw
  have e : u_ws RX0 TX0 6 = [Cond.laysFinal RX0 "PressSuite$Reader" "source" "LPressSuite$Row;", Cond.laysFinal RX0 "PressSuite$Reader" "draft" "LPressSuite$Row;", Cond.laysFinal RX0 "PressSuite$Reader" "history" "LPressSuite$History;", Cond.lays RX0 "PressSuite$Reader" "at" "I", Cond.lays RX0 "PressSuite$Reader" "refusedAt" "I", Cond.lays RX0 "PressSuite$ElementReader" "promised" "I"] := rfl
  rw [e] at hw
  simp only [List.mem_cons, List.not_mem_nil, or_false] at hw
  rcases hw with rfl | rfl | rfl | rfl | rfl | rfl
  · exact aw_229
  · exact aw_230
  · exact aw_231
  · exact aw_232
  · exact aw_233
  · exact aw_234
theorem uw_10 : ∀ w ∈ u_ws RX10 TXM 12, w ∈ AW := by
  intro w hw
  have e : u_ws RX10 TXM 12 = [Cond.lays RX10 "PressSuiteModel" "thrown" "I", Cond.laysFinal RX10 "PressSuiteModel" "bytes" "[I", Cond.laysFinal RX10 "PressSuiteModel" "sizes" "[I", Cond.lays RX10 "PressSuiteModel" "matches" "I", Cond.lays RX10 "PressSuiteModel" "copied" "I", Cond.laysFinal RX10 "PressSuiteModel" "history" "[I", Cond.lays RX10 "PressSuiteModel" "begin" "I", Cond.lays RX10 "PressSuiteModel" "end" "I", Cond.laysFinal RX10 "PressSuiteModel" "table" "[I", Cond.lays RX10 "PressSuiteModel" "out" "I", Cond.lays RX10 "PressSuiteModel" "at" "I", Cond.lays RX10 "PressSuiteModel" "fault" "I"] := rfl
  rw [e] at hw
  simp only [List.mem_cons, List.not_mem_nil, or_false] at hw
  rcases hw with rfl | rfl | rfl | rfl | rfl | rfl | rfl | rfl | rfl | rfl | rfl | rfl
  · exact aw_293
  · exact aw_294
  · exact aw_295
  · exact aw_296
  · exact aw_297
  · exact aw_298
  · exact aw_299
  · exact aw_300
  · exact aw_301
  · exact aw_302
  · exact aw_303
  · exact aw_304
end
section
/-! The judgement G: W with locals as a list, the world as a list of cells; its rules; contracts CoI, CoV in that form. Own work over the kit's rows. -/
abbrev gT (cB cI cJ : ClassId) : List (ClassId × FieldType) := [(cB, .byte), (cI, .int), (cJ, .long)]
abbrev GC : Type := Program × Launch × Env × Room × State × MethodId × Array Value × List Frame × Method × Code × (State → Prop) × (Nat → Prop)
def G (D : va_G) (nL : Nat) (k : GC) (cells slots pc : Nat) (L : List (Nat × Value)) (st : List Value) (ws : va_W) : Prop := match k with
  | (p, l, e, R, s, m, args, below, meth, c, Q, A) => ∀ (H : Heap) (locs : List Loc) (ls : Array Slot), lv_has ls nL L → va_P D zCl ws H → va_D A ws → va_S A s.heap H locs → W p l e R s m args below meth c H locs cells slots Q (F0 m pc ls st)
def GF (k : GC) (l' : Launch) (R' : Room) (cc : ByteArray) (nL : Nat) (own : String) (D : va_G) (cB cI cJ : ClassId) : Prop := match k with
  | (p, l, e, R, s, m, args, below, meth, c, Q, A) => CallFix p m c cc nL s args AW own ∧ va_K D zCl (gT cB cI cJ) s ∧ NK s ∧ l' = l ∧ R' = R ∧ (∀ q, s.heap.size ≤ q → A q)
def ush (x y : Int32) : Int32 := (x.toUInt32 >>> (y.toUInt32 &&& Int32.toUInt32 31)).toInt32
def lush (x : Int64) (y : Int32) : Int64 := (x.toUInt64 >>> (y.toInt64.toUInt64 &&& Int64.toUInt64 63)).toInt64
def lshl (x : Int64) (y : Int32) : Int64 := x <<< (y.toInt64 &&& 63)
def lshr (x : Int64) (y : Int32) : Int64 := x >>> (y.toInt64 &&& 63)
def bnd {α β : Type} (a : α) (k : α → β) : β := k a
theorem bnd_s {α β : Type} {a : α} {k : α → β} {r : β} (h : bnd a k = r) : ∃ x, x = a ∧ k x = r := ⟨a, rfl, h⟩
def gd {α : Type} (c : Prop) [Decidable c] (x : Option α) : Option α := if c then x else none
theorem gd_s {α : Type} {c : Prop} [Decidable c] {x : Option α} {r : α} (h : gd c x = some r) : c ∧ x = some r := by
  unfold gd at h
  by_cases hc : c
  · rw [if_pos hc] at h; exact ⟨hc, h⟩
  · rw [if_neg hc] at h; cases h
theorem gd_t {α : Type} {c : Prop} [Decidable c] {x : Option α} (h : c) : gd c x = x := if_pos h
theorem iP {α : Type} {c : Prop} [Decidable c] {a b r : α} (h : (if c then a else b) = r) (hc : c) : a = r := by rw [if_pos hc] at h; exact h
theorem iN {α : Type} {c : Prop} [Decidable c] {a b r : α} (h : (if c then a else b) = r) (hc : ¬ c) : b = r := by rw [if_neg hc] at h; exact h
def bc0 {ρ : Type} (o : Option Unit) (k : Unit → Option ρ) : Option ρ := match o with
  | none => none
  | some a => k a
theorem bc0_s {ρ : Type} {o : Option Unit} {k : Unit → Option ρ} {r : ρ} (h : bc0 o k = some r) : o = some () ∧ k () = some r := by
  cases o with
  | none => cases h
  | some a => exact ⟨rfl, h⟩
def bc1 {α ρ : Type} (o : Option α) (k : α → Option ρ) : Option ρ := match o with
  | none => none
  | some a => k a
theorem bc1_s {α ρ : Type} {o : Option α} {k : α → Option ρ} {r : ρ} (h : bc1 o k = some r) : ∃ a, o = some a ∧ k a = some r := by
  cases o with
  | none => cases h
  | some a => exact ⟨a, rfl, h⟩
def bc2 {T0 T1 ρ : Type} (o : Option (T0 × T1)) (k : T0 → T1 → Option ρ) : Option ρ := match o with
  | none => none
  | some (a0, a1) => k a0 a1
theorem bc2_s {T0 T1 ρ : Type} {o : Option (T0 × T1)} {k : T0 → T1 → Option ρ} {r : ρ} (h : bc2 o k = some r) : ∃ a0 a1, o = some (a0, a1) ∧ k a0 a1 = some r := by
  cases o with
  | none => cases h
  | some a =>
    obtain ⟨a0, a1⟩ := a
    exact ⟨a0, a1, rfl, h⟩
theorem inj2 {T0 T1 : Type} {a0 b0 : T0} {a1 b1 : T1} (h : some (a0, a1) = some (b0, b1)) : a0 = b0 ∧ a1 = b1 := by
  cases h
  exact ⟨rfl, rfl⟩
def bc3 {T0 T1 T2 ρ : Type} (o : Option (T0 × T1 × T2)) (k : T0 → T1 → T2 → Option ρ) : Option ρ := match o with
  | none => none
  | some (a0, a1, a2) => k a0 a1 a2
theorem bc3_s {T0 T1 T2 ρ : Type} {o : Option (T0 × T1 × T2)} {k : T0 → T1 → T2 → Option ρ} {r : ρ} (h : bc3 o k = some r) : ∃ a0 a1 a2, o = some (a0, a1, a2) ∧ k a0 a1 a2 = some r := by
  cases o with
  | none => cases h
  | some a =>
    obtain ⟨a0, a1, a2⟩ := a
    exact ⟨a0, a1, a2, rfl, h⟩
theorem inj3 {T0 T1 T2 : Type} {a0 b0 : T0} {a1 b1 : T1} {a2 b2 : T2} (h : some (a0, a1, a2) = some (b0, b1, b2)) : a0 = b0 ∧ a1 = b1 ∧ a2 = b2 := by
  cases h
  exact ⟨rfl, rfl, rfl⟩
def bc4 {T0 T1 T2 T3 ρ : Type} (o : Option (T0 × T1 × T2 × T3)) (k : T0 → T1 → T2 → T3 → Option ρ) : Option ρ := match o with
  | none => none
  | some (a0, a1, a2, a3) => k a0 a1 a2 a3
theorem bc4_s {T0 T1 T2 T3 ρ : Type} {o : Option (T0 × T1 × T2 × T3)} {k : T0 → T1 → T2 → T3 → Option ρ} {r : ρ} (h : bc4 o k = some r) : ∃ a0 a1 a2 a3, o = some (a0, a1, a2, a3) ∧ k a0 a1 a2 a3 = some r := by
  cases o with
  | none => cases h
  | some a =>
    obtain ⟨a0, a1, a2, a3⟩ := a
    exact ⟨a0, a1, a2, a3, rfl, h⟩
theorem inj4 {T0 T1 T2 T3 : Type} {a0 b0 : T0} {a1 b1 : T1} {a2 b2 : T2} {a3 b3 : T3} (h : some (a0, a1, a2, a3) = some (b0, b1, b2, b3)) : a0 = b0 ∧ a1 = b1 ∧ a2 = b2 ∧ a3 = b3 := by
  cases h
  exact ⟨rfl, rfl, rfl, rfl⟩
def bc5 {T0 T1 T2 T3 T4 ρ : Type} (o : Option (T0 × T1 × T2 × T3 × T4)) (k : T0 → T1 → T2 → T3 → T4 → Option ρ) : Option ρ := match o with
  | none => none
  | some (a0, a1, a2, a3, a4) => k a0 a1 a2 a3 a4
theorem bc5_s {T0 T1 T2 T3 T4 ρ : Type} {o : Option (T0 × T1 × T2 × T3 × T4)} {k : T0 → T1 → T2 → T3 → T4 → Option ρ} {r : ρ} (h : bc5 o k = some r) : ∃ a0 a1 a2 a3 a4, o = some (a0, a1, a2, a3, a4) ∧ k a0 a1 a2 a3 a4 = some r := by
  cases o with
  | none => cases h
  | some a =>
    obtain ⟨a0, a1, a2, a3, a4⟩ := a
    exact ⟨a0, a1, a2, a3, a4, rfl, h⟩
theorem inj5 {T0 T1 T2 T3 T4 : Type} {a0 b0 : T0} {a1 b1 : T1} {a2 b2 : T2} {a3 b3 : T3} {a4 b4 : T4} (h : some (a0, a1, a2, a3, a4) = some (b0, b1, b2, b3, b4)) : a0 = b0 ∧ a1 = b1 ∧ a2 = b2 ∧ a3 = b3 ∧ a4 = b4 := by
  cases h
  exact ⟨rfl, rfl, rfl, rfl, rfl⟩
def bc6 {T0 T1 T2 T3 T4 T5 ρ : Type} (o : Option (T0 × T1 × T2 × T3 × T4 × T5)) (k : T0 → T1 → T2 → T3 → T4 → T5 → Option ρ) : Option ρ := match o with
  | none => none
  | some (a0, a1, a2, a3, a4, a5) => k a0 a1 a2 a3 a4 a5
theorem bc6_s {T0 T1 T2 T3 T4 T5 ρ : Type} {o : Option (T0 × T1 × T2 × T3 × T4 × T5)} {k : T0 → T1 → T2 → T3 → T4 → T5 → Option ρ} {r : ρ} (h : bc6 o k = some r) : ∃ a0 a1 a2 a3 a4 a5, o = some (a0, a1, a2, a3, a4, a5) ∧ k a0 a1 a2 a3 a4 a5 = some r := by
  cases o with
  | none => cases h
  | some a =>
    obtain ⟨a0, a1, a2, a3, a4, a5⟩ := a
    exact ⟨a0, a1, a2, a3, a4, a5, rfl, h⟩
theorem inj6 {T0 T1 T2 T3 T4 T5 : Type} {a0 b0 : T0} {a1 b1 : T1} {a2 b2 : T2} {a3 b3 : T3} {a4 b4 : T4} {a5 b5 : T5} (h : some (a0, a1, a2, a3, a4, a5) = some (b0, b1, b2, b3, b4, b5)) : a0 = b0 ∧ a1 = b1 ∧ a2 = b2 ∧ a3 = b3 ∧ a4 = b4 ∧ a5 = b5 := by
  cases h
  exact ⟨rfl, rfl, rfl, rfl, rfl, rfl⟩
def bc7 {T0 T1 T2 T3 T4 T5 T6 ρ : Type} (o : Option (T0 × T1 × T2 × T3 × T4 × T5 × T6)) (k : T0 → T1 → T2 → T3 → T4 → T5 → T6 → Option ρ) : Option ρ := match o with
  | none => none
  | some (a0, a1, a2, a3, a4, a5, a6) => k a0 a1 a2 a3 a4 a5 a6
theorem bc7_s {T0 T1 T2 T3 T4 T5 T6 ρ : Type} {o : Option (T0 × T1 × T2 × T3 × T4 × T5 × T6)} {k : T0 → T1 → T2 → T3 → T4 → T5 → T6 → Option ρ} {r : ρ} (h : bc7 o k = some r) : ∃ a0 a1 a2 a3 a4 a5 a6, o = some (a0, a1, a2, a3, a4, a5, a6) ∧ k a0 a1 a2 a3 a4 a5 a6 = some r := by
  cases o with
  | none => cases h
  | some a =>
    obtain ⟨a0, a1, a2, a3, a4, a5, a6⟩ := a
    exact ⟨a0, a1, a2, a3, a4, a5, a6, rfl, h⟩
theorem inj7 {T0 T1 T2 T3 T4 T5 T6 : Type} {a0 b0 : T0} {a1 b1 : T1} {a2 b2 : T2} {a3 b3 : T3} {a4 b4 : T4} {a5 b5 : T5} {a6 b6 : T6} (h : some (a0, a1, a2, a3, a4, a5, a6) = some (b0, b1, b2, b3, b4, b5, b6)) : a0 = b0 ∧ a1 = b1 ∧ a2 = b2 ∧ a3 = b3 ∧ a4 = b4 ∧ a5 = b5 ∧ a6 = b6 := by
  cases h
  exact ⟨rfl, rfl, rfl, rfl, rfl, rfl, rfl⟩
def bc8 {T0 T1 T2 T3 T4 T5 T6 T7 ρ : Type} (o : Option (T0 × T1 × T2 × T3 × T4 × T5 × T6 × T7)) (k : T0 → T1 → T2 → T3 → T4 → T5 → T6 → T7 → Option ρ) : Option ρ := match o with
  | none => none
  | some (a0, a1, a2, a3, a4, a5, a6, a7) => k a0 a1 a2 a3 a4 a5 a6 a7
theorem bc8_s {T0 T1 T2 T3 T4 T5 T6 T7 ρ : Type} {o : Option (T0 × T1 × T2 × T3 × T4 × T5 × T6 × T7)} {k : T0 → T1 → T2 → T3 → T4 → T5 → T6 → T7 → Option ρ} {r : ρ} (h : bc8 o k = some r) : ∃ a0 a1 a2 a3 a4 a5 a6 a7, o = some (a0, a1, a2, a3, a4, a5, a6, a7) ∧ k a0 a1 a2 a3 a4 a5 a6 a7 = some r := by
  cases o with
  | none => cases h
  | some a =>
    obtain ⟨a0, a1, a2, a3, a4, a5, a6, a7⟩ := a
    exact ⟨a0, a1, a2, a3, a4, a5, a6, a7, rfl, h⟩
theorem inj8 {T0 T1 T2 T3 T4 T5 T6 T7 : Type} {a0 b0 : T0} {a1 b1 : T1} {a2 b2 : T2} {a3 b3 : T3} {a4 b4 : T4} {a5 b5 : T5} {a6 b6 : T6} {a7 b7 : T7} (h : some (a0, a1, a2, a3, a4, a5, a6, a7) = some (b0, b1, b2, b3, b4, b5, b6, b7)) : a0 = b0 ∧ a1 = b1 ∧ a2 = b2 ∧ a3 = b3 ∧ a4 = b4 ∧ a5 = b5 ∧ a6 = b6 ∧ a7 = b7 := by
  cases h
  exact ⟨rfl, rfl, rfl, rfl, rfl, rfl, rfl, rfl⟩
def bc9 {T0 T1 T2 T3 T4 T5 T6 T7 T8 ρ : Type} (o : Option (T0 × T1 × T2 × T3 × T4 × T5 × T6 × T7 × T8)) (k : T0 → T1 → T2 → T3 → T4 → T5 → T6 → T7 → T8 → Option ρ) : Option ρ := match o with
  | none => none
  | some (a0, a1, a2, a3, a4, a5, a6, a7, a8) => k a0 a1 a2 a3 a4 a5 a6 a7 a8
theorem bc9_s {T0 T1 T2 T3 T4 T5 T6 T7 T8 ρ : Type} {o : Option (T0 × T1 × T2 × T3 × T4 × T5 × T6 × T7 × T8)} {k : T0 → T1 → T2 → T3 → T4 → T5 → T6 → T7 → T8 → Option ρ} {r : ρ} (h : bc9 o k = some r) : ∃ a0 a1 a2 a3 a4 a5 a6 a7 a8, o = some (a0, a1, a2, a3, a4, a5, a6, a7, a8) ∧ k a0 a1 a2 a3 a4 a5 a6 a7 a8 = some r := by
  cases o with
  | none => cases h
  | some a =>
    obtain ⟨a0, a1, a2, a3, a4, a5, a6, a7, a8⟩ := a
    exact ⟨a0, a1, a2, a3, a4, a5, a6, a7, a8, rfl, h⟩
theorem inj9 {T0 T1 T2 T3 T4 T5 T6 T7 T8 : Type} {a0 b0 : T0} {a1 b1 : T1} {a2 b2 : T2} {a3 b3 : T3} {a4 b4 : T4} {a5 b5 : T5} {a6 b6 : T6} {a7 b7 : T7} {a8 b8 : T8} (h : some (a0, a1, a2, a3, a4, a5, a6, a7, a8) = some (b0, b1, b2, b3, b4, b5, b6, b7, b8)) : a0 = b0 ∧ a1 = b1 ∧ a2 = b2 ∧ a3 = b3 ∧ a4 = b4 ∧ a5 = b5 ∧ a6 = b6 ∧ a7 = b7 ∧ a8 = b8 := by
  cases h
  exact ⟨rfl, rfl, rfl, rfl, rfl, rfl, rfl, rfl, rfl⟩
def bc10 {T0 T1 T2 T3 T4 T5 T6 T7 T8 T9 ρ : Type} (o : Option (T0 × T1 × T2 × T3 × T4 × T5 × T6 × T7 × T8 × T9)) (k : T0 → T1 → T2 → T3 → T4 → T5 → T6 → T7 → T8 → T9 → Option ρ) : Option ρ := match o with
  | none => none
  | some (a0, a1, a2, a3, a4, a5, a6, a7, a8, a9) => k a0 a1 a2 a3 a4 a5 a6 a7 a8 a9
theorem bc10_s {T0 T1 T2 T3 T4 T5 T6 T7 T8 T9 ρ : Type} {o : Option (T0 × T1 × T2 × T3 × T4 × T5 × T6 × T7 × T8 × T9)} {k : T0 → T1 → T2 → T3 → T4 → T5 → T6 → T7 → T8 → T9 → Option ρ} {r : ρ} (h : bc10 o k = some r) : ∃ a0 a1 a2 a3 a4 a5 a6 a7 a8 a9, o = some (a0, a1, a2, a3, a4, a5, a6, a7, a8, a9) ∧ k a0 a1 a2 a3 a4 a5 a6 a7 a8 a9 = some r := by
  cases o with
  | none => cases h
  | some a =>
    obtain ⟨a0, a1, a2, a3, a4, a5, a6, a7, a8, a9⟩ := a
    exact ⟨a0, a1, a2, a3, a4, a5, a6, a7, a8, a9, rfl, h⟩
theorem inj10 {T0 T1 T2 T3 T4 T5 T6 T7 T8 T9 : Type} {a0 b0 : T0} {a1 b1 : T1} {a2 b2 : T2} {a3 b3 : T3} {a4 b4 : T4} {a5 b5 : T5} {a6 b6 : T6} {a7 b7 : T7} {a8 b8 : T8} {a9 b9 : T9} (h : some (a0, a1, a2, a3, a4, a5, a6, a7, a8, a9) = some (b0, b1, b2, b3, b4, b5, b6, b7, b8, b9)) : a0 = b0 ∧ a1 = b1 ∧ a2 = b2 ∧ a3 = b3 ∧ a4 = b4 ∧ a5 = b5 ∧ a6 = b6 ∧ a7 = b7 ∧ a8 = b8 ∧ a9 = b9 := by
  cases h
  exact ⟨rfl, rfl, rfl, rfl, rfl, rfl, rfl, rfl, rfl, rfl⟩
def bc11 {T0 T1 T2 T3 T4 T5 T6 T7 T8 T9 T10 ρ : Type} (o : Option (T0 × T1 × T2 × T3 × T4 × T5 × T6 × T7 × T8 × T9 × T10)) (k : T0 → T1 → T2 → T3 → T4 → T5 → T6 → T7 → T8 → T9 → T10 → Option ρ) : Option ρ := match o with
  | none => none
  | some (a0, a1, a2, a3, a4, a5, a6, a7, a8, a9, a10) => k a0 a1 a2 a3 a4 a5 a6 a7 a8 a9 a10
theorem bc11_s {T0 T1 T2 T3 T4 T5 T6 T7 T8 T9 T10 ρ : Type} {o : Option (T0 × T1 × T2 × T3 × T4 × T5 × T6 × T7 × T8 × T9 × T10)} {k : T0 → T1 → T2 → T3 → T4 → T5 → T6 → T7 → T8 → T9 → T10 → Option ρ} {r : ρ} (h : bc11 o k = some r) : ∃ a0 a1 a2 a3 a4 a5 a6 a7 a8 a9 a10, o = some (a0, a1, a2, a3, a4, a5, a6, a7, a8, a9, a10) ∧ k a0 a1 a2 a3 a4 a5 a6 a7 a8 a9 a10 = some r := by
  cases o with
  | none => cases h
  | some a =>
    obtain ⟨a0, a1, a2, a3, a4, a5, a6, a7, a8, a9, a10⟩ := a
    exact ⟨a0, a1, a2, a3, a4, a5, a6, a7, a8, a9, a10, rfl, h⟩
theorem inj11 {T0 T1 T2 T3 T4 T5 T6 T7 T8 T9 T10 : Type} {a0 b0 : T0} {a1 b1 : T1} {a2 b2 : T2} {a3 b3 : T3} {a4 b4 : T4} {a5 b5 : T5} {a6 b6 : T6} {a7 b7 : T7} {a8 b8 : T8} {a9 b9 : T9} {a10 b10 : T10} (h : some (a0, a1, a2, a3, a4, a5, a6, a7, a8, a9, a10) = some (b0, b1, b2, b3, b4, b5, b6, b7, b8, b9, b10)) : a0 = b0 ∧ a1 = b1 ∧ a2 = b2 ∧ a3 = b3 ∧ a4 = b4 ∧ a5 = b5 ∧ a6 = b6 ∧ a7 = b7 ∧ a8 = b8 ∧ a9 = b9 ∧ a10 = b10 := by
  cases h
  exact ⟨rfl, rfl, rfl, rfl, rfl, rfl, rfl, rfl, rfl, rfl, rfl⟩
def bc12 {T0 T1 T2 T3 T4 T5 T6 T7 T8 T9 T10 T11 ρ : Type} (o : Option (T0 × T1 × T2 × T3 × T4 × T5 × T6 × T7 × T8 × T9 × T10 × T11)) (k : T0 → T1 → T2 → T3 → T4 → T5 → T6 → T7 → T8 → T9 → T10 → T11 → Option ρ) : Option ρ := match o with
  | none => none
  | some (a0, a1, a2, a3, a4, a5, a6, a7, a8, a9, a10, a11) => k a0 a1 a2 a3 a4 a5 a6 a7 a8 a9 a10 a11
theorem bc12_s {T0 T1 T2 T3 T4 T5 T6 T7 T8 T9 T10 T11 ρ : Type} {o : Option (T0 × T1 × T2 × T3 × T4 × T5 × T6 × T7 × T8 × T9 × T10 × T11)} {k : T0 → T1 → T2 → T3 → T4 → T5 → T6 → T7 → T8 → T9 → T10 → T11 → Option ρ} {r : ρ} (h : bc12 o k = some r) : ∃ a0 a1 a2 a3 a4 a5 a6 a7 a8 a9 a10 a11, o = some (a0, a1, a2, a3, a4, a5, a6, a7, a8, a9, a10, a11) ∧ k a0 a1 a2 a3 a4 a5 a6 a7 a8 a9 a10 a11 = some r := by
  cases o with
  | none => cases h
  | some a =>
    obtain ⟨a0, a1, a2, a3, a4, a5, a6, a7, a8, a9, a10, a11⟩ := a
    exact ⟨a0, a1, a2, a3, a4, a5, a6, a7, a8, a9, a10, a11, rfl, h⟩
theorem inj12 {T0 T1 T2 T3 T4 T5 T6 T7 T8 T9 T10 T11 : Type} {a0 b0 : T0} {a1 b1 : T1} {a2 b2 : T2} {a3 b3 : T3} {a4 b4 : T4} {a5 b5 : T5} {a6 b6 : T6} {a7 b7 : T7} {a8 b8 : T8} {a9 b9 : T9} {a10 b10 : T10} {a11 b11 : T11} (h : some (a0, a1, a2, a3, a4, a5, a6, a7, a8, a9, a10, a11) = some (b0, b1, b2, b3, b4, b5, b6, b7, b8, b9, b10, b11)) : a0 = b0 ∧ a1 = b1 ∧ a2 = b2 ∧ a3 = b3 ∧ a4 = b4 ∧ a5 = b5 ∧ a6 = b6 ∧ a7 = b7 ∧ a8 = b8 ∧ a9 = b9 ∧ a10 = b10 ∧ a11 = b11 := by
  cases h
  exact ⟨rfl, rfl, rfl, rfl, rfl, rfl, rfl, rfl, rfl, rfl, rfl, rfl⟩
theorem bc1_e {α ρ : Type} (a : α) (k : α → Option ρ) : bc1 (some a) k = k a := rfl
theorem bc2_e {T0 T1 ρ : Type} (a0 : T0) (a1 : T1) (k : T0 → T1 → Option ρ) : bc2 (some (a0, a1)) k = k a0 a1 := rfl
theorem bc3_e {T0 T1 T2 ρ : Type} (a0 : T0) (a1 : T1) (a2 : T2) (k : T0 → T1 → T2 → Option ρ) : bc3 (some (a0, a1, a2)) k = k a0 a1 a2 := rfl
theorem bc4_e {T0 T1 T2 T3 ρ : Type} (a0 : T0) (a1 : T1) (a2 : T2) (a3 : T3) (k : T0 → T1 → T2 → T3 → Option ρ) : bc4 (some (a0, a1, a2, a3)) k = k a0 a1 a2 a3 := rfl
theorem bc5_e {T0 T1 T2 T3 T4 ρ : Type} (a0 : T0) (a1 : T1) (a2 : T2) (a3 : T3) (a4 : T4) (k : T0 → T1 → T2 → T3 → T4 → Option ρ) : bc5 (some (a0, a1, a2, a3, a4)) k = k a0 a1 a2 a3 a4 := rfl
theorem bc6_e {T0 T1 T2 T3 T4 T5 ρ : Type} (a0 : T0) (a1 : T1) (a2 : T2) (a3 : T3) (a4 : T4) (a5 : T5) (k : T0 → T1 → T2 → T3 → T4 → T5 → Option ρ) : bc6 (some (a0, a1, a2, a3, a4, a5)) k = k a0 a1 a2 a3 a4 a5 := rfl
theorem bc7_e {T0 T1 T2 T3 T4 T5 T6 ρ : Type} (a0 : T0) (a1 : T1) (a2 : T2) (a3 : T3) (a4 : T4) (a5 : T5) (a6 : T6) (k : T0 → T1 → T2 → T3 → T4 → T5 → T6 → Option ρ) : bc7 (some (a0, a1, a2, a3, a4, a5, a6)) k = k a0 a1 a2 a3 a4 a5 a6 := rfl
theorem bc8_e {T0 T1 T2 T3 T4 T5 T6 T7 ρ : Type} (a0 : T0) (a1 : T1) (a2 : T2) (a3 : T3) (a4 : T4) (a5 : T5) (a6 : T6) (a7 : T7) (k : T0 → T1 → T2 → T3 → T4 → T5 → T6 → T7 → Option ρ) : bc8 (some (a0, a1, a2, a3, a4, a5, a6, a7)) k = k a0 a1 a2 a3 a4 a5 a6 a7 := rfl
theorem bc9_e {T0 T1 T2 T3 T4 T5 T6 T7 T8 ρ : Type} (a0 : T0) (a1 : T1) (a2 : T2) (a3 : T3) (a4 : T4) (a5 : T5) (a6 : T6) (a7 : T7) (a8 : T8) (k : T0 → T1 → T2 → T3 → T4 → T5 → T6 → T7 → T8 → Option ρ) : bc9 (some (a0, a1, a2, a3, a4, a5, a6, a7, a8)) k = k a0 a1 a2 a3 a4 a5 a6 a7 a8 := rfl
theorem bc10_e {T0 T1 T2 T3 T4 T5 T6 T7 T8 T9 ρ : Type} (a0 : T0) (a1 : T1) (a2 : T2) (a3 : T3) (a4 : T4) (a5 : T5) (a6 : T6) (a7 : T7) (a8 : T8) (a9 : T9) (k : T0 → T1 → T2 → T3 → T4 → T5 → T6 → T7 → T8 → T9 → Option ρ) : bc10 (some (a0, a1, a2, a3, a4, a5, a6, a7, a8, a9)) k = k a0 a1 a2 a3 a4 a5 a6 a7 a8 a9 := rfl
theorem bc11_e {T0 T1 T2 T3 T4 T5 T6 T7 T8 T9 T10 ρ : Type} (a0 : T0) (a1 : T1) (a2 : T2) (a3 : T3) (a4 : T4) (a5 : T5) (a6 : T6) (a7 : T7) (a8 : T8) (a9 : T9) (a10 : T10) (k : T0 → T1 → T2 → T3 → T4 → T5 → T6 → T7 → T8 → T9 → T10 → Option ρ) : bc11 (some (a0, a1, a2, a3, a4, a5, a6, a7, a8, a9, a10)) k = k a0 a1 a2 a3 a4 a5 a6 a7 a8 a9 a10 := rfl
theorem bc12_e {T0 T1 T2 T3 T4 T5 T6 T7 T8 T9 T10 T11 ρ : Type} (a0 : T0) (a1 : T1) (a2 : T2) (a3 : T3) (a4 : T4) (a5 : T5) (a6 : T6) (a7 : T7) (a8 : T8) (a9 : T9) (a10 : T10) (a11 : T11) (k : T0 → T1 → T2 → T3 → T4 → T5 → T6 → T7 → T8 → T9 → T10 → T11 → Option ρ) : bc12 (some (a0, a1, a2, a3, a4, a5, a6, a7, a8, a9, a10, a11)) k = k a0 a1 a2 a3 a4 a5 a6 a7 a8 a9 a10 a11 := rfl
theorem bc1_id {α : Type} (o : Option α) : bc1 o (fun a => some a) = o := by cases o <;> rfl
theorem bc2_id {α β : Type} (o : Option (α × β)) : bc2 o (fun a b => some (a, b)) = o := by
  cases o with
  | none => rfl
  | some x => rfl
theorem bc2_as {α β γ δ ρ : Type} (o : Option (α × β)) (f : α → β → Option (γ × δ)) (g : γ → δ → Option ρ) : bc2 (bc2 o f) g = bc2 o (fun a b => bc2 (f a b) g) := by
  cases o with
  | none => rfl
  | some x => rfl
theorem bc3_id {α β γ : Type} (o : Option (α × β × γ)) : bc3 o (fun a b c => some (a, b, c)) = o := by
  cases o with
  | none => rfl
  | some x => rfl
theorem bc4_id {α β γ δ : Type} (o : Option (α × β × γ × δ)) : bc4 o (fun a b c d => some (a, b, c, d)) = o := by
  cases o with
  | none => rfl
  | some x => rfl
theorem hf0 {R : Room} : 0 ≤ R.cells ∧ 0 ≤ R.slots := ⟨Nat.zero_le _, Nat.zero_le _⟩
section GR
variable {k : GC} {l : Launch} {R : Room} {cc : ByteArray} {nL : Nat} {own : String} {D : va_G} {cB cI cJ : ClassId} {cells slots pc : Nat} {L L' : List (Nat × Value)} {st : List Value} {ws ws' : va_W}
theorem G_lv (is : List Nat) (hs : lv_pick L is = L') (kk : G D nL k cells slots pc L' st ws) : G D nL k cells slots pc L st ws := by
  obtain ⟨p, l, e, R, s, m, args, below, meth, c, Q, A⟩ := k
  exact fun H locs ls h1 h2 h3 h4 => kk H locs ls (lv_sub h1 is hs) h2 h3 h4
theorem G_topi {x y : Int32} (h : y = x) (kk : G D nL k cells slots pc L (.int y :: st) ws) : G D nL k cells slots pc L (.int x :: st) ws := h ▸ kk
theorem G_topj {x y : Int64} (h : y = x) (kk : G D nL k cells slots pc L (.long y :: st) ws) : G D nL k cells slots pc L (.long x :: st) ws := h ▸ kk
theorem G_iload_n (F : GF k l R cc nL own D cB cI cJ) {j i : Nat} {q : Fin 4} {x : Int32} (d : decode cc pc = .ok (.iload_n q, 1)) (hi : (q : Nat) = i) (hj : L[j]? = some (i, .int x)) (kk : G D nL k cells slots (pc + 1) L (.int x :: st) ws) : G D nL k cells slots pc L st ws := by
  obtain ⟨p, l, e, R, s, m, args, below, meth, c, Q, A⟩ := k
  exact fun H locs ls h1 h2 h3 h4 => lv_iload_n F.1.1 F.1.2.1 d hi (lv_at h1 j hj) (kk H locs ls h1 h2 h3 h4)
theorem G_iload (F : GF k l R cc nL own D cB cI cJ) {j i : Nat} {x : Int32} (d : decode cc pc = .ok (.iload i, 2)) (hj : L[j]? = some (i, .int x)) (kk : G D nL k cells slots (pc + 2) L (.int x :: st) ws) : G D nL k cells slots pc L st ws := by
  obtain ⟨p, l, e, R, s, m, args, below, meth, c, Q, A⟩ := k
  exact fun H locs ls h1 h2 h3 h4 => lv_iload F.1.1 F.1.2.1 d (lv_at h1 j hj) (kk H locs ls h1 h2 h3 h4)
theorem G_lload_n (F : GF k l R cc nL own D cB cI cJ) {j i : Nat} {q : Fin 4} {x : Int64} (d : decode cc pc = .ok (.lload_n q, 1)) (hi : (q : Nat) = i) (hj : L[j]? = some (i, .long x)) (kk : G D nL k cells slots (pc + 1) L (.long x :: st) ws) : G D nL k cells slots pc L st ws := by
  obtain ⟨p, l, e, R, s, m, args, below, meth, c, Q, A⟩ := k
  exact fun H locs ls h1 h2 h3 h4 => lv_lload_n F.1.1 F.1.2.1 d hi (lv_at h1 j hj) (kk H locs ls h1 h2 h3 h4)
theorem G_lload (F : GF k l R cc nL own D cB cI cJ) {j i : Nat} {x : Int64} (d : decode cc pc = .ok (.lload i, 2)) (hj : L[j]? = some (i, .long x)) (kk : G D nL k cells slots (pc + 2) L (.long x :: st) ws) : G D nL k cells slots pc L st ws := by
  obtain ⟨p, l, e, R, s, m, args, below, meth, c, Q, A⟩ := k
  exact fun H locs ls h1 h2 h3 h4 => lv_lload F.1.1 F.1.2.1 d (lv_at h1 j hj) (kk H locs ls h1 h2 h3 h4)
theorem G_aload_n (F : GF k l R cc nL own D cB cI cJ) {j i : Nat} {q : Fin 4} {x : Nat} (d : decode cc pc = .ok (.aload_n q, 1)) (hi : (q : Nat) = i) (hj : L[j]? = some (i, .ref x)) (kk : G D nL k cells slots (pc + 1) L (.ref x :: st) ws) : G D nL k cells slots pc L st ws := by
  obtain ⟨p, l, e, R, s, m, args, below, meth, c, Q, A⟩ := k
  exact fun H locs ls h1 h2 h3 h4 => lv_aload_n F.1.1 F.1.2.1 d hi (lv_at h1 j hj) (kk H locs ls h1 h2 h3 h4)
theorem G_aload (F : GF k l R cc nL own D cB cI cJ) {j i : Nat} {x : Nat} (d : decode cc pc = .ok (.aload i, 2)) (hj : L[j]? = some (i, .ref x)) (kk : G D nL k cells slots (pc + 2) L (.ref x :: st) ws) : G D nL k cells slots pc L st ws := by
  obtain ⟨p, l, e, R, s, m, args, below, meth, c, Q, A⟩ := k
  exact fun H locs ls h1 h2 h3 h4 => lv_aload F.1.1 F.1.2.1 d (lv_at h1 j hj) (kk H locs ls h1 h2 h3 h4)
theorem G_istore_n (F : GF k l R cc nL own D cB cI cJ) {i : Nat} {q : Fin 4} {x : Int32} (d : decode cc pc = .ok (.istore_n q, 1)) (hi : (q : Nat) = i) (hn : i < nL) (hl : (i, Value.int x) :: L.filter (fun q => !(q.1 == i) && !(q.1 + 1 == i && q.2.category == 2)) = L') (kk : G D nL k cells slots (pc + 1) L' st ws) : G D nL k cells slots pc L (.int x :: st) ws := by
  obtain ⟨p, l, e, R, s, m, args, below, meth, c, Q, A⟩ := k
  exact fun H locs ls h1 h2 h3 h4 => lv_istore_n F.1.1 F.1.2.1 d hi h1 hn hl (fun ls' h1' => kk H locs ls' h1' h2 h3 h4)
theorem G_istore (F : GF k l R cc nL own D cB cI cJ) {i : Nat} {x : Int32} (d : decode cc pc = .ok (.istore i, 2)) (hn : i < nL) (hl : (i, Value.int x) :: L.filter (fun q => !(q.1 == i) && !(q.1 + 1 == i && q.2.category == 2)) = L') (kk : G D nL k cells slots (pc + 2) L' st ws) : G D nL k cells slots pc L (.int x :: st) ws := by
  obtain ⟨p, l, e, R, s, m, args, below, meth, c, Q, A⟩ := k
  exact fun H locs ls h1 h2 h3 h4 => lv_istore F.1.1 F.1.2.1 d h1 hn hl (fun ls' h1' => kk H locs ls' h1' h2 h3 h4)
theorem G_lstore_n (F : GF k l R cc nL own D cB cI cJ) {i : Nat} {q : Fin 4} {x : Int64} (d : decode cc pc = .ok (.lstore_n q, 1)) (hi : (q : Nat) = i) (hn : i + 1 < nL) (hl : (i, Value.long x) :: L.filter (fun q => !(q.1 == i) && (!(q.1 == i + 1) && !(q.1 + 1 == i && q.2.category == 2))) = L') (kk : G D nL k cells slots (pc + 1) L' st ws) : G D nL k cells slots pc L (.long x :: st) ws := by
  obtain ⟨p, l, e, R, s, m, args, below, meth, c, Q, A⟩ := k
  exact fun H locs ls h1 h2 h3 h4 => lv_lstore_n F.1.1 F.1.2.1 d hi h1 hn hl (fun ls' h1' => kk H locs ls' h1' h2 h3 h4)
theorem G_lstore (F : GF k l R cc nL own D cB cI cJ) {i : Nat} {x : Int64} (d : decode cc pc = .ok (.lstore i, 2)) (hn : i + 1 < nL) (hl : (i, Value.long x) :: L.filter (fun q => !(q.1 == i) && (!(q.1 == i + 1) && !(q.1 + 1 == i && q.2.category == 2))) = L') (kk : G D nL k cells slots (pc + 2) L' st ws) : G D nL k cells slots pc L (.long x :: st) ws := by
  obtain ⟨p, l, e, R, s, m, args, below, meth, c, Q, A⟩ := k
  exact fun H locs ls h1 h2 h3 h4 => lv_lstore F.1.1 F.1.2.1 d h1 hn hl (fun ls' h1' => kk H locs ls' h1' h2 h3 h4)
theorem G_astore_n (F : GF k l R cc nL own D cB cI cJ) {i : Nat} {q : Fin 4} {x : Nat} (d : decode cc pc = .ok (.astore_n q, 1)) (hi : (q : Nat) = i) (hn : i < nL) (hl : (i, Value.ref x) :: L.filter (fun q => !(q.1 == i) && !(q.1 + 1 == i && q.2.category == 2)) = L') (kk : G D nL k cells slots (pc + 1) L' st ws) : G D nL k cells slots pc L (.ref x :: st) ws := by
  obtain ⟨p, l, e, R, s, m, args, below, meth, c, Q, A⟩ := k
  exact fun H locs ls h1 h2 h3 h4 => lv_astore_n F.1.1 F.1.2.1 d hi h1 hn hl (fun ls' h1' => kk H locs ls' h1' h2 h3 h4)
theorem G_astore (F : GF k l R cc nL own D cB cI cJ) {i : Nat} {x : Nat} (d : decode cc pc = .ok (.astore i, 2)) (hn : i < nL) (hl : (i, Value.ref x) :: L.filter (fun q => !(q.1 == i) && !(q.1 + 1 == i && q.2.category == 2)) = L') (kk : G D nL k cells slots (pc + 2) L' st ws) : G D nL k cells slots pc L (.ref x :: st) ws := by
  obtain ⟨p, l, e, R, s, m, args, below, meth, c, Q, A⟩ := k
  exact fun H locs ls h1 h2 h3 h4 => lv_astore F.1.1 F.1.2.1 d h1 hn hl (fun ls' h1' => kk H locs ls' h1' h2 h3 h4)
theorem G_iinc (F : GF k l R cc nL own D cB cI cJ) {i j : Nat} {n : Int} {x v w : Int32} (d : decode cc pc = .ok (.iinc i n, 3)) (hj : L[j]? = some (i, .int x)) (hw : Int32.ofInt n = w) (hv : v = x + w) (hn : i < nL) (hl : (i, Value.int v) :: L.filter (fun q => !(q.1 == i) && !(q.1 + 1 == i && q.2.category == 2)) = L') (kk : G D nL k cells slots (pc + 3) L' st ws) : G D nL k cells slots pc L st ws := by
  obtain ⟨p, l, e, R, s, m, args, below, meth, c, Q, A⟩ := k
  exact fun H locs ls h1 h2 h3 h4 => lv_iinc F.1.1 F.1.2.1 d h1 hj (by rw [hw, hv]) hn hl (fun ls' h1' => kk H locs ls' h1' h2 h3 h4)
theorem G_iinc_w (F : GF k l R cc nL own D cB cI cJ) {i j : Nat} {n : Int} {x v w : Int32} (d : decode cc pc = .ok (.iinc i n, 6)) (hj : L[j]? = some (i, .int x)) (hw : Int32.ofInt n = w) (hv : v = x + w) (hn : i < nL) (hl : (i, Value.int v) :: L.filter (fun q => !(q.1 == i) && !(q.1 + 1 == i && q.2.category == 2)) = L') (kk : G D nL k cells slots (pc + 6) L' st ws) : G D nL k cells slots pc L st ws := by
  obtain ⟨p, l, e, R, s, m, args, below, meth, c, Q, A⟩ := k
  exact fun H locs ls h1 h2 h3 h4 => lv_iincW F.1.1 F.1.2.1 d h1 hj (by rw [hw, hv]) hn hl (fun ls' h1' => kk H locs ls' h1' h2 h3 h4)
theorem G_iconst (F : GF k l R cc nL own D cB cI cJ) {n : Int} {v : Int32} (d : decode cc pc = .ok (.iconst n, 1)) (hv : Int32.ofInt n = v) (kk : G D nL k cells slots (pc + 1) L (.int v :: st) ws) : G D nL k cells slots pc L st ws := by
  obtain ⟨p, l, e, R, s, m, args, below, meth, c, Q, A⟩ := k
  exact fun H locs ls h1 h2 h3 h4 => lv_iconst F.1.1 F.1.2.1 d hv (kk H locs ls h1 h2 h3 h4)
theorem G_bipush (F : GF k l R cc nL own D cB cI cJ) {n : Int} {v : Int32} (d : decode cc pc = .ok (.bipush n, 2)) (hv : (Int8.ofInt n).toInt32 = v) (kk : G D nL k cells slots (pc + 2) L (.int v :: st) ws) : G D nL k cells slots pc L st ws := by
  obtain ⟨p, l, e, R, s, m, args, below, meth, c, Q, A⟩ := k
  exact fun H locs ls h1 h2 h3 h4 => lv_bipush F.1.1 F.1.2.1 d hv (kk H locs ls h1 h2 h3 h4)
theorem G_sipush (F : GF k l R cc nL own D cB cI cJ) {n : Int} {v : Int32} (d : decode cc pc = .ok (.sipush n, 3)) (hv : (Int16.ofInt n).toInt32 = v) (kk : G D nL k cells slots (pc + 3) L (.int v :: st) ws) : G D nL k cells slots pc L st ws := by
  obtain ⟨p, l, e, R, s, m, args, below, meth, c, Q, A⟩ := k
  exact fun H locs ls h1 h2 h3 h4 => lv_sipush F.1.1 F.1.2.1 d hv (kk H locs ls h1 h2 h3 h4)
theorem G_ldc (F : GF k l R cc nL own D cB cI cJ) {index : Nat} {v : Int32} (hc : Cond.constant own index v ∈ AW) (d : decode cc pc = .ok (.ldc index, 2)) (kk : G D nL k cells slots (pc + 2) L (.int v :: st) ws) : G D nL k cells slots pc L st ws := by
  obtain ⟨p, l, e, R, s, m, args, below, meth, c, Q, A⟩ := k
  exact fun H locs ls h1 h2 h3 h4 => lv_ldc F.1.1 F.1.2.1 F.1.2.2.2.1 (F.1.2.2.2.2 _ hc) d (kk H locs ls h1 h2 h3 h4)
theorem G_ldc2 (F : GF k l R cc nL own D cB cI cJ) {index : Nat} {v : Int64} (hc : Cond.constantLong own index v ∈ AW) (d : decode cc pc = .ok (.ldc2_w index, 3)) (kk : G D nL k cells slots (pc + 3) L (.long v :: st) ws) : G D nL k cells slots pc L st ws := by
  obtain ⟨p, l, e, R, s, m, args, below, meth, c, Q, A⟩ := k
  exact fun H locs ls h1 h2 h3 h4 => lv_ldc2 F.1.1 F.1.2.1 F.1.2.2.2.1 (F.1.2.2.2.2 _ hc) d (kk H locs ls h1 h2 h3 h4)
theorem G_iadd (F : GF k l R cc nL own D cB cI cJ) {x y : Int32} (d : decode cc pc = .ok (.iadd, 1)) (kk : G D nL k cells slots (pc + 1) L (.int (x + y) :: st) ws) : G D nL k cells slots pc L (.int y :: .int x :: st) ws := by
  obtain ⟨p, l, e, R, s, m, args, below, meth, c, Q, A⟩ := k
  exact fun H locs ls h1 h2 h3 h4 => lv_iadd F.1.1 F.1.2.1 d (kk H locs ls h1 h2 h3 h4)
theorem G_isub (F : GF k l R cc nL own D cB cI cJ) {x y : Int32} (d : decode cc pc = .ok (.isub, 1)) (kk : G D nL k cells slots (pc + 1) L (.int (x - y) :: st) ws) : G D nL k cells slots pc L (.int y :: .int x :: st) ws := by
  obtain ⟨p, l, e, R, s, m, args, below, meth, c, Q, A⟩ := k
  exact fun H locs ls h1 h2 h3 h4 => lv_isub F.1.1 F.1.2.1 d (kk H locs ls h1 h2 h3 h4)
theorem G_imul (F : GF k l R cc nL own D cB cI cJ) {x y : Int32} (d : decode cc pc = .ok (.imul, 1)) (kk : G D nL k cells slots (pc + 1) L (.int (x * y) :: st) ws) : G D nL k cells slots pc L (.int y :: .int x :: st) ws := by
  obtain ⟨p, l, e, R, s, m, args, below, meth, c, Q, A⟩ := k
  exact fun H locs ls h1 h2 h3 h4 => lv_imul F.1.1 F.1.2.1 d (kk H locs ls h1 h2 h3 h4)
theorem G_iand (F : GF k l R cc nL own D cB cI cJ) {x y : Int32} (d : decode cc pc = .ok (.iand, 1)) (kk : G D nL k cells slots (pc + 1) L (.int (x &&& y) :: st) ws) : G D nL k cells slots pc L (.int y :: .int x :: st) ws := by
  obtain ⟨p, l, e, R, s, m, args, below, meth, c, Q, A⟩ := k
  exact fun H locs ls h1 h2 h3 h4 => lv_iand F.1.1 F.1.2.1 d (kk H locs ls h1 h2 h3 h4)
theorem G_ior (F : GF k l R cc nL own D cB cI cJ) {x y : Int32} (d : decode cc pc = .ok (.ior, 1)) (kk : G D nL k cells slots (pc + 1) L (.int (x ||| y) :: st) ws) : G D nL k cells slots pc L (.int y :: .int x :: st) ws := by
  obtain ⟨p, l, e, R, s, m, args, below, meth, c, Q, A⟩ := k
  exact fun H locs ls h1 h2 h3 h4 => lv_ior F.1.1 F.1.2.1 d (kk H locs ls h1 h2 h3 h4)
theorem G_ixor (F : GF k l R cc nL own D cB cI cJ) {x y : Int32} (d : decode cc pc = .ok (.ixor, 1)) (kk : G D nL k cells slots (pc + 1) L (.int (x ^^^ y) :: st) ws) : G D nL k cells slots pc L (.int y :: .int x :: st) ws := by
  obtain ⟨p, l, e, R, s, m, args, below, meth, c, Q, A⟩ := k
  exact fun H locs ls h1 h2 h3 h4 => lv_ixor F.1.1 F.1.2.1 d (kk H locs ls h1 h2 h3 h4)
theorem G_ishl (F : GF k l R cc nL own D cB cI cJ) {x y : Int32} (d : decode cc pc = .ok (.ishl, 1)) (kk : G D nL k cells slots (pc + 1) L (.int (x <<< (y &&& 31)) :: st) ws) : G D nL k cells slots pc L (.int y :: .int x :: st) ws := by
  obtain ⟨p, l, e, R, s, m, args, below, meth, c, Q, A⟩ := k
  exact fun H locs ls h1 h2 h3 h4 => lv_ishl F.1.1 F.1.2.1 d (kk H locs ls h1 h2 h3 h4)
theorem G_ishr (F : GF k l R cc nL own D cB cI cJ) {x y : Int32} (d : decode cc pc = .ok (.ishr, 1)) (kk : G D nL k cells slots (pc + 1) L (.int (x >>> (y &&& 31)) :: st) ws) : G D nL k cells slots pc L (.int y :: .int x :: st) ws := by
  obtain ⟨p, l, e, R, s, m, args, below, meth, c, Q, A⟩ := k
  exact fun H locs ls h1 h2 h3 h4 => lv_ishr F.1.1 F.1.2.1 d (kk H locs ls h1 h2 h3 h4)
theorem G_ladd (F : GF k l R cc nL own D cB cI cJ) {x y : Int64} (d : decode cc pc = .ok (.ladd, 1)) (kk : G D nL k cells slots (pc + 1) L (.long (x + y) :: st) ws) : G D nL k cells slots pc L (.long y :: .long x :: st) ws := by
  obtain ⟨p, l, e, R, s, m, args, below, meth, c, Q, A⟩ := k
  exact fun H locs ls h1 h2 h3 h4 => lv_ladd F.1.1 F.1.2.1 d (kk H locs ls h1 h2 h3 h4)
theorem G_land (F : GF k l R cc nL own D cB cI cJ) {x y : Int64} (d : decode cc pc = .ok (.land, 1)) (kk : G D nL k cells slots (pc + 1) L (.long (x &&& y) :: st) ws) : G D nL k cells slots pc L (.long y :: .long x :: st) ws := by
  obtain ⟨p, l, e, R, s, m, args, below, meth, c, Q, A⟩ := k
  exact fun H locs ls h1 h2 h3 h4 => lv_land F.1.1 F.1.2.1 d (kk H locs ls h1 h2 h3 h4)
theorem G_lor (F : GF k l R cc nL own D cB cI cJ) {x y : Int64} (d : decode cc pc = .ok (.lor, 1)) (kk : G D nL k cells slots (pc + 1) L (.long (x ||| y) :: st) ws) : G D nL k cells slots pc L (.long y :: .long x :: st) ws := by
  obtain ⟨p, l, e, R, s, m, args, below, meth, c, Q, A⟩ := k
  exact fun H locs ls h1 h2 h3 h4 => lv_lor F.1.1 F.1.2.1 d (kk H locs ls h1 h2 h3 h4)
theorem G_idiv (F : GF k l R cc nL own D cB cI cJ) {x y : Int32} (d : decode cc pc = .ok (.idiv, 1)) (hne : ¬ y = 0) (kk : G D nL k cells slots (pc + 1) L (.int (x / y) :: st) ws) : G D nL k cells slots pc L (.int y :: .int x :: st) ws := by
  obtain ⟨p, l, e, R, s, m, args, below, meth, c, Q, A⟩ := k
  exact fun H locs ls h1 h2 h3 h4 => lv_idiv F.1.1 F.1.2.1 d hne (kk H locs ls h1 h2 h3 h4)
theorem G_iushr (F : GF k l R cc nL own D cB cI cJ) {x y : Int32} (d : decode cc pc = .ok (.iushr, 1)) (kk : G D nL k cells slots (pc + 1) L (.int (ush x y) :: st) ws) : G D nL k cells slots pc L (.int y :: .int x :: st) ws := by
  obtain ⟨p, l, e, R, s, m, args, below, meth, c, Q, A⟩ := k
  exact fun H locs ls h1 h2 h3 h4 => lv_iushr F.1.1 F.1.2.1 d rfl (kk H locs ls h1 h2 h3 h4)
theorem G_lshl (F : GF k l R cc nL own D cB cI cJ) {x : Int64} {y : Int32} (d : decode cc pc = .ok (.lshl, 1)) (kk : G D nL k cells slots (pc + 1) L (.long (lshl x y) :: st) ws) : G D nL k cells slots pc L (.int y :: .long x :: st) ws := by
  obtain ⟨p, l, e, R, s, m, args, below, meth, c, Q, A⟩ := k
  exact fun H locs ls h1 h2 h3 h4 => lv_lshl F.1.1 F.1.2.1 d rfl (kk H locs ls h1 h2 h3 h4)
theorem G_lshr (F : GF k l R cc nL own D cB cI cJ) {x : Int64} {y : Int32} (d : decode cc pc = .ok (.lshr, 1)) (kk : G D nL k cells slots (pc + 1) L (.long (lshr x y) :: st) ws) : G D nL k cells slots pc L (.int y :: .long x :: st) ws := by
  obtain ⟨p, l, e, R, s, m, args, below, meth, c, Q, A⟩ := k
  exact fun H locs ls h1 h2 h3 h4 => lv_lshr F.1.1 F.1.2.1 d rfl (kk H locs ls h1 h2 h3 h4)
theorem G_lushr (F : GF k l R cc nL own D cB cI cJ) {x : Int64} {y : Int32} (d : decode cc pc = .ok (.lushr, 1)) (kk : G D nL k cells slots (pc + 1) L (.long (lush x y) :: st) ws) : G D nL k cells slots pc L (.int y :: .long x :: st) ws := by
  obtain ⟨p, l, e, R, s, m, args, below, meth, c, Q, A⟩ := k
  exact fun H locs ls h1 h2 h3 h4 => lv_lushr F.1.1 F.1.2.1 d rfl (kk H locs ls h1 h2 h3 h4)
theorem G_i2b (F : GF k l R cc nL own D cB cI cJ) {x : Int32} (d : decode cc pc = .ok (.i2b, 1)) (kk : G D nL k cells slots (pc + 1) L (.int x.toInt8.toInt32 :: st) ws) : G D nL k cells slots pc L (.int x :: st) ws := by
  obtain ⟨p, l, e, R, s, m, args, below, meth, c, Q, A⟩ := k
  exact fun H locs ls h1 h2 h3 h4 => lv_i2b F.1.1 F.1.2.1 d rfl (kk H locs ls h1 h2 h3 h4)
theorem G_i2l (F : GF k l R cc nL own D cB cI cJ) {x : Int32} (d : decode cc pc = .ok (.i2l, 1)) (kk : G D nL k cells slots (pc + 1) L (.long x.toInt64 :: st) ws) : G D nL k cells slots pc L (.int x :: st) ws := by
  obtain ⟨p, l, e, R, s, m, args, below, meth, c, Q, A⟩ := k
  exact fun H locs ls h1 h2 h3 h4 => lv_i2l F.1.1 F.1.2.1 d rfl (kk H locs ls h1 h2 h3 h4)
theorem G_l2i (F : GF k l R cc nL own D cB cI cJ) {x : Int64} (d : decode cc pc = .ok (.l2i, 1)) (kk : G D nL k cells slots (pc + 1) L (.int x.toInt32 :: st) ws) : G D nL k cells slots pc L (.long x :: st) ws := by
  obtain ⟨p, l, e, R, s, m, args, below, meth, c, Q, A⟩ := k
  exact fun H locs ls h1 h2 h3 h4 => lv_l2i F.1.1 F.1.2.1 d rfl (kk H locs ls h1 h2 h3 h4)
theorem G_lcmp (F : GF k l R cc nL own D cB cI cJ) {x y : Int64} (d : decode cc pc = .ok (.lcmp, 1)) (kk : G D nL k cells slots (pc + 1) L (.int (lg_cmp x y) :: st) ws) : G D nL k cells slots pc L (.long y :: .long x :: st) ws := by
  obtain ⟨p, l, e, R, s, m, args, below, meth, c, Q, A⟩ := k
  exact fun H locs ls h1 h2 h3 h4 => W.lcmp F.1.1 F.1.2.1 d (kk H locs ls h1 h2 h3 h4)
theorem G_dup (F : GF k l R cc nL own D cB cI cJ) {v : Value} (d : decode cc pc = .ok (.dup, 1)) (hv : v.category = 1) (kk : G D nL k cells slots (pc + 1) L (v :: v :: st) ws) : G D nL k cells slots pc L (v :: st) ws := by
  obtain ⟨p, l, e, R, s, m, args, below, meth, c, Q, A⟩ := k
  exact fun H locs ls h1 h2 h3 h4 => lv_dup F.1.1 F.1.2.1 d hv (kk H locs ls h1 h2 h3 h4)
theorem G_pop (F : GF k l R cc nL own D cB cI cJ) {v : Value} (d : decode cc pc = .ok (.pop, 1)) (hv : v.category = 1) (kk : G D nL k cells slots (pc + 1) L st ws) : G D nL k cells slots pc L (v :: st) ws := by
  obtain ⟨p, l, e, R, s, m, args, below, meth, c, Q, A⟩ := k
  exact fun H locs ls h1 h2 h3 h4 => lv_pop F.1.1 F.1.2.1 d hv (kk H locs ls h1 h2 h3 h4)
theorem G_dup2 (F : GF k l R cc nL own D cB cI cJ) {v w : Value} (d : decode cc pc = .ok (.dup2, 1)) (hv : v.category = 1) (hw : w.category = 1) (kk : G D nL k cells slots (pc + 1) L (v :: w :: v :: w :: st) ws) : G D nL k cells slots pc L (v :: w :: st) ws := by
  obtain ⟨p, l, e, R, s, m, args, below, meth, c, Q, A⟩ := k
  exact fun H locs ls h1 h2 h3 h4 => lv_dup2_11 F.1.1 F.1.2.1 d hv hw (kk H locs ls h1 h2 h3 h4)
theorem G_goto (F : GF k l R cc nL own D cB cI cJ) {off : Int} {tgt : Nat} (d : decode cc pc = .ok (.goto off, 3)) (ht : (pc : Int) + off = (tgt : Int)) (kk : G D nL k cells slots tgt L st ws) : G D nL k cells slots pc L st ws := by
  obtain ⟨p, l, e, R, s, m, args, below, meth, c, Q, A⟩ := k
  exact fun H locs ls h1 h2 h3 h4 => lv_goto F.1.1 F.1.2.1 d ht (kk H locs ls h1 h2 h3 h4)
theorem G_icmp_eq (F : GF k l R cc nL own D cB cI cJ) {x y : Int32} {off : Int} {tgt : Nat} (d : decode cc pc = .ok (.if_icmp .eq off, 3)) (ht : (pc : Int) + off = (tgt : Int)) (kt : x = y → G D nL k cells slots tgt L st ws) (kf : ¬ x = y → G D nL k cells slots (pc + 3) L st ws) : G D nL k cells slots pc L (.int y :: .int x :: st) ws := by
  obtain ⟨p, l, e, R, s, m, args, below, meth, c, Q, A⟩ := k
  exact fun H locs ls h1 h2 h3 h4 => lv_icmp_eq F.1.1 F.1.2.1 d ht (fun z => kt z H locs ls h1 h2 h3 h4) (fun z => kf z H locs ls h1 h2 h3 h4)
theorem G_if_eq (F : GF k l R cc nL own D cB cI cJ) {x : Int32} {off : Int} {tgt : Nat} (d : decode cc pc = .ok (.ifCond .eq off, 3)) (ht : (pc : Int) + off = (tgt : Int)) (kt : x = 0 → G D nL k cells slots tgt L st ws) (kf : ¬ x = 0 → G D nL k cells slots (pc + 3) L st ws) : G D nL k cells slots pc L (.int x :: st) ws := by
  obtain ⟨p, l, e, R, s, m, args, below, meth, c, Q, A⟩ := k
  exact fun H locs ls h1 h2 h3 h4 => lv_if_eq F.1.1 F.1.2.1 d ht (fun z => kt z H locs ls h1 h2 h3 h4) (fun z => kf z H locs ls h1 h2 h3 h4)
theorem G_icmp_ne (F : GF k l R cc nL own D cB cI cJ) {x y : Int32} {off : Int} {tgt : Nat} (d : decode cc pc = .ok (.if_icmp .ne off, 3)) (ht : (pc : Int) + off = (tgt : Int)) (kt : ¬ x = y → G D nL k cells slots tgt L st ws) (kf : x = y → G D nL k cells slots (pc + 3) L st ws) : G D nL k cells slots pc L (.int y :: .int x :: st) ws := by
  obtain ⟨p, l, e, R, s, m, args, below, meth, c, Q, A⟩ := k
  exact fun H locs ls h1 h2 h3 h4 => lv_icmp_ne F.1.1 F.1.2.1 d ht (fun z => kt z H locs ls h1 h2 h3 h4) (fun z => kf z H locs ls h1 h2 h3 h4)
theorem G_if_ne (F : GF k l R cc nL own D cB cI cJ) {x : Int32} {off : Int} {tgt : Nat} (d : decode cc pc = .ok (.ifCond .ne off, 3)) (ht : (pc : Int) + off = (tgt : Int)) (kt : ¬ x = 0 → G D nL k cells slots tgt L st ws) (kf : x = 0 → G D nL k cells slots (pc + 3) L st ws) : G D nL k cells slots pc L (.int x :: st) ws := by
  obtain ⟨p, l, e, R, s, m, args, below, meth, c, Q, A⟩ := k
  exact fun H locs ls h1 h2 h3 h4 => lv_if_ne F.1.1 F.1.2.1 d ht (fun z => kt z H locs ls h1 h2 h3 h4) (fun z => kf z H locs ls h1 h2 h3 h4)
theorem G_icmp_lt (F : GF k l R cc nL own D cB cI cJ) {x y : Int32} {off : Int} {tgt : Nat} (d : decode cc pc = .ok (.if_icmp .lt off, 3)) (ht : (pc : Int) + off = (tgt : Int)) (kt : x < y → G D nL k cells slots tgt L st ws) (kf : ¬ x < y → G D nL k cells slots (pc + 3) L st ws) : G D nL k cells slots pc L (.int y :: .int x :: st) ws := by
  obtain ⟨p, l, e, R, s, m, args, below, meth, c, Q, A⟩ := k
  exact fun H locs ls h1 h2 h3 h4 => lv_icmp_lt F.1.1 F.1.2.1 d ht (fun z => kt z H locs ls h1 h2 h3 h4) (fun z => kf z H locs ls h1 h2 h3 h4)
theorem G_if_lt (F : GF k l R cc nL own D cB cI cJ) {x : Int32} {off : Int} {tgt : Nat} (d : decode cc pc = .ok (.ifCond .lt off, 3)) (ht : (pc : Int) + off = (tgt : Int)) (kt : x < 0 → G D nL k cells slots tgt L st ws) (kf : ¬ x < 0 → G D nL k cells slots (pc + 3) L st ws) : G D nL k cells slots pc L (.int x :: st) ws := by
  obtain ⟨p, l, e, R, s, m, args, below, meth, c, Q, A⟩ := k
  exact fun H locs ls h1 h2 h3 h4 => lv_if_lt F.1.1 F.1.2.1 d ht (fun z => kt z H locs ls h1 h2 h3 h4) (fun z => kf z H locs ls h1 h2 h3 h4)
theorem G_icmp_ge (F : GF k l R cc nL own D cB cI cJ) {x y : Int32} {off : Int} {tgt : Nat} (d : decode cc pc = .ok (.if_icmp .ge off, 3)) (ht : (pc : Int) + off = (tgt : Int)) (kt : y ≤ x → G D nL k cells slots tgt L st ws) (kf : ¬ y ≤ x → G D nL k cells slots (pc + 3) L st ws) : G D nL k cells slots pc L (.int y :: .int x :: st) ws := by
  obtain ⟨p, l, e, R, s, m, args, below, meth, c, Q, A⟩ := k
  exact fun H locs ls h1 h2 h3 h4 => lv_icmp_ge F.1.1 F.1.2.1 d ht (fun z => kt z H locs ls h1 h2 h3 h4) (fun z => kf z H locs ls h1 h2 h3 h4)
theorem G_if_ge (F : GF k l R cc nL own D cB cI cJ) {x : Int32} {off : Int} {tgt : Nat} (d : decode cc pc = .ok (.ifCond .ge off, 3)) (ht : (pc : Int) + off = (tgt : Int)) (kt : 0 ≤ x → G D nL k cells slots tgt L st ws) (kf : ¬ 0 ≤ x → G D nL k cells slots (pc + 3) L st ws) : G D nL k cells slots pc L (.int x :: st) ws := by
  obtain ⟨p, l, e, R, s, m, args, below, meth, c, Q, A⟩ := k
  exact fun H locs ls h1 h2 h3 h4 => lv_if_ge F.1.1 F.1.2.1 d ht (fun z => kt z H locs ls h1 h2 h3 h4) (fun z => kf z H locs ls h1 h2 h3 h4)
theorem G_icmp_gt (F : GF k l R cc nL own D cB cI cJ) {x y : Int32} {off : Int} {tgt : Nat} (d : decode cc pc = .ok (.if_icmp .gt off, 3)) (ht : (pc : Int) + off = (tgt : Int)) (kt : y < x → G D nL k cells slots tgt L st ws) (kf : ¬ y < x → G D nL k cells slots (pc + 3) L st ws) : G D nL k cells slots pc L (.int y :: .int x :: st) ws := by
  obtain ⟨p, l, e, R, s, m, args, below, meth, c, Q, A⟩ := k
  exact fun H locs ls h1 h2 h3 h4 => lv_icmp_gt F.1.1 F.1.2.1 d ht (fun z => kt z H locs ls h1 h2 h3 h4) (fun z => kf z H locs ls h1 h2 h3 h4)
theorem G_if_gt (F : GF k l R cc nL own D cB cI cJ) {x : Int32} {off : Int} {tgt : Nat} (d : decode cc pc = .ok (.ifCond .gt off, 3)) (ht : (pc : Int) + off = (tgt : Int)) (kt : 0 < x → G D nL k cells slots tgt L st ws) (kf : ¬ 0 < x → G D nL k cells slots (pc + 3) L st ws) : G D nL k cells slots pc L (.int x :: st) ws := by
  obtain ⟨p, l, e, R, s, m, args, below, meth, c, Q, A⟩ := k
  exact fun H locs ls h1 h2 h3 h4 => lv_if_gt F.1.1 F.1.2.1 d ht (fun z => kt z H locs ls h1 h2 h3 h4) (fun z => kf z H locs ls h1 h2 h3 h4)
theorem G_icmp_le (F : GF k l R cc nL own D cB cI cJ) {x y : Int32} {off : Int} {tgt : Nat} (d : decode cc pc = .ok (.if_icmp .le off, 3)) (ht : (pc : Int) + off = (tgt : Int)) (kt : x ≤ y → G D nL k cells slots tgt L st ws) (kf : ¬ x ≤ y → G D nL k cells slots (pc + 3) L st ws) : G D nL k cells slots pc L (.int y :: .int x :: st) ws := by
  obtain ⟨p, l, e, R, s, m, args, below, meth, c, Q, A⟩ := k
  exact fun H locs ls h1 h2 h3 h4 => lv_icmp_le F.1.1 F.1.2.1 d ht (fun z => kt z H locs ls h1 h2 h3 h4) (fun z => kf z H locs ls h1 h2 h3 h4)
theorem G_if_le (F : GF k l R cc nL own D cB cI cJ) {x : Int32} {off : Int} {tgt : Nat} (d : decode cc pc = .ok (.ifCond .le off, 3)) (ht : (pc : Int) + off = (tgt : Int)) (kt : x ≤ 0 → G D nL k cells slots tgt L st ws) (kf : ¬ x ≤ 0 → G D nL k cells slots (pc + 3) L st ws) : G D nL k cells slots pc L (.int x :: st) ws := by
  obtain ⟨p, l, e, R, s, m, args, below, meth, c, Q, A⟩ := k
  exact fun H locs ls h1 h2 h3 h4 => lv_if_le F.1.1 F.1.2.1 d ht (fun z => kt z H locs ls h1 h2 h3 h4) (fun z => kf z H locs ls h1 h2 h3 h4)
theorem G_iaload (F : GF k l R cc nL own D cB cI cJ) {q a n : Nat} {f : Nat → Int32} {i : Int32} (d : decode cc pc = .ok (.iaload, 1)) (ha : ws[q]? = some (a, .inl (cI, n, .inl f))) (hin : ¬ (i < 0 ∨ n ≤ i.toNatClampNeg)) (kk : G D nL k cells slots (pc + 1) L (.int (f i.toNatClampNeg) :: st) ws) : G D nL k cells slots pc L (.int i :: .ref a :: st) ws := by
  obtain ⟨p, l, e, R, s, m, args, below, meth, c, Q, A⟩ := k
  exact fun H locs ls h1 h2 h3 h4 => va_iald F.1.1 F.1.2.1 F.2.1 h2 q 1 ha rfl hin d (kk H locs ls h1 h2 h3 h4)
theorem G_baload (F : GF k l R cc nL own D cB cI cJ) {q a n : Nat} {f : Nat → Int32} {i : Int32} (d : decode cc pc = .ok (.baload, 1)) (ha : ws[q]? = some (a, .inl (cB, n, .inl f))) (hin : ¬ (i < 0 ∨ n ≤ i.toNatClampNeg)) (kk : G D nL k cells slots (pc + 1) L (.int (f i.toNatClampNeg) :: st) ws) : G D nL k cells slots pc L (.int i :: .ref a :: st) ws := by
  obtain ⟨p, l, e, R, s, m, args, below, meth, c, Q, A⟩ := k
  exact fun H locs ls h1 h2 h3 h4 => va_bald F.1.1 F.1.2.1 F.2.1 h2 q 0 ha rfl hin d (kk H locs ls h1 h2 h3 h4)
theorem G_laload (F : GF k l R cc nL own D cB cI cJ) {q a n : Nat} {f : Nat → Int64} {i : Int32} (d : decode cc pc = .ok (.laload, 1)) (ha : ws[q]? = some (a, .inl (cJ, n, .inr (.inl f)))) (hin : ¬ (i < 0 ∨ n ≤ i.toNatClampNeg)) (kk : G D nL k cells slots (pc + 1) L (.long (f i.toNatClampNeg) :: st) ws) : G D nL k cells slots pc L (.int i :: .ref a :: st) ws := by
  obtain ⟨p, l, e, R, s, m, args, below, meth, c, Q, A⟩ := k
  exact fun H locs ls h1 h2 h3 h4 => va_lald F.1.1 F.1.2.1 F.2.1 h2 q 2 ha rfl hin d (kk H locs ls h1 h2 h3 h4)
theorem G_iastore (F : GF k l R cc nL own D cB cI cJ) {q a n : Nat} {f f' : Nat → Int32} {i : Int32} {x : Int32} (d : decode cc pc = .ok (.iastore, 1)) (ha : ws[q]? = some (a, .inl (cI, n, .inl f))) (hin : ¬ (i < 0 ∨ n ≤ i.toNatClampNeg)) (hf : f' = upd f i.toNatClampNeg x) (hw : ws.set q (a, .inl (cI, n, .inl f')) = ws') (kk : G D nL k cells slots (pc + 1) L st ws') : G D nL k cells slots pc L (.int x :: .int i :: .ref a :: st) ws := by
  obtain ⟨p, l, e, R, s, m, args, below, meth, c, Q, A⟩ := k
  subst hf
  subst hw
  exact fun H locs ls h1 h2 h3 h4 => va_iast F.1.1 F.1.2.1 F.2.1 h2 h3 h4 q 1 ha rfl hin d (fun H1 locs1 g2 g3 g4 => kk H1 locs1 ls h1 g2 g3 g4)
theorem G_bastore (F : GF k l R cc nL own D cB cI cJ) {q a n : Nat} {f f' : Nat → Int32} {i : Int32} {x : Int32} (d : decode cc pc = .ok (.bastore, 1)) (ha : ws[q]? = some (a, .inl (cB, n, .inl f))) (hin : ¬ (i < 0 ∨ n ≤ i.toNatClampNeg)) (hf : f' = upd f i.toNatClampNeg (vp_nar .byte x)) (hw : ws.set q (a, .inl (cB, n, .inl f')) = ws') (kk : G D nL k cells slots (pc + 1) L st ws') : G D nL k cells slots pc L (.int x :: .int i :: .ref a :: st) ws := by
  obtain ⟨p, l, e, R, s, m, args, below, meth, c, Q, A⟩ := k
  subst hf
  subst hw
  exact fun H locs ls h1 h2 h3 h4 => va_bast F.1.1 F.1.2.1 F.2.1 h2 h3 h4 q 0 ha rfl hin d (fun H1 locs1 g2 g3 g4 => kk H1 locs1 ls h1 g2 g3 g4)
theorem G_lastore (F : GF k l R cc nL own D cB cI cJ) {q a n : Nat} {f f' : Nat → Int64} {i : Int32} {x : Int64} (d : decode cc pc = .ok (.lastore, 1)) (ha : ws[q]? = some (a, .inl (cJ, n, .inr (.inl f)))) (hin : ¬ (i < 0 ∨ n ≤ i.toNatClampNeg)) (hf : f' = vp_updL f i.toNatClampNeg x) (hw : ws.set q (a, .inl (cJ, n, .inr (.inl f'))) = ws') (kk : G D nL k cells slots (pc + 1) L st ws') : G D nL k cells slots pc L (.long x :: .int i :: .ref a :: st) ws := by
  obtain ⟨p, l, e, R, s, m, args, below, meth, c, Q, A⟩ := k
  subst hf
  subst hw
  exact fun H locs ls h1 h2 h3 h4 => va_last F.1.1 F.1.2.1 F.2.1 h2 h3 h4 q 2 ha rfl hin d (fun H1 locs1 g2 g3 g4 => kk H1 locs1 ls h1 g2 g3 g4)
theorem G_alenB (F : GF k l R cc nL own D cB cI cJ) {q a : Nat} {x : vp_A} (d : decode cc pc = .ok (.arraylength, 1)) (ha : ws[q]? = some (a, .inl (cB, x))) (kk : G D nL k cells slots (pc + 1) L (.int (Int32.ofNat x.1) :: st) ws) : G D nL k cells slots pc L (.ref a :: st) ws := by
  obtain ⟨p, l, e, R, s, m, args, below, meth, c, Q, A⟩ := k
  exact fun H locs ls h1 h2 h3 h4 => va_alen F.1.1 F.1.2.1 F.2.1 h2 q 0 ha rfl rfl d (kk H locs ls h1 h2 h3 h4)
theorem G_alenI (F : GF k l R cc nL own D cB cI cJ) {q a : Nat} {x : vp_A} (d : decode cc pc = .ok (.arraylength, 1)) (ha : ws[q]? = some (a, .inl (cI, x))) (kk : G D nL k cells slots (pc + 1) L (.int (Int32.ofNat x.1) :: st) ws) : G D nL k cells slots pc L (.ref a :: st) ws := by
  obtain ⟨p, l, e, R, s, m, args, below, meth, c, Q, A⟩ := k
  exact fun H locs ls h1 h2 h3 h4 => va_alen F.1.1 F.1.2.1 F.2.1 h2 q 1 ha rfl rfl d (kk H locs ls h1 h2 h3 h4)
theorem G_alenJ (F : GF k l R cc nL own D cB cI cJ) {q a : Nat} {x : vp_A} (d : decode cc pc = .ok (.arraylength, 1)) (ha : ws[q]? = some (a, .inl (cJ, x))) (kk : G D nL k cells slots (pc + 1) L (.int (Int32.ofNat x.1) :: st) ws) : G D nL k cells slots pc L (.ref a :: st) ws := by
  obtain ⟨p, l, e, R, s, m, args, below, meth, c, Q, A⟩ := k
  exact fun H locs ls h1 h2 h3 h4 => va_alen F.1.1 F.1.2.1 F.2.1 h2 q 2 ha rfl rfl d (kk H locs ls h1 h2 h3 h4)
def FA (own : String) (index ci j : Nat) (C : String) (T : u_T) (N : Nat) : Prop := (∀ w ∈ u_ws C T N, w ∈ AW) ∧ zCl[ci]? = some (C, T, N) ∧ j < N ∧ ∃ ref : String, (Cond.fieldLink own index ref (T j).2.1 (T j).2.2.1 ∈ AW ∨ ∃ host : String, Cond.fieldLinkNest own index ref (T j).2.1 (T j).2.2.1 host ∈ NW) ∧ (ref = (T j).1 ∨ Cond.sameField ref (T j).1 (T j).2.1 (T j).2.2.1 ∈ AW)
theorem FA_same {T : u_T} {j : Nat} {ref : String} {ar : Array Value} {s : State} (hts : ∀ w ∈ AW, w.before ar s = true) (h : ref = (T j).1 ∨ Cond.sameField ref (T j).1 (T j).2.1 (T j).2.2.1 ∈ AW) : ∀ x, s.fieldFound? (T j).1 (T j).2.1 (T j).2.2.1 = some x → s.fieldFound? ref (T j).2.1 (T j).2.2.1 = some x := by
  rcases h with h | h
  · subst h; exact fun _ h => h
  · exact fun x hx => u_same (hts _ h) x hx
theorem G_get (F : GF k l R cc nL own D cB cI cJ) {index ci j : Nat} {C : String} {T : u_T} {N : Nat} (fa : FA own index ci j C T N) {q a : Nat} {fs : List Value} {v : Value} (d : decode cc pc = .ok (.getfield index, 3)) (he : ws[q]? = some (a, .inr (ci, fs))) (hv : fs[j]? = some v) (kk : G D nL k cells slots (pc + 3) L (v :: st) ws) : G D nL k cells slots pc L (.ref a :: st) ws := by
  obtain ⟨p, l0, e, R0, s, m, args, below, meth, c, Q, A⟩ := k
  obtain ⟨hin, hc, hj, ref, hl, hs⟩ := fa
  obtain ⟨⟨hx, hb, hml, hown, hts⟩, hK, hN, -⟩ := F
  rcases hl with hl | ⟨host, hl⟩
  · exact fun H locs ls h1 h2 h3 h4 => va_get hx hb hts hin hown hK h2 q he hc j hj (hts _ hl) (FA_same hts hs) hv d (kk H locs ls h1 h2 h3 h4)
  · exact fun H locs ls h1 h2 h3 h4 => va_getN hx hb hts hin hown hK h2 q he hc j hj (va_Nw.use rfl (hN _ hl)) (FA_same hts hs) hv d (kk H locs ls h1 h2 h3 h4)
def FP (own : String) (index ci j : Nat) (C : String) (T : u_T) (N : Nat) : Prop := FA own index ci j C T N ∧ (∃ ty0 : Nat → FieldType, ∀ k, k < N → parseFieldDescriptor (T k).2.2.1 = some (ty0 k)) ∧ (∀ a, a < N → ∀ b, b < N → a ≠ b → (T a).2.1 ≠ (T b).2.1) ∧ (T j).2.2.2 = false ∧ parseFieldDescriptor (T j).2.2.1 = some .int
theorem G_put (F : GF k l R cc nL own D cB cI cJ) {index ci j : Nat} {C : String} {T : u_T} {N : Nat} (fp : FP own index ci j C T N) {q a : Nat} {fs : List Value} {v : Int32} (d : decode cc pc = .ok (.putfield index, 3)) (he : ws[q]? = some (a, .inr (ci, fs))) (hl : j < fs.length) (hw : ws.set q (a, .inr (ci, fs.set j (.int v))) = ws') (kk : G D nL k cells slots (pc + 3) L st ws') : G D nL k cells slots pc L (.int v :: .ref a :: st) ws := by
  obtain ⟨p, l0, e, R0, s, m, args, below, meth, c, Q, A⟩ := k
  obtain ⟨⟨hin, hc, hj, ref, hlk, hs⟩, ⟨ty0, hty⟩, hnm, hfin, hd⟩ := fp
  obtain ⟨⟨hx, hb, hml, hown, hts⟩, hK, hN, -⟩ := F
  subst hw
  rcases hlk with hk | ⟨host, hk⟩
  · exact fun H locs ls h1 h2 h3 h4 => va_put hx hb hts hin ty0 hty hnm hown hK h2 h3 h4 q he hc j hj (hts _ hk) (FA_same hts hs) hfin hd rfl rfl hl d (fun H1 locs1 g2 g3 g4 => kk H1 locs1 ls h1 g2 g3 g4)
  · exact fun H locs ls h1 h2 h3 h4 => va_putN hx hb hts hin ty0 hty hnm hown hK h2 h3 h4 q he hc j hj (va_Nw.use rfl (hN _ hk)) (FA_same hts hs) hfin hd rfl rfl hl d (fun H1 locs1 g2 g3 g4 => kk H1 locs1 ls h1 g2 g3 g4)
end GR
def setsW : va_W → List Nat → va_W → va_W
  | ws, [], _ => ws
  | ws, _ :: _, [] => ws
  | ws, i :: is, c :: cs => setsW (ws.set i c) is cs
theorem setsW_at : ∀ (is : List Nat) (cs ws : va_W) (k : Nat) (q : Nat × va_E), is.length = cs.length → (setsW ws is cs)[k]? = some q → (∃ j : Nat, cs[j]? = some q ∧ is[j]? = some k) ∨ (ws[k]? = some q ∧ k ∉ is)
  | [], cs, ws, k, q, _, h => Or.inr ⟨by simpa [setsW] using h, by simp⟩
  | i :: is, [], ws, k, q, hl, h => by simp at hl
  | i :: is, c :: cs, ws, k, q, hl, h => by
    have h1 : (setsW (ws.set i c) is cs)[k]? = some q := h
    rcases setsW_at is cs (ws.set i c) k q (by simpa using hl) h1 with ⟨j, a, b⟩ | ⟨a, b⟩
    · exact Or.inl ⟨j + 1, by simpa using a, by simpa using b⟩
    · by_cases hk : k = i
      · subst hk
        have hlt : k < ws.length := by
          have := (List.getElem?_eq_some_iff.mp a).1
          simpa using this
        rw [List.getElem?_set_self hlt] at a
        exact Or.inl ⟨0, by simpa using a, by simp⟩
      · rw [List.getElem?_set_ne (Ne.symm hk)] at a
        exact Or.inr ⟨a, by simp [hk, b]⟩
theorem map_at {f : Nat → Option (Nat × va_E)} {is : List Nat} {w : va_W} (h : is.map f = w.map some) {j : Nat} {q : Nat × va_E} (hq : w[j]? = some q) : ∃ i, is[j]? = some i ∧ f i = some q := by
  have h1 : (is.map f)[j]? = some (some q) := by rw [h, List.getElem?_map, hq]; rfl
  rw [List.getElem?_map] at h1
  cases hi : is[j]? with
  | none => rw [hi] at h1; cases h1
  | some i => rw [hi] at h1; exact ⟨i, rfl, Option.some.inj h1⟩
theorem map_fm {f : Nat → Option (Nat × va_E)} : ∀ {is : List Nat} {w : va_W}, is.map f = w.map some → is.filterMap f = w
  | [], [], _ => rfl
  | [], _ :: _, h => by simp at h
  | _ :: _, [], h => by simp at h
  | i :: is, q :: w, h => by
    simp only [List.map_cons, List.cons.injEq] at h
    rw [List.filterMap_cons, h.1, map_fm h.2]
theorem wj {A0 : Nat → Prop} {D : va_G} {cl : List vw_C} {ws w0 w1 ws' : va_W} {H H1 : Heap} (hP : va_P D cl ws H) (hD : va_D A0 ws) (isC : List Nat) (hC : isC.map (fun i => ws[i]?) = w0.map some) (ha : w1.map Prod.fst = w0.map Prod.fst) (hw : setsW ws isC w1 = ws') (hk : ∀ q : Nat, q < H.size → ¬ va_A w0 H.size q → H1[q]? = H[q]?) (hP1 : va_P D cl w1 H1) : va_P D cl ws' H1 ∧ va_D A0 ws' := by
  have l0 : isC.length = w0.length := by have := congrArg List.length hC; simpa using this
  have l1 : w1.length = w0.length := by have := congrArg List.length ha; simpa using this
  subst hw
  have key : ∀ (k : Nat) (q : Nat × va_E), (setsW ws isC w1)[k]? = some q → ∃ q0, ws[k]? = some q0 ∧ q0.1 = q.1 := by
    intro k q hq
    rcases setsW_at isC w1 ws k q (l0.trans l1.symm) hq with ⟨j, a, b⟩ | ⟨a, -⟩
    · have h1 : (w0.map Prod.fst)[j]? = some q.1 := by rw [← ha, List.getElem?_map, a]; rfl
      rw [List.getElem?_map] at h1
      cases h0 : w0[j]? with
      | none => rw [h0] at h1; cases h1
      | some q0 =>
        rw [h0] at h1
        obtain ⟨i, h2, h3⟩ := map_at hC h0
        rw [b] at h2
        cases h2
        exact ⟨q0, h3, Option.some.inj h1⟩
    · exact ⟨q, a, rfl⟩
  refine ⟨fun k q hq => ?_, fun i j x y hi hj hxy => ?_, fun k q hq => ?_⟩
  · rcases setsW_at isC w1 ws k q (l0.trans l1.symm) hq with ⟨j, a, b⟩ | ⟨a, b⟩
    · exact hP1 j q a
    · refine (hP k q a).kept (hk q.1 (hP k q a).lt ?_)
      rintro (⟨j, e, h⟩ | h)
      · obtain ⟨i, h2, h3⟩ := map_at hC h
        have := hD.1 k i q (q.1, e) a h3 rfl
        subst this
        exact b (List.mem_of_getElem? h2)
      · exact absurd (hP k q a).lt (by omega)
  · obtain ⟨x0, h1, h2⟩ := key i x hi
    obtain ⟨y0, h3, h4⟩ := key j y hj
    exact hD.1 i j x0 y0 h1 h3 (h2.trans (hxy.trans h4.symm))
  · obtain ⟨q0, h1, h2⟩ := key k q hq
    rw [← h2]
    exact hD.2 k q0 h1
theorem wj0 {A0 : Nat → Prop} {D : va_G} {cl : List vw_C} {ws w0 : va_W} {H H1 : Heap} (hP : va_P D cl ws H) (hD : va_D A0 ws) (isC : List Nat) (hC : isC.map (fun i => ws[i]?) = w0.map some) (hk : ∀ q : Nat, q < H.size → ¬ va_A w0 H.size q → H1[q]? = H[q]?) (hP1 : va_P D cl w0 H1) : va_P D cl ws H1 := by
  intro k q a
  by_cases hA : va_A w0 H.size q.1
  · rcases hA with ⟨j, e, h⟩ | h
    · obtain ⟨i, h2, h3⟩ := map_at hC h
      have := hD.1 k i q (q.1, e) a h3 rfl
      subst this
      have h4 : some q = some (q.1, e) := a.symm.trans h3
      rw [Option.some.inj h4]
      exact hP1 j (q.1, e) h
    · exact absurd (hP k q a).lt (by omega)
  · exact (hP k q a).kept (hk q.1 (hP k q a).lt hA)
def KP (D : va_G) (cB cI cJ : ClassId) (av : List Value) (w0 : va_W) (sz : Nat) : Array Value → State → Prop := va_Pc av (fun U => U.heap.size = sz ∧ va_P D zCl w0 U.heap ∧ va_K D zCl (gT cB cI cJ) U ∧ va_D (fun _ => True) w0 ∧ NK U)
def KB (D : va_G) (cB cI cJ : ClassId) (w0 : va_W) (sz : Nat) (w1 : va_W) : Unit → State → Prop := fun _ t => va_P D zCl w1 t.heap ∧ va_K D zCl (gT cB cI cJ) t ∧ va_D (va_A w0 sz) w1
def CoI (l : Launch) (y : MethodName) (wy : List Cond) (rm : Room) (D : va_G) (cB cI cJ : ClassId) (av : List Value) (w0 : va_W) (r : Int32) (w1 : va_W) : Prop := ∀ sz : Nat, Met l y wy rm (KP D cB cI cJ av w0 sz) (va_Qi (fun (x : Int32) (_ : Unit) => x = r) (KB D cB cI cJ w0 sz w1) (va_A w0 sz)) 0 0 (va_A w0 sz)
def CoV (l : Launch) (y : MethodName) (wy : List Cond) (rm : Room) (D : va_G) (cB cI cJ : ClassId) (av : List Value) (w0 : va_W) (w1 : va_W) : Prop := ∀ sz : Nat, Met l y wy rm (KP D cB cI cJ av w0 sz) (va_Qv (fun (_ : Unit) => True) (KB D cB cI cJ w0 sz w1) (va_A w0 sz)) 0 0 (va_A w0 sz)
theorem KP_blind {D : va_G} {cB cI cJ : ClassId} {av : List Value} {w0 : va_W} {sz : Nat} : FrameBlind (KP D cB cI cJ av w0 sz) := by
  intro a U g mk q
  obtain ⟨q0, q1, qP, qK, qD, qN⟩ := q
  exact ⟨q0, q1, qP, va_K.moved (u := U) (U := U.calling g mk a) (Vm.Alike.refl U.vm) qK, qD, NK_same (u := U) (U := U.calling g mk a) rfl qN⟩
theorem goodA {ls : List Cond} (h : ∀ w ∈ ls, w ∈ AW) : GoodIn AW ls := fun w hw => ⟨h w hw, aw_good w (h w hw)⟩

theorem CoI.ofG {l : Launch} {y : MethodName} {cc : ByteArray} {maxL : Nat} {own : String} {rm : Room} {D : va_G} {cB cI cJ : ClassId} {av : List Value} {w0 : va_W} {r : Int32} {w1 : va_W} {L0 : List (Nat × Value)} {Ts : List Cond} (hy : plainName y.cls = true) (hw : Ts = .code y cc maxL (some .int) :: AW) (ho : y.cls = own) (ha : w1.map Prod.fst = w0.map Prod.fst) (hrm : True) (hL : (lg_sl av).length ≤ maxL) (hl0 : lv_args 0 av = L0)
    (body : ∀ k : GC, GF k l rm cc maxL own D cB cI cJ → (∀ (pc : Nat) (L : List (Nat × Value)), decode cc pc = .ok (.ireturn, 1) → G D maxL k 0 0 pc L [.int r] w1) → G D maxL k 0 0 0 L0 [] w0) : CoI l y Ts rm D cB cI cJ av w0 r w1 := by
  intro sz
  refine Met.ofW (cc := cc) (maxL := maxL) (ret := (some .int)) hy hw ?_
  intro p e s m args below meth c s₁ B hml hv
  obtain ⟨rfl, hsz, hP, hK, hD0, hN⟩ := hv
  have hx := B.exec
  have hb := B.bytes
  have hr := B.returns
  have hts := atoms_spec (ws := Ts) B.pre
  have hown : s.vm.findClass own = some m.cls := by rw [← ho]; exact findClass_of_methodNamed B.named
  have hlocks := B.notSynchronized
  subst hsz
  have hD := hD0.self (sz := s.heap.size)
  have hA : ∀ q : Nat, s.heap.size ≤ q → va_A w0 s.heap.size q := fun q h => Or.inr h
  have hS : va_S (va_A w0 s.heap.size) s.heap s.heap [] := va_S.rf
  have hl := lv_entry av (n := maxL) hL
  rw [lg_entry_eq]
  rw [hl0] at hl
  have addr : va_D (va_A w0 s.heap.size) w1 := by
    have key : ∀ (k : Nat) (q : Nat × va_E), w1[k]? = some q → ∃ q0, w0[k]? = some q0 ∧ q0.1 = q.1 := by
      intro k q hq
      have h1 : (w0.map Prod.fst)[k]? = some q.1 := by rw [← ha, List.getElem?_map, hq]; rfl
      rw [List.getElem?_map] at h1
      cases h0 : w0[k]? with
      | none => rw [h0] at h1; cases h1
      | some q0 => rw [h0] at h1; exact ⟨q0, rfl, Option.some.inj h1⟩
    refine ⟨fun i j x y hi hj hxy => ?_, fun k q hq => ?_⟩
    · obtain ⟨x0, h1, h2⟩ := key i x hi
      obtain ⟨y0, h3, h4⟩ := key j y hj
      exact hD.1 i j x0 y0 h1 h3 (h2.trans (hxy.trans h4.symm))
    · obtain ⟨q0, h1, h2⟩ := key k q hq
      rw [← h2]
      exact hD.2 k q0 h1
  refine body (p, l, e, (headSpec Ts rm).room, s, m, av.toArray, below, meth, c, _, va_A w0 s.heap.size) ⟨⟨hx, hb, hml, hown, fun w h => hts w (by rw [hw]; exact List.mem_cons_of_mem _ h)⟩, hK, hN, rfl, rfl, hA⟩ ?_ s.heap [] _ hl hP hD hS
  intro pc L d H locs ls h1 h2 h3 h4
  exact W.iret hx hb hr (fun t ht hW => ⟨⟨r, (), rfl, rfl, by rw [ht]; exact h2, va_K.moved hW.alike hK, addr⟩, h4.F ht⟩) h4.2.2 d
theorem CoZ.ofG {l : Launch} {y : MethodName} {cc : ByteArray} {maxL : Nat} {own : String} {rm : Room} {D : va_G} {cB cI cJ : ClassId} {av : List Value} {w0 : va_W} {r : Int32} {w1 : va_W} {L0 : List (Nat × Value)} {Ts : List Cond} (hy : plainName y.cls = true) (hw : Ts = .code y cc maxL (some .boolean) :: AW) (ho : y.cls = own) (ha : w1.map Prod.fst = w0.map Prod.fst) (hrm : True) (hL : (lg_sl av).length ≤ maxL) (hl0 : lv_args 0 av = L0)
    (body : ∀ k : GC, GF k l rm cc maxL own D cB cI cJ → (∀ (pc : Nat) (L : List (Nat × Value)), decode cc pc = .ok (.ireturn, 1) → narrow .boolean (.int r) = .int r → G D maxL k 0 0 pc L [.int r] w1) → G D maxL k 0 0 0 L0 [] w0) : CoI l y Ts rm D cB cI cJ av w0 r w1 := by
  intro sz
  refine Met.ofW (cc := cc) (maxL := maxL) (ret := (some .boolean)) hy hw ?_
  intro p e s m args below meth c s₁ B hml hv
  obtain ⟨rfl, hsz, hP, hK, hD0, hN⟩ := hv
  have hx := B.exec
  have hb := B.bytes
  have hr := B.returns
  have hts := atoms_spec (ws := Ts) B.pre
  have hown : s.vm.findClass own = some m.cls := by rw [← ho]; exact findClass_of_methodNamed B.named
  have hlocks := B.notSynchronized
  subst hsz
  have hD := hD0.self (sz := s.heap.size)
  have hA : ∀ q : Nat, s.heap.size ≤ q → va_A w0 s.heap.size q := fun q h => Or.inr h
  have hS : va_S (va_A w0 s.heap.size) s.heap s.heap [] := va_S.rf
  have hl := lv_entry av (n := maxL) hL
  rw [lg_entry_eq]
  rw [hl0] at hl
  have addr : va_D (va_A w0 s.heap.size) w1 := by
    have key : ∀ (k : Nat) (q : Nat × va_E), w1[k]? = some q → ∃ q0, w0[k]? = some q0 ∧ q0.1 = q.1 := by
      intro k q hq
      have h1 : (w0.map Prod.fst)[k]? = some q.1 := by rw [← ha, List.getElem?_map, hq]; rfl
      rw [List.getElem?_map] at h1
      cases h0 : w0[k]? with
      | none => rw [h0] at h1; cases h1
      | some q0 => rw [h0] at h1; exact ⟨q0, rfl, Option.some.inj h1⟩
    refine ⟨fun i j x y hi hj hxy => ?_, fun k q hq => ?_⟩
    · obtain ⟨x0, h1, h2⟩ := key i x hi
      obtain ⟨y0, h3, h4⟩ := key j y hj
      exact hD.1 i j x0 y0 h1 h3 (h2.trans (hxy.trans h4.symm))
    · obtain ⟨q0, h1, h2⟩ := key k q hq
      rw [← h2]
      exact hD.2 k q0 h1
  refine body (p, l, e, (headSpec Ts rm).room, s, m, av.toArray, below, meth, c, _, va_A w0 s.heap.size) ⟨⟨hx, hb, hml, hown, fun w h => hts w (by rw [hw]; exact List.mem_cons_of_mem _ h)⟩, hK, hN, rfl, rfl, hA⟩ ?_ s.heap [] _ hl hP hD hS
  intro pc L d hz H locs ls h1 h2 h3 h4
  exact W.zret hx hb hr hz (fun t ht hW => ⟨⟨r, (), rfl, rfl, by rw [ht]; exact h2, va_K.moved hW.alike hK, addr⟩, h4.F ht⟩) h4.2.2 d
theorem CoV.ofG {l : Launch} {y : MethodName} {cc : ByteArray} {maxL : Nat} {own : String} {rm : Room} {D : va_G} {cB cI cJ : ClassId} {av : List Value} {w0 : va_W} {w1 : va_W} {L0 : List (Nat × Value)} {Ts : List Cond} (hy : plainName y.cls = true) (hw : Ts = .code y cc maxL none :: AW) (ho : y.cls = own) (ha : w1.map Prod.fst = w0.map Prod.fst) (hrm : True) (hL : (lg_sl av).length ≤ maxL) (hl0 : lv_args 0 av = L0)
    (body : ∀ k : GC, GF k l rm cc maxL own D cB cI cJ → (∀ (pc : Nat) (L : List (Nat × Value)), decode cc pc = .ok (.return_, 1) → G D maxL k 0 0 pc L [] w1) → G D maxL k 0 0 0 L0 [] w0) : CoV l y Ts rm D cB cI cJ av w0 w1 := by
  intro sz
  refine Met.ofW (cc := cc) (maxL := maxL) (ret := none) hy hw ?_
  intro p e s m args below meth c s₁ B hml hv
  obtain ⟨rfl, hsz, hP, hK, hD0, hN⟩ := hv
  have hx := B.exec
  have hb := B.bytes
  have hr := B.returns
  have hts := atoms_spec (ws := Ts) B.pre
  have hown : s.vm.findClass own = some m.cls := by rw [← ho]; exact findClass_of_methodNamed B.named
  have hlocks := B.notSynchronized
  subst hsz
  have hD := hD0.self (sz := s.heap.size)
  have hA : ∀ q : Nat, s.heap.size ≤ q → va_A w0 s.heap.size q := fun q h => Or.inr h
  have hS : va_S (va_A w0 s.heap.size) s.heap s.heap [] := va_S.rf
  have hl := lv_entry av (n := maxL) hL
  rw [lg_entry_eq]
  rw [hl0] at hl
  have addr : va_D (va_A w0 s.heap.size) w1 := by
    have key : ∀ (k : Nat) (q : Nat × va_E), w1[k]? = some q → ∃ q0, w0[k]? = some q0 ∧ q0.1 = q.1 := by
      intro k q hq
      have h1 : (w0.map Prod.fst)[k]? = some q.1 := by rw [← ha, List.getElem?_map, hq]; rfl
      rw [List.getElem?_map] at h1
      cases h0 : w0[k]? with
      | none => rw [h0] at h1; cases h1
      | some q0 => rw [h0] at h1; exact ⟨q0, rfl, Option.some.inj h1⟩
    refine ⟨fun i j x y hi hj hxy => ?_, fun k q hq => ?_⟩
    · obtain ⟨x0, h1, h2⟩ := key i x hi
      obtain ⟨y0, h3, h4⟩ := key j y hj
      exact hD.1 i j x0 y0 h1 h3 (h2.trans (hxy.trans h4.symm))
    · obtain ⟨q0, h1, h2⟩ := key k q hq
      rw [← h2]
      exact hD.2 k q0 h1
  refine body (p, l, e, (headSpec Ts rm).room, s, m, av.toArray, below, meth, c, _, va_A w0 s.heap.size) ⟨⟨hx, hb, hml, hown, fun w h => hts w (by rw [hw]; exact List.mem_cons_of_mem _ h)⟩, hK, hN, rfl, rfl, hA⟩ ?_ s.heap [] _ hl hP hD hS
  intro pc L d H locs ls h1 h2 h3 h4
  exact W.vret hx hb hr (fun t ht hW => ⟨⟨(), rfl, trivial, by rw [ht]; exact h2, va_K.moved hW.alike hK, addr⟩, h4.F ht⟩) h4.2.2 d
section GR2
variable {k : GC} {l : Launch} {R : Room} {cc : ByteArray} {nL : Nat} {own : String} {D : va_G} {cB cI cJ : ClassId} {cells slots pc : Nat} {L L' : List (Nat × Value)} {st : List Value} {ws ws' : va_W}
theorem G_calliV0 (F : GF k l R cc nL own D cB cI cJ) {y : MethodName} {bytes : ByteArray} {maxL n index : Nat} {ret : Option FieldType} {rm : Room} {As : List Value} {w0 : va_W} {r : Int32} {q0 ci b : Nat} {fs : List Value} (hM : CoI l y (.code y bytes maxL ret :: AW) rm D cB cI cJ (.ref b :: As) w0 r w0) {rest : List Value} (isC : List Nat) (hC : isC.map (fun i => ws[i]?) = w0.map some) (hnd : va_nd isC = true) (he : ws[q0]? = some (b, .inr (ci, fs))) (cv : Cond.methodLink own index y ∈ AW ∧ Cond.instanceMethod y ∈ AW ∧ Cond.selects y.cls y y ∈ AW ∧ Cond.initialized y.cls ∈ AW ∧ Cond.code y bytes maxL ret ∈ AW ∧ (∃ (T : u_T) (N : Nat), zCl[ci]? = some (y.cls, T, N)) ∧ y.cls ≠ "java/lang/invoke/MethodHandle" ∧ y.cls ≠ "java/lang/invoke/VarHandle" ∧ (parseMethodDescriptor y.desc).map (fun d => d.parameters.length) = some n) (hrc : rm.cells = 0) (hrs : rm.slots = 0) (hR : rm.frames + 1 ≤ R.frames ∧ 8 + (maxL + 11) + rm.locals ≤ R.locals) (hf : cells ≤ R.cells ∧ slots ≤ R.slots) (hn : As.length = n) (h8 : (rest.map fun v => v.category).sum ≤ 8) (d : decode cc pc = .ok (.invokevirtual index, 3)) (hst : st = (As.reverse ++ .ref b :: rest)) (kk : G D nL k cells slots (pc + 3) L (.int r :: rest) ws) : G D nL k cells slots pc L st ws := by
  obtain ⟨p, l0, e, R0, s, m, args, below, meth, c, Q, A⟩ := k
  subst hst
  obtain ⟨c1, c2, c3, c4, c5, ⟨T, N, hc⟩, hd⟩ := cv
  obtain ⟨⟨hx, hb, hml, hown, hts⟩, hK, hN, rfl, rfl, hA⟩ := F
  have hT : GoodIn AW (wsV own index y.cls y (.code y bytes maxL ret :: AW)) := goodA (by
    intro w hw
    simp only [wsV, List.cons_append, List.nil_append, List.mem_cons] at hw
    rcases hw with rfl | rfl | rfl | rfl | rfl | hw <;> assumption)
  have cw := cwV (R := R) n hts hT rfl hrc hrs ⟨rfl, hd⟩ hR
  intro H locs ls h1 h2 h3 h4
  have hPc := h2.sub (ws' := w0) isC (map_fm hC)
  have hDc := h3.sub (ws' := w0) isC hnd hC
  have hFc := va_free (wc := w0) h3 h4 hA isC hC
  refine va_calli (va_runV (rest := rest) ⟨hx, hb, hml, hown, hts⟩ (hM H.size) cw ⟨KP_blind, va_recv hK h2 hc he, fun U hU hW => ?_⟩ rfl hn h1.1 rfl (lv_room h8) d hf) h4 (fun q _ h => hFc q h) hFc (fun r2 u t H1 locs1 ht hvm hpost hB hz1 hk1 hS => ?_)
  · exact ⟨rfl, by rw [hU], by rw [hU]; exact hPc, va_K.moved hW.alike hK, hDc.weaken (fun _ _ _ _ => trivial), NK_warm hW hN⟩
  · obtain ⟨hP1, hK1, hD1⟩ := hB
    rw [ht] at hP1
    subst hpost
    exact kk H1 locs1 ls h1 (wj0 h2 h3 isC hC hk1 hP1) h3 hS
theorem G_calliV (F : GF k l R cc nL own D cB cI cJ) {y : MethodName} {bytes : ByteArray} {maxL n index : Nat} {ret : Option FieldType} {rm : Room} {As : List Value} {w0 w1 : va_W} {r : Int32} {q0 ci b : Nat} {fs : List Value} (hM : CoI l y (.code y bytes maxL ret :: AW) rm D cB cI cJ (.ref b :: As) w0 r w1) {rest : List Value} (isC : List Nat) (hC : isC.map (fun i => ws[i]?) = w0.map some) (hnd : va_nd isC = true) (ha : w1.map Prod.fst = w0.map Prod.fst) (hw : setsW ws isC w1 = ws') (he : ws[q0]? = some (b, .inr (ci, fs))) (cv : Cond.methodLink own index y ∈ AW ∧ Cond.instanceMethod y ∈ AW ∧ Cond.selects y.cls y y ∈ AW ∧ Cond.initialized y.cls ∈ AW ∧ Cond.code y bytes maxL ret ∈ AW ∧ (∃ (T : u_T) (N : Nat), zCl[ci]? = some (y.cls, T, N)) ∧ y.cls ≠ "java/lang/invoke/MethodHandle" ∧ y.cls ≠ "java/lang/invoke/VarHandle" ∧ (parseMethodDescriptor y.desc).map (fun d => d.parameters.length) = some n) (hrc : rm.cells = 0) (hrs : rm.slots = 0) (hR : rm.frames + 1 ≤ R.frames ∧ 8 + (maxL + 11) + rm.locals ≤ R.locals) (hf : cells ≤ R.cells ∧ slots ≤ R.slots) (hn : As.length = n) (h8 : (rest.map fun v => v.category).sum ≤ 8) (d : decode cc pc = .ok (.invokevirtual index, 3)) (hst : st = (As.reverse ++ .ref b :: rest)) (kk : G D nL k cells slots (pc + 3) L (.int r :: rest) ws') : G D nL k cells slots pc L st ws := by
  obtain ⟨p, l0, e, R0, s, m, args, below, meth, c, Q, A⟩ := k
  subst hst
  obtain ⟨c1, c2, c3, c4, c5, ⟨T, N, hc⟩, hd⟩ := cv
  obtain ⟨⟨hx, hb, hml, hown, hts⟩, hK, hN, rfl, rfl, hA⟩ := F
  have hT : GoodIn AW (wsV own index y.cls y (.code y bytes maxL ret :: AW)) := goodA (by
    intro w hw
    simp only [wsV, List.cons_append, List.nil_append, List.mem_cons] at hw
    rcases hw with rfl | rfl | rfl | rfl | rfl | hw <;> assumption)
  have cw := cwV (R := R) n hts hT rfl hrc hrs ⟨rfl, hd⟩ hR
  intro H locs ls h1 h2 h3 h4
  have hPc := h2.sub (ws' := w0) isC (map_fm hC)
  have hDc := h3.sub (ws' := w0) isC hnd hC
  have hFc := va_free (wc := w0) h3 h4 hA isC hC
  refine va_calli (va_runV (rest := rest) ⟨hx, hb, hml, hown, hts⟩ (hM H.size) cw ⟨KP_blind, va_recv hK h2 hc he, fun U hU hW => ?_⟩ rfl hn h1.1 rfl (lv_room h8) d hf) h4 (fun q _ h => hFc q h) hFc (fun r2 u t H1 locs1 ht hvm hpost hB hz1 hk1 hS => ?_)
  · exact ⟨rfl, by rw [hU], by rw [hU]; exact hPc, va_K.moved hW.alike hK, hDc.weaken (fun _ _ _ _ => trivial), NK_warm hW hN⟩
  · obtain ⟨hP1, hK1, hD1⟩ := hB
    rw [ht] at hP1
    subst hpost
    obtain ⟨hP2, hD2⟩ := wj h2 h3 isC hC ha hw hk1 hP1
    exact kk H1 locs1 ls h1 hP2 hD2 hS
theorem G_callvV0 (F : GF k l R cc nL own D cB cI cJ) {y : MethodName} {bytes : ByteArray} {maxL n index : Nat} {ret : Option FieldType} {rm : Room} {As : List Value} {w0 : va_W} {q0 ci b : Nat} {fs : List Value} (hM : CoV l y (.code y bytes maxL ret :: AW) rm D cB cI cJ (.ref b :: As) w0 w0) {rest : List Value} (isC : List Nat) (hC : isC.map (fun i => ws[i]?) = w0.map some) (hnd : va_nd isC = true) (he : ws[q0]? = some (b, .inr (ci, fs))) (cv : Cond.methodLink own index y ∈ AW ∧ Cond.instanceMethod y ∈ AW ∧ Cond.selects y.cls y y ∈ AW ∧ Cond.initialized y.cls ∈ AW ∧ Cond.code y bytes maxL ret ∈ AW ∧ (∃ (T : u_T) (N : Nat), zCl[ci]? = some (y.cls, T, N)) ∧ y.cls ≠ "java/lang/invoke/MethodHandle" ∧ y.cls ≠ "java/lang/invoke/VarHandle" ∧ (parseMethodDescriptor y.desc).map (fun d => d.parameters.length) = some n) (hrc : rm.cells = 0) (hrs : rm.slots = 0) (hR : rm.frames + 1 ≤ R.frames ∧ 8 + (maxL + 11) + rm.locals ≤ R.locals) (hf : cells ≤ R.cells ∧ slots ≤ R.slots) (hn : As.length = n) (h8 : (rest.map fun v => v.category).sum ≤ 8) (d : decode cc pc = .ok (.invokevirtual index, 3)) (hst : st = (As.reverse ++ .ref b :: rest)) (kk : G D nL k cells slots (pc + 3) L rest ws) : G D nL k cells slots pc L st ws := by
  obtain ⟨p, l0, e, R0, s, m, args, below, meth, c, Q, A⟩ := k
  subst hst
  obtain ⟨c1, c2, c3, c4, c5, ⟨T, N, hc⟩, hd⟩ := cv
  obtain ⟨⟨hx, hb, hml, hown, hts⟩, hK, hN, rfl, rfl, hA⟩ := F
  have hT : GoodIn AW (wsV own index y.cls y (.code y bytes maxL ret :: AW)) := goodA (by
    intro w hw
    simp only [wsV, List.cons_append, List.nil_append, List.mem_cons] at hw
    rcases hw with rfl | rfl | rfl | rfl | rfl | hw <;> assumption)
  have cw := cwV (R := R) n hts hT rfl hrc hrs ⟨rfl, hd⟩ hR
  intro H locs ls h1 h2 h3 h4
  have hPc := h2.sub (ws' := w0) isC (map_fm hC)
  have hDc := h3.sub (ws' := w0) isC hnd hC
  have hFc := va_free (wc := w0) h3 h4 hA isC hC
  refine va_callv (va_runV (rest := rest) ⟨hx, hb, hml, hown, hts⟩ (hM H.size) cw ⟨KP_blind, va_recv hK h2 hc he, fun U hU hW => ?_⟩ rfl hn h1.1 rfl (lv_room h8) d hf) h4 (fun q _ h => hFc q h) hFc (fun u t H1 locs1 ht hvm hpost hB hz1 hk1 hS => ?_)
  · exact ⟨rfl, by rw [hU], by rw [hU]; exact hPc, va_K.moved hW.alike hK, hDc.weaken (fun _ _ _ _ => trivial), NK_warm hW hN⟩
  · obtain ⟨hP1, hK1, hD1⟩ := hB
    rw [ht] at hP1
    exact kk H1 locs1 ls h1 (wj0 h2 h3 isC hC hk1 hP1) h3 hS
theorem G_callvV (F : GF k l R cc nL own D cB cI cJ) {y : MethodName} {bytes : ByteArray} {maxL n index : Nat} {ret : Option FieldType} {rm : Room} {As : List Value} {w0 w1 : va_W} {q0 ci b : Nat} {fs : List Value} (hM : CoV l y (.code y bytes maxL ret :: AW) rm D cB cI cJ (.ref b :: As) w0 w1) {rest : List Value} (isC : List Nat) (hC : isC.map (fun i => ws[i]?) = w0.map some) (hnd : va_nd isC = true) (ha : w1.map Prod.fst = w0.map Prod.fst) (hw : setsW ws isC w1 = ws') (he : ws[q0]? = some (b, .inr (ci, fs))) (cv : Cond.methodLink own index y ∈ AW ∧ Cond.instanceMethod y ∈ AW ∧ Cond.selects y.cls y y ∈ AW ∧ Cond.initialized y.cls ∈ AW ∧ Cond.code y bytes maxL ret ∈ AW ∧ (∃ (T : u_T) (N : Nat), zCl[ci]? = some (y.cls, T, N)) ∧ y.cls ≠ "java/lang/invoke/MethodHandle" ∧ y.cls ≠ "java/lang/invoke/VarHandle" ∧ (parseMethodDescriptor y.desc).map (fun d => d.parameters.length) = some n) (hrc : rm.cells = 0) (hrs : rm.slots = 0) (hR : rm.frames + 1 ≤ R.frames ∧ 8 + (maxL + 11) + rm.locals ≤ R.locals) (hf : cells ≤ R.cells ∧ slots ≤ R.slots) (hn : As.length = n) (h8 : (rest.map fun v => v.category).sum ≤ 8) (d : decode cc pc = .ok (.invokevirtual index, 3)) (hst : st = (As.reverse ++ .ref b :: rest)) (kk : G D nL k cells slots (pc + 3) L rest ws') : G D nL k cells slots pc L st ws := by
  obtain ⟨p, l0, e, R0, s, m, args, below, meth, c, Q, A⟩ := k
  subst hst
  obtain ⟨c1, c2, c3, c4, c5, ⟨T, N, hc⟩, hd⟩ := cv
  obtain ⟨⟨hx, hb, hml, hown, hts⟩, hK, hN, rfl, rfl, hA⟩ := F
  have hT : GoodIn AW (wsV own index y.cls y (.code y bytes maxL ret :: AW)) := goodA (by
    intro w hw
    simp only [wsV, List.cons_append, List.nil_append, List.mem_cons] at hw
    rcases hw with rfl | rfl | rfl | rfl | rfl | hw <;> assumption)
  have cw := cwV (R := R) n hts hT rfl hrc hrs ⟨rfl, hd⟩ hR
  intro H locs ls h1 h2 h3 h4
  have hPc := h2.sub (ws' := w0) isC (map_fm hC)
  have hDc := h3.sub (ws' := w0) isC hnd hC
  have hFc := va_free (wc := w0) h3 h4 hA isC hC
  refine va_callv (va_runV (rest := rest) ⟨hx, hb, hml, hown, hts⟩ (hM H.size) cw ⟨KP_blind, va_recv hK h2 hc he, fun U hU hW => ?_⟩ rfl hn h1.1 rfl (lv_room h8) d hf) h4 (fun q _ h => hFc q h) hFc (fun u t H1 locs1 ht hvm hpost hB hz1 hk1 hS => ?_)
  · exact ⟨rfl, by rw [hU], by rw [hU]; exact hPc, va_K.moved hW.alike hK, hDc.weaken (fun _ _ _ _ => trivial), NK_warm hW hN⟩
  · obtain ⟨hP1, hK1, hD1⟩ := hB
    rw [ht] at hP1
    obtain ⟨hP2, hD2⟩ := wj h2 h3 isC hC ha hw hk1 hP1
    exact kk H1 locs1 ls h1 hP2 hD2 hS
theorem G_calliU0 (F : GF k l R cc nL own D cB cI cJ) {y : MethodName} {bytes : ByteArray} {maxL n index : Nat} {ret : Option FieldType} {rm : Room} {As : List Value} {w0 : va_W} {r : Int32} {q0 ci b : Nat} {fs : List Value} (hM : CoI l y (.code y bytes maxL ret :: AW) rm D cB cI cJ (.ref b :: As) w0 r w0) {rest : List Value} (isC : List Nat) (hC : isC.map (fun i => ws[i]?) = w0.map some) (hnd : va_nd isC = true) (he : ws[q0]? = some (b, .inr (ci, fs))) {x : MethodName} {owner C : String} (cv : Cond.methodLink own index x ∈ AW ∧ Cond.sameMethod x.cls owner x.name x.desc ∈ AW ∧ Cond.selects C x y ∈ AW ∧ Cond.instanceMethod y ∈ AW ∧ Cond.initialized y.cls ∈ AW ∧ Cond.code y bytes maxL ret ∈ AW ∧ (∃ (T : u_T) (N : Nat), zCl[ci]? = some (C, T, N)) ∧ y = ⟨owner, x.name, x.desc⟩ ∧ owner ≠ "java/lang/invoke/MethodHandle" ∧ owner ≠ "java/lang/invoke/VarHandle" ∧ (parseMethodDescriptor x.desc).map (fun d => d.parameters.length) = some n) (hrc : rm.cells = 0) (hrs : rm.slots = 0) (hR : rm.frames + 1 ≤ R.frames ∧ 8 + (maxL + 11) + rm.locals ≤ R.locals) (hf : cells ≤ R.cells ∧ slots ≤ R.slots) (hn : As.length = n) (h8 : (rest.map fun v => v.category).sum ≤ 8) (d : decode cc pc = .ok (.invokevirtual index, 3)) (hst : st = (As.reverse ++ .ref b :: rest)) (kk : G D nL k cells slots (pc + 3) L (.int r :: rest) ws) : G D nL k cells slots pc L st ws := by
  obtain ⟨p, l0, e, R0, s, m, args, below, meth, c, Q, A⟩ := k
  subst hst
  obtain ⟨c1, c2, c3, c4, c5, c6, ⟨T, N, hc⟩, hyx, hd⟩ := cv
  obtain ⟨⟨hx, hb, hml, hown, hts⟩, hK, hN, rfl, rfl, hA⟩ := F
  have hT : GoodIn AW (va_wsU own index C owner x y (.code y bytes maxL ret :: AW)) := goodA (by
    intro w hw
    simp only [va_wsU, List.cons_append, List.nil_append, List.mem_cons] at hw
    rcases hw with rfl | rfl | rfl | rfl | rfl | rfl | hw <;> assumption)
  have cw := va_cwU (R := R) n hts hT rfl hrc hrs hyx hd hR
  intro H locs ls h1 h2 h3 h4
  have hPc := h2.sub (ws' := w0) isC (map_fm hC)
  have hDc := h3.sub (ws' := w0) isC hnd hC
  have hFc := va_free (wc := w0) h3 h4 hA isC hC
  refine va_calli (va_runU (rest := rest) ⟨hx, hb, hml, hown, hts⟩ (hM H.size) cw ⟨KP_blind, va_recv hK h2 hc he, fun U hU hW => ?_⟩ rfl hn h1.1 rfl (lv_room h8) d hf) h4 (fun q _ h => hFc q h) hFc (fun r2 u t H1 locs1 ht hvm hpost hB hz1 hk1 hS => ?_)
  · exact ⟨rfl, by rw [hU], by rw [hU]; exact hPc, va_K.moved hW.alike hK, hDc.weaken (fun _ _ _ _ => trivial), NK_warm hW hN⟩
  · obtain ⟨hP1, hK1, hD1⟩ := hB
    rw [ht] at hP1
    subst hpost
    exact kk H1 locs1 ls h1 (wj0 h2 h3 isC hC hk1 hP1) h3 hS
theorem G_calliU (F : GF k l R cc nL own D cB cI cJ) {y : MethodName} {bytes : ByteArray} {maxL n index : Nat} {ret : Option FieldType} {rm : Room} {As : List Value} {w0 w1 : va_W} {r : Int32} {q0 ci b : Nat} {fs : List Value} (hM : CoI l y (.code y bytes maxL ret :: AW) rm D cB cI cJ (.ref b :: As) w0 r w1) {rest : List Value} (isC : List Nat) (hC : isC.map (fun i => ws[i]?) = w0.map some) (hnd : va_nd isC = true) (ha : w1.map Prod.fst = w0.map Prod.fst) (hw : setsW ws isC w1 = ws') (he : ws[q0]? = some (b, .inr (ci, fs))) {x : MethodName} {owner C : String} (cv : Cond.methodLink own index x ∈ AW ∧ Cond.sameMethod x.cls owner x.name x.desc ∈ AW ∧ Cond.selects C x y ∈ AW ∧ Cond.instanceMethod y ∈ AW ∧ Cond.initialized y.cls ∈ AW ∧ Cond.code y bytes maxL ret ∈ AW ∧ (∃ (T : u_T) (N : Nat), zCl[ci]? = some (C, T, N)) ∧ y = ⟨owner, x.name, x.desc⟩ ∧ owner ≠ "java/lang/invoke/MethodHandle" ∧ owner ≠ "java/lang/invoke/VarHandle" ∧ (parseMethodDescriptor x.desc).map (fun d => d.parameters.length) = some n) (hrc : rm.cells = 0) (hrs : rm.slots = 0) (hR : rm.frames + 1 ≤ R.frames ∧ 8 + (maxL + 11) + rm.locals ≤ R.locals) (hf : cells ≤ R.cells ∧ slots ≤ R.slots) (hn : As.length = n) (h8 : (rest.map fun v => v.category).sum ≤ 8) (d : decode cc pc = .ok (.invokevirtual index, 3)) (hst : st = (As.reverse ++ .ref b :: rest)) (kk : G D nL k cells slots (pc + 3) L (.int r :: rest) ws') : G D nL k cells slots pc L st ws := by
  obtain ⟨p, l0, e, R0, s, m, args, below, meth, c, Q, A⟩ := k
  subst hst
  obtain ⟨c1, c2, c3, c4, c5, c6, ⟨T, N, hc⟩, hyx, hd⟩ := cv
  obtain ⟨⟨hx, hb, hml, hown, hts⟩, hK, hN, rfl, rfl, hA⟩ := F
  have hT : GoodIn AW (va_wsU own index C owner x y (.code y bytes maxL ret :: AW)) := goodA (by
    intro w hw
    simp only [va_wsU, List.cons_append, List.nil_append, List.mem_cons] at hw
    rcases hw with rfl | rfl | rfl | rfl | rfl | rfl | hw <;> assumption)
  have cw := va_cwU (R := R) n hts hT rfl hrc hrs hyx hd hR
  intro H locs ls h1 h2 h3 h4
  have hPc := h2.sub (ws' := w0) isC (map_fm hC)
  have hDc := h3.sub (ws' := w0) isC hnd hC
  have hFc := va_free (wc := w0) h3 h4 hA isC hC
  refine va_calli (va_runU (rest := rest) ⟨hx, hb, hml, hown, hts⟩ (hM H.size) cw ⟨KP_blind, va_recv hK h2 hc he, fun U hU hW => ?_⟩ rfl hn h1.1 rfl (lv_room h8) d hf) h4 (fun q _ h => hFc q h) hFc (fun r2 u t H1 locs1 ht hvm hpost hB hz1 hk1 hS => ?_)
  · exact ⟨rfl, by rw [hU], by rw [hU]; exact hPc, va_K.moved hW.alike hK, hDc.weaken (fun _ _ _ _ => trivial), NK_warm hW hN⟩
  · obtain ⟨hP1, hK1, hD1⟩ := hB
    rw [ht] at hP1
    subst hpost
    obtain ⟨hP2, hD2⟩ := wj h2 h3 isC hC ha hw hk1 hP1
    exact kk H1 locs1 ls h1 hP2 hD2 hS
theorem G_callvU0 (F : GF k l R cc nL own D cB cI cJ) {y : MethodName} {bytes : ByteArray} {maxL n index : Nat} {ret : Option FieldType} {rm : Room} {As : List Value} {w0 : va_W} {q0 ci b : Nat} {fs : List Value} (hM : CoV l y (.code y bytes maxL ret :: AW) rm D cB cI cJ (.ref b :: As) w0 w0) {rest : List Value} (isC : List Nat) (hC : isC.map (fun i => ws[i]?) = w0.map some) (hnd : va_nd isC = true) (he : ws[q0]? = some (b, .inr (ci, fs))) {x : MethodName} {owner C : String} (cv : Cond.methodLink own index x ∈ AW ∧ Cond.sameMethod x.cls owner x.name x.desc ∈ AW ∧ Cond.selects C x y ∈ AW ∧ Cond.instanceMethod y ∈ AW ∧ Cond.initialized y.cls ∈ AW ∧ Cond.code y bytes maxL ret ∈ AW ∧ (∃ (T : u_T) (N : Nat), zCl[ci]? = some (C, T, N)) ∧ y = ⟨owner, x.name, x.desc⟩ ∧ owner ≠ "java/lang/invoke/MethodHandle" ∧ owner ≠ "java/lang/invoke/VarHandle" ∧ (parseMethodDescriptor x.desc).map (fun d => d.parameters.length) = some n) (hrc : rm.cells = 0) (hrs : rm.slots = 0) (hR : rm.frames + 1 ≤ R.frames ∧ 8 + (maxL + 11) + rm.locals ≤ R.locals) (hf : cells ≤ R.cells ∧ slots ≤ R.slots) (hn : As.length = n) (h8 : (rest.map fun v => v.category).sum ≤ 8) (d : decode cc pc = .ok (.invokevirtual index, 3)) (hst : st = (As.reverse ++ .ref b :: rest)) (kk : G D nL k cells slots (pc + 3) L rest ws) : G D nL k cells slots pc L st ws := by
  obtain ⟨p, l0, e, R0, s, m, args, below, meth, c, Q, A⟩ := k
  subst hst
  obtain ⟨c1, c2, c3, c4, c5, c6, ⟨T, N, hc⟩, hyx, hd⟩ := cv
  obtain ⟨⟨hx, hb, hml, hown, hts⟩, hK, hN, rfl, rfl, hA⟩ := F
  have hT : GoodIn AW (va_wsU own index C owner x y (.code y bytes maxL ret :: AW)) := goodA (by
    intro w hw
    simp only [va_wsU, List.cons_append, List.nil_append, List.mem_cons] at hw
    rcases hw with rfl | rfl | rfl | rfl | rfl | rfl | hw <;> assumption)
  have cw := va_cwU (R := R) n hts hT rfl hrc hrs hyx hd hR
  intro H locs ls h1 h2 h3 h4
  have hPc := h2.sub (ws' := w0) isC (map_fm hC)
  have hDc := h3.sub (ws' := w0) isC hnd hC
  have hFc := va_free (wc := w0) h3 h4 hA isC hC
  refine va_callv (va_runU (rest := rest) ⟨hx, hb, hml, hown, hts⟩ (hM H.size) cw ⟨KP_blind, va_recv hK h2 hc he, fun U hU hW => ?_⟩ rfl hn h1.1 rfl (lv_room h8) d hf) h4 (fun q _ h => hFc q h) hFc (fun u t H1 locs1 ht hvm hpost hB hz1 hk1 hS => ?_)
  · exact ⟨rfl, by rw [hU], by rw [hU]; exact hPc, va_K.moved hW.alike hK, hDc.weaken (fun _ _ _ _ => trivial), NK_warm hW hN⟩
  · obtain ⟨hP1, hK1, hD1⟩ := hB
    rw [ht] at hP1
    exact kk H1 locs1 ls h1 (wj0 h2 h3 isC hC hk1 hP1) h3 hS
theorem G_callvU (F : GF k l R cc nL own D cB cI cJ) {y : MethodName} {bytes : ByteArray} {maxL n index : Nat} {ret : Option FieldType} {rm : Room} {As : List Value} {w0 w1 : va_W} {q0 ci b : Nat} {fs : List Value} (hM : CoV l y (.code y bytes maxL ret :: AW) rm D cB cI cJ (.ref b :: As) w0 w1) {rest : List Value} (isC : List Nat) (hC : isC.map (fun i => ws[i]?) = w0.map some) (hnd : va_nd isC = true) (ha : w1.map Prod.fst = w0.map Prod.fst) (hw : setsW ws isC w1 = ws') (he : ws[q0]? = some (b, .inr (ci, fs))) {x : MethodName} {owner C : String} (cv : Cond.methodLink own index x ∈ AW ∧ Cond.sameMethod x.cls owner x.name x.desc ∈ AW ∧ Cond.selects C x y ∈ AW ∧ Cond.instanceMethod y ∈ AW ∧ Cond.initialized y.cls ∈ AW ∧ Cond.code y bytes maxL ret ∈ AW ∧ (∃ (T : u_T) (N : Nat), zCl[ci]? = some (C, T, N)) ∧ y = ⟨owner, x.name, x.desc⟩ ∧ owner ≠ "java/lang/invoke/MethodHandle" ∧ owner ≠ "java/lang/invoke/VarHandle" ∧ (parseMethodDescriptor x.desc).map (fun d => d.parameters.length) = some n) (hrc : rm.cells = 0) (hrs : rm.slots = 0) (hR : rm.frames + 1 ≤ R.frames ∧ 8 + (maxL + 11) + rm.locals ≤ R.locals) (hf : cells ≤ R.cells ∧ slots ≤ R.slots) (hn : As.length = n) (h8 : (rest.map fun v => v.category).sum ≤ 8) (d : decode cc pc = .ok (.invokevirtual index, 3)) (hst : st = (As.reverse ++ .ref b :: rest)) (kk : G D nL k cells slots (pc + 3) L rest ws') : G D nL k cells slots pc L st ws := by
  obtain ⟨p, l0, e, R0, s, m, args, below, meth, c, Q, A⟩ := k
  subst hst
  obtain ⟨c1, c2, c3, c4, c5, c6, ⟨T, N, hc⟩, hyx, hd⟩ := cv
  obtain ⟨⟨hx, hb, hml, hown, hts⟩, hK, hN, rfl, rfl, hA⟩ := F
  have hT : GoodIn AW (va_wsU own index C owner x y (.code y bytes maxL ret :: AW)) := goodA (by
    intro w hw
    simp only [va_wsU, List.cons_append, List.nil_append, List.mem_cons] at hw
    rcases hw with rfl | rfl | rfl | rfl | rfl | rfl | hw <;> assumption)
  have cw := va_cwU (R := R) n hts hT rfl hrc hrs hyx hd hR
  intro H locs ls h1 h2 h3 h4
  have hPc := h2.sub (ws' := w0) isC (map_fm hC)
  have hDc := h3.sub (ws' := w0) isC hnd hC
  have hFc := va_free (wc := w0) h3 h4 hA isC hC
  refine va_callv (va_runU (rest := rest) ⟨hx, hb, hml, hown, hts⟩ (hM H.size) cw ⟨KP_blind, va_recv hK h2 hc he, fun U hU hW => ?_⟩ rfl hn h1.1 rfl (lv_room h8) d hf) h4 (fun q _ h => hFc q h) hFc (fun u t H1 locs1 ht hvm hpost hB hz1 hk1 hS => ?_)
  · exact ⟨rfl, by rw [hU], by rw [hU]; exact hPc, va_K.moved hW.alike hK, hDc.weaken (fun _ _ _ _ => trivial), NK_warm hW hN⟩
  · obtain ⟨hP1, hK1, hD1⟩ := hB
    rw [ht] at hP1
    obtain ⟨hP2, hD2⟩ := wj h2 h3 isC hC ha hw hk1 hP1
    exact kk H1 locs1 ls h1 hP2 hD2 hS
theorem G_calliA0 (F : GF k l R cc nL own D cB cI cJ) {y : MethodName} {bytes : ByteArray} {maxL n index : Nat} {ret : Option FieldType} {rm : Room} {As : List Value} {w0 : va_W} {r : Int32} {q0 ci b : Nat} {fs : List Value} (hM : CoI l y (.code y bytes maxL ret :: AW) rm D cB cI cJ (.ref b :: As) w0 r w0) {rest : List Value} (isC : List Nat) (hC : isC.map (fun i => ws[i]?) = w0.map some) (hnd : va_nd isC = true) (he : ws[q0]? = some (b, .inr (ci, fs))) {x : MethodName} {owner C : String} (cv : Cond.methodLink own index x ∈ AW ∧ Cond.sameMethod x.cls owner x.name x.desc ∈ AW ∧ Cond.selects C x y ∈ AW ∧ Cond.instanceMethod y ∈ AW ∧ Cond.initialized y.cls ∈ AW ∧ Cond.code y bytes maxL ret ∈ AW ∧ (∃ (T : u_T) (N : Nat), zCl[ci]? = some (C, T, N)) ∧ Cond.declares ⟨owner, x.name, x.desc⟩ ∈ NW ∧ owner ≠ "java/lang/invoke/MethodHandle" ∧ owner ≠ "java/lang/invoke/VarHandle" ∧ (parseMethodDescriptor x.desc).map (fun d => d.parameters.length) = some n) (hrc : rm.cells = 0) (hrs : rm.slots = 0) (hR : rm.frames + 1 ≤ R.frames ∧ 8 + (maxL + 11) + rm.locals ≤ R.locals) (hf : cells ≤ R.cells ∧ slots ≤ R.slots) (hn : As.length = n) (h8 : (rest.map fun v => v.category).sum ≤ 8) (d : decode cc pc = .ok (.invokevirtual index, 3)) (hst : st = (As.reverse ++ .ref b :: rest)) (kk : G D nL k cells slots (pc + 3) L (.int r :: rest) ws) : G D nL k cells slots pc L st ws := by
  obtain ⟨p, l0, e, R0, s, m, args, below, meth, c, Q, A⟩ := k
  subst hst
  obtain ⟨c1, c2, c3, c4, c5, c6, ⟨T, N, hc⟩, hz, hd⟩ := cv
  obtain ⟨⟨hx, hb, hml, hown, hts⟩, hK, hN, rfl, rfl, hA⟩ := F
  have hT : GoodIn AW (va_wsU own index C owner x y (.code y bytes maxL ret :: AW)) := goodA (by
    intro w hw
    simp only [va_wsU, List.cons_append, List.nil_append, List.mem_cons] at hw
    rcases hw with rfl | rfl | rfl | rfl | rfl | rfl | hw <;> assumption)
  have cw := va_cwA (R := R) n hts hT rfl hrc hrs (hN _ hz) hd hR
  intro H locs ls h1 h2 h3 h4
  have hPc := h2.sub (ws' := w0) isC (map_fm hC)
  have hDc := h3.sub (ws' := w0) isC hnd hC
  have hFc := va_free (wc := w0) h3 h4 hA isC hC
  refine va_calli (va_runU (rest := rest) ⟨hx, hb, hml, hown, hts⟩ (hM H.size) cw ⟨KP_blind, va_recv hK h2 hc he, fun U hU hW => ?_⟩ rfl hn h1.1 rfl (lv_room h8) d hf) h4 (fun q _ h => hFc q h) hFc (fun r2 u t H1 locs1 ht hvm hpost hB hz1 hk1 hS => ?_)
  · exact ⟨rfl, by rw [hU], by rw [hU]; exact hPc, va_K.moved hW.alike hK, hDc.weaken (fun _ _ _ _ => trivial), NK_warm hW hN⟩
  · obtain ⟨hP1, hK1, hD1⟩ := hB
    rw [ht] at hP1
    subst hpost
    exact kk H1 locs1 ls h1 (wj0 h2 h3 isC hC hk1 hP1) h3 hS
theorem G_calliA (F : GF k l R cc nL own D cB cI cJ) {y : MethodName} {bytes : ByteArray} {maxL n index : Nat} {ret : Option FieldType} {rm : Room} {As : List Value} {w0 w1 : va_W} {r : Int32} {q0 ci b : Nat} {fs : List Value} (hM : CoI l y (.code y bytes maxL ret :: AW) rm D cB cI cJ (.ref b :: As) w0 r w1) {rest : List Value} (isC : List Nat) (hC : isC.map (fun i => ws[i]?) = w0.map some) (hnd : va_nd isC = true) (ha : w1.map Prod.fst = w0.map Prod.fst) (hw : setsW ws isC w1 = ws') (he : ws[q0]? = some (b, .inr (ci, fs))) {x : MethodName} {owner C : String} (cv : Cond.methodLink own index x ∈ AW ∧ Cond.sameMethod x.cls owner x.name x.desc ∈ AW ∧ Cond.selects C x y ∈ AW ∧ Cond.instanceMethod y ∈ AW ∧ Cond.initialized y.cls ∈ AW ∧ Cond.code y bytes maxL ret ∈ AW ∧ (∃ (T : u_T) (N : Nat), zCl[ci]? = some (C, T, N)) ∧ Cond.declares ⟨owner, x.name, x.desc⟩ ∈ NW ∧ owner ≠ "java/lang/invoke/MethodHandle" ∧ owner ≠ "java/lang/invoke/VarHandle" ∧ (parseMethodDescriptor x.desc).map (fun d => d.parameters.length) = some n) (hrc : rm.cells = 0) (hrs : rm.slots = 0) (hR : rm.frames + 1 ≤ R.frames ∧ 8 + (maxL + 11) + rm.locals ≤ R.locals) (hf : cells ≤ R.cells ∧ slots ≤ R.slots) (hn : As.length = n) (h8 : (rest.map fun v => v.category).sum ≤ 8) (d : decode cc pc = .ok (.invokevirtual index, 3)) (hst : st = (As.reverse ++ .ref b :: rest)) (kk : G D nL k cells slots (pc + 3) L (.int r :: rest) ws') : G D nL k cells slots pc L st ws := by
  obtain ⟨p, l0, e, R0, s, m, args, below, meth, c, Q, A⟩ := k
  subst hst
  obtain ⟨c1, c2, c3, c4, c5, c6, ⟨T, N, hc⟩, hz, hd⟩ := cv
  obtain ⟨⟨hx, hb, hml, hown, hts⟩, hK, hN, rfl, rfl, hA⟩ := F
  have hT : GoodIn AW (va_wsU own index C owner x y (.code y bytes maxL ret :: AW)) := goodA (by
    intro w hw
    simp only [va_wsU, List.cons_append, List.nil_append, List.mem_cons] at hw
    rcases hw with rfl | rfl | rfl | rfl | rfl | rfl | hw <;> assumption)
  have cw := va_cwA (R := R) n hts hT rfl hrc hrs (hN _ hz) hd hR
  intro H locs ls h1 h2 h3 h4
  have hPc := h2.sub (ws' := w0) isC (map_fm hC)
  have hDc := h3.sub (ws' := w0) isC hnd hC
  have hFc := va_free (wc := w0) h3 h4 hA isC hC
  refine va_calli (va_runU (rest := rest) ⟨hx, hb, hml, hown, hts⟩ (hM H.size) cw ⟨KP_blind, va_recv hK h2 hc he, fun U hU hW => ?_⟩ rfl hn h1.1 rfl (lv_room h8) d hf) h4 (fun q _ h => hFc q h) hFc (fun r2 u t H1 locs1 ht hvm hpost hB hz1 hk1 hS => ?_)
  · exact ⟨rfl, by rw [hU], by rw [hU]; exact hPc, va_K.moved hW.alike hK, hDc.weaken (fun _ _ _ _ => trivial), NK_warm hW hN⟩
  · obtain ⟨hP1, hK1, hD1⟩ := hB
    rw [ht] at hP1
    subst hpost
    obtain ⟨hP2, hD2⟩ := wj h2 h3 isC hC ha hw hk1 hP1
    exact kk H1 locs1 ls h1 hP2 hD2 hS
theorem G_callvA0 (F : GF k l R cc nL own D cB cI cJ) {y : MethodName} {bytes : ByteArray} {maxL n index : Nat} {ret : Option FieldType} {rm : Room} {As : List Value} {w0 : va_W} {q0 ci b : Nat} {fs : List Value} (hM : CoV l y (.code y bytes maxL ret :: AW) rm D cB cI cJ (.ref b :: As) w0 w0) {rest : List Value} (isC : List Nat) (hC : isC.map (fun i => ws[i]?) = w0.map some) (hnd : va_nd isC = true) (he : ws[q0]? = some (b, .inr (ci, fs))) {x : MethodName} {owner C : String} (cv : Cond.methodLink own index x ∈ AW ∧ Cond.sameMethod x.cls owner x.name x.desc ∈ AW ∧ Cond.selects C x y ∈ AW ∧ Cond.instanceMethod y ∈ AW ∧ Cond.initialized y.cls ∈ AW ∧ Cond.code y bytes maxL ret ∈ AW ∧ (∃ (T : u_T) (N : Nat), zCl[ci]? = some (C, T, N)) ∧ Cond.declares ⟨owner, x.name, x.desc⟩ ∈ NW ∧ owner ≠ "java/lang/invoke/MethodHandle" ∧ owner ≠ "java/lang/invoke/VarHandle" ∧ (parseMethodDescriptor x.desc).map (fun d => d.parameters.length) = some n) (hrc : rm.cells = 0) (hrs : rm.slots = 0) (hR : rm.frames + 1 ≤ R.frames ∧ 8 + (maxL + 11) + rm.locals ≤ R.locals) (hf : cells ≤ R.cells ∧ slots ≤ R.slots) (hn : As.length = n) (h8 : (rest.map fun v => v.category).sum ≤ 8) (d : decode cc pc = .ok (.invokevirtual index, 3)) (hst : st = (As.reverse ++ .ref b :: rest)) (kk : G D nL k cells slots (pc + 3) L rest ws) : G D nL k cells slots pc L st ws := by
  obtain ⟨p, l0, e, R0, s, m, args, below, meth, c, Q, A⟩ := k
  subst hst
  obtain ⟨c1, c2, c3, c4, c5, c6, ⟨T, N, hc⟩, hz, hd⟩ := cv
  obtain ⟨⟨hx, hb, hml, hown, hts⟩, hK, hN, rfl, rfl, hA⟩ := F
  have hT : GoodIn AW (va_wsU own index C owner x y (.code y bytes maxL ret :: AW)) := goodA (by
    intro w hw
    simp only [va_wsU, List.cons_append, List.nil_append, List.mem_cons] at hw
    rcases hw with rfl | rfl | rfl | rfl | rfl | rfl | hw <;> assumption)
  have cw := va_cwA (R := R) n hts hT rfl hrc hrs (hN _ hz) hd hR
  intro H locs ls h1 h2 h3 h4
  have hPc := h2.sub (ws' := w0) isC (map_fm hC)
  have hDc := h3.sub (ws' := w0) isC hnd hC
  have hFc := va_free (wc := w0) h3 h4 hA isC hC
  refine va_callv (va_runU (rest := rest) ⟨hx, hb, hml, hown, hts⟩ (hM H.size) cw ⟨KP_blind, va_recv hK h2 hc he, fun U hU hW => ?_⟩ rfl hn h1.1 rfl (lv_room h8) d hf) h4 (fun q _ h => hFc q h) hFc (fun u t H1 locs1 ht hvm hpost hB hz1 hk1 hS => ?_)
  · exact ⟨rfl, by rw [hU], by rw [hU]; exact hPc, va_K.moved hW.alike hK, hDc.weaken (fun _ _ _ _ => trivial), NK_warm hW hN⟩
  · obtain ⟨hP1, hK1, hD1⟩ := hB
    rw [ht] at hP1
    exact kk H1 locs1 ls h1 (wj0 h2 h3 isC hC hk1 hP1) h3 hS
theorem G_callvA (F : GF k l R cc nL own D cB cI cJ) {y : MethodName} {bytes : ByteArray} {maxL n index : Nat} {ret : Option FieldType} {rm : Room} {As : List Value} {w0 w1 : va_W} {q0 ci b : Nat} {fs : List Value} (hM : CoV l y (.code y bytes maxL ret :: AW) rm D cB cI cJ (.ref b :: As) w0 w1) {rest : List Value} (isC : List Nat) (hC : isC.map (fun i => ws[i]?) = w0.map some) (hnd : va_nd isC = true) (ha : w1.map Prod.fst = w0.map Prod.fst) (hw : setsW ws isC w1 = ws') (he : ws[q0]? = some (b, .inr (ci, fs))) {x : MethodName} {owner C : String} (cv : Cond.methodLink own index x ∈ AW ∧ Cond.sameMethod x.cls owner x.name x.desc ∈ AW ∧ Cond.selects C x y ∈ AW ∧ Cond.instanceMethod y ∈ AW ∧ Cond.initialized y.cls ∈ AW ∧ Cond.code y bytes maxL ret ∈ AW ∧ (∃ (T : u_T) (N : Nat), zCl[ci]? = some (C, T, N)) ∧ Cond.declares ⟨owner, x.name, x.desc⟩ ∈ NW ∧ owner ≠ "java/lang/invoke/MethodHandle" ∧ owner ≠ "java/lang/invoke/VarHandle" ∧ (parseMethodDescriptor x.desc).map (fun d => d.parameters.length) = some n) (hrc : rm.cells = 0) (hrs : rm.slots = 0) (hR : rm.frames + 1 ≤ R.frames ∧ 8 + (maxL + 11) + rm.locals ≤ R.locals) (hf : cells ≤ R.cells ∧ slots ≤ R.slots) (hn : As.length = n) (h8 : (rest.map fun v => v.category).sum ≤ 8) (d : decode cc pc = .ok (.invokevirtual index, 3)) (hst : st = (As.reverse ++ .ref b :: rest)) (kk : G D nL k cells slots (pc + 3) L rest ws') : G D nL k cells slots pc L st ws := by
  obtain ⟨p, l0, e, R0, s, m, args, below, meth, c, Q, A⟩ := k
  subst hst
  obtain ⟨c1, c2, c3, c4, c5, c6, ⟨T, N, hc⟩, hz, hd⟩ := cv
  obtain ⟨⟨hx, hb, hml, hown, hts⟩, hK, hN, rfl, rfl, hA⟩ := F
  have hT : GoodIn AW (va_wsU own index C owner x y (.code y bytes maxL ret :: AW)) := goodA (by
    intro w hw
    simp only [va_wsU, List.cons_append, List.nil_append, List.mem_cons] at hw
    rcases hw with rfl | rfl | rfl | rfl | rfl | rfl | hw <;> assumption)
  have cw := va_cwA (R := R) n hts hT rfl hrc hrs (hN _ hz) hd hR
  intro H locs ls h1 h2 h3 h4
  have hPc := h2.sub (ws' := w0) isC (map_fm hC)
  have hDc := h3.sub (ws' := w0) isC hnd hC
  have hFc := va_free (wc := w0) h3 h4 hA isC hC
  refine va_callv (va_runU (rest := rest) ⟨hx, hb, hml, hown, hts⟩ (hM H.size) cw ⟨KP_blind, va_recv hK h2 hc he, fun U hU hW => ?_⟩ rfl hn h1.1 rfl (lv_room h8) d hf) h4 (fun q _ h => hFc q h) hFc (fun u t H1 locs1 ht hvm hpost hB hz1 hk1 hS => ?_)
  · exact ⟨rfl, by rw [hU], by rw [hU]; exact hPc, va_K.moved hW.alike hK, hDc.weaken (fun _ _ _ _ => trivial), NK_warm hW hN⟩
  · obtain ⟨hP1, hK1, hD1⟩ := hB
    rw [ht] at hP1
    obtain ⟨hP2, hD2⟩ := wj h2 h3 isC hC ha hw hk1 hP1
    exact kk H1 locs1 ls h1 hP2 hD2 hS
theorem G_calliS0 (F : GF k l R cc nL own D cB cI cJ) {y : MethodName} {bytes : ByteArray} {maxL n index : Nat} {ret : Option FieldType} {rm : Room} {As : List Value} {w0 : va_W} {r : Int32} (hM : CoI l y (.code y bytes maxL ret :: AW) rm D cB cI cJ As w0 r w0) {rest : List Value} (isC : List Nat) (hC : isC.map (fun i => ws[i]?) = w0.map some) (hnd : va_nd isC = true) (cv : Cond.methodLink own index y ∈ AW ∧ Cond.static y ∈ AW ∧ Cond.initialized own ∈ AW ∧ Cond.code y bytes maxL ret ∈ AW ∧ y.cls = own ∧ y.cls ≠ "java/lang/invoke/MethodHandle" ∧ y.cls ≠ "java/lang/invoke/VarHandle" ∧ (parseMethodDescriptor y.desc).map (fun d => d.parameters.length) = some n) (hrc : rm.cells = 0) (hrs : rm.slots = 0) (hR : rm.frames + 1 ≤ R.frames ∧ 8 + (maxL + 11) + rm.locals ≤ R.locals) (hf : cells ≤ R.cells ∧ slots ≤ R.slots) (hn : As.length = n) (h8 : (rest.map fun v => v.category).sum ≤ 8) (d : decode cc pc = .ok (.invokestatic index, 3)) (hst : st = (As.reverse ++ rest)) (kk : G D nL k cells slots (pc + 3) L (.int r :: rest) ws) : G D nL k cells slots pc L st ws := by
  obtain ⟨p, l0, e, R0, s, m, args, below, meth, c, Q, A⟩ := k
  subst hst
  obtain ⟨c1, c2, c3, c4, hd⟩ := cv
  obtain ⟨⟨hx, hb, hml, hown, hts⟩, hK, hN, rfl, rfl, hA⟩ := F
  have hT : GoodIn AW (wsS own index y (.code y bytes maxL ret :: AW)) := goodA (by
    intro w hw
    simp only [wsS, List.cons_append, List.nil_append, List.mem_cons] at hw
    rcases hw with rfl | rfl | rfl | rfl | hw <;> assumption)
  have cw := cwS (R := R) n hts hT rfl hrc hrs hd hR
  intro H locs ls h1 h2 h3 h4
  have hPc := h2.sub (ws' := w0) isC (map_fm hC)
  have hDc := h3.sub (ws' := w0) isC hnd hC
  have hFc := va_free (wc := w0) h3 h4 hA isC hC
  refine va_calli (va_runS (rest := rest) ⟨hx, hb, hml, hown, hts⟩ (hM H.size) cw ⟨KP_blind, fun U hU hW => ?_⟩ rfl hn h1.1 rfl (lv_room h8) d hf) h4 (fun q _ h => hFc q h) hFc (fun r2 u t H1 locs1 ht hvm hpost hB hz1 hk1 hS => ?_)
  · exact ⟨rfl, by rw [hU], by rw [hU]; exact hPc, va_K.moved hW.alike hK, hDc.weaken (fun _ _ _ _ => trivial), NK_warm hW hN⟩
  · obtain ⟨hP1, hK1, hD1⟩ := hB
    rw [ht] at hP1
    subst hpost
    exact kk H1 locs1 ls h1 (wj0 h2 h3 isC hC hk1 hP1) h3 hS
theorem G_calliS (F : GF k l R cc nL own D cB cI cJ) {y : MethodName} {bytes : ByteArray} {maxL n index : Nat} {ret : Option FieldType} {rm : Room} {As : List Value} {w0 w1 : va_W} {r : Int32} (hM : CoI l y (.code y bytes maxL ret :: AW) rm D cB cI cJ As w0 r w1) {rest : List Value} (isC : List Nat) (hC : isC.map (fun i => ws[i]?) = w0.map some) (hnd : va_nd isC = true) (ha : w1.map Prod.fst = w0.map Prod.fst) (hw : setsW ws isC w1 = ws') (cv : Cond.methodLink own index y ∈ AW ∧ Cond.static y ∈ AW ∧ Cond.initialized own ∈ AW ∧ Cond.code y bytes maxL ret ∈ AW ∧ y.cls = own ∧ y.cls ≠ "java/lang/invoke/MethodHandle" ∧ y.cls ≠ "java/lang/invoke/VarHandle" ∧ (parseMethodDescriptor y.desc).map (fun d => d.parameters.length) = some n) (hrc : rm.cells = 0) (hrs : rm.slots = 0) (hR : rm.frames + 1 ≤ R.frames ∧ 8 + (maxL + 11) + rm.locals ≤ R.locals) (hf : cells ≤ R.cells ∧ slots ≤ R.slots) (hn : As.length = n) (h8 : (rest.map fun v => v.category).sum ≤ 8) (d : decode cc pc = .ok (.invokestatic index, 3)) (hst : st = (As.reverse ++ rest)) (kk : G D nL k cells slots (pc + 3) L (.int r :: rest) ws') : G D nL k cells slots pc L st ws := by
  obtain ⟨p, l0, e, R0, s, m, args, below, meth, c, Q, A⟩ := k
  subst hst
  obtain ⟨c1, c2, c3, c4, hd⟩ := cv
  obtain ⟨⟨hx, hb, hml, hown, hts⟩, hK, hN, rfl, rfl, hA⟩ := F
  have hT : GoodIn AW (wsS own index y (.code y bytes maxL ret :: AW)) := goodA (by
    intro w hw
    simp only [wsS, List.cons_append, List.nil_append, List.mem_cons] at hw
    rcases hw with rfl | rfl | rfl | rfl | hw <;> assumption)
  have cw := cwS (R := R) n hts hT rfl hrc hrs hd hR
  intro H locs ls h1 h2 h3 h4
  have hPc := h2.sub (ws' := w0) isC (map_fm hC)
  have hDc := h3.sub (ws' := w0) isC hnd hC
  have hFc := va_free (wc := w0) h3 h4 hA isC hC
  refine va_calli (va_runS (rest := rest) ⟨hx, hb, hml, hown, hts⟩ (hM H.size) cw ⟨KP_blind, fun U hU hW => ?_⟩ rfl hn h1.1 rfl (lv_room h8) d hf) h4 (fun q _ h => hFc q h) hFc (fun r2 u t H1 locs1 ht hvm hpost hB hz1 hk1 hS => ?_)
  · exact ⟨rfl, by rw [hU], by rw [hU]; exact hPc, va_K.moved hW.alike hK, hDc.weaken (fun _ _ _ _ => trivial), NK_warm hW hN⟩
  · obtain ⟨hP1, hK1, hD1⟩ := hB
    rw [ht] at hP1
    subst hpost
    obtain ⟨hP2, hD2⟩ := wj h2 h3 isC hC ha hw hk1 hP1
    exact kk H1 locs1 ls h1 hP2 hD2 hS
theorem G_callvS0 (F : GF k l R cc nL own D cB cI cJ) {y : MethodName} {bytes : ByteArray} {maxL n index : Nat} {ret : Option FieldType} {rm : Room} {As : List Value} {w0 : va_W} (hM : CoV l y (.code y bytes maxL ret :: AW) rm D cB cI cJ As w0 w0) {rest : List Value} (isC : List Nat) (hC : isC.map (fun i => ws[i]?) = w0.map some) (hnd : va_nd isC = true) (cv : Cond.methodLink own index y ∈ AW ∧ Cond.static y ∈ AW ∧ Cond.initialized own ∈ AW ∧ Cond.code y bytes maxL ret ∈ AW ∧ y.cls = own ∧ y.cls ≠ "java/lang/invoke/MethodHandle" ∧ y.cls ≠ "java/lang/invoke/VarHandle" ∧ (parseMethodDescriptor y.desc).map (fun d => d.parameters.length) = some n) (hrc : rm.cells = 0) (hrs : rm.slots = 0) (hR : rm.frames + 1 ≤ R.frames ∧ 8 + (maxL + 11) + rm.locals ≤ R.locals) (hf : cells ≤ R.cells ∧ slots ≤ R.slots) (hn : As.length = n) (h8 : (rest.map fun v => v.category).sum ≤ 8) (d : decode cc pc = .ok (.invokestatic index, 3)) (hst : st = (As.reverse ++ rest)) (kk : G D nL k cells slots (pc + 3) L rest ws) : G D nL k cells slots pc L st ws := by
  obtain ⟨p, l0, e, R0, s, m, args, below, meth, c, Q, A⟩ := k
  subst hst
  obtain ⟨c1, c2, c3, c4, hd⟩ := cv
  obtain ⟨⟨hx, hb, hml, hown, hts⟩, hK, hN, rfl, rfl, hA⟩ := F
  have hT : GoodIn AW (wsS own index y (.code y bytes maxL ret :: AW)) := goodA (by
    intro w hw
    simp only [wsS, List.cons_append, List.nil_append, List.mem_cons] at hw
    rcases hw with rfl | rfl | rfl | rfl | hw <;> assumption)
  have cw := cwS (R := R) n hts hT rfl hrc hrs hd hR
  intro H locs ls h1 h2 h3 h4
  have hPc := h2.sub (ws' := w0) isC (map_fm hC)
  have hDc := h3.sub (ws' := w0) isC hnd hC
  have hFc := va_free (wc := w0) h3 h4 hA isC hC
  refine va_callv (va_runS (rest := rest) ⟨hx, hb, hml, hown, hts⟩ (hM H.size) cw ⟨KP_blind, fun U hU hW => ?_⟩ rfl hn h1.1 rfl (lv_room h8) d hf) h4 (fun q _ h => hFc q h) hFc (fun u t H1 locs1 ht hvm hpost hB hz1 hk1 hS => ?_)
  · exact ⟨rfl, by rw [hU], by rw [hU]; exact hPc, va_K.moved hW.alike hK, hDc.weaken (fun _ _ _ _ => trivial), NK_warm hW hN⟩
  · obtain ⟨hP1, hK1, hD1⟩ := hB
    rw [ht] at hP1
    exact kk H1 locs1 ls h1 (wj0 h2 h3 isC hC hk1 hP1) h3 hS
theorem G_callvS (F : GF k l R cc nL own D cB cI cJ) {y : MethodName} {bytes : ByteArray} {maxL n index : Nat} {ret : Option FieldType} {rm : Room} {As : List Value} {w0 w1 : va_W} (hM : CoV l y (.code y bytes maxL ret :: AW) rm D cB cI cJ As w0 w1) {rest : List Value} (isC : List Nat) (hC : isC.map (fun i => ws[i]?) = w0.map some) (hnd : va_nd isC = true) (ha : w1.map Prod.fst = w0.map Prod.fst) (hw : setsW ws isC w1 = ws') (cv : Cond.methodLink own index y ∈ AW ∧ Cond.static y ∈ AW ∧ Cond.initialized own ∈ AW ∧ Cond.code y bytes maxL ret ∈ AW ∧ y.cls = own ∧ y.cls ≠ "java/lang/invoke/MethodHandle" ∧ y.cls ≠ "java/lang/invoke/VarHandle" ∧ (parseMethodDescriptor y.desc).map (fun d => d.parameters.length) = some n) (hrc : rm.cells = 0) (hrs : rm.slots = 0) (hR : rm.frames + 1 ≤ R.frames ∧ 8 + (maxL + 11) + rm.locals ≤ R.locals) (hf : cells ≤ R.cells ∧ slots ≤ R.slots) (hn : As.length = n) (h8 : (rest.map fun v => v.category).sum ≤ 8) (d : decode cc pc = .ok (.invokestatic index, 3)) (hst : st = (As.reverse ++ rest)) (kk : G D nL k cells slots (pc + 3) L rest ws') : G D nL k cells slots pc L st ws := by
  obtain ⟨p, l0, e, R0, s, m, args, below, meth, c, Q, A⟩ := k
  subst hst
  obtain ⟨c1, c2, c3, c4, hd⟩ := cv
  obtain ⟨⟨hx, hb, hml, hown, hts⟩, hK, hN, rfl, rfl, hA⟩ := F
  have hT : GoodIn AW (wsS own index y (.code y bytes maxL ret :: AW)) := goodA (by
    intro w hw
    simp only [wsS, List.cons_append, List.nil_append, List.mem_cons] at hw
    rcases hw with rfl | rfl | rfl | rfl | hw <;> assumption)
  have cw := cwS (R := R) n hts hT rfl hrc hrs hd hR
  intro H locs ls h1 h2 h3 h4
  have hPc := h2.sub (ws' := w0) isC (map_fm hC)
  have hDc := h3.sub (ws' := w0) isC hnd hC
  have hFc := va_free (wc := w0) h3 h4 hA isC hC
  refine va_callv (va_runS (rest := rest) ⟨hx, hb, hml, hown, hts⟩ (hM H.size) cw ⟨KP_blind, fun U hU hW => ?_⟩ rfl hn h1.1 rfl (lv_room h8) d hf) h4 (fun q _ h => hFc q h) hFc (fun u t H1 locs1 ht hvm hpost hB hz1 hk1 hS => ?_)
  · exact ⟨rfl, by rw [hU], by rw [hU]; exact hPc, va_K.moved hW.alike hK, hDc.weaken (fun _ _ _ _ => trivial), NK_warm hW hN⟩
  · obtain ⟨hP1, hK1, hD1⟩ := hB
    rw [ht] at hP1
    obtain ⟨hP2, hD2⟩ := wj h2 h3 isC hC ha hw hk1 hP1
    exact kk H1 locs1 ls h1 hP2 hD2 hS
theorem G_mmax (F : GF k l R cc nL own D cB cI cJ) {index : Nat} {x y v : Int32} (cv : Cond.methodLink own index Lib.Math.max.name ∈ AW ∧ Cond.static Lib.Math.max.name ∈ AW ∧ Cond.initialized "java/lang/Math" ∈ AW ∧ Cond.code Lib.Math.max.name Lib.Math.max.code 2 (some .int) ∈ AW) (d : decode cc pc = .ok (.invokestatic index, 3)) (hv : v = if x < y then y else x) (hR : 1 ≤ R.frames ∧ 21 ≤ R.locals) (hf : cells ≤ R.cells ∧ slots ≤ R.slots) (h8 : (st.map fun v => v.category).sum ≤ 8) (kk : G D nL k cells slots (pc + 3) L (.int v :: st) ws) : G D nL k cells slots pc L (.int y :: .int x :: st) ws := by
  obtain ⟨p, l0, e, R0, s, m, args, below, meth, c, Q, A⟩ := k
  obtain ⟨c1, c2, c3, c4⟩ := cv
  obtain ⟨⟨hx, hb, hml, hown, hts⟩, hK, hN, rfl, rfl, hA⟩ := F
  subst hv
  intro H locs ls h1 h2 h3 h4
  exact va_mmax hx hb (hml.trans h1.1.symm) hown (hts _ c1) (hts _ c2) (hts _ c3) (hts _ c4) hR.1 (by omega) hf.1 hf.2 d (kk H locs ls h1 h2 h3 h4)
theorem G_mmin (F : GF k l R cc nL own D cB cI cJ) {index : Nat} {x y v : Int32} (cv : Cond.methodLink own index Lib.Math.min.name ∈ AW ∧ Cond.static Lib.Math.min.name ∈ AW ∧ Cond.initialized "java/lang/Math" ∈ AW ∧ Cond.code Lib.Math.min.name Lib.Math.min.code 2 (some .int) ∈ AW) (d : decode cc pc = .ok (.invokestatic index, 3)) (hv : v = if y < x then y else x) (hR : 1 ≤ R.frames ∧ 21 ≤ R.locals) (hf : cells ≤ R.cells ∧ slots ≤ R.slots) (h8 : (st.map fun v => v.category).sum ≤ 8) (kk : G D nL k cells slots (pc + 3) L (.int v :: st) ws) : G D nL k cells slots pc L (.int y :: .int x :: st) ws := by
  obtain ⟨p, l0, e, R0, s, m, args, below, meth, c, Q, A⟩ := k
  obtain ⟨c1, c2, c3, c4⟩ := cv
  obtain ⟨⟨hx, hb, hml, hown, hts⟩, hK, hN, rfl, rfl, hA⟩ := F
  subst hv
  intro H locs ls h1 h2 h3 h4
  exact va_mmin hx hb (hml.trans h1.1.symm) hown (hts _ c1) (hts _ c2) (hts _ c3) (hts _ c4) hR.1 (by omega) hf.1 hf.2 d (kk H locs ls h1 h2 h3 h4)
theorem G_tsw3 (F : GF k l R cc nL own D cB cI cJ) {x : Int32} {dflt o0 o1 o2 : Int} {len : Nat} (t0 t1 t2 td : Nat) (d : decode cc pc = .ok (.tableswitch dflt 0 2 #[o0, o1, o2], len)) (h0 : (pc : Int) + o0 = (t0 : Int)) (h1 : (pc : Int) + o1 = (t1 : Int)) (h2 : (pc : Int) + o2 = (t2 : Int)) (hd : (pc : Int) + dflt = (td : Int)) (k0 : x = 0 → G D nL k cells slots t0 L st ws) (k1 : ¬ x = 0 → x = 1 → G D nL k cells slots t1 L st ws) (k2 : ¬ x = 0 → ¬ x = 1 → x = 2 → G D nL k cells slots t2 L st ws) (kd : ¬ x = 0 → ¬ x = 1 → ¬ x = 2 → G D nL k cells slots td L st ws) : G D nL k cells slots pc L (.int x :: st) ws := by
  obtain ⟨p, l0, e, R0, s, m, args, below, meth, c, Q, A⟩ := k
  intro H locs ls g1 g2 g3 g4
  by_cases e0 : x = 0
  · refine lv_tableIn F.1.1 F.1.2.1 d (off := o0) (tgt := t0) ?_ ?_ ?_ h0 (k0  e0 H locs ls g1 g2 g3 g4)
    · rw [e0]; decide
    · rw [e0]; decide
    · rw [e0]; rfl
  by_cases e1 : x = 1
  · refine lv_tableIn F.1.1 F.1.2.1 d (off := o1) (tgt := t1) ?_ ?_ ?_ h1 (k1 e0 e1 H locs ls g1 g2 g3 g4)
    · rw [e1]; decide
    · rw [e1]; decide
    · rw [e1]; rfl
  by_cases e2 : x = 2
  · refine lv_tableIn F.1.1 F.1.2.1 d (off := o2) (tgt := t2) ?_ ?_ ?_ h2 (k2 e0 e1 e2 H locs ls g1 g2 g3 g4)
    · rw [e2]; decide
    · rw [e2]; decide
    · rw [e2]; rfl
  refine lv_tableOut F.1.1 F.1.2.1 d (tgt := td) ?_ hd (kd e0 e1 e2 H locs ls g1 g2 g3 g4)
  have f0 := lv_neT e0 (a := 0) (by decide)
  have f1 := lv_neT e1 (a := 1) (by decide)
  have f2 := lv_neT e2 (a := 2) (by decide)
  omega
theorem G_tsw9 (F : GF k l R cc nL own D cB cI cJ) {x : Int32} {dflt o0 o1 o2 o3 o4 o5 o6 o7 o8 : Int} {len : Nat} (t0 t1 t2 t3 t4 t5 t6 t7 t8 td : Nat) (d : decode cc pc = .ok (.tableswitch dflt 0 8 #[o0, o1, o2, o3, o4, o5, o6, o7, o8], len)) (h0 : (pc : Int) + o0 = (t0 : Int)) (h1 : (pc : Int) + o1 = (t1 : Int)) (h2 : (pc : Int) + o2 = (t2 : Int)) (h3 : (pc : Int) + o3 = (t3 : Int)) (h4 : (pc : Int) + o4 = (t4 : Int)) (h5 : (pc : Int) + o5 = (t5 : Int)) (h6 : (pc : Int) + o6 = (t6 : Int)) (h7 : (pc : Int) + o7 = (t7 : Int)) (h8 : (pc : Int) + o8 = (t8 : Int)) (hd : (pc : Int) + dflt = (td : Int)) (k0 : x = 0 → G D nL k cells slots t0 L st ws) (k1 : ¬ x = 0 → x = 1 → G D nL k cells slots t1 L st ws) (k2 : ¬ x = 0 → ¬ x = 1 → x = 2 → G D nL k cells slots t2 L st ws) (k3 : ¬ x = 0 → ¬ x = 1 → ¬ x = 2 → x = 3 → G D nL k cells slots t3 L st ws) (k4 : ¬ x = 0 → ¬ x = 1 → ¬ x = 2 → ¬ x = 3 → x = 4 → G D nL k cells slots t4 L st ws) (k5 : ¬ x = 0 → ¬ x = 1 → ¬ x = 2 → ¬ x = 3 → ¬ x = 4 → x = 5 → G D nL k cells slots t5 L st ws) (k6 : ¬ x = 0 → ¬ x = 1 → ¬ x = 2 → ¬ x = 3 → ¬ x = 4 → ¬ x = 5 → x = 6 → G D nL k cells slots t6 L st ws) (k7 : ¬ x = 0 → ¬ x = 1 → ¬ x = 2 → ¬ x = 3 → ¬ x = 4 → ¬ x = 5 → ¬ x = 6 → x = 7 → G D nL k cells slots t7 L st ws) (k8 : ¬ x = 0 → ¬ x = 1 → ¬ x = 2 → ¬ x = 3 → ¬ x = 4 → ¬ x = 5 → ¬ x = 6 → ¬ x = 7 → x = 8 → G D nL k cells slots t8 L st ws) (kd : ¬ x = 0 → ¬ x = 1 → ¬ x = 2 → ¬ x = 3 → ¬ x = 4 → ¬ x = 5 → ¬ x = 6 → ¬ x = 7 → ¬ x = 8 → G D nL k cells slots td L st ws) : G D nL k cells slots pc L (.int x :: st) ws := by
  obtain ⟨p, l0, e, R0, s, m, args, below, meth, c, Q, A⟩ := k
  intro H locs ls g1 g2 g3 g4
  by_cases e0 : x = 0
  · refine lv_tableIn F.1.1 F.1.2.1 d (off := o0) (tgt := t0) ?_ ?_ ?_ h0 (k0  e0 H locs ls g1 g2 g3 g4)
    · rw [e0]; decide
    · rw [e0]; decide
    · rw [e0]; rfl
  by_cases e1 : x = 1
  · refine lv_tableIn F.1.1 F.1.2.1 d (off := o1) (tgt := t1) ?_ ?_ ?_ h1 (k1 e0 e1 H locs ls g1 g2 g3 g4)
    · rw [e1]; decide
    · rw [e1]; decide
    · rw [e1]; rfl
  by_cases e2 : x = 2
  · refine lv_tableIn F.1.1 F.1.2.1 d (off := o2) (tgt := t2) ?_ ?_ ?_ h2 (k2 e0 e1 e2 H locs ls g1 g2 g3 g4)
    · rw [e2]; decide
    · rw [e2]; decide
    · rw [e2]; rfl
  by_cases e3 : x = 3
  · refine lv_tableIn F.1.1 F.1.2.1 d (off := o3) (tgt := t3) ?_ ?_ ?_ h3 (k3 e0 e1 e2 e3 H locs ls g1 g2 g3 g4)
    · rw [e3]; decide
    · rw [e3]; decide
    · rw [e3]; rfl
  by_cases e4 : x = 4
  · refine lv_tableIn F.1.1 F.1.2.1 d (off := o4) (tgt := t4) ?_ ?_ ?_ h4 (k4 e0 e1 e2 e3 e4 H locs ls g1 g2 g3 g4)
    · rw [e4]; decide
    · rw [e4]; decide
    · rw [e4]; rfl
  by_cases e5 : x = 5
  · refine lv_tableIn F.1.1 F.1.2.1 d (off := o5) (tgt := t5) ?_ ?_ ?_ h5 (k5 e0 e1 e2 e3 e4 e5 H locs ls g1 g2 g3 g4)
    · rw [e5]; decide
    · rw [e5]; decide
    · rw [e5]; rfl
  by_cases e6 : x = 6
  · refine lv_tableIn F.1.1 F.1.2.1 d (off := o6) (tgt := t6) ?_ ?_ ?_ h6 (k6 e0 e1 e2 e3 e4 e5 e6 H locs ls g1 g2 g3 g4)
    · rw [e6]; decide
    · rw [e6]; decide
    · rw [e6]; rfl
  by_cases e7 : x = 7
  · refine lv_tableIn F.1.1 F.1.2.1 d (off := o7) (tgt := t7) ?_ ?_ ?_ h7 (k7 e0 e1 e2 e3 e4 e5 e6 e7 H locs ls g1 g2 g3 g4)
    · rw [e7]; decide
    · rw [e7]; decide
    · rw [e7]; rfl
  by_cases e8 : x = 8
  · refine lv_tableIn F.1.1 F.1.2.1 d (off := o8) (tgt := t8) ?_ ?_ ?_ h8 (k8 e0 e1 e2 e3 e4 e5 e6 e7 e8 H locs ls g1 g2 g3 g4)
    · rw [e8]; decide
    · rw [e8]; decide
    · rw [e8]; rfl
  refine lv_tableOut F.1.1 F.1.2.1 d (tgt := td) ?_ hd (kd e0 e1 e2 e3 e4 e5 e6 e7 e8 H locs ls g1 g2 g3 g4)
  have f0 := lv_neT e0 (a := 0) (by decide)
  have f1 := lv_neT e1 (a := 1) (by decide)
  have f2 := lv_neT e2 (a := 2) (by decide)
  have f3 := lv_neT e3 (a := 3) (by decide)
  have f4 := lv_neT e4 (a := 4) (by decide)
  have f5 := lv_neT e5 (a := 5) (by decide)
  have f6 := lv_neT e6 (a := 6) (by decide)
  have f7 := lv_neT e7 (a := 7) (by decide)
  have f8 := lv_neT e8 (a := 8) (by decide)
  omega
end GR2
end

-- ===== PART A: goes FIRST, ahead of the names: the tables' words, and 'selects' of the private methods out of them =====
/-- a private method of a class that the tables say can be made, by its rows of tables_1 -/
def lw_okq (q : MethodName × Nat) : Prop := (q.1.cls ≠ "java/lang/invoke/MethodHandle" ∧ q.1.cls ≠ "java/lang/invoke/VarHandle") ∧ Cond.instantiable q.1.cls q.2 ∈ tables_1 ∧ Cond.privateMethod q.1 ∈ tables_1 ∧ Cond.instanceMethod q.1 ∈ tables_1
theorem lw_p0 : lw_okq (⟨"CommittedParsers$Trees", "make", "(IIII)I"⟩, 7) := ⟨⟨by decide +kernel, by decide +kernel⟩, List.mem_of_getElem? (i := 49) (by decide +kernel), List.mem_of_getElem? (i := 57) (by decide +kernel), List.mem_of_getElem? (i := 58) (by decide +kernel)⟩
theorem lw_p1 : lw_okq (⟨"CommittedParsers$Reader", "readRule", "()V"⟩, 6) := ⟨⟨by decide +kernel, by decide +kernel⟩, List.mem_of_getElem? (i := 281) (by decide +kernel), List.mem_of_getElem? (i := 316) (by decide +kernel), List.mem_of_getElem? (i := 317) (by decide +kernel)⟩
theorem lw_p2 : lw_okq (⟨"CommittedParsers$Reader", "ahead", "()I"⟩, 6) := ⟨⟨by decide +kernel, by decide +kernel⟩, List.mem_of_getElem? (i := 281) (by decide +kernel), List.mem_of_getElem? (i := 320) (by decide +kernel), List.mem_of_getElem? (i := 321) (by decide +kernel)⟩
theorem lw_p3 : lw_okq (⟨"CommittedParsers$Reader", "fail", "(I)V"⟩, 6) := ⟨⟨by decide +kernel, by decide +kernel⟩, List.mem_of_getElem? (i := 281) (by decide +kernel), List.mem_of_getElem? (i := 340) (by decide +kernel), List.mem_of_getElem? (i := 341) (by decide +kernel)⟩
theorem lw_p4 : lw_okq (⟨"CommittedParsers$Reader", "must", "(I)V"⟩, 6) := ⟨⟨by decide +kernel, by decide +kernel⟩, List.mem_of_getElem? (i := 281) (by decide +kernel), List.mem_of_getElem? (i := 344) (by decide +kernel), List.mem_of_getElem? (i := 345) (by decide +kernel)⟩
theorem lw_p5 : lw_okq (⟨"CommittedParsers$Reader", "takes", "(I)Z"⟩, 6) := ⟨⟨by decide +kernel, by decide +kernel⟩, List.mem_of_getElem? (i := 281) (by decide +kernel), List.mem_of_getElem? (i := 348) (by decide +kernel), List.mem_of_getElem? (i := 349) (by decide +kernel)⟩
theorem lw_p6 : lw_okq (⟨"CommittedParsers$Reader", "readAlt", "()LCommittedParsers$Seq;"⟩, 6) := ⟨⟨by decide +kernel, by decide +kernel⟩, List.mem_of_getElem? (i := 281) (by decide +kernel), List.mem_of_getElem? (i := 352) (by decide +kernel), List.mem_of_getElem? (i := 353) (by decide +kernel)⟩
theorem lw_p7 : lw_okq (⟨"CommittedParsers$Reader", "readSeq", "()LCommittedParsers$Seq;"⟩, 6) := ⟨⟨by decide +kernel, by decide +kernel⟩, List.mem_of_getElem? (i := 281) (by decide +kernel), List.mem_of_getElem? (i := 356) (by decide +kernel), List.mem_of_getElem? (i := 357) (by decide +kernel)⟩
theorem lw_p8 : lw_okq (⟨"CommittedParsers$Reader", "readItem", "()LCommittedParsers$Part;"⟩, 6) := ⟨⟨by decide +kernel, by decide +kernel⟩, List.mem_of_getElem? (i := 281) (by decide +kernel), List.mem_of_getElem? (i := 379) (by decide +kernel), List.mem_of_getElem? (i := 380) (by decide +kernel)⟩
theorem lw_p9 : lw_okq (⟨"CommittedParsers$Reader", "partAhead", "()Z"⟩, 6) := ⟨⟨by decide +kernel, by decide +kernel⟩, List.mem_of_getElem? (i := 281) (by decide +kernel), List.mem_of_getElem? (i := 383) (by decide +kernel), List.mem_of_getElem? (i := 384) (by decide +kernel)⟩
theorem lw_p10 : lw_okq (⟨"CommittedParsers$Reader", "readPart", "()LCommittedParsers$Part;"⟩, 6) := ⟨⟨by decide +kernel, by decide +kernel⟩, List.mem_of_getElem? (i := 281) (by decide +kernel), List.mem_of_getElem? (i := 390) (by decide +kernel), List.mem_of_getElem? (i := 391) (by decide +kernel)⟩
theorem lw_p11 : lw_okq (⟨"CommittedParsers$Reader", "readQuoted", "()LCommittedParsers$Part;"⟩, 6) := ⟨⟨by decide +kernel, by decide +kernel⟩, List.mem_of_getElem? (i := 281) (by decide +kernel), List.mem_of_getElem? (i := 394) (by decide +kernel), List.mem_of_getElem? (i := 395) (by decide +kernel)⟩
theorem lw_p12 : lw_okq (⟨"CommittedParsers$Reader", "newPart", "(I)LCommittedParsers$Part;"⟩, 6) := ⟨⟨by decide +kernel, by decide +kernel⟩, List.mem_of_getElem? (i := 281) (by decide +kernel), List.mem_of_getElem? (i := 398) (by decide +kernel), List.mem_of_getElem? (i := 399) (by decide +kernel)⟩
theorem lw_p13 : lw_okq (⟨"CommittedParsers$Reader", "closeBytes", "(LCommittedParsers$Part;III)V"⟩, 6) := ⟨⟨by decide +kernel, by decide +kernel⟩, List.mem_of_getElem? (i := 281) (by decide +kernel), List.mem_of_getElem? (i := 482) (by decide +kernel), List.mem_of_getElem? (i := 483) (by decide +kernel)⟩
theorem lw_p14 : lw_okq (⟨"CommittedParsers$Reader", "readRange", "()LCommittedParsers$Part;"⟩, 6) := ⟨⟨by decide +kernel, by decide +kernel⟩, List.mem_of_getElem? (i := 281) (by decide +kernel), List.mem_of_getElem? (i := 491) (by decide +kernel), List.mem_of_getElem? (i := 492) (by decide +kernel)⟩
theorem lw_p15 : lw_okq (⟨"CommittedParsers$Reader", "readBody", "(LCommittedParsers$Part;)V"⟩, 6) := ⟨⟨by decide +kernel, by decide +kernel⟩, List.mem_of_getElem? (i := 281) (by decide +kernel), List.mem_of_getElem? (i := 495) (by decide +kernel), List.mem_of_getElem? (i := 496) (by decide +kernel)⟩
def lw_privs_1 : List (MethodName × Nat) := [(⟨"CommittedParsers$Trees", "make", "(IIII)I"⟩, 7), (⟨"CommittedParsers$Reader", "readRule", "()V"⟩, 6), (⟨"CommittedParsers$Reader", "ahead", "()I"⟩, 6), (⟨"CommittedParsers$Reader", "fail", "(I)V"⟩, 6), (⟨"CommittedParsers$Reader", "must", "(I)V"⟩, 6), (⟨"CommittedParsers$Reader", "takes", "(I)Z"⟩, 6), (⟨"CommittedParsers$Reader", "readAlt", "()LCommittedParsers$Seq;"⟩, 6), (⟨"CommittedParsers$Reader", "readSeq", "()LCommittedParsers$Seq;"⟩, 6), (⟨"CommittedParsers$Reader", "readItem", "()LCommittedParsers$Part;"⟩, 6), (⟨"CommittedParsers$Reader", "partAhead", "()Z"⟩, 6), (⟨"CommittedParsers$Reader", "readPart", "()LCommittedParsers$Part;"⟩, 6), (⟨"CommittedParsers$Reader", "readQuoted", "()LCommittedParsers$Part;"⟩, 6), (⟨"CommittedParsers$Reader", "newPart", "(I)LCommittedParsers$Part;"⟩, 6), (⟨"CommittedParsers$Reader", "closeBytes", "(LCommittedParsers$Part;III)V"⟩, 6), (⟨"CommittedParsers$Reader", "readRange", "()LCommittedParsers$Part;"⟩, 6), (⟨"CommittedParsers$Reader", "readBody", "(LCommittedParsers$Part;)V"⟩, 6)]
theorem lw_r1 : ∀ q ∈ lw_privs_1, lw_okq q := List.forall_mem_cons.mpr ⟨lw_p0, List.forall_mem_cons.mpr ⟨lw_p1, List.forall_mem_cons.mpr ⟨lw_p2, List.forall_mem_cons.mpr ⟨lw_p3, List.forall_mem_cons.mpr ⟨lw_p4, List.forall_mem_cons.mpr ⟨lw_p5, List.forall_mem_cons.mpr ⟨lw_p6, List.forall_mem_cons.mpr ⟨lw_p7, List.forall_mem_cons.mpr ⟨lw_p8, List.forall_mem_cons.mpr ⟨lw_p9, List.forall_mem_cons.mpr ⟨lw_p10, List.forall_mem_cons.mpr ⟨lw_p11, List.forall_mem_cons.mpr ⟨lw_p12, List.forall_mem_cons.mpr ⟨lw_p13, List.forall_mem_cons.mpr ⟨lw_p14, List.forall_mem_cons.mpr ⟨lw_p15, fun _ h => absurd h List.not_mem_nil⟩⟩⟩⟩⟩⟩⟩⟩⟩⟩⟩⟩⟩⟩⟩⟩
theorem lw_p16 : lw_okq (⟨"CommittedParsers$Reader", "opens", "()Z"⟩, 6) := ⟨⟨by decide +kernel, by decide +kernel⟩, List.mem_of_getElem? (i := 281) (by decide +kernel), List.mem_of_getElem? (i := 499) (by decide +kernel), List.mem_of_getElem? (i := 500) (by decide +kernel)⟩
theorem lw_p17 : lw_okq (⟨"CommittedParsers$Reader", "readName", "(I)LCommittedParsers$Part;"⟩, 6) := ⟨⟨by decide +kernel, by decide +kernel⟩, List.mem_of_getElem? (i := 281) (by decide +kernel), List.mem_of_getElem? (i := 503) (by decide +kernel), List.mem_of_getElem? (i := 504) (by decide +kernel)⟩
theorem lw_p18 : lw_okq (⟨"CommittedParsers$Reader", "readWord", "()LCommittedParsers$Part;"⟩, 6) := ⟨⟨by decide +kernel, by decide +kernel⟩, List.mem_of_getElem? (i := 281) (by decide +kernel), List.mem_of_getElem? (i := 511) (by decide +kernel), List.mem_of_getElem? (i := 512) (by decide +kernel)⟩
theorem lw_p19 : lw_okq (⟨"CommittedParsers$Reader", "wordKind", "(I)I"⟩, 6) := ⟨⟨by decide +kernel, by decide +kernel⟩, List.mem_of_getElem? (i := 281) (by decide +kernel), List.mem_of_getElem? (i := 515) (by decide +kernel), List.mem_of_getElem? (i := 516) (by decide +kernel)⟩
theorem lw_p20 : lw_okq (⟨"CommittedParsers$Reader", "spells", "(Ljava/lang/String;I)Z"⟩, 6) := ⟨⟨by decide +kernel, by decide +kernel⟩, List.mem_of_getElem? (i := 281) (by decide +kernel), List.mem_of_getElem? (i := 520) (by decide +kernel), List.mem_of_getElem? (i := 521) (by decide +kernel)⟩
theorem lw_p21 : lw_okq (⟨"CommittedParsers$Reader", "readChain", "(LCommittedParsers$Part;)V"⟩, 6) := ⟨⟨by decide +kernel, by decide +kernel⟩, List.mem_of_getElem? (i := 281) (by decide +kernel), List.mem_of_getElem? (i := 580) (by decide +kernel), List.mem_of_getElem? (i := 581) (by decide +kernel)⟩
theorem lw_p22 : lw_okq (⟨"CommittedParsers$Reader", "more", "()Z"⟩, 6) := ⟨⟨by decide +kernel, by decide +kernel⟩, List.mem_of_getElem? (i := 281) (by decide +kernel), List.mem_of_getElem? (i := 589) (by decide +kernel), List.mem_of_getElem? (i := 590) (by decide +kernel)⟩
theorem lw_p23 : lw_okq (⟨"CommittedParsers$Reader", "findUnknownName", "()V"⟩, 6) := ⟨⟨by decide +kernel, by decide +kernel⟩, List.mem_of_getElem? (i := 281) (by decide +kernel), List.mem_of_getElem? (i := 593) (by decide +kernel), List.mem_of_getElem? (i := 594) (by decide +kernel)⟩
theorem lw_p24 : lw_okq (⟨"CommittedParsers$May", "altNothing", "(LCommittedParsers$Seq;)Z"⟩, 2) := ⟨⟨by decide +kernel, by decide +kernel⟩, List.mem_of_getElem? (i := 597) (by decide +kernel), List.mem_of_getElem? (i := 618) (by decide +kernel), List.mem_of_getElem? (i := 619) (by decide +kernel)⟩
theorem lw_p25 : lw_okq (⟨"CommittedParsers$May", "seqNothing", "(LCommittedParsers$Seq;)Z"⟩, 2) := ⟨⟨by decide +kernel, by decide +kernel⟩, List.mem_of_getElem? (i := 597) (by decide +kernel), List.mem_of_getElem? (i := 622) (by decide +kernel), List.mem_of_getElem? (i := 623) (by decide +kernel)⟩
theorem lw_p26 : lw_okq (⟨"CommittedParsers$May", "itemNothing", "(LCommittedParsers$Part;)Z"⟩, 2) := ⟨⟨by decide +kernel, by decide +kernel⟩, List.mem_of_getElem? (i := 597) (by decide +kernel), List.mem_of_getElem? (i := 626) (by decide +kernel), List.mem_of_getElem? (i := 627) (by decide +kernel)⟩
theorem lw_p27 : lw_okq (⟨"CommittedParsers$May", "altHeads", "(LCommittedParsers$Seq;)I"⟩, 2) := ⟨⟨by decide +kernel, by decide +kernel⟩, List.mem_of_getElem? (i := 597) (by decide +kernel), List.mem_of_getElem? (i := 631) (by decide +kernel), List.mem_of_getElem? (i := 632) (by decide +kernel)⟩
theorem lw_p28 : lw_okq (⟨"CommittedParsers$May", "partHeads", "(LCommittedParsers$Part;)I"⟩, 2) := ⟨⟨by decide +kernel, by decide +kernel⟩, List.mem_of_getElem? (i := 597) (by decide +kernel), List.mem_of_getElem? (i := 635) (by decide +kernel), List.mem_of_getElem? (i := 636) (by decide +kernel)⟩
theorem lw_p29 : lw_okq (⟨"CommittedParsers$May", "join", "(I)V"⟩, 2) := ⟨⟨by decide +kernel, by decide +kernel⟩, List.mem_of_getElem? (i := 597) (by decide +kernel), List.mem_of_getElem? (i := 640) (by decide +kernel), List.mem_of_getElem? (i := 641) (by decide +kernel)⟩
theorem lw_p30 : lw_okq (⟨"CommittedParsers$Run", "ruled", "(III)I"⟩, 13) := ⟨⟨by decide +kernel, by decide +kernel⟩, List.mem_of_getElem? (i := 41) (by decide +kernel), List.mem_of_getElem? (i := 671) (by decide +kernel), List.mem_of_getElem? (i := 672) (by decide +kernel)⟩
theorem lw_p31 : lw_okq (⟨"CommittedParsers$Run", "alternatives", "(LCommittedParsers$Seq;II)I"⟩, 13) := ⟨⟨by decide +kernel, by decide +kernel⟩, List.mem_of_getElem? (i := 41) (by decide +kernel), List.mem_of_getElem? (i := 677) (by decide +kernel), List.mem_of_getElem? (i := 678) (by decide +kernel)⟩
def lw_privs_2 : List (MethodName × Nat) := [(⟨"CommittedParsers$Reader", "opens", "()Z"⟩, 6), (⟨"CommittedParsers$Reader", "readName", "(I)LCommittedParsers$Part;"⟩, 6), (⟨"CommittedParsers$Reader", "readWord", "()LCommittedParsers$Part;"⟩, 6), (⟨"CommittedParsers$Reader", "wordKind", "(I)I"⟩, 6), (⟨"CommittedParsers$Reader", "spells", "(Ljava/lang/String;I)Z"⟩, 6), (⟨"CommittedParsers$Reader", "readChain", "(LCommittedParsers$Part;)V"⟩, 6), (⟨"CommittedParsers$Reader", "more", "()Z"⟩, 6), (⟨"CommittedParsers$Reader", "findUnknownName", "()V"⟩, 6), (⟨"CommittedParsers$May", "altNothing", "(LCommittedParsers$Seq;)Z"⟩, 2), (⟨"CommittedParsers$May", "seqNothing", "(LCommittedParsers$Seq;)Z"⟩, 2), (⟨"CommittedParsers$May", "itemNothing", "(LCommittedParsers$Part;)Z"⟩, 2), (⟨"CommittedParsers$May", "altHeads", "(LCommittedParsers$Seq;)I"⟩, 2), (⟨"CommittedParsers$May", "partHeads", "(LCommittedParsers$Part;)I"⟩, 2), (⟨"CommittedParsers$May", "join", "(I)V"⟩, 2), (⟨"CommittedParsers$Run", "ruled", "(III)I"⟩, 13), (⟨"CommittedParsers$Run", "alternatives", "(LCommittedParsers$Seq;II)I"⟩, 13)]
theorem lw_r2 : ∀ q ∈ lw_privs_2, lw_okq q := List.forall_mem_cons.mpr ⟨lw_p16, List.forall_mem_cons.mpr ⟨lw_p17, List.forall_mem_cons.mpr ⟨lw_p18, List.forall_mem_cons.mpr ⟨lw_p19, List.forall_mem_cons.mpr ⟨lw_p20, List.forall_mem_cons.mpr ⟨lw_p21, List.forall_mem_cons.mpr ⟨lw_p22, List.forall_mem_cons.mpr ⟨lw_p23, List.forall_mem_cons.mpr ⟨lw_p24, List.forall_mem_cons.mpr ⟨lw_p25, List.forall_mem_cons.mpr ⟨lw_p26, List.forall_mem_cons.mpr ⟨lw_p27, List.forall_mem_cons.mpr ⟨lw_p28, List.forall_mem_cons.mpr ⟨lw_p29, List.forall_mem_cons.mpr ⟨lw_p30, List.forall_mem_cons.mpr ⟨lw_p31, fun _ h => absurd h List.not_mem_nil⟩⟩⟩⟩⟩⟩⟩⟩⟩⟩⟩⟩⟩⟩⟩⟩
theorem lw_p32 : lw_okq (⟨"CommittedParsers$Run", "sequence", "(LCommittedParsers$Seq;II)I"⟩, 13) := ⟨⟨by decide +kernel, by decide +kernel⟩, List.mem_of_getElem? (i := 41) (by decide +kernel), List.mem_of_getElem? (i := 681) (by decide +kernel), List.mem_of_getElem? (i := 682) (by decide +kernel)⟩
theorem lw_p33 : lw_okq (⟨"CommittedParsers$Run", "item", "(LCommittedParsers$Part;II)I"⟩, 13) := ⟨⟨by decide +kernel, by decide +kernel⟩, List.mem_of_getElem? (i := 41) (by decide +kernel), List.mem_of_getElem? (i := 689) (by decide +kernel), List.mem_of_getElem? (i := 690) (by decide +kernel)⟩
theorem lw_p34 : lw_okq (⟨"CommittedParsers$Run", "stepped", "(LCommittedParsers$Part;II)I"⟩, 13) := ⟨⟨by decide +kernel, by decide +kernel⟩, List.mem_of_getElem? (i := 41) (by decide +kernel), List.mem_of_getElem? (i := 693) (by decide +kernel), List.mem_of_getElem? (i := 694) (by decide +kernel)⟩
theorem lw_p35 : lw_okq (⟨"CommittedParsers$Run", "recalled", "(I)I"⟩, 13) := ⟨⟨by decide +kernel, by decide +kernel⟩, List.mem_of_getElem? (i := 41) (by decide +kernel), List.mem_of_getElem? (i := 698) (by decide +kernel), List.mem_of_getElem? (i := 699) (by decide +kernel)⟩
theorem lw_p36 : lw_okq (⟨"CommittedParsers$Run", "matched", "(LCommittedParsers$Part;I)I"⟩, 13) := ⟨⟨by decide +kernel, by decide +kernel⟩, List.mem_of_getElem? (i := 41) (by decide +kernel), List.mem_of_getElem? (i := 703) (by decide +kernel), List.mem_of_getElem? (i := 704) (by decide +kernel)⟩
theorem lw_p37 : lw_okq (⟨"CommittedParsers$Run", "expect", "(LCommittedParsers$Atom;I)V"⟩, 13) := ⟨⟨by decide +kernel, by decide +kernel⟩, List.mem_of_getElem? (i := 41) (by decide +kernel), List.mem_of_getElem? (i := 710) (by decide +kernel), List.mem_of_getElem? (i := 711) (by decide +kernel)⟩
theorem lw_p38 : lw_okq (⟨"CommittedParsers$Run", "note", "(II)V"⟩, 13) := ⟨⟨by decide +kernel, by decide +kernel⟩, List.mem_of_getElem? (i := 41) (by decide +kernel), List.mem_of_getElem? (i := 718) (by decide +kernel), List.mem_of_getElem? (i := 719) (by decide +kernel)⟩
theorem lw_p39 : lw_okq (⟨"CommittedParsers$Run", "chained", "(LCommittedParsers$Part;II)I"⟩, 13) := ⟨⟨by decide +kernel, by decide +kernel⟩, List.mem_of_getElem? (i := 41) (by decide +kernel), List.mem_of_getElem? (i := 722) (by decide +kernel), List.mem_of_getElem? (i := 723) (by decide +kernel)⟩
theorem lw_p40 : lw_okq (⟨"CommittedParsers$Run", "settled", "(IZI)I"⟩, 13) := ⟨⟨by decide +kernel, by decide +kernel⟩, List.mem_of_getElem? (i := 41) (by decide +kernel), List.mem_of_getElem? (i := 726) (by decide +kernel), List.mem_of_getElem? (i := 727) (by decide +kernel)⟩
theorem lw_p41 : lw_okq (⟨"CommittedParsers$Run", "bracketed", "(LCommittedParsers$Part;II)I"⟩, 13) := ⟨⟨by decide +kernel, by decide +kernel⟩, List.mem_of_getElem? (i := 41) (by decide +kernel), List.mem_of_getElem? (i := 738) (by decide +kernel), List.mem_of_getElem? (i := 739) (by decide +kernel)⟩
theorem lw_p42 : lw_okq (⟨"CommittedParsers$Run", "unveiled", "(LCommittedParsers$Part;IIII)I"⟩, 13) := ⟨⟨by decide +kernel, by decide +kernel⟩, List.mem_of_getElem? (i := 41) (by decide +kernel), List.mem_of_getElem? (i := 742) (by decide +kernel), List.mem_of_getElem? (i := 743) (by decide +kernel)⟩
theorem lw_p43 : lw_okq (⟨"CommittedParsers$Last", "list", "(LCommittedParsers$Trees;I)V"⟩, 13) := ⟨⟨by decide +kernel, by decide +kernel⟩, List.mem_of_getElem? (i := 195) (by decide +kernel), List.mem_of_getElem? (i := 775) (by decide +kernel), List.mem_of_getElem? (i := 776) (by decide +kernel)⟩
theorem lw_p44 : lw_okq (⟨"CommittedParsers$Last", "spell", "()V"⟩, 13) := ⟨⟨by decide +kernel, by decide +kernel⟩, List.mem_of_getElem? (i := 195) (by decide +kernel), List.mem_of_getElem? (i := 831) (by decide +kernel), List.mem_of_getElem? (i := 832) (by decide +kernel)⟩
theorem lw_p45 : lw_okq (⟨"CommittedParsers$Last", "close", "(I)V"⟩, 13) := ⟨⟨by decide +kernel, by decide +kernel⟩, List.mem_of_getElem? (i := 195) (by decide +kernel), List.mem_of_getElem? (i := 836) (by decide +kernel), List.mem_of_getElem? (i := 837) (by decide +kernel)⟩
theorem lw_p46 : lw_okq (⟨"CommittedParsers$Last", "part", "(I)V"⟩, 13) := ⟨⟨by decide +kernel, by decide +kernel⟩, List.mem_of_getElem? (i := 195) (by decide +kernel), List.mem_of_getElem? (i := 841) (by decide +kernel), List.mem_of_getElem? (i := 842) (by decide +kernel)⟩
theorem lw_p47 : lw_okq (⟨"CommittedParsers$Last", "spellNumber", "(I)V"⟩, 13) := ⟨⟨by decide +kernel, by decide +kernel⟩, List.mem_of_getElem? (i := 195) (by decide +kernel), List.mem_of_getElem? (i := 845) (by decide +kernel), List.mem_of_getElem? (i := 846) (by decide +kernel)⟩
def lw_privs_3 : List (MethodName × Nat) := [(⟨"CommittedParsers$Run", "sequence", "(LCommittedParsers$Seq;II)I"⟩, 13), (⟨"CommittedParsers$Run", "item", "(LCommittedParsers$Part;II)I"⟩, 13), (⟨"CommittedParsers$Run", "stepped", "(LCommittedParsers$Part;II)I"⟩, 13), (⟨"CommittedParsers$Run", "recalled", "(I)I"⟩, 13), (⟨"CommittedParsers$Run", "matched", "(LCommittedParsers$Part;I)I"⟩, 13), (⟨"CommittedParsers$Run", "expect", "(LCommittedParsers$Atom;I)V"⟩, 13), (⟨"CommittedParsers$Run", "note", "(II)V"⟩, 13), (⟨"CommittedParsers$Run", "chained", "(LCommittedParsers$Part;II)I"⟩, 13), (⟨"CommittedParsers$Run", "settled", "(IZI)I"⟩, 13), (⟨"CommittedParsers$Run", "bracketed", "(LCommittedParsers$Part;II)I"⟩, 13), (⟨"CommittedParsers$Run", "unveiled", "(LCommittedParsers$Part;IIII)I"⟩, 13), (⟨"CommittedParsers$Last", "list", "(LCommittedParsers$Trees;I)V"⟩, 13), (⟨"CommittedParsers$Last", "spell", "()V"⟩, 13), (⟨"CommittedParsers$Last", "close", "(I)V"⟩, 13), (⟨"CommittedParsers$Last", "part", "(I)V"⟩, 13), (⟨"CommittedParsers$Last", "spellNumber", "(I)V"⟩, 13)]
theorem lw_r3 : ∀ q ∈ lw_privs_3, lw_okq q := List.forall_mem_cons.mpr ⟨lw_p32, List.forall_mem_cons.mpr ⟨lw_p33, List.forall_mem_cons.mpr ⟨lw_p34, List.forall_mem_cons.mpr ⟨lw_p35, List.forall_mem_cons.mpr ⟨lw_p36, List.forall_mem_cons.mpr ⟨lw_p37, List.forall_mem_cons.mpr ⟨lw_p38, List.forall_mem_cons.mpr ⟨lw_p39, List.forall_mem_cons.mpr ⟨lw_p40, List.forall_mem_cons.mpr ⟨lw_p41, List.forall_mem_cons.mpr ⟨lw_p42, List.forall_mem_cons.mpr ⟨lw_p43, List.forall_mem_cons.mpr ⟨lw_p44, List.forall_mem_cons.mpr ⟨lw_p45, List.forall_mem_cons.mpr ⟨lw_p46, List.forall_mem_cons.mpr ⟨lw_p47, fun _ h => absurd h List.not_mem_nil⟩⟩⟩⟩⟩⟩⟩⟩⟩⟩⟩⟩⟩⟩⟩⟩
theorem lw_p48 : lw_okq (⟨"CommittedParsersModel", "copies", "(Z)V"⟩, 84) := ⟨⟨by decide +kernel, by decide +kernel⟩, List.mem_of_getElem? (i := 880) (by decide +kernel), List.mem_of_getElem? (i := 1153) (by decide +kernel), List.mem_of_getElem? (i := 1154) (by decide +kernel)⟩
theorem lw_p49 : lw_okq (⟨"CommittedParsersModel", "row", "(I)[I"⟩, 84) := ⟨⟨by decide +kernel, by decide +kernel⟩, List.mem_of_getElem? (i := 880) (by decide +kernel), List.mem_of_getElem? (i := 1157) (by decide +kernel), List.mem_of_getElem? (i := 1158) (by decide +kernel)⟩
theorem lw_p50 : lw_okq (⟨"CommittedParsersModel", "reads", "(Z)V"⟩, 84) := ⟨⟨by decide +kernel, by decide +kernel⟩, List.mem_of_getElem? (i := 880) (by decide +kernel), List.mem_of_getElem? (i := 1161) (by decide +kernel), List.mem_of_getElem? (i := 1162) (by decide +kernel)⟩
theorem lw_p51 : lw_okq (⟨"CommittedParsersModel", "skips", "()V"⟩, 84) := ⟨⟨by decide +kernel, by decide +kernel⟩, List.mem_of_getElem? (i := 880) (by decide +kernel), List.mem_of_getElem? (i := 1165) (by decide +kernel), List.mem_of_getElem? (i := 1166) (by decide +kernel)⟩
theorem lw_p52 : lw_okq (⟨"CommittedParsersModel", "isAt", "(II)Z"⟩, 84) := ⟨⟨by decide +kernel, by decide +kernel⟩, List.mem_of_getElem? (i := 880) (by decide +kernel), List.mem_of_getElem? (i := 1169) (by decide +kernel), List.mem_of_getElem? (i := 1170) (by decide +kernel)⟩
theorem lw_p53 : lw_okq (⟨"CommittedParsersModel", "wrong", "(I)V"⟩, 84) := ⟨⟨by decide +kernel, by decide +kernel⟩, List.mem_of_getElem? (i := 880) (by decide +kernel), List.mem_of_getElem? (i := 1173) (by decide +kernel), List.mem_of_getElem? (i := 1174) (by decide +kernel)⟩
theorem lw_p54 : lw_okq (⟨"CommittedParsersModel", "need", "(I)V"⟩, 84) := ⟨⟨by decide +kernel, by decide +kernel⟩, List.mem_of_getElem? (i := 880) (by decide +kernel), List.mem_of_getElem? (i := 1177) (by decide +kernel), List.mem_of_getElem? (i := 1178) (by decide +kernel)⟩
theorem lw_p55 : lw_okq (⟨"CommittedParsersModel", "takes", "(I)Z"⟩, 84) := ⟨⟨by decide +kernel, by decide +kernel⟩, List.mem_of_getElem? (i := 880) (by decide +kernel), List.mem_of_getElem? (i := 1181) (by decide +kernel), List.mem_of_getElem? (i := 1182) (by decide +kernel)⟩
theorem lw_p56 : lw_okq (⟨"CommittedParsersModel", "alt", "()I"⟩, 84) := ⟨⟨by decide +kernel, by decide +kernel⟩, List.mem_of_getElem? (i := 880) (by decide +kernel), List.mem_of_getElem? (i := 1185) (by decide +kernel), List.mem_of_getElem? (i := 1186) (by decide +kernel)⟩
theorem lw_p57 : lw_okq (⟨"CommittedParsersModel", "seq", "()I"⟩, 84) := ⟨⟨by decide +kernel, by decide +kernel⟩, List.mem_of_getElem? (i := 880) (by decide +kernel), List.mem_of_getElem? (i := 1189) (by decide +kernel), List.mem_of_getElem? (i := 1190) (by decide +kernel)⟩
theorem lw_p58 : lw_okq (⟨"CommittedParsersModel", "item", "()I"⟩, 84) := ⟨⟨by decide +kernel, by decide +kernel⟩, List.mem_of_getElem? (i := 880) (by decide +kernel), List.mem_of_getElem? (i := 1193) (by decide +kernel), List.mem_of_getElem? (i := 1194) (by decide +kernel)⟩
theorem lw_p59 : lw_okq (⟨"CommittedParsersModel", "readPart", "()I"⟩, 84) := ⟨⟨by decide +kernel, by decide +kernel⟩, List.mem_of_getElem? (i := 880) (by decide +kernel), List.mem_of_getElem? (i := 1197) (by decide +kernel), List.mem_of_getElem? (i := 1198) (by decide +kernel)⟩
theorem lw_p60 : lw_okq (⟨"CommittedParsersModel", "inner", "(II)I"⟩, 84) := ⟨⟨by decide +kernel, by decide +kernel⟩, List.mem_of_getElem? (i := 880) (by decide +kernel), List.mem_of_getElem? (i := 1201) (by decide +kernel), List.mem_of_getElem? (i := 1202) (by decide +kernel)⟩
theorem lw_p61 : lw_okq (⟨"CommittedParsersModel", "innerSign", "(I)V"⟩, 84) := ⟨⟨by decide +kernel, by decide +kernel⟩, List.mem_of_getElem? (i := 880) (by decide +kernel), List.mem_of_getElem? (i := 1205) (by decide +kernel), List.mem_of_getElem? (i := 1206) (by decide +kernel)⟩
theorem lw_p62 : lw_okq (⟨"CommittedParsersModel", "atom", "(IIII)I"⟩, 84) := ⟨⟨by decide +kernel, by decide +kernel⟩, List.mem_of_getElem? (i := 880) (by decide +kernel), List.mem_of_getElem? (i := 1209) (by decide +kernel), List.mem_of_getElem? (i := 1210) (by decide +kernel)⟩
theorem lw_p63 : lw_okq (⟨"CommittedParsersModel", "part", "(IIII)I"⟩, 84) := ⟨⟨by decide +kernel, by decide +kernel⟩, List.mem_of_getElem? (i := 880) (by decide +kernel), List.mem_of_getElem? (i := 1213) (by decide +kernel), List.mem_of_getElem? (i := 1214) (by decide +kernel)⟩
def lw_privs_4 : List (MethodName × Nat) := [(⟨"CommittedParsersModel", "copies", "(Z)V"⟩, 84), (⟨"CommittedParsersModel", "row", "(I)[I"⟩, 84), (⟨"CommittedParsersModel", "reads", "(Z)V"⟩, 84), (⟨"CommittedParsersModel", "skips", "()V"⟩, 84), (⟨"CommittedParsersModel", "isAt", "(II)Z"⟩, 84), (⟨"CommittedParsersModel", "wrong", "(I)V"⟩, 84), (⟨"CommittedParsersModel", "need", "(I)V"⟩, 84), (⟨"CommittedParsersModel", "takes", "(I)Z"⟩, 84), (⟨"CommittedParsersModel", "alt", "()I"⟩, 84), (⟨"CommittedParsersModel", "seq", "()I"⟩, 84), (⟨"CommittedParsersModel", "item", "()I"⟩, 84), (⟨"CommittedParsersModel", "readPart", "()I"⟩, 84), (⟨"CommittedParsersModel", "inner", "(II)I"⟩, 84), (⟨"CommittedParsersModel", "innerSign", "(I)V"⟩, 84), (⟨"CommittedParsersModel", "atom", "(IIII)I"⟩, 84), (⟨"CommittedParsersModel", "part", "(IIII)I"⟩, 84)]
theorem lw_r4 : ∀ q ∈ lw_privs_4, lw_okq q := List.forall_mem_cons.mpr ⟨lw_p48, List.forall_mem_cons.mpr ⟨lw_p49, List.forall_mem_cons.mpr ⟨lw_p50, List.forall_mem_cons.mpr ⟨lw_p51, List.forall_mem_cons.mpr ⟨lw_p52, List.forall_mem_cons.mpr ⟨lw_p53, List.forall_mem_cons.mpr ⟨lw_p54, List.forall_mem_cons.mpr ⟨lw_p55, List.forall_mem_cons.mpr ⟨lw_p56, List.forall_mem_cons.mpr ⟨lw_p57, List.forall_mem_cons.mpr ⟨lw_p58, List.forall_mem_cons.mpr ⟨lw_p59, List.forall_mem_cons.mpr ⟨lw_p60, List.forall_mem_cons.mpr ⟨lw_p61, List.forall_mem_cons.mpr ⟨lw_p62, List.forall_mem_cons.mpr ⟨lw_p63, fun _ h => absurd h List.not_mem_nil⟩⟩⟩⟩⟩⟩⟩⟩⟩⟩⟩⟩⟩⟩⟩⟩
theorem lw_p64 : lw_okq (⟨"CommittedParsersModel", "opens", "()V"⟩, 84) := ⟨⟨by decide +kernel, by decide +kernel⟩, List.mem_of_getElem? (i := 880) (by decide +kernel), List.mem_of_getElem? (i := 1217) (by decide +kernel), List.mem_of_getElem? (i := 1218) (by decide +kernel)⟩
theorem lw_p65 : lw_okq (⟨"CommittedParsersModel", "closes", "()V"⟩, 84) := ⟨⟨by decide +kernel, by decide +kernel⟩, List.mem_of_getElem? (i := 880) (by decide +kernel), List.mem_of_getElem? (i := 1221) (by decide +kernel), List.mem_of_getElem? (i := 1222) (by decide +kernel)⟩
theorem lw_p66 : lw_okq (⟨"CommittedParsersModel", "word", "()I"⟩, 84) := ⟨⟨by decide +kernel, by decide +kernel⟩, List.mem_of_getElem? (i := 880) (by decide +kernel), List.mem_of_getElem? (i := 1225) (by decide +kernel), List.mem_of_getElem? (i := 1226) (by decide +kernel)⟩
theorem lw_p67 : lw_okq (⟨"CommittedParsersModel", "begins", "()Z"⟩, 84) := ⟨⟨by decide +kernel, by decide +kernel⟩, List.mem_of_getElem? (i := 880) (by decide +kernel), List.mem_of_getElem? (i := 1231) (by decide +kernel), List.mem_of_getElem? (i := 1232) (by decide +kernel)⟩
theorem lw_p68 : lw_okq (⟨"CommittedParsersModel", "may", "()V"⟩, 84) := ⟨⟨by decide +kernel, by decide +kernel⟩, List.mem_of_getElem? (i := 880) (by decide +kernel), List.mem_of_getElem? (i := 1235) (by decide +kernel), List.mem_of_getElem? (i := 1236) (by decide +kernel)⟩
theorem lw_p69 : lw_okq (⟨"CommittedParsersModel", "mayAlt", "(I)Z"⟩, 84) := ⟨⟨by decide +kernel, by decide +kernel⟩, List.mem_of_getElem? (i := 880) (by decide +kernel), List.mem_of_getElem? (i := 1239) (by decide +kernel), List.mem_of_getElem? (i := 1240) (by decide +kernel)⟩
theorem lw_p70 : lw_okq (⟨"CommittedParsersModel", "mayItem", "(I)Z"⟩, 84) := ⟨⟨by decide +kernel, by decide +kernel⟩, List.mem_of_getElem? (i := 880) (by decide +kernel), List.mem_of_getElem? (i := 1243) (by decide +kernel), List.mem_of_getElem? (i := 1244) (by decide +kernel)⟩
theorem lw_p71 : lw_okq (⟨"CommittedParsersModel", "mayPart", "(I)Z"⟩, 84) := ⟨⟨by decide +kernel, by decide +kernel⟩, List.mem_of_getElem? (i := 880) (by decide +kernel), List.mem_of_getElem? (i := 1247) (by decide +kernel), List.mem_of_getElem? (i := 1248) (by decide +kernel)⟩
theorem lw_p72 : lw_okq (⟨"CommittedParsersModel", "leftAlt", "(I)I"⟩, 84) := ⟨⟨by decide +kernel, by decide +kernel⟩, List.mem_of_getElem? (i := 880) (by decide +kernel), List.mem_of_getElem? (i := 1251) (by decide +kernel), List.mem_of_getElem? (i := 1252) (by decide +kernel)⟩
theorem lw_p73 : lw_okq (⟨"CommittedParsersModel", "leftPart", "(I)I"⟩, 84) := ⟨⟨by decide +kernel, by decide +kernel⟩, List.mem_of_getElem? (i := 880) (by decide +kernel), List.mem_of_getElem? (i := 1255) (by decide +kernel), List.mem_of_getElem? (i := 1256) (by decide +kernel)⟩
theorem lw_p74 : lw_okq (⟨"CommittedParsersModel", "isRule", "(I)Z"⟩, 84) := ⟨⟨by decide +kernel, by decide +kernel⟩, List.mem_of_getElem? (i := 880) (by decide +kernel), List.mem_of_getElem? (i := 1263) (by decide +kernel), List.mem_of_getElem? (i := 1264) (by decide +kernel)⟩
theorem lw_p75 : lw_okq (⟨"CommittedParsersModel", "parses", "(II)I"⟩, 84) := ⟨⟨by decide +kernel, by decide +kernel⟩, List.mem_of_getElem? (i := 880) (by decide +kernel), List.mem_of_getElem? (i := 1267) (by decide +kernel), List.mem_of_getElem? (i := 1268) (by decide +kernel)⟩
theorem lw_p76 : lw_okq (⟨"CommittedParsersModel", "frame", "(I)V"⟩, 84) := ⟨⟨by decide +kernel, by decide +kernel⟩, List.mem_of_getElem? (i := 880) (by decide +kernel), List.mem_of_getElem? (i := 1271) (by decide +kernel), List.mem_of_getElem? (i := 1272) (by decide +kernel)⟩
theorem lw_p77 : lw_okq (⟨"CommittedParsersModel", "named", "(II)Z"⟩, 84) := ⟨⟨by decide +kernel, by decide +kernel⟩, List.mem_of_getElem? (i := 880) (by decide +kernel), List.mem_of_getElem? (i := 1275) (by decide +kernel), List.mem_of_getElem? (i := 1276) (by decide +kernel)⟩
theorem lw_p78 : lw_okq (⟨"CommittedParsersModel", "done", "(IIZ)Z"⟩, 84) := ⟨⟨by decide +kernel, by decide +kernel⟩, List.mem_of_getElem? (i := 880) (by decide +kernel), List.mem_of_getElem? (i := 1279) (by decide +kernel), List.mem_of_getElem? (i := 1280) (by decide +kernel)⟩
theorem lw_p79 : lw_okq (⟨"CommittedParsersModel", "fails", "(Z)Z"⟩, 84) := ⟨⟨by decide +kernel, by decide +kernel⟩, List.mem_of_getElem? (i := 880) (by decide +kernel), List.mem_of_getElem? (i := 1283) (by decide +kernel), List.mem_of_getElem? (i := 1284) (by decide +kernel)⟩
def lw_privs_5 : List (MethodName × Nat) := [(⟨"CommittedParsersModel", "opens", "()V"⟩, 84), (⟨"CommittedParsersModel", "closes", "()V"⟩, 84), (⟨"CommittedParsersModel", "word", "()I"⟩, 84), (⟨"CommittedParsersModel", "begins", "()Z"⟩, 84), (⟨"CommittedParsersModel", "may", "()V"⟩, 84), (⟨"CommittedParsersModel", "mayAlt", "(I)Z"⟩, 84), (⟨"CommittedParsersModel", "mayItem", "(I)Z"⟩, 84), (⟨"CommittedParsersModel", "mayPart", "(I)Z"⟩, 84), (⟨"CommittedParsersModel", "leftAlt", "(I)I"⟩, 84), (⟨"CommittedParsersModel", "leftPart", "(I)I"⟩, 84), (⟨"CommittedParsersModel", "isRule", "(I)Z"⟩, 84), (⟨"CommittedParsersModel", "parses", "(II)I"⟩, 84), (⟨"CommittedParsersModel", "frame", "(I)V"⟩, 84), (⟨"CommittedParsersModel", "named", "(II)Z"⟩, 84), (⟨"CommittedParsersModel", "done", "(IIZ)Z"⟩, 84), (⟨"CommittedParsersModel", "fails", "(Z)Z"⟩, 84)]
theorem lw_r5 : ∀ q ∈ lw_privs_5, lw_okq q := List.forall_mem_cons.mpr ⟨lw_p64, List.forall_mem_cons.mpr ⟨lw_p65, List.forall_mem_cons.mpr ⟨lw_p66, List.forall_mem_cons.mpr ⟨lw_p67, List.forall_mem_cons.mpr ⟨lw_p68, List.forall_mem_cons.mpr ⟨lw_p69, List.forall_mem_cons.mpr ⟨lw_p70, List.forall_mem_cons.mpr ⟨lw_p71, List.forall_mem_cons.mpr ⟨lw_p72, List.forall_mem_cons.mpr ⟨lw_p73, List.forall_mem_cons.mpr ⟨lw_p74, List.forall_mem_cons.mpr ⟨lw_p75, List.forall_mem_cons.mpr ⟨lw_p76, List.forall_mem_cons.mpr ⟨lw_p77, List.forall_mem_cons.mpr ⟨lw_p78, List.forall_mem_cons.mpr ⟨lw_p79, fun _ h => absurd h List.not_mem_nil⟩⟩⟩⟩⟩⟩⟩⟩⟩⟩⟩⟩⟩⟩⟩⟩
theorem lw_p80 : lw_okq (⟨"CommittedParsersModel", "altAt", "(II)Z"⟩, 84) := ⟨⟨by decide +kernel, by decide +kernel⟩, List.mem_of_getElem? (i := 880) (by decide +kernel), List.mem_of_getElem? (i := 1287) (by decide +kernel), List.mem_of_getElem? (i := 1288) (by decide +kernel)⟩
theorem lw_p81 : lw_okq (⟨"CommittedParsersModel", "seqAt", "(II)Z"⟩, 84) := ⟨⟨by decide +kernel, by decide +kernel⟩, List.mem_of_getElem? (i := 880) (by decide +kernel), List.mem_of_getElem? (i := 1291) (by decide +kernel), List.mem_of_getElem? (i := 1292) (by decide +kernel)⟩
theorem lw_p82 : lw_okq (⟨"CommittedParsersModel", "itemAt", "(II)Z"⟩, 84) := ⟨⟨by decide +kernel, by decide +kernel⟩, List.mem_of_getElem? (i := 880) (by decide +kernel), List.mem_of_getElem? (i := 1295) (by decide +kernel), List.mem_of_getElem? (i := 1296) (by decide +kernel)⟩
theorem lw_p83 : lw_okq (⟨"CommittedParsersModel", "part", "(II)Z"⟩, 84) := ⟨⟨by decide +kernel, by decide +kernel⟩, List.mem_of_getElem? (i := 880) (by decide +kernel), List.mem_of_getElem? (i := 1299) (by decide +kernel), List.mem_of_getElem? (i := 1300) (by decide +kernel)⟩
theorem lw_p84 : lw_okq (⟨"CommittedParsersModel", "goes", "(II)Z"⟩, 84) := ⟨⟨by decide +kernel, by decide +kernel⟩, List.mem_of_getElem? (i := 880) (by decide +kernel), List.mem_of_getElem? (i := 1304) (by decide +kernel), List.mem_of_getElem? (i := 1305) (by decide +kernel)⟩
theorem lw_p85 : lw_okq (⟨"CommittedParsersModel", "atomAt", "(IIZI)Z"⟩, 84) := ⟨⟨by decide +kernel, by decide +kernel⟩, List.mem_of_getElem? (i := 880) (by decide +kernel), List.mem_of_getElem? (i := 1308) (by decide +kernel), List.mem_of_getElem? (i := 1309) (by decide +kernel)⟩
theorem lw_p86 : lw_okq (⟨"CommittedParsersModel", "makes", "(II)I"⟩, 84) := ⟨⟨by decide +kernel, by decide +kernel⟩, List.mem_of_getElem? (i := 880) (by decide +kernel), List.mem_of_getElem? (i := 1312) (by decide +kernel), List.mem_of_getElem? (i := 1313) (by decide +kernel)⟩
theorem lw_p87 : lw_okq (⟨"CommittedParsersModel", "expects", "(III)V"⟩, 84) := ⟨⟨by decide +kernel, by decide +kernel⟩, List.mem_of_getElem? (i := 880) (by decide +kernel), List.mem_of_getElem? (i := 1316) (by decide +kernel), List.mem_of_getElem? (i := 1317) (by decide +kernel)⟩
theorem lw_p88 : lw_okq (⟨"CommittedParsersModel", "chain", "(III)Z"⟩, 84) := ⟨⟨by decide +kernel, by decide +kernel⟩, List.mem_of_getElem? (i := 880) (by decide +kernel), List.mem_of_getElem? (i := 1320) (by decide +kernel), List.mem_of_getElem? (i := 1321) (by decide +kernel)⟩
theorem lw_p89 : lw_okq (⟨"CommittedParsersModel", "orEmpty", "(I)I"⟩, 84) := ⟨⟨by decide +kernel, by decide +kernel⟩, List.mem_of_getElem? (i := 880) (by decide +kernel), List.mem_of_getElem? (i := 1324) (by decide +kernel), List.mem_of_getElem? (i := 1325) (by decide +kernel)⟩
theorem lw_p90 : lw_okq (⟨"CommittedParsersModel", "adds", "(II)V"⟩, 84) := ⟨⟨by decide +kernel, by decide +kernel⟩, List.mem_of_getElem? (i := 880) (by decide +kernel), List.mem_of_getElem? (i := 1328) (by decide +kernel), List.mem_of_getElem? (i := 1329) (by decide +kernel)⟩
theorem lw_p91 : lw_okq (⟨"CommittedParsersModel", "whole", "(I)I"⟩, 84) := ⟨⟨by decide +kernel, by decide +kernel⟩, List.mem_of_getElem? (i := 880) (by decide +kernel), List.mem_of_getElem? (i := 1332) (by decide +kernel), List.mem_of_getElem? (i := 1333) (by decide +kernel)⟩
theorem lw_p92 : lw_okq (⟨"CommittedParsersModel", "flat", "(II)V"⟩, 84) := ⟨⟨by decide +kernel, by decide +kernel⟩, List.mem_of_getElem? (i := 880) (by decide +kernel), List.mem_of_getElem? (i := 1336) (by decide +kernel), List.mem_of_getElem? (i := 1337) (by decide +kernel)⟩
theorem lw_p93 : lw_okq (⟨"CommittedParsersModel", "writes", "()V"⟩, 84) := ⟨⟨by decide +kernel, by decide +kernel⟩, List.mem_of_getElem? (i := 880) (by decide +kernel), List.mem_of_getElem? (i := 1340) (by decide +kernel), List.mem_of_getElem? (i := 1341) (by decide +kernel)⟩
theorem lw_p94 : lw_okq (⟨"CommittedParsersModel", "write", "(I)V"⟩, 84) := ⟨⟨by decide +kernel, by decide +kernel⟩, List.mem_of_getElem? (i := 880) (by decide +kernel), List.mem_of_getElem? (i := 1344) (by decide +kernel), List.mem_of_getElem? (i := 1345) (by decide +kernel)⟩
theorem lw_p95 : lw_okq (⟨"CommittedParsersModel", "worthFrom", "()I"⟩, 84) := ⟨⟨by decide +kernel, by decide +kernel⟩, List.mem_of_getElem? (i := 880) (by decide +kernel), List.mem_of_getElem? (i := 1360) (by decide +kernel), List.mem_of_getElem? (i := 1361) (by decide +kernel)⟩
def lw_privs_6 : List (MethodName × Nat) := [(⟨"CommittedParsersModel", "altAt", "(II)Z"⟩, 84), (⟨"CommittedParsersModel", "seqAt", "(II)Z"⟩, 84), (⟨"CommittedParsersModel", "itemAt", "(II)Z"⟩, 84), (⟨"CommittedParsersModel", "part", "(II)Z"⟩, 84), (⟨"CommittedParsersModel", "goes", "(II)Z"⟩, 84), (⟨"CommittedParsersModel", "atomAt", "(IIZI)Z"⟩, 84), (⟨"CommittedParsersModel", "makes", "(II)I"⟩, 84), (⟨"CommittedParsersModel", "expects", "(III)V"⟩, 84), (⟨"CommittedParsersModel", "chain", "(III)Z"⟩, 84), (⟨"CommittedParsersModel", "orEmpty", "(I)I"⟩, 84), (⟨"CommittedParsersModel", "adds", "(II)V"⟩, 84), (⟨"CommittedParsersModel", "whole", "(I)I"⟩, 84), (⟨"CommittedParsersModel", "flat", "(II)V"⟩, 84), (⟨"CommittedParsersModel", "writes", "()V"⟩, 84), (⟨"CommittedParsersModel", "write", "(I)V"⟩, 84), (⟨"CommittedParsersModel", "worthFrom", "()I"⟩, 84)]
theorem lw_r6 : ∀ q ∈ lw_privs_6, lw_okq q := List.forall_mem_cons.mpr ⟨lw_p80, List.forall_mem_cons.mpr ⟨lw_p81, List.forall_mem_cons.mpr ⟨lw_p82, List.forall_mem_cons.mpr ⟨lw_p83, List.forall_mem_cons.mpr ⟨lw_p84, List.forall_mem_cons.mpr ⟨lw_p85, List.forall_mem_cons.mpr ⟨lw_p86, List.forall_mem_cons.mpr ⟨lw_p87, List.forall_mem_cons.mpr ⟨lw_p88, List.forall_mem_cons.mpr ⟨lw_p89, List.forall_mem_cons.mpr ⟨lw_p90, List.forall_mem_cons.mpr ⟨lw_p91, List.forall_mem_cons.mpr ⟨lw_p92, List.forall_mem_cons.mpr ⟨lw_p93, List.forall_mem_cons.mpr ⟨lw_p94, List.forall_mem_cons.mpr ⟨lw_p95, fun _ h => absurd h List.not_mem_nil⟩⟩⟩⟩⟩⟩⟩⟩⟩⟩⟩⟩⟩⟩⟩⟩
def lw_privs : List (MethodName × Nat) := lw_privs_1 ++ (lw_privs_2 ++ (lw_privs_3 ++ (lw_privs_4 ++ (lw_privs_5 ++ (lw_privs_6)))))
def lw_tbl : List Cond := k2_sels lw_privs ++ tables_1
theorem lw_privs_ok : ∀ q ∈ lw_privs, lw_okq q := by
  show ∀ q ∈ lw_privs_1 ++ (lw_privs_2 ++ (lw_privs_3 ++ (lw_privs_4 ++ (lw_privs_5 ++ (lw_privs_6))))), lw_okq q
  exact List.forall_mem_append.mpr ⟨lw_r1, List.forall_mem_append.mpr ⟨lw_r2, List.forall_mem_append.mpr ⟨lw_r3, List.forall_mem_append.mpr ⟨lw_r4, List.forall_mem_append.mpr ⟨lw_r5, lw_r6⟩⟩⟩⟩⟩
-- ===== end of PART A; then your names; then what follows =====
/-! ===== BEGIN words of one list among another's, by their places ===== -/
theorem goodIn_r {big : List Cond} (ws : List Cond) (ps : List Nat) (hp : ws = ps.filterMap (fun i => big[i]?)) (h : ws.all goodWord = true) : GoodIn big ws := by
  intro w hw
  have h1 := List.all_eq_true.mp h w hw
  rw [hp] at hw
  obtain ⟨i, -, hi⟩ := List.mem_filterMap.mp hw
  have hm : w ∈ big := by first | exact List.mem_of_getElem? hi | exact List.getElem?_mem hi
  exact ⟨hm, good_of_word h1⟩
theorem goodIn_app {big a b : List Cond} (ha : GoodIn big a) (hb : GoodIn big b) : GoodIn big (a ++ b) := fun w h => (List.mem_append.mp h).elim (ha w) (hb w)
theorem goodIn_ca {big a b : List Cond} {c : Cond} (ha : GoodIn big (c :: a)) (hb : GoodIn big b) : GoodIn big (c :: (a ++ b)) := fun w h => (List.mem_cons.mp h).elim (fun e => ha w (List.mem_cons.mpr (Or.inl e))) (fun h => (List.mem_append.mp h).elim (fun h => ha w (List.mem_cons.mpr (Or.inr h))) (hb w))
theorem goodIn_sub {big ws : List Cond} (hm : ∀ w ∈ ws, w ∈ big) (h : ws.all goodWord = true) : GoodIn big ws := fun w hw => ⟨hm w hw, good_of_word (List.all_eq_true.mp h w hw)⟩
/-! ===== END ===== -/


/-! ===== BEGIN printed: names, fields, word lists, decode rows ===== -/
def RX0 : String := "CommittedParsers$Atom"
def TX0 : u_T := fun k => match k with
  | 0 => ("CommittedParsers$Atom", "kind", "I", true)
  | 1 => ("CommittedParsers$Atom", "place", "I", true)
  | 2 => ("CommittedParsers$Atom", "number", "I", true)
  | 3 => ("CommittedParsers$Atom", "low", "I", false)
  | _ => ("CommittedParsers$Atom", "high", "I", false)
def tyX0 : Nat → FieldType := fun k => match k with
  | 0 => .int
  | 1 => .int
  | 2 => .int
  | 3 => .int
  | _ => .int
abbrev wsX00 : List Cond := u_ws RX0 TX0 5
theorem nmX0 : ∀ a, a < 5 → ∀ b, b < 5 → a ≠ b → (TX0 a).2.1 ≠ (TX0 b).2.1 := by decide +kernel
theorem tyX0_ok : ∀ k, k < 5 → parseFieldDescriptor (TX0 k).2.2.1 = some (tyX0 k) := by decide +kernel
abbrev cX0_init : ByteArray := prog_2_method_1_code
def yX0_init : MethodName := ⟨RX0, "<init>", "(III)V"⟩
abbrev cX0_bit : ByteArray := prog_2_method_2_code
def yX0_bit : MethodName := ⟨RX0, "bit", "()I"⟩
def RX1 : String := "CommittedParsers$Grammar"
def TX1 : u_T := fun k => match k with
  | 0 => ("CommittedParsers$Grammar", "bodies", "[LCommittedParsers$Seq;", true)
  | 1 => ("CommittedParsers$Grammar", "atomsIn", "LCommittedParsers$Row;", true)
  | 2 => ("CommittedParsers$Grammar", "found", "[LCommittedParsers$Atom;", true)
  | 3 => ("CommittedParsers$Grammar", "quoted", "LCommittedParsers$Row;", true)
  | 4 => ("CommittedParsers$Grammar", "rules", "I", false)
  | 5 => ("CommittedParsers$Grammar", "atoms", "I", false)
  | 6 => ("CommittedParsers$Grammar", "nothing", "I", false)
  | _ => ("CommittedParsers$Grammar", "self", "I", false)
def tyX1 : Nat → FieldType := fun k => match k with
  | 0 => .array (.object "CommittedParsers$Seq")
  | 1 => .object "CommittedParsers$Row"
  | 2 => .array (.object "CommittedParsers$Atom")
  | 3 => .object "CommittedParsers$Row"
  | 4 => .int
  | 5 => .int
  | 6 => .int
  | _ => .int
abbrev wsX10 : List Cond := u_ws RX1 TX1 8
theorem nmX1 : ∀ a, a < 8 → ∀ b, b < 8 → a ≠ b → (TX1 a).2.1 ≠ (TX1 b).2.1 := by decide +kernel
theorem tyX1_ok : ∀ k, k < 8 → parseFieldDescriptor (TX1 k).2.2.1 = some (tyX1 k) := by decide +kernel
abbrev cX1_init : ByteArray := prog_3_method_1_code
def yX1_init : MethodName := ⟨RX1, "<init>", "()V"⟩
abbrev cX1_body : ByteArray := prog_3_method_2_code
def yX1_body : MethodName := ⟨RX1, "body", "(I)LCommittedParsers$Seq;"⟩
abbrev cX1_has : ByteArray := prog_3_method_3_code
def yX1_has : MethodName := ⟨RX1, "has", "(I)Z"⟩
abbrev cX1_addRule : ByteArray := prog_3_method_4_code
def yX1_addRule : MethodName := ⟨RX1, "addRule", "(ILCommittedParsers$Seq;I)V"⟩
abbrev cX1_atomsWithin : ByteArray := prog_3_method_5_code
def yX1_atomsWithin : MethodName := ⟨RX1, "atomsWithin", "(I)I"⟩
abbrev cX1_atomAt : ByteArray := prog_3_method_6_code
def yX1_atomAt : MethodName := ⟨RX1, "atomAt", "(I)LCommittedParsers$Atom;"⟩
abbrev cX1_addAtom : ByteArray := prog_3_method_7_code
def yX1_addAtom : MethodName := ⟨RX1, "addAtom", "(II)LCommittedParsers$Atom;"⟩
abbrev cX1_addQuoted : ByteArray := prog_3_method_8_code
def yX1_addQuoted : MethodName := ⟨RX1, "addQuoted", "(I)V"⟩
abbrev cX1_drawnByte : ByteArray := prog_3_method_9_code
def yX1_drawnByte : MethodName := ⟨RX1, "drawnByte", "(I)I"⟩
def RX2 : String := "CommittedParsers$Last"
def TX2 : u_T := fun k => match k with
  | 0 => ("CommittedParsers$Last", "known", "Z", false)
  | 1 => ("CommittedParsers$Last", "far", "I", false)
  | 2 => ("CommittedParsers$Last", "wanted", "I", false)
  | 3 => ("CommittedParsers$Last", "steps", "I", false)
  | 4 => ("CommittedParsers$Last", "remembered", "I", false)
  | 5 => ("CommittedParsers$Last", "value", "I", false)
  | 6 => ("CommittedParsers$Last", "sharp", "Z", false)
  | 7 => ("CommittedParsers$Last", "sort", "LCommittedParsers$Row;", true)
  | 8 => ("CommittedParsers$Last", "number", "LCommittedParsers$Row;", true)
  | 9 => ("CommittedParsers$Last", "within", "LCommittedParsers$Row;", true)
  | 10 => ("CommittedParsers$Last", "open", "LCommittedParsers$Row;", true)
  | 11 => ("CommittedParsers$Last", "signs", "LCommittedParsers$Row;", true)
  | _ => ("CommittedParsers$Last", "spelled", "Z", false)
def tyX2 : Nat → FieldType := fun k => match k with
  | 0 => .boolean
  | 1 => .int
  | 2 => .int
  | 3 => .int
  | 4 => .int
  | 5 => .int
  | 6 => .boolean
  | 7 => .object "CommittedParsers$Row"
  | 8 => .object "CommittedParsers$Row"
  | 9 => .object "CommittedParsers$Row"
  | 10 => .object "CommittedParsers$Row"
  | 11 => .object "CommittedParsers$Row"
  | _ => .boolean
abbrev wsX20 : List Cond := u_ws RX2 TX2 13
theorem nmX2 : ∀ a, a < 13 → ∀ b, b < 13 → a ≠ b → (TX2 a).2.1 ≠ (TX2 b).2.1 := by decide +kernel
theorem tyX2_ok : ∀ k, k < 13 → parseFieldDescriptor (TX2 k).2.2.1 = some (tyX2 k) := by decide +kernel
abbrev cX2_init : ByteArray := prog_4_method_1_code
def yX2_init : MethodName := ⟨RX2, "<init>", "()V"⟩
abbrev cX2_forget : ByteArray := prog_4_method_2_code
def yX2_forget : MethodName := ⟨RX2, "forget", "()V"⟩
abbrev cX2_keep : ByteArray := prog_4_method_3_code
def yX2_keep : MethodName := ⟨RX2, "keep", "(LCommittedParsers$Run;)V"⟩
abbrev cX2_list : ByteArray := prog_4_method_4_code
def yX2_list : MethodName := ⟨RX2, "list", "(LCommittedParsers$Trees;I)V"⟩
abbrev cX2_nodes : ByteArray := prog_4_method_5_code
def yX2_nodes : MethodName := ⟨RX2, "nodes", "()I"⟩
abbrev cX2_about : ByteArray := prog_4_method_6_code
def yX2_about : MethodName := ⟨RX2, "about", "(II)I"⟩
abbrev cX2_sign : ByteArray := prog_4_method_7_code
def yX2_sign : MethodName := ⟨RX2, "sign", "(I)I"⟩
abbrev cX2_spell : ByteArray := prog_4_method_8_code
def yX2_spell : MethodName := ⟨RX2, "spell", "()V"⟩
abbrev cX2_close : ByteArray := prog_4_method_9_code
def yX2_close : MethodName := ⟨RX2, "close", "(I)V"⟩
abbrev cX2_part : ByteArray := prog_4_method_10_code
def yX2_part : MethodName := ⟨RX2, "part", "(I)V"⟩
abbrev cX2_spellNumber : ByteArray := prog_4_method_11_code
def yX2_spellNumber : MethodName := ⟨RX2, "spellNumber", "(I)V"⟩
def RX3 : String := "CommittedParsers$May"
def TX3 : u_T := fun k => match k with
  | 0 => ("CommittedParsers$May", "made", "LCommittedParsers$Grammar;", true)
  | _ => ("CommittedParsers$May", "heads", "LCommittedParsers$Row;", true)
def tyX3 : Nat → FieldType := fun k => match k with
  | 0 => .object "CommittedParsers$Grammar"
  | _ => .object "CommittedParsers$Row"
abbrev wsX30 : List Cond := u_ws RX3 TX3 2
theorem nmX3 : ∀ a, a < 2 → ∀ b, b < 2 → a ≠ b → (TX3 a).2.1 ≠ (TX3 b).2.1 := by decide +kernel
theorem tyX3_ok : ∀ k, k < 2 → parseFieldDescriptor (TX3 k).2.2.1 = some (tyX3 k) := by decide +kernel
abbrev cX3_init : ByteArray := prog_5_method_1_code
def yX3_init : MethodName := ⟨RX3, "<init>", "(LCommittedParsers$Grammar;)V"⟩
abbrev cX3_find : ByteArray := prog_5_method_2_code
def yX3_find : MethodName := ⟨RX3, "find", "()V"⟩
abbrev cX3_join : ByteArray := prog_5_method_3_code
def yX3_join : MethodName := ⟨RX3, "join", "(I)V"⟩
abbrev cX3_altNothing : ByteArray := prog_5_method_4_code
def yX3_altNothing : MethodName := ⟨RX3, "altNothing", "(LCommittedParsers$Seq;)Z"⟩
abbrev cX3_seqNothing : ByteArray := prog_5_method_5_code
def yX3_seqNothing : MethodName := ⟨RX3, "seqNothing", "(LCommittedParsers$Seq;)Z"⟩
abbrev cX3_itemNothing : ByteArray := prog_5_method_6_code
def yX3_itemNothing : MethodName := ⟨RX3, "itemNothing", "(LCommittedParsers$Part;)Z"⟩
abbrev cX3_altHeads : ByteArray := prog_5_method_7_code
def yX3_altHeads : MethodName := ⟨RX3, "altHeads", "(LCommittedParsers$Seq;)I"⟩
abbrev cX3_partHeads : ByteArray := prog_5_method_8_code
def yX3_partHeads : MethodName := ⟨RX3, "partHeads", "(LCommittedParsers$Part;)I"⟩
def RX4 : String := "CommittedParsers$Part"
def TX4 : u_T := fun k => match k with
  | 0 => ("CommittedParsers$Part", "kind", "I", true)
  | 1 => ("CommittedParsers$Part", "times", "I", false)
  | 2 => ("CommittedParsers$Part", "atom", "LCommittedParsers$Atom;", false)
  | 3 => ("CommittedParsers$Part", "named", "I", false)
  | 4 => ("CommittedParsers$Part", "body", "LCommittedParsers$Seq;", false)
  | 5 => ("CommittedParsers$Part", "second", "LCommittedParsers$Seq;", false)
  | _ => ("CommittedParsers$Part", "next", "LCommittedParsers$Part;", false)
def tyX4 : Nat → FieldType := fun k => match k with
  | 0 => .int
  | 1 => .int
  | 2 => .object "CommittedParsers$Atom"
  | 3 => .int
  | 4 => .object "CommittedParsers$Seq"
  | 5 => .object "CommittedParsers$Seq"
  | _ => .object "CommittedParsers$Part"
abbrev wsX40 : List Cond := u_ws RX4 TX4 7
theorem nmX4 : ∀ a, a < 7 → ∀ b, b < 7 → a ≠ b → (TX4 a).2.1 ≠ (TX4 b).2.1 := by decide +kernel
theorem tyX4_ok : ∀ k, k < 7 → parseFieldDescriptor (TX4 k).2.2.1 = some (tyX4 k) := by decide +kernel
abbrev cX4_init : ByteArray := prog_6_method_1_code
def yX4_init : MethodName := ⟨RX4, "<init>", "(I)V"⟩
abbrev cX4_justQuoted : ByteArray := prog_6_method_2_code
def yX4_justQuoted : MethodName := ⟨RX4, "justQuoted", "()Z"⟩
def RX5 : String := "CommittedParsers$Reader"
def TX5 : u_T := fun k => match k with
  | 0 => ("CommittedParsers$Reader", "signs", "LCommittedParsers$Row;", true)
  | 1 => ("CommittedParsers$Reader", "made", "LCommittedParsers$Grammar;", true)
  | 2 => ("CommittedParsers$Reader", "firstUse", "LCommittedParsers$Row;", true)
  | 3 => ("CommittedParsers$Reader", "at", "I", false)
  | 4 => ("CommittedParsers$Reader", "open", "I", false)
  | _ => ("CommittedParsers$Reader", "fault", "I", false)
def tyX5 : Nat → FieldType := fun k => match k with
  | 0 => .object "CommittedParsers$Row"
  | 1 => .object "CommittedParsers$Grammar"
  | 2 => .object "CommittedParsers$Row"
  | 3 => .int
  | 4 => .int
  | _ => .int
abbrev wsX50 : List Cond := u_ws RX5 TX5 6
theorem nmX5 : ∀ a, a < 6 → ∀ b, b < 6 → a ≠ b → (TX5 a).2.1 ≠ (TX5 b).2.1 := by decide +kernel
theorem tyX5_ok : ∀ k, k < 6 → parseFieldDescriptor (TX5 k).2.2.1 = some (tyX5 k) := by decide +kernel
abbrev cX5_init : ByteArray := prog_7_method_1_code
def yX5_init : MethodName := ⟨RX5, "<init>", "(LCommittedParsers$Row;)V"⟩
abbrev cX5_read : ByteArray := prog_7_method_2_code
def yX5_read : MethodName := ⟨RX5, "read", "()LCommittedParsers$Grammar;"⟩
abbrev cX5_fail : ByteArray := prog_7_method_3_code
def yX5_fail : MethodName := ⟨RX5, "fail", "(I)V"⟩
abbrev cX5_ahead : ByteArray := prog_7_method_4_code
def yX5_ahead : MethodName := ⟨RX5, "ahead", "()I"⟩
abbrev cX5_more : ByteArray := prog_7_method_5_code
def yX5_more : MethodName := ⟨RX5, "more", "()Z"⟩
abbrev cX5_takes : ByteArray := prog_7_method_6_code
def yX5_takes : MethodName := ⟨RX5, "takes", "(I)Z"⟩
abbrev cX5_must : ByteArray := prog_7_method_7_code
def yX5_must : MethodName := ⟨RX5, "must", "(I)V"⟩
abbrev cX5_isName : ByteArray := prog_7_method_8_code
def yX5_isName : MethodName := ⟨RX5, "isName", "(I)Z"⟩
abbrev cX5_isSmall : ByteArray := prog_7_method_9_code
def yX5_isSmall : MethodName := ⟨RX5, "isSmall", "(I)Z"⟩
abbrev cX5_readRule : ByteArray := prog_7_method_10_code
def yX5_readRule : MethodName := ⟨RX5, "readRule", "()V"⟩
abbrev cX5_readAlt : ByteArray := prog_7_method_11_code
def yX5_readAlt : MethodName := ⟨RX5, "readAlt", "()LCommittedParsers$Seq;"⟩
abbrev cX5_readSeq : ByteArray := prog_7_method_12_code
def yX5_readSeq : MethodName := ⟨RX5, "readSeq", "()LCommittedParsers$Seq;"⟩
abbrev cX5_partAhead : ByteArray := prog_7_method_13_code
def yX5_partAhead : MethodName := ⟨RX5, "partAhead", "()Z"⟩
abbrev cX5_readItem : ByteArray := prog_7_method_14_code
def yX5_readItem : MethodName := ⟨RX5, "readItem", "()LCommittedParsers$Part;"⟩
abbrev cX5_readPart : ByteArray := prog_7_method_15_code
def yX5_readPart : MethodName := ⟨RX5, "readPart", "()LCommittedParsers$Part;"⟩
abbrev cX5_newPart : ByteArray := prog_7_method_16_code
def yX5_newPart : MethodName := ⟨RX5, "newPart", "(I)LCommittedParsers$Part;"⟩
abbrev cX5_readQuoted : ByteArray := prog_7_method_17_code
def yX5_readQuoted : MethodName := ⟨RX5, "readQuoted", "()LCommittedParsers$Part;"⟩
abbrev cX5_readRange : ByteArray := prog_7_method_18_code
def yX5_readRange : MethodName := ⟨RX5, "readRange", "()LCommittedParsers$Part;"⟩
abbrev cX5_closeBytes : ByteArray := prog_7_method_19_code
def yX5_closeBytes : MethodName := ⟨RX5, "closeBytes", "(LCommittedParsers$Part;III)V"⟩
abbrev cX5_readName : ByteArray := prog_7_method_20_code
def yX5_readName : MethodName := ⟨RX5, "readName", "(I)LCommittedParsers$Part;"⟩
abbrev cX5_readWord : ByteArray := prog_7_method_21_code
def yX5_readWord : MethodName := ⟨RX5, "readWord", "()LCommittedParsers$Part;"⟩
abbrev cX5_wordKind : ByteArray := prog_7_method_22_code
def yX5_wordKind : MethodName := ⟨RX5, "wordKind", "(I)I"⟩
abbrev cX5_spells : ByteArray := prog_7_method_23_code
def yX5_spells : MethodName := ⟨RX5, "spells", "(Ljava/lang/String;I)Z"⟩
abbrev cX5_opens : ByteArray := prog_7_method_24_code
def yX5_opens : MethodName := ⟨RX5, "opens", "()Z"⟩
abbrev cX5_readBody : ByteArray := prog_7_method_25_code
def yX5_readBody : MethodName := ⟨RX5, "readBody", "(LCommittedParsers$Part;)V"⟩
abbrev cX5_readChain : ByteArray := prog_7_method_26_code
def yX5_readChain : MethodName := ⟨RX5, "readChain", "(LCommittedParsers$Part;)V"⟩
abbrev cX5_findUnknownName : ByteArray := prog_7_method_27_code
def yX5_findUnknownName : MethodName := ⟨RX5, "findUnknownName", "()V"⟩
def RX6 : String := "CommittedParsers$Row"
def TX6 : u_T := fun k => match k with
  | 0 => ("CommittedParsers$Row", "cells", "[I", true)
  | _ => ("CommittedParsers$Row", "used", "I", false)
def tyX6 : Nat → FieldType := fun k => match k with
  | 0 => .array .int
  | _ => .int
abbrev wsX60 : List Cond := u_ws RX6 TX6 2
theorem nmX6 : ∀ a, a < 2 → ∀ b, b < 2 → a ≠ b → (TX6 a).2.1 ≠ (TX6 b).2.1 := by decide +kernel
theorem tyX6_ok : ∀ k, k < 2 → parseFieldDescriptor (TX6 k).2.2.1 = some (tyX6 k) := by decide +kernel
abbrev cX6_init : ByteArray := prog_8_method_1_code
def yX6_init : MethodName := ⟨RX6, "<init>", "(I)V"⟩
abbrev cX6_size : ByteArray := prog_8_method_2_code
def yX6_size : MethodName := ⟨RX6, "size", "()I"⟩
abbrev cX6_at : ByteArray := prog_8_method_3_code
def yX6_at : MethodName := ⟨RX6, "at", "(I)I"⟩
abbrev cX6_put : ByteArray := prog_8_method_4_code
def yX6_put : MethodName := ⟨RX6, "put", "(II)V"⟩
abbrev cX6_add : ByteArray := prog_8_method_5_code
def yX6_add : MethodName := ⟨RX6, "add", "(I)V"⟩
abbrev cX6_shrink : ByteArray := prog_8_method_6_code
def yX6_shrink : MethodName := ⟨RX6, "shrink", "(I)V"⟩
abbrev cX6_fill : ByteArray := prog_8_method_7_code
def yX6_fill : MethodName := ⟨RX6, "fill", "(II)V"⟩
def RX7 : String := "CommittedParsers$Run"
def TX7 : u_T := fun k => match k with
  | 0 => ("CommittedParsers$Run", "memory", "LCommittedParsers$Row;", true)
  | 1 => ("CommittedParsers$Run", "memoryTree", "LCommittedParsers$Row;", true)
  | 2 => ("CommittedParsers$Run", "memorySharp", "LCommittedParsers$Row;", true)
  | 3 => ("CommittedParsers$Run", "trees", "LCommittedParsers$Trees;", true)
  | 4 => ("CommittedParsers$Run", "laws", "LCommittedParsers$Grammar;", false)
  | 5 => ("CommittedParsers$Run", "over", "LCommittedParsers$Row;", false)
  | 6 => ("CommittedParsers$Run", "tree", "I", false)
  | 7 => ("CommittedParsers$Run", "steps", "I", false)
  | 8 => ("CommittedParsers$Run", "spent", "I", false)
  | 9 => ("CommittedParsers$Run", "remembered", "I", false)
  | 10 => ("CommittedParsers$Run", "far", "I", false)
  | 11 => ("CommittedParsers$Run", "wanted", "I", false)
  | _ => ("CommittedParsers$Run", "sharp", "Z", false)
def tyX7 : Nat → FieldType := fun k => match k with
  | 0 => .object "CommittedParsers$Row"
  | 1 => .object "CommittedParsers$Row"
  | 2 => .object "CommittedParsers$Row"
  | 3 => .object "CommittedParsers$Trees"
  | 4 => .object "CommittedParsers$Grammar"
  | 5 => .object "CommittedParsers$Row"
  | 6 => .int
  | 7 => .int
  | 8 => .int
  | 9 => .int
  | 10 => .int
  | 11 => .int
  | _ => .boolean
abbrev wsX70 : List Cond := u_ws RX7 TX7 13
theorem nmX7 : ∀ a, a < 13 → ∀ b, b < 13 → a ≠ b → (TX7 a).2.1 ≠ (TX7 b).2.1 := by decide +kernel
theorem tyX7_ok : ∀ k, k < 13 → parseFieldDescriptor (TX7 k).2.2.1 = some (tyX7 k) := by decide +kernel
abbrev cX7_init : ByteArray := prog_9_method_1_code
def yX7_init : MethodName := ⟨RX7, "<init>", "()V"⟩
abbrev cX7_through : ByteArray := prog_9_method_2_code
def yX7_through : MethodName := ⟨RX7, "through", "(LCommittedParsers$Grammar;LCommittedParsers$Row;II)I"⟩
abbrev cX7_ruled : ByteArray := prog_9_method_3_code
def yX7_ruled : MethodName := ⟨RX7, "ruled", "(III)I"⟩
abbrev cX7_alternatives : ByteArray := prog_9_method_4_code
def yX7_alternatives : MethodName := ⟨RX7, "alternatives", "(LCommittedParsers$Seq;II)I"⟩
abbrev cX7_sequence : ByteArray := prog_9_method_5_code
def yX7_sequence : MethodName := ⟨RX7, "sequence", "(LCommittedParsers$Seq;II)I"⟩
abbrev cX7_item : ByteArray := prog_9_method_6_code
def yX7_item : MethodName := ⟨RX7, "item", "(LCommittedParsers$Part;II)I"⟩
abbrev cX7_settled : ByteArray := prog_9_method_7_code
def yX7_settled : MethodName := ⟨RX7, "settled", "(IZI)I"⟩
abbrev cX7_stepped : ByteArray := prog_9_method_8_code
def yX7_stepped : MethodName := ⟨RX7, "stepped", "(LCommittedParsers$Part;II)I"⟩
abbrev cX7_recalled : ByteArray := prog_9_method_9_code
def yX7_recalled : MethodName := ⟨RX7, "recalled", "(I)I"⟩
abbrev cX7_matched : ByteArray := prog_9_method_10_code
def yX7_matched : MethodName := ⟨RX7, "matched", "(LCommittedParsers$Part;I)I"⟩
abbrev cX7_fits : ByteArray := prog_9_method_11_code
def yX7_fits : MethodName := ⟨RX7, "fits", "(LCommittedParsers$Part;I)Z"⟩
abbrev cX7_bracketed : ByteArray := prog_9_method_12_code
def yX7_bracketed : MethodName := ⟨RX7, "bracketed", "(LCommittedParsers$Part;II)I"⟩
abbrev cX7_unveiled : ByteArray := prog_9_method_13_code
def yX7_unveiled : MethodName := ⟨RX7, "unveiled", "(LCommittedParsers$Part;IIII)I"⟩
abbrev cX7_chained : ByteArray := prog_9_method_14_code
def yX7_chained : MethodName := ⟨RX7, "chained", "(LCommittedParsers$Part;II)I"⟩
abbrev cX7_expect : ByteArray := prog_9_method_15_code
def yX7_expect : MethodName := ⟨RX7, "expect", "(LCommittedParsers$Atom;I)V"⟩
abbrev cX7_note : ByteArray := prog_9_method_16_code
def yX7_note : MethodName := ⟨RX7, "note", "(II)V"⟩
def RX8 : String := "CommittedParsers$Seq"
def TX8 : u_T := fun k => match k with
  | 0 => ("CommittedParsers$Seq", "head", "LCommittedParsers$Part;", false)
  | _ => ("CommittedParsers$Seq", "next", "LCommittedParsers$Seq;", false)
def tyX8 : Nat → FieldType := fun k => match k with
  | 0 => .object "CommittedParsers$Part"
  | _ => .object "CommittedParsers$Seq"
abbrev wsX80 : List Cond := u_ws RX8 TX8 2
theorem nmX8 : ∀ a, a < 2 → ∀ b, b < 2 → a ≠ b → (TX8 a).2.1 ≠ (TX8 b).2.1 := by decide +kernel
theorem tyX8_ok : ∀ k, k < 2 → parseFieldDescriptor (TX8 k).2.2.1 = some (tyX8 k) := by decide +kernel
abbrev cX8_init : ByteArray := prog_10_method_1_code
def yX8_init : MethodName := ⟨RX8, "<init>", "()V"⟩
def RX9 : String := "CommittedParsers$Trees"
def TX9 : u_T := fun k => match k with
  | 0 => ("CommittedParsers$Trees", "sort", "LCommittedParsers$Row;", true)
  | 1 => ("CommittedParsers$Trees", "number", "LCommittedParsers$Row;", true)
  | 2 => ("CommittedParsers$Trees", "firstKid", "LCommittedParsers$Row;", true)
  | 3 => ("CommittedParsers$Trees", "size", "LCommittedParsers$Row;", true)
  | 4 => ("CommittedParsers$Trees", "value", "LCommittedParsers$Row;", true)
  | 5 => ("CommittedParsers$Trees", "kids", "LCommittedParsers$Row;", true)
  | _ => ("CommittedParsers$Trees", "held", "LCommittedParsers$Row;", true)
def tyX9 : Nat → FieldType := fun k => match k with
  | 0 => .object "CommittedParsers$Row"
  | 1 => .object "CommittedParsers$Row"
  | 2 => .object "CommittedParsers$Row"
  | 3 => .object "CommittedParsers$Row"
  | 4 => .object "CommittedParsers$Row"
  | 5 => .object "CommittedParsers$Row"
  | _ => .object "CommittedParsers$Row"
abbrev wsX90 : List Cond := u_ws RX9 TX9 7
theorem nmX9 : ∀ a, a < 7 → ∀ b, b < 7 → a ≠ b → (TX9 a).2.1 ≠ (TX9 b).2.1 := by decide +kernel
theorem tyX9_ok : ∀ k, k < 7 → parseFieldDescriptor (TX9 k).2.2.1 = some (tyX9 k) := by decide +kernel
abbrev cX9_init : ByteArray := prog_11_method_1_code
def yX9_init : MethodName := ⟨RX9, "<init>", "()V"⟩
abbrev cX9_clear : ByteArray := prog_11_method_2_code
def yX9_clear : MethodName := ⟨RX9, "clear", "()V"⟩
abbrev cX9_make : ByteArray := prog_11_method_3_code
def yX9_make : MethodName := ⟨RX9, "make", "(IIII)I"⟩
abbrev cX9_sortOf : ByteArray := prog_11_method_4_code
def yX9_sortOf : MethodName := ⟨RX9, "sortOf", "(I)I"⟩
abbrev cX9_numberOf : ByteArray := prog_11_method_5_code
def yX9_numberOf : MethodName := ⟨RX9, "numberOf", "(I)I"⟩
abbrev cX9_sizeOf : ByteArray := prog_11_method_6_code
def yX9_sizeOf : MethodName := ⟨RX9, "sizeOf", "(I)I"⟩
abbrev cX9_valueOf : ByteArray := prog_11_method_7_code
def yX9_valueOf : MethodName := ⟨RX9, "valueOf", "(I)I"⟩
abbrev cX9_kidsOf : ByteArray := prog_11_method_8_code
def yX9_kidsOf : MethodName := ⟨RX9, "kidsOf", "(I)I"⟩
abbrev cX9_kid : ByteArray := prog_11_method_9_code
def yX9_kid : MethodName := ⟨RX9, "kid", "(II)I"⟩
abbrev cX9_mark : ByteArray := prog_11_method_10_code
def yX9_mark : MethodName := ⟨RX9, "mark", "()I"⟩
abbrev cX9_hold : ByteArray := prog_11_method_11_code
def yX9_hold : MethodName := ⟨RX9, "hold", "(I)V"⟩
abbrev cX9_drop : ByteArray := prog_11_method_12_code
def yX9_drop : MethodName := ⟨RX9, "drop", "(I)V"⟩
abbrev cX9_bough : ByteArray := prog_11_method_13_code
def yX9_bough : MethodName := ⟨RX9, "bough", "(I)I"⟩
abbrev cX9_joined : ByteArray := prog_11_method_14_code
def yX9_joined : MethodName := ⟨RX9, "joined", "(II)I"⟩
abbrev cX9_fork : ByteArray := prog_11_method_15_code
def yX9_fork : MethodName := ⟨RX9, "fork", "(III)I"⟩
abbrev cX9_reckoned : ByteArray := prog_11_method_16_code
def yX9_reckoned : MethodName := ⟨RX9, "reckoned", "(III)I"⟩
def RX10 : String := "CommittedParsers"
def TX10 : u_T := fun k => match k with
  | 0 => ("CommittedParsers", "tape", "LCommittedParsers$Row;", false)
  | 1 => ("CommittedParsers", "bytes", "LCommittedParsers$Row;", false)
  | 2 => ("CommittedParsers", "draft", "LCommittedParsers$Row;", true)
  | 3 => ("CommittedParsers", "run", "LCommittedParsers$Run;", true)
  | 4 => ("CommittedParsers", "last", "LCommittedParsers$Last;", true)
  | _ => ("CommittedParsers", "current", "LCommittedParsers$Grammar;", false)
def tyX10 : Nat → FieldType := fun k => match k with
  | 0 => .object "CommittedParsers$Row"
  | 1 => .object "CommittedParsers$Row"
  | 2 => .object "CommittedParsers$Row"
  | 3 => .object "CommittedParsers$Run"
  | 4 => .object "CommittedParsers$Last"
  | _ => .object "CommittedParsers$Grammar"
abbrev wsX100 : List Cond := u_ws RX10 TX10 6
theorem nmX10 : ∀ a, a < 6 → ∀ b, b < 6 → a ≠ b → (TX10 a).2.1 ≠ (TX10 b).2.1 := by decide +kernel
theorem tyX10_ok : ∀ k, k < 6 → parseFieldDescriptor (TX10 k).2.2.1 = some (tyX10 k) := by decide +kernel
abbrev cX10_init : ByteArray := prog_1_method_1_code
def yX10_init : MethodName := ⟨RX10, "<init>", "()V"⟩
abbrev cX10_feed : ByteArray := prog_1_method_2_code
def yX10_feed : MethodName := ⟨RX10, "feed", "(II)I"⟩
abbrev cX10_grammar : ByteArray := prog_1_method_3_code
def yX10_grammar : MethodName := ⟨RX10, "grammar", "()I"⟩
abbrev cX10_input : ByteArray := prog_1_method_4_code
def yX10_input : MethodName := ⟨RX10, "input", "()I"⟩
abbrev cX10_parse : ByteArray := prog_1_method_5_code
def yX10_parse : MethodName := ⟨RX10, "parse", "(II)I"⟩
abbrev cX10_told : ByteArray := prog_1_method_6_code
def yX10_told : MethodName := ⟨RX10, "told", "(I)I"⟩
abbrev cX10_node : ByteArray := prog_1_method_7_code
def yX10_node : MethodName := ⟨RX10, "node", "(II)I"⟩
abbrev cX10_worth : ByteArray := prog_1_method_8_code
def yX10_worth : MethodName := ⟨RX10, "worth", "()I"⟩
abbrev cX10_text : ByteArray := prog_1_method_9_code
def yX10_text : MethodName := ⟨RX10, "text", "(I)I"⟩
abbrev cX10_rule : ByteArray := prog_1_method_10_code
def yX10_rule : MethodName := ⟨RX10, "rule", "(II)I"⟩
abbrev cX10_atom : ByteArray := prog_1_method_11_code
def yX10_atom : MethodName := ⟨RX10, "atom", "(II)I"⟩
abbrev cX10_drawn : ByteArray := prog_1_method_12_code
def yX10_drawn : MethodName := ⟨RX10, "drawn", "(IIII)I"⟩
abbrev cX10_count : ByteArray := prog_1_method_13_code
def yX10_count : MethodName := ⟨RX10, "count", "(I)I"⟩
def RX11 : String := "CommittedParsersModel"
def TX11 : u_T := fun k => match k with
  | 0 => ("CommittedParsersModel", "tape", "[I", true)
  | 1 => ("CommittedParsersModel", "input", "[I", true)
  | 2 => ("CommittedParsersModel", "drawnInput", "[I", true)
  | 3 => ("CommittedParsersModel", "tapeSize", "I", false)
  | 4 => ("CommittedParsersModel", "inputSize", "I", false)
  | 5 => ("CommittedParsersModel", "rules", "I", false)
  | 6 => ("CommittedParsersModel", "atoms", "I", false)
  | 7 => ("CommittedParsersModel", "ruleAlt", "[I", true)
  | 8 => ("CommittedParsersModel", "altFirst", "[I", true)
  | 9 => ("CommittedParsersModel", "seqFirst", "[I", true)
  | 10 => ("CommittedParsersModel", "seqNext", "[I", true)
  | 11 => ("CommittedParsersModel", "itemPart", "[I", true)
  | 12 => ("CommittedParsersModel", "itemSign", "[I", true)
  | 13 => ("CommittedParsersModel", "itemNext", "[I", true)
  | 14 => ("CommittedParsersModel", "type", "[I", true)
  | 15 => ("CommittedParsersModel", "one", "[I", true)
  | 16 => ("CommittedParsersModel", "two", "[I", true)
  | 17 => ("CommittedParsersModel", "partAtom", "[I", true)
  | 18 => ("CommittedParsersModel", "atomPlace", "[I", true)
  | 19 => ("CommittedParsersModel", "atomType", "[I", true)
  | 20 => ("CommittedParsersModel", "atomOne", "[I", true)
  | 21 => ("CommittedParsersModel", "atomTwo", "[I", true)
  | 22 => ("CommittedParsersModel", "atomRule", "[I", true)
  | 23 => ("CommittedParsersModel", "nothing", "[Z", true)
  | 24 => ("CommittedParsersModel", "comesTo", "[I", true)
  | 25 => ("CommittedParsersModel", "at", "I", false)
  | 26 => ("CommittedParsersModel", "fault", "I", false)
  | 27 => ("CommittedParsersModel", "open", "I", false)
  | 28 => ("CommittedParsersModel", "readRules", "I", false)
  | 29 => ("CommittedParsersModel", "readAtoms", "I", false)
  | 30 => ("CommittedParsersModel", "alts", "I", false)
  | 31 => ("CommittedParsersModel", "seqs", "I", false)
  | 32 => ("CommittedParsersModel", "items", "I", false)
  | 33 => ("CommittedParsersModel", "parts", "I", false)
  | 34 => ("CommittedParsersModel", "names", "I", false)
  | 35 => ("CommittedParsersModel", "firstMissing", "I", false)
  | 36 => ("CommittedParsersModel", "stores", "Z", false)
  | 37 => ("CommittedParsersModel", "nowRule", "I", false)
  | 38 => ("CommittedParsersModel", "namePlace", "[I", true)
  | 39 => ("CommittedParsersModel", "nameRule", "[I", true)
  | 40 => ("CommittedParsersModel", "in", "[I", false)
  | 41 => ("CommittedParsersModel", "inSize", "I", false)
  | 42 => ("CommittedParsersModel", "over", "I", false)
  | 43 => ("CommittedParsersModel", "steps", "I", false)
  | 44 => ("CommittedParsersModel", "allSteps", "I", false)
  | 45 => ("CommittedParsersModel", "deep", "I", false)
  | 46 => ("CommittedParsersModel", "memories", "I", false)
  | 47 => ("CommittedParsersModel", "place", "I", false)
  | 48 => ("CommittedParsersModel", "tree", "I", false)
  | 49 => ("CommittedParsersModel", "frames", "I", false)
  | 50 => ("CommittedParsersModel", "nodes", "I", false)
  | 51 => ("CommittedParsersModel", "links", "I", false)
  | 52 => ("CommittedParsersModel", "sharp", "Z", false)
  | 53 => ("CommittedParsersModel", "memo", "[I", true)
  | 54 => ("CommittedParsersModel", "memoPlace", "[I", true)
  | 55 => ("CommittedParsersModel", "memoTree", "[I", true)
  | 56 => ("CommittedParsersModel", "memoSharp", "[Z", true)
  | 57 => ("CommittedParsersModel", "running", "[Z", true)
  | 58 => ("CommittedParsersModel", "frameAt", "[I", true)
  | 59 => ("CommittedParsersModel", "frameBits", "[I", true)
  | 60 => ("CommittedParsersModel", "frameFar", "[I", true)
  | 61 => ("CommittedParsersModel", "frameFarBits", "[I", true)
  | 62 => ("CommittedParsersModel", "kind", "[I", true)
  | 63 => ("CommittedParsersModel", "number", "[I", true)
  | 64 => ("CommittedParsersModel", "size", "[I", true)
  | 65 => ("CommittedParsersModel", "child", "[I", true)
  | 66 => ("CommittedParsersModel", "lastChild", "[I", true)
  | 67 => ("CommittedParsersModel", "linkTree", "[I", true)
  | 68 => ("CommittedParsersModel", "linkNext", "[I", true)
  | 69 => ("CommittedParsersModel", "isParsed", "Z", false)
  | 70 => ("CommittedParsersModel", "lastSharp", "Z", false)
  | 71 => ("CommittedParsersModel", "far", "I", false)
  | 72 => ("CommittedParsersModel", "wanted", "I", false)
  | 73 => ("CommittedParsersModel", "lastSteps", "I", false)
  | 74 => ("CommittedParsersModel", "lastMemories", "I", false)
  | 75 => ("CommittedParsersModel", "lastNodes", "I", false)
  | 76 => ("CommittedParsersModel", "nKind", "[I", true)
  | 77 => ("CommittedParsersModel", "nNumber", "[I", true)
  | 78 => ("CommittedParsersModel", "nMany", "[I", true)
  | 79 => ("CommittedParsersModel", "nDeep", "[I", true)
  | 80 => ("CommittedParsersModel", "letters", "[I", true)
  | 81 => ("CommittedParsersModel", "lettersMany", "I", false)
  | 82 => ("CommittedParsersModel", "walked", "I", false)
  | _ => ("CommittedParsersModel", "beside", "[[I", true)
def tyX11 : Nat → FieldType := fun k => match k with
  | 0 => .array .int
  | 1 => .array .int
  | 2 => .array .int
  | 3 => .int
  | 4 => .int
  | 5 => .int
  | 6 => .int
  | 7 => .array .int
  | 8 => .array .int
  | 9 => .array .int
  | 10 => .array .int
  | 11 => .array .int
  | 12 => .array .int
  | 13 => .array .int
  | 14 => .array .int
  | 15 => .array .int
  | 16 => .array .int
  | 17 => .array .int
  | 18 => .array .int
  | 19 => .array .int
  | 20 => .array .int
  | 21 => .array .int
  | 22 => .array .int
  | 23 => .array .boolean
  | 24 => .array .int
  | 25 => .int
  | 26 => .int
  | 27 => .int
  | 28 => .int
  | 29 => .int
  | 30 => .int
  | 31 => .int
  | 32 => .int
  | 33 => .int
  | 34 => .int
  | 35 => .int
  | 36 => .boolean
  | 37 => .int
  | 38 => .array .int
  | 39 => .array .int
  | 40 => .array .int
  | 41 => .int
  | 42 => .int
  | 43 => .int
  | 44 => .int
  | 45 => .int
  | 46 => .int
  | 47 => .int
  | 48 => .int
  | 49 => .int
  | 50 => .int
  | 51 => .int
  | 52 => .boolean
  | 53 => .array .int
  | 54 => .array .int
  | 55 => .array .int
  | 56 => .array .boolean
  | 57 => .array .boolean
  | 58 => .array .int
  | 59 => .array .int
  | 60 => .array .int
  | 61 => .array .int
  | 62 => .array .int
  | 63 => .array .int
  | 64 => .array .int
  | 65 => .array .int
  | 66 => .array .int
  | 67 => .array .int
  | 68 => .array .int
  | 69 => .boolean
  | 70 => .boolean
  | 71 => .int
  | 72 => .int
  | 73 => .int
  | 74 => .int
  | 75 => .int
  | 76 => .array .int
  | 77 => .array .int
  | 78 => .array .int
  | 79 => .array .int
  | 80 => .array .int
  | 81 => .int
  | 82 => .int
  | _ => .array (.array .int)
abbrev wsX110 : List Cond := u_ws RX11 TX11 84
theorem nmX11 : ∀ a, a < 84 → ∀ b, b < 84 → a ≠ b → (TX11 a).2.1 ≠ (TX11 b).2.1 := by decide +kernel
theorem tyX11_ok : ∀ k, k < 84 → parseFieldDescriptor (TX11 k).2.2.1 = some (tyX11 k) := by decide +kernel
abbrev cX11_init : ByteArray := prog_13_method_1_code
def yX11_init : MethodName := ⟨RX11, "<init>", "()V"⟩
abbrev cX11_feed : ByteArray := prog_13_method_2_code
def yX11_feed : MethodName := ⟨RX11, "feed", "(II)I"⟩
abbrev cX11_input : ByteArray := prog_13_method_3_code
def yX11_input : MethodName := ⟨RX11, "input", "()I"⟩
abbrev cX11_isAt : ByteArray := prog_13_method_4_code
def yX11_isAt : MethodName := ⟨RX11, "isAt", "(II)Z"⟩
abbrev cX11_skips : ByteArray := prog_13_method_5_code
def yX11_skips : MethodName := ⟨RX11, "skips", "()V"⟩
abbrev cX11_wrong : ByteArray := prog_13_method_6_code
def yX11_wrong : MethodName := ⟨RX11, "wrong", "(I)V"⟩
abbrev cX11_takes : ByteArray := prog_13_method_7_code
def yX11_takes : MethodName := ⟨RX11, "takes", "(I)Z"⟩
abbrev cX11_need : ByteArray := prog_13_method_8_code
def yX11_need : MethodName := ⟨RX11, "need", "(I)V"⟩
abbrev cX11_opens : ByteArray := prog_13_method_9_code
def yX11_opens : MethodName := ⟨RX11, "opens", "()V"⟩
abbrev cX11_closes : ByteArray := prog_13_method_10_code
def yX11_closes : MethodName := ⟨RX11, "closes", "()V"⟩
abbrev cX11_atom : ByteArray := prog_13_method_11_code
def yX11_atom : MethodName := ⟨RX11, "atom", "(IIII)I"⟩
abbrev cX11_part : ByteArray := prog_13_method_12_code
def yX11_part : MethodName := ⟨RX11, "part", "(IIII)I"⟩
abbrev cX11_inner : ByteArray := prog_13_method_13_code
def yX11_inner : MethodName := ⟨RX11, "inner", "(II)I"⟩
abbrev cX11_innerSign : ByteArray := prog_13_method_14_code
def yX11_innerSign : MethodName := ⟨RX11, "innerSign", "(I)V"⟩
abbrev cX11_word : ByteArray := prog_13_method_15_code
def yX11_word : MethodName := ⟨RX11, "word", "()I"⟩
abbrev cX11_readPart : ByteArray := prog_13_method_16_code
def yX11_readPart : MethodName := ⟨RX11, "readPart", "()I"⟩
abbrev cX11_item : ByteArray := prog_13_method_17_code
def yX11_item : MethodName := ⟨RX11, "item", "()I"⟩
abbrev cX11_begins : ByteArray := prog_13_method_18_code
def yX11_begins : MethodName := ⟨RX11, "begins", "()Z"⟩
abbrev cX11_seq : ByteArray := prog_13_method_19_code
def yX11_seq : MethodName := ⟨RX11, "seq", "()I"⟩
abbrev cX11_alt : ByteArray := prog_13_method_20_code
def yX11_alt : MethodName := ⟨RX11, "alt", "()I"⟩
abbrev cX11_reads : ByteArray := prog_13_method_21_code
def yX11_reads : MethodName := ⟨RX11, "reads", "(Z)V"⟩
abbrev cX11_row : ByteArray := prog_13_method_22_code
def yX11_row : MethodName := ⟨RX11, "row", "(I)[I"⟩
abbrev cX11_copies : ByteArray := prog_13_method_23_code
def yX11_copies : MethodName := ⟨RX11, "copies", "(Z)V"⟩
abbrev cX11_grammar : ByteArray := prog_13_method_24_code
def yX11_grammar : MethodName := ⟨RX11, "grammar", "()I"⟩
abbrev cX11_mayPart : ByteArray := prog_13_method_25_code
def yX11_mayPart : MethodName := ⟨RX11, "mayPart", "(I)Z"⟩
abbrev cX11_mayItem : ByteArray := prog_13_method_26_code
def yX11_mayItem : MethodName := ⟨RX11, "mayItem", "(I)Z"⟩
abbrev cX11_mayAlt : ByteArray := prog_13_method_27_code
def yX11_mayAlt : MethodName := ⟨RX11, "mayAlt", "(I)Z"⟩
abbrev cX11_leftPart : ByteArray := prog_13_method_28_code
def yX11_leftPart : MethodName := ⟨RX11, "leftPart", "(I)I"⟩
abbrev cX11_leftAlt : ByteArray := prog_13_method_29_code
def yX11_leftAlt : MethodName := ⟨RX11, "leftAlt", "(I)I"⟩
abbrev cX11_may : ByteArray := prog_13_method_30_code
def yX11_may : MethodName := ⟨RX11, "may", "()V"⟩
abbrev cX11_makes : ByteArray := prog_13_method_31_code
def yX11_makes : MethodName := ⟨RX11, "makes", "(II)I"⟩
abbrev cX11_adds : ByteArray := prog_13_method_32_code
def yX11_adds : MethodName := ⟨RX11, "adds", "(II)V"⟩
abbrev cX11_whole : ByteArray := prog_13_method_33_code
def yX11_whole : MethodName := ⟨RX11, "whole", "(I)I"⟩
abbrev cX11_expects : ByteArray := prog_13_method_34_code
def yX11_expects : MethodName := ⟨RX11, "expects", "(III)V"⟩
abbrev cX11_frame : ByteArray := prog_13_method_35_code
def yX11_frame : MethodName := ⟨RX11, "frame", "(I)V"⟩
abbrev cX11_fails : ByteArray := prog_13_method_36_code
def yX11_fails : MethodName := ⟨RX11, "fails", "(Z)Z"⟩
abbrev cX11_done : ByteArray := prog_13_method_37_code
def yX11_done : MethodName := ⟨RX11, "done", "(IIZ)Z"⟩
abbrev cX11_part_ : ByteArray := prog_13_method_38_code
def yX11_part_ : MethodName := ⟨RX11, "part", "(II)Z"⟩
abbrev cX11_atomAt : ByteArray := prog_13_method_39_code
def yX11_atomAt : MethodName := ⟨RX11, "atomAt", "(IIZI)Z"⟩
abbrev cX11_goes : ByteArray := prog_13_method_40_code
def yX11_goes : MethodName := ⟨RX11, "goes", "(II)Z"⟩
abbrev cX11_named : ByteArray := prog_13_method_41_code
def yX11_named : MethodName := ⟨RX11, "named", "(II)Z"⟩
abbrev cX11_altAt : ByteArray := prog_13_method_42_code
def yX11_altAt : MethodName := ⟨RX11, "altAt", "(II)Z"⟩
abbrev cX11_seqAt : ByteArray := prog_13_method_43_code
def yX11_seqAt : MethodName := ⟨RX11, "seqAt", "(II)Z"⟩
abbrev cX11_itemAt : ByteArray := prog_13_method_44_code
def yX11_itemAt : MethodName := ⟨RX11, "itemAt", "(II)Z"⟩
abbrev cX11_orEmpty : ByteArray := prog_13_method_45_code
def yX11_orEmpty : MethodName := ⟨RX11, "orEmpty", "(I)I"⟩
abbrev cX11_chain : ByteArray := prog_13_method_46_code
def yX11_chain : MethodName := ⟨RX11, "chain", "(III)Z"⟩
abbrev cX11_parses : ByteArray := prog_13_method_47_code
def yX11_parses : MethodName := ⟨RX11, "parses", "(II)I"⟩
abbrev cX11_isRule : ByteArray := prog_13_method_48_code
def yX11_isRule : MethodName := ⟨RX11, "isRule", "(I)Z"⟩
abbrev cX11_flat : ByteArray := prog_13_method_49_code
def yX11_flat : MethodName := ⟨RX11, "flat", "(II)V"⟩
abbrev cX11_parse : ByteArray := prog_13_method_50_code
def yX11_parse : MethodName := ⟨RX11, "parse", "(II)I"⟩
abbrev cX11_told : ByteArray := prog_13_method_51_code
def yX11_told : MethodName := ⟨RX11, "told", "(I)I"⟩
abbrev cX11_node : ByteArray := prog_13_method_52_code
def yX11_node : MethodName := ⟨RX11, "node", "(II)I"⟩
abbrev cX11_worthFrom : ByteArray := prog_13_method_53_code
def yX11_worthFrom : MethodName := ⟨RX11, "worthFrom", "()I"⟩
abbrev cX11_worth : ByteArray := prog_13_method_54_code
def yX11_worth : MethodName := ⟨RX11, "worth", "()I"⟩
abbrev cX11_write : ByteArray := prog_13_method_55_code
def yX11_write : MethodName := ⟨RX11, "write", "(I)V"⟩
abbrev cX11_writes : ByteArray := prog_13_method_56_code
def yX11_writes : MethodName := ⟨RX11, "writes", "()V"⟩
abbrev cX11_text : ByteArray := prog_13_method_57_code
def yX11_text : MethodName := ⟨RX11, "text", "(I)I"⟩
abbrev cX11_rule : ByteArray := prog_13_method_58_code
def yX11_rule : MethodName := ⟨RX11, "rule", "(II)I"⟩
abbrev cX11_atom_ : ByteArray := prog_13_method_59_code
def yX11_atom_ : MethodName := ⟨RX11, "atom", "(II)I"⟩
abbrev cX11_drawn : ByteArray := prog_13_method_60_code
def yX11_drawn : MethodName := ⟨RX11, "drawn", "(IIII)I"⟩
abbrev cX11_count : ByteArray := prog_13_method_61_code
def yX11_count : MethodName := ⟨RX11, "count", "(I)I"⟩
def RJx145de : String := "java/io/Serializable"
def TJx145de : u_T := fun k => match k with
  | _ => ("", "", "", false)
def tyJx145de : Nat → FieldType := fun k => match k with
  | _ => .int
abbrev wsJx145de0 : List Cond := u_ws RJx145de TJx145de 0
theorem nmJx145de : ∀ a, a < 0 → ∀ b, b < 0 → a ≠ b → (TJx145de a).2.1 ≠ (TJx145de b).2.1 := by decide +kernel
theorem tyJx145de_ok : ∀ k, k < 0 → parseFieldDescriptor (TJx145de k).2.2.1 = some (tyJx145de k) := by decide +kernel
def RJx9f9b0 : String := "java/lang/CharSequence"
def TJx9f9b0 : u_T := fun k => match k with
  | _ => ("", "", "", false)
def tyJx9f9b0 : Nat → FieldType := fun k => match k with
  | _ => .int
abbrev wsJx9f9b00 : List Cond := u_ws RJx9f9b0 TJx9f9b0 0
theorem nmJx9f9b0 : ∀ a, a < 0 → ∀ b, b < 0 → a ≠ b → (TJx9f9b0 a).2.1 ≠ (TJx9f9b0 b).2.1 := by decide +kernel
theorem tyJx9f9b0_ok : ∀ k, k < 0 → parseFieldDescriptor (TJx9f9b0 k).2.2.1 = some (tyJx9f9b0 k) := by decide +kernel
def RJxb160c : String := "java/lang/Comparable"
def TJxb160c : u_T := fun k => match k with
  | _ => ("", "", "", false)
def tyJxb160c : Nat → FieldType := fun k => match k with
  | _ => .int
abbrev wsJxb160c0 : List Cond := u_ws RJxb160c TJxb160c 0
theorem nmJxb160c : ∀ a, a < 0 → ∀ b, b < 0 → a ≠ b → (TJxb160c a).2.1 ≠ (TJxb160c b).2.1 := by decide +kernel
theorem tyJxb160c_ok : ∀ k, k < 0 → parseFieldDescriptor (TJxb160c k).2.2.1 = some (tyJxb160c k) := by decide +kernel
def RJ0 : String := "java/lang/String"
def TJ0 : u_T := fun k => match k with
  | _ => ("", "", "", false)
def tyJ0 : Nat → FieldType := fun k => match k with
  | _ => .int
abbrev wsJ00 : List Cond := u_ws RJ0 TJ0 0
theorem nmJ0 : ∀ a, a < 0 → ∀ b, b < 0 → a ≠ b → (TJ0 a).2.1 ≠ (TJ0 b).2.1 := by decide +kernel
theorem tyJ0_ok : ∀ k, k < 0 → parseFieldDescriptor (TJ0 k).2.2.1 = some (tyJ0 k) := by decide +kernel
abbrev cJ0_length_8abf5 : ByteArray := prog_14_method_54_code
def yJ0_length_8abf5 : MethodName := ⟨RJ0, "length", "()I"⟩
abbrev cJ0_charAt_5068e : ByteArray := prog_14_method_56_code
def yJ0_charAt_5068e : MethodName := ⟨RJ0, "charAt", "(I)C"⟩
abbrev cJ0_coder_7d493 : ByteArray := prog_14_method_152_code
def yJ0_coder_7d493 : MethodName := ⟨RJ0, "coder", "()B"⟩
abbrev cJ0_isLatin1_aae02 : ByteArray := prog_14_method_154_code
def yJ0_isLatin1_aae02 : MethodName := ⟨RJ0, "isLatin1", "()Z"⟩
abbrev cJ0_checkIndex_df160 : ByteArray := prog_14_method_155_code
def yJ0_checkIndex_df160 : MethodName := ⟨RJ0, "checkIndex", "(II)V"⟩
def RJ1 : String := "java/lang/StringLatin1"
def TJ1 : u_T := fun k => match k with
  | _ => ("", "", "", false)
def tyJ1 : Nat → FieldType := fun k => match k with
  | _ => .int
abbrev wsJ10 : List Cond := u_ws RJ1 TJ1 0
theorem nmJ1 : ∀ a, a < 0 → ∀ b, b < 0 → a ≠ b → (TJ1 a).2.1 ≠ (TJ1 b).2.1 := by decide +kernel
theorem tyJ1_ok : ∀ k, k < 0 → parseFieldDescriptor (TJ1 k).2.2.1 = some (tyJ1 k) := by decide +kernel
abbrev cJ1_charAt_3b067 : ByteArray := prog_15_method_2_code
def yJ1_charAt_3b067 : MethodName := ⟨RJ1, "charAt", "([BI)C"⟩
def RJ2 : String := "java/lang/StringUTF16"
def TJ2 : u_T := fun k => match k with
  | _ => ("", "", "", false)
def tyJ2 : Nat → FieldType := fun k => match k with
  | _ => .int
abbrev wsJ20 : List Cond := u_ws RJ2 TJ2 0
theorem nmJ2 : ∀ a, a < 0 → ∀ b, b < 0 → a ≠ b → (TJ2 a).2.1 ≠ (TJ2 b).2.1 := by decide +kernel
theorem tyJ2_ok : ∀ k, k < 0 → parseFieldDescriptor (TJ2 k).2.2.1 = some (tyJ2 k) := by decide +kernel
abbrev cJ2_getChar_3b067 : ByteArray := prog_16_method_5_code
def yJ2_getChar_3b067 : MethodName := ⟨RJ2, "getChar", "([BI)C"⟩
abbrev cJ2_length_9d52b : ByteArray := prog_16_method_6_code
def yJ2_length_9d52b : MethodName := ⟨RJ2, "length", "([B)I"⟩
abbrev cJ2_charAt_3b067 : ByteArray := prog_16_method_83_code
def yJ2_charAt_3b067 : MethodName := ⟨RJ2, "charAt", "([BI)C"⟩
abbrev cJ2_checkIndex_2214a : ByteArray := prog_16_method_91_code
def yJ2_checkIndex_2214a : MethodName := ⟨RJ2, "checkIndex", "(I[B)V"⟩
def RJxfd54e : String := "java/lang/constant/Constable"
def TJxfd54e : u_T := fun k => match k with
  | _ => ("", "", "", false)
def tyJxfd54e : Nat → FieldType := fun k => match k with
  | _ => .int
abbrev wsJxfd54e0 : List Cond := u_ws RJxfd54e TJxfd54e 0
theorem nmJxfd54e : ∀ a, a < 0 → ∀ b, b < 0 → a ≠ b → (TJxfd54e a).2.1 ≠ (TJxfd54e b).2.1 := by decide +kernel
theorem tyJxfd54e_ok : ∀ k, k < 0 → parseFieldDescriptor (TJxfd54e k).2.2.1 = some (tyJxfd54e k) := by decide +kernel
def RJx3cf43 : String := "java/lang/constant/ConstantDesc"
def TJx3cf43 : u_T := fun k => match k with
  | _ => ("", "", "", false)
def tyJx3cf43 : Nat → FieldType := fun k => match k with
  | _ => .int
abbrev wsJx3cf430 : List Cond := u_ws RJx3cf43 TJx3cf43 0
theorem nmJx3cf43 : ∀ a, a < 0 → ∀ b, b < 0 → a ≠ b → (TJx3cf43 a).2.1 ≠ (TJx3cf43 b).2.1 := by decide +kernel
theorem tyJx3cf43_ok : ∀ k, k < 0 → parseFieldDescriptor (TJx3cf43 k).2.2.1 = some (tyJx3cf43 k) := by decide +kernel
def RJ7 : String := "java/util/Arrays"
def TJ7 : u_T := fun k => match k with
  | _ => ("", "", "", false)
def tyJ7 : Nat → FieldType := fun k => match k with
  | _ => .int
abbrev wsJ70 : List Cond := u_ws RJ7 TJ7 0
theorem nmJ7 : ∀ a, a < 0 → ∀ b, b < 0 → a ≠ b → (TJ7 a).2.1 ≠ (TJ7 b).2.1 := by decide +kernel
theorem tyJ7_ok : ∀ k, k < 0 → parseFieldDescriptor (TJ7 k).2.2.1 = some (tyJ7 k) := by decide +kernel
abbrev cJ7_rangeCheck_23922 : ByteArray := prog_17_method_30_code
def yJ7_rangeCheck_23922 : MethodName := ⟨RJ7, "rangeCheck", "(III)V"⟩
abbrev cJ7_fill_fda19 : ByteArray := prog_17_method_104_code
def yJ7_fill_fda19 : MethodName := ⟨RJ7, "fill", "([IIII)V"⟩
def RJ3 : String := "jdk/internal/util/Preconditions"
def TJ3 : u_T := fun k => match k with
  | _ => ("", "", "", false)
def tyJ3 : Nat → FieldType := fun k => match k with
  | _ => .int
abbrev wsJ30 : List Cond := u_ws RJ3 TJ3 0
theorem nmJ3 : ∀ a, a < 0 → ∀ b, b < 0 → a ≠ b → (TJ3 a).2.1 ≠ (TJ3 b).2.1 := by decide +kernel
theorem tyJ3_ok : ∀ k, k < 0 → parseFieldDescriptor (TJ3 k).2.2.1 = some (tyJ3 k) := by decide +kernel
abbrev cJ3_checkIndex_8e157 : ByteArray := prog_18_method_11_code
def yJ3_checkIndex_8e157 : MethodName := ⟨RJ3, "checkIndex", "(IILjava/util/function/BiFunction;)I"⟩
def RL : String := "CommittedParsersLaw"
abbrev cL_law : ByteArray := code
def yL_law : MethodName := ⟨RL, "law", "([I)Z"⟩
theorem dJ0_length_8abf5_0 : decode cJ0_length_8abf5 0 = .ok (.aload_n 0, 1) := by decide +kernel
theorem dJ0_length_8abf5_1 : decode cJ0_length_8abf5 1 = .ok (.getfield 9, 3) := by decide +kernel
theorem dJ0_length_8abf5_4 : decode cJ0_length_8abf5 4 = .ok (.arraylength, 1) := by decide +kernel
theorem dJ0_length_8abf5_5 : decode cJ0_length_8abf5 5 = .ok (.aload_n 0, 1) := by decide +kernel
theorem dJ0_length_8abf5_6 : decode cJ0_length_8abf5 6 = .ok (.invokevirtual 335, 3) := by decide +kernel
theorem dJ0_length_8abf5_9 : decode cJ0_length_8abf5 9 = .ok (.ishr, 1) := by decide +kernel
theorem dJ0_length_8abf5_10 : decode cJ0_length_8abf5 10 = .ok (.ireturn, 1) := by decide +kernel
theorem dJ0_charAt_5068e_0 : decode cJ0_charAt_5068e 0 = .ok (.aload_n 0, 1) := by decide +kernel
theorem dJ0_charAt_5068e_1 : decode cJ0_charAt_5068e 1 = .ok (.invokevirtual 492, 3) := by decide +kernel
theorem dJ0_charAt_5068e_4 : decode cJ0_charAt_5068e 4 = .ok (.ifCond .eq 12, 3) := by decide +kernel
theorem dJ0_charAt_5068e_7 : decode cJ0_charAt_5068e 7 = .ok (.aload_n 0, 1) := by decide +kernel
theorem dJ0_charAt_5068e_8 : decode cJ0_charAt_5068e 8 = .ok (.getfield 9, 3) := by decide +kernel
theorem dJ0_charAt_5068e_11 : decode cJ0_charAt_5068e 11 = .ok (.iload_n 1, 1) := by decide +kernel
theorem dJ0_charAt_5068e_12 : decode cJ0_charAt_5068e 12 = .ok (.invokestatic 495, 3) := by decide +kernel
theorem dJ0_charAt_5068e_15 : decode cJ0_charAt_5068e 15 = .ok (.ireturn, 1) := by decide +kernel
theorem dJ0_charAt_5068e_16 : decode cJ0_charAt_5068e 16 = .ok (.aload_n 0, 1) := by decide +kernel
theorem dJ0_charAt_5068e_17 : decode cJ0_charAt_5068e 17 = .ok (.getfield 9, 3) := by decide +kernel
theorem dJ0_charAt_5068e_20 : decode cJ0_charAt_5068e 20 = .ok (.iload_n 1, 1) := by decide +kernel
theorem dJ0_charAt_5068e_21 : decode cJ0_charAt_5068e 21 = .ok (.invokestatic 498, 3) := by decide +kernel
theorem dJ0_charAt_5068e_24 : decode cJ0_charAt_5068e 24 = .ok (.ireturn, 1) := by decide +kernel
theorem dJ0_coder_7d493_0 : decode cJ0_coder_7d493 0 = .ok (.getstatic 38, 3) := by decide +kernel
theorem dJ0_coder_7d493_3 : decode cJ0_coder_7d493 3 = .ok (.ifCond .eq 10, 3) := by decide +kernel
theorem dJ0_coder_7d493_6 : decode cJ0_coder_7d493 6 = .ok (.aload_n 0, 1) := by decide +kernel
theorem dJ0_coder_7d493_7 : decode cJ0_coder_7d493 7 = .ok (.getfield 15, 3) := by decide +kernel
theorem dJ0_coder_7d493_10 : decode cJ0_coder_7d493 10 = .ok (.goto 4, 3) := by decide +kernel
theorem dJ0_coder_7d493_13 : decode cJ0_coder_7d493 13 = .ok (.iconst 1, 1) := by decide +kernel
theorem dJ0_coder_7d493_14 : decode cJ0_coder_7d493 14 = .ok (.ireturn, 1) := by decide +kernel
theorem dJ0_isLatin1_aae02_0 : decode cJ0_isLatin1_aae02 0 = .ok (.getstatic 38, 3) := by decide +kernel
theorem dJ0_isLatin1_aae02_3 : decode cJ0_isLatin1_aae02 3 = .ok (.ifCond .eq 14, 3) := by decide +kernel
theorem dJ0_isLatin1_aae02_6 : decode cJ0_isLatin1_aae02 6 = .ok (.aload_n 0, 1) := by decide +kernel
theorem dJ0_isLatin1_aae02_7 : decode cJ0_isLatin1_aae02 7 = .ok (.getfield 15, 3) := by decide +kernel
theorem dJ0_isLatin1_aae02_10 : decode cJ0_isLatin1_aae02 10 = .ok (.ifCond .ne 7, 3) := by decide +kernel
theorem dJ0_isLatin1_aae02_13 : decode cJ0_isLatin1_aae02 13 = .ok (.iconst 1, 1) := by decide +kernel
theorem dJ0_isLatin1_aae02_14 : decode cJ0_isLatin1_aae02 14 = .ok (.goto 4, 3) := by decide +kernel
theorem dJ0_isLatin1_aae02_17 : decode cJ0_isLatin1_aae02 17 = .ok (.iconst 0, 1) := by decide +kernel
theorem dJ0_isLatin1_aae02_18 : decode cJ0_isLatin1_aae02 18 = .ok (.ireturn, 1) := by decide +kernel
theorem dJ0_checkIndex_df160_0 : decode cJ0_checkIndex_df160 0 = .ok (.iload_n 0, 1) := by decide +kernel
theorem dJ0_checkIndex_df160_1 : decode cJ0_checkIndex_df160 1 = .ok (.iload_n 1, 1) := by decide +kernel
theorem dJ0_checkIndex_df160_2 : decode cJ0_checkIndex_df160 2 = .ok (.getstatic 1053, 3) := by decide +kernel
theorem dJ0_checkIndex_df160_5 : decode cJ0_checkIndex_df160 5 = .ok (.invokestatic 1059, 3) := by decide +kernel
theorem dJ0_checkIndex_df160_8 : decode cJ0_checkIndex_df160 8 = .ok (.pop, 1) := by decide +kernel
theorem dJ0_checkIndex_df160_9 : decode cJ0_checkIndex_df160 9 = .ok (.return_, 1) := by decide +kernel
theorem dJ1_charAt_3b067_0 : decode cJ1_charAt_3b067 0 = .ok (.iload_n 1, 1) := by decide +kernel
theorem dJ1_charAt_3b067_1 : decode cJ1_charAt_3b067 1 = .ok (.aload_n 0, 1) := by decide +kernel
theorem dJ1_charAt_3b067_2 : decode cJ1_charAt_3b067 2 = .ok (.arraylength, 1) := by decide +kernel
theorem dJ1_charAt_3b067_3 : decode cJ1_charAt_3b067 3 = .ok (.invokestatic 9, 3) := by decide +kernel
theorem dJ1_charAt_3b067_6 : decode cJ1_charAt_3b067 6 = .ok (.aload_n 0, 1) := by decide +kernel
theorem dJ1_charAt_3b067_7 : decode cJ1_charAt_3b067 7 = .ok (.iload_n 1, 1) := by decide +kernel
theorem dJ1_charAt_3b067_8 : decode cJ1_charAt_3b067 8 = .ok (.baload, 1) := by decide +kernel
theorem dJ1_charAt_3b067_9 : decode cJ1_charAt_3b067 9 = .ok (.sipush 255, 3) := by decide +kernel
theorem dJ1_charAt_3b067_12 : decode cJ1_charAt_3b067 12 = .ok (.iand, 1) := by decide +kernel
theorem dJ1_charAt_3b067_13 : decode cJ1_charAt_3b067 13 = .ok (.i2c, 1) := by decide +kernel
theorem dJ1_charAt_3b067_14 : decode cJ1_charAt_3b067 14 = .ok (.ireturn, 1) := by decide +kernel
theorem dJ2_charAt_3b067_0 : decode cJ2_charAt_3b067 0 = .ok (.iload_n 1, 1) := by decide +kernel
theorem dJ2_charAt_3b067_1 : decode cJ2_charAt_3b067 1 = .ok (.aload_n 0, 1) := by decide +kernel
theorem dJ2_charAt_3b067_2 : decode cJ2_charAt_3b067 2 = .ok (.invokestatic 67, 3) := by decide +kernel
theorem dJ2_charAt_3b067_5 : decode cJ2_charAt_3b067 5 = .ok (.aload_n 0, 1) := by decide +kernel
theorem dJ2_charAt_3b067_6 : decode cJ2_charAt_3b067 6 = .ok (.iload_n 1, 1) := by decide +kernel
theorem dJ2_charAt_3b067_7 : decode cJ2_charAt_3b067 7 = .ok (.invokestatic 71, 3) := by decide +kernel
theorem dJ2_charAt_3b067_10 : decode cJ2_charAt_3b067 10 = .ok (.ireturn, 1) := by decide +kernel
theorem dJ3_checkIndex_8e157_0 : decode cJ3_checkIndex_8e157 0 = .ok (.iload_n 0, 1) := by decide +kernel
theorem dJ3_checkIndex_8e157_1 : decode cJ3_checkIndex_8e157 1 = .ok (.ifCond .lt 8, 3) := by decide +kernel
theorem dJ3_checkIndex_8e157_4 : decode cJ3_checkIndex_8e157 4 = .ok (.iload_n 0, 1) := by decide +kernel
theorem dJ3_checkIndex_8e157_5 : decode cJ3_checkIndex_8e157 5 = .ok (.iload_n 1, 1) := by decide +kernel
theorem dJ3_checkIndex_8e157_6 : decode cJ3_checkIndex_8e157 6 = .ok (.if_icmp .lt 10, 3) := by decide +kernel
theorem dJ3_checkIndex_8e157_9 : decode cJ3_checkIndex_8e157 9 = .ok (.aload_n 2, 1) := by decide +kernel
theorem dJ3_checkIndex_8e157_10 : decode cJ3_checkIndex_8e157 10 = .ok (.iload_n 0, 1) := by decide +kernel
theorem dJ3_checkIndex_8e157_11 : decode cJ3_checkIndex_8e157 11 = .ok (.iload_n 1, 1) := by decide +kernel
theorem dJ3_checkIndex_8e157_12 : decode cJ3_checkIndex_8e157 12 = .ok (.invokestatic 95, 3) := by decide +kernel
theorem dJ3_checkIndex_8e157_15 : decode cJ3_checkIndex_8e157 15 = .ok (.athrow, 1) := by decide +kernel
theorem dJ3_checkIndex_8e157_16 : decode cJ3_checkIndex_8e157 16 = .ok (.iload_n 0, 1) := by decide +kernel
theorem dJ3_checkIndex_8e157_17 : decode cJ3_checkIndex_8e157 17 = .ok (.ireturn, 1) := by decide +kernel
abbrev vwCl : List vw_C := [(RX0, TX0, 5), (RX1, TX1, 8), (RX2, TX2, 13), (RX3, TX3, 2), (RX4, TX4, 7), (RX5, TX5, 6), (RX6, TX6, 2), (RX7, TX7, 13), (RX8, TX8, 2), (RX9, TX9, 7), (RX10, TX10, 6), (RX11, TX11, 84)]

section
-- ===== PART A: goes FIRST, ahead of the names: the tables' words, and 'selects' of the private methods out of them =====
/-- a private method of a class that the tables say can be made, by its rows of tables_1 -/
def lw_okq (q : MethodName × Nat) : Prop := (q.1.cls ≠ "java/lang/invoke/MethodHandle" ∧ q.1.cls ≠ "java/lang/invoke/VarHandle") ∧ Cond.instantiable q.1.cls q.2 ∈ tables_1 ∧ Cond.privateMethod q.1 ∈ tables_1 ∧ Cond.instanceMethod q.1 ∈ tables_1
theorem lw_p0 : lw_okq (⟨"DraftHouse$Ledger", "forget", "()V"⟩, 10) := ⟨⟨by decide +kernel, by decide +kernel⟩, List.mem_of_getElem? (i := 36) (by decide +kernel), List.mem_of_getElem? (i := 42) (by decide +kernel), List.mem_of_getElem? (i := 43) (by decide +kernel)⟩
theorem lw_p1 : lw_okq (⟨"DraftHouse", "isEnd", "(I)Z"⟩, 12) := ⟨⟨by decide +kernel, by decide +kernel⟩, List.mem_of_getElem? (i := 22) (by decide +kernel), List.mem_of_getElem? (i := 509) (by decide +kernel), List.mem_of_getElem? (i := 510) (by decide +kernel)⟩
theorem lw_p2 : lw_okq (⟨"DraftHouse$Ledger", "tellOne", "(II)I"⟩, 10) := ⟨⟨by decide +kernel, by decide +kernel⟩, List.mem_of_getElem? (i := 36) (by decide +kernel), List.mem_of_getElem? (i := 513) (by decide +kernel), List.mem_of_getElem? (i := 514) (by decide +kernel)⟩
theorem lw_p3 : lw_okq (⟨"DraftHouse$Ledger", "dropStaged", "()V"⟩, 10) := ⟨⟨by decide +kernel, by decide +kernel⟩, List.mem_of_getElem? (i := 36) (by decide +kernel), List.mem_of_getElem? (i := 517) (by decide +kernel), List.mem_of_getElem? (i := 518) (by decide +kernel)⟩
theorem lw_p4 : lw_okq (⟨"DraftHouse$Ledger", "stage", "(II)V"⟩, 10) := ⟨⟨by decide +kernel, by decide +kernel⟩, List.mem_of_getElem? (i := 36) (by decide +kernel), List.mem_of_getElem? (i := 521) (by decide +kernel), List.mem_of_getElem? (i := 522) (by decide +kernel)⟩
theorem lw_p5 : lw_okq (⟨"DraftHouse$Ledger", "takeStaged", "()I"⟩, 10) := ⟨⟨by decide +kernel, by decide +kernel⟩, List.mem_of_getElem? (i := 36) (by decide +kernel), List.mem_of_getElem? (i := 525) (by decide +kernel), List.mem_of_getElem? (i := 526) (by decide +kernel)⟩
theorem lw_p6 : lw_okq (⟨"DraftHouse$Ledger", "replay", "(I)V"⟩, 10) := ⟨⟨by decide +kernel, by decide +kernel⟩, List.mem_of_getElem? (i := 36) (by decide +kernel), List.mem_of_getElem? (i := 529) (by decide +kernel), List.mem_of_getElem? (i := 530) (by decide +kernel)⟩
theorem lw_p7 : lw_okq (⟨"DraftHouse", "isPick", "(I)Z"⟩, 12) := ⟨⟨by decide +kernel, by decide +kernel⟩, List.mem_of_getElem? (i := 22) (by decide +kernel), List.mem_of_getElem? (i := 543) (by decide +kernel), List.mem_of_getElem? (i := 544) (by decide +kernel)⟩
theorem lw_p8 : lw_okq (⟨"DraftHouse$Tape", "appendWord", "(I)V"⟩, 6) := ⟨⟨by decide +kernel, by decide +kernel⟩, List.mem_of_getElem? (i := 162) (by decide +kernel), List.mem_of_getElem? (i := 558) (by decide +kernel), List.mem_of_getElem? (i := 559) (by decide +kernel)⟩
theorem lw_p9 : lw_okq (⟨"DraftHouse$Reader", "readTape", "()V"⟩, 20) := ⟨⟨by decide +kernel, by decide +kernel⟩, List.mem_of_getElem? (i := 191) (by decide +kernel), List.mem_of_getElem? (i := 570) (by decide +kernel), List.mem_of_getElem? (i := 571) (by decide +kernel)⟩
theorem lw_p10 : lw_okq (⟨"DraftHouse$Tape", "rewind", "()V"⟩, 6) := ⟨⟨by decide +kernel, by decide +kernel⟩, List.mem_of_getElem? (i := 162) (by decide +kernel), List.mem_of_getElem? (i := 576) (by decide +kernel), List.mem_of_getElem? (i := 577) (by decide +kernel)⟩
theorem lw_p11 : lw_okq (⟨"DraftHouse$Tape", "advance", "()V"⟩, 6) := ⟨⟨by decide +kernel, by decide +kernel⟩, List.mem_of_getElem? (i := 162) (by decide +kernel), List.mem_of_getElem? (i := 580) (by decide +kernel), List.mem_of_getElem? (i := 581) (by decide +kernel)⟩
theorem lw_p12 : lw_okq (⟨"DraftHouse$Tape", "byteAt", "(I)I"⟩, 6) := ⟨⟨by decide +kernel, by decide +kernel⟩, List.mem_of_getElem? (i := 162) (by decide +kernel), List.mem_of_getElem? (i := 584) (by decide +kernel), List.mem_of_getElem? (i := 585) (by decide +kernel)⟩
theorem lw_p13 : lw_okq (⟨"DraftHouse$Tape", "readNumber", "()V"⟩, 6) := ⟨⟨by decide +kernel, by decide +kernel⟩, List.mem_of_getElem? (i := 162) (by decide +kernel), List.mem_of_getElem? (i := 594) (by decide +kernel), List.mem_of_getElem? (i := 595) (by decide +kernel)⟩
theorem lw_p14 : lw_okq (⟨"DraftHouse$Tape", "readWord", "()V"⟩, 6) := ⟨⟨by decide +kernel, by decide +kernel⟩, List.mem_of_getElem? (i := 162) (by decide +kernel), List.mem_of_getElem? (i := 602) (by decide +kernel), List.mem_of_getElem? (i := 603) (by decide +kernel)⟩
theorem lw_p15 : lw_okq (⟨"DraftHouse$Tape", "kindOfWord", "()I"⟩, 6) := ⟨⟨by decide +kernel, by decide +kernel⟩, List.mem_of_getElem? (i := 162) (by decide +kernel), List.mem_of_getElem? (i := 606) (by decide +kernel), List.mem_of_getElem? (i := 607) (by decide +kernel)⟩
def lw_privs_1 : List (MethodName × Nat) := [(⟨"DraftHouse$Ledger", "forget", "()V"⟩, 10), (⟨"DraftHouse", "isEnd", "(I)Z"⟩, 12), (⟨"DraftHouse$Ledger", "tellOne", "(II)I"⟩, 10), (⟨"DraftHouse$Ledger", "dropStaged", "()V"⟩, 10), (⟨"DraftHouse$Ledger", "stage", "(II)V"⟩, 10), (⟨"DraftHouse$Ledger", "takeStaged", "()I"⟩, 10), (⟨"DraftHouse$Ledger", "replay", "(I)V"⟩, 10), (⟨"DraftHouse", "isPick", "(I)Z"⟩, 12), (⟨"DraftHouse$Tape", "appendWord", "(I)V"⟩, 6), (⟨"DraftHouse$Reader", "readTape", "()V"⟩, 20), (⟨"DraftHouse$Tape", "rewind", "()V"⟩, 6), (⟨"DraftHouse$Tape", "advance", "()V"⟩, 6), (⟨"DraftHouse$Tape", "byteAt", "(I)I"⟩, 6), (⟨"DraftHouse$Tape", "readNumber", "()V"⟩, 6), (⟨"DraftHouse$Tape", "readWord", "()V"⟩, 6), (⟨"DraftHouse$Tape", "kindOfWord", "()I"⟩, 6)]
theorem lw_r1 : ∀ q ∈ lw_privs_1, lw_okq q := List.forall_mem_cons.mpr ⟨lw_p0, List.forall_mem_cons.mpr ⟨lw_p1, List.forall_mem_cons.mpr ⟨lw_p2, List.forall_mem_cons.mpr ⟨lw_p3, List.forall_mem_cons.mpr ⟨lw_p4, List.forall_mem_cons.mpr ⟨lw_p5, List.forall_mem_cons.mpr ⟨lw_p6, List.forall_mem_cons.mpr ⟨lw_p7, List.forall_mem_cons.mpr ⟨lw_p8, List.forall_mem_cons.mpr ⟨lw_p9, List.forall_mem_cons.mpr ⟨lw_p10, List.forall_mem_cons.mpr ⟨lw_p11, List.forall_mem_cons.mpr ⟨lw_p12, List.forall_mem_cons.mpr ⟨lw_p13, List.forall_mem_cons.mpr ⟨lw_p14, List.forall_mem_cons.mpr ⟨lw_p15, fun _ h => absurd h List.not_mem_nil⟩⟩⟩⟩⟩⟩⟩⟩⟩⟩⟩⟩⟩⟩⟩⟩
theorem lw_p16 : lw_okq (⟨"DraftHouse$Tape", "isWord", "(Ljava/lang/String;)Z"⟩, 6) := ⟨⟨by decide +kernel, by decide +kernel⟩, List.mem_of_getElem? (i := 162) (by decide +kernel), List.mem_of_getElem? (i := 611) (by decide +kernel), List.mem_of_getElem? (i := 612) (by decide +kernel)⟩
theorem lw_p17 : lw_okq (⟨"DraftHouse$Reader", "endWhatCannotGoOn", "()V"⟩, 20) := ⟨⟨by decide +kernel, by decide +kernel⟩, List.mem_of_getElem? (i := 191) (by decide +kernel), List.mem_of_getElem? (i := 673) (by decide +kernel), List.mem_of_getElem? (i := 674) (by decide +kernel)⟩
theorem lw_p18 : lw_okq (⟨"DraftHouse$Reader", "endNumber", "()V"⟩, 20) := ⟨⟨by decide +kernel, by decide +kernel⟩, List.mem_of_getElem? (i := 191) (by decide +kernel), List.mem_of_getElem? (i := 677) (by decide +kernel), List.mem_of_getElem? (i := 678) (by decide +kernel)⟩
theorem lw_p19 : lw_okq (⟨"DraftHouse$Reader", "hasRoom", "(I)Z"⟩, 20) := ⟨⟨by decide +kernel, by decide +kernel⟩, List.mem_of_getElem? (i := 191) (by decide +kernel), List.mem_of_getElem? (i := 681) (by decide +kernel), List.mem_of_getElem? (i := 682) (by decide +kernel)⟩
theorem lw_p20 : lw_okq (⟨"DraftHouse$Reader", "openRow", "()I"⟩, 20) := ⟨⟨by decide +kernel, by decide +kernel⟩, List.mem_of_getElem? (i := 191) (by decide +kernel), List.mem_of_getElem? (i := 685) (by decide +kernel), List.mem_of_getElem? (i := 686) (by decide +kernel)⟩
theorem lw_p21 : lw_okq (⟨"DraftHouse$Reader", "add", "(I)V"⟩, 20) := ⟨⟨by decide +kernel, by decide +kernel⟩, List.mem_of_getElem? (i := 191) (by decide +kernel), List.mem_of_getElem? (i := 691) (by decide +kernel), List.mem_of_getElem? (i := 692) (by decide +kernel)⟩
theorem lw_p22 : lw_okq (⟨"DraftHouse$Reader", "failAt", "(II)V"⟩, 20) := ⟨⟨by decide +kernel, by decide +kernel⟩, List.mem_of_getElem? (i := 191) (by decide +kernel), List.mem_of_getElem? (i := 695) (by decide +kernel), List.mem_of_getElem? (i := 696) (by decide +kernel)⟩
theorem lw_p23 : lw_okq (⟨"DraftHouse$Reader", "step", "()V"⟩, 20) := ⟨⟨by decide +kernel, by decide +kernel⟩, List.mem_of_getElem? (i := 191) (by decide +kernel), List.mem_of_getElem? (i := 699) (by decide +kernel), List.mem_of_getElem? (i := 700) (by decide +kernel)⟩
theorem lw_p24 : lw_okq (⟨"DraftHouse$Reader", "startClause", "()V"⟩, 20) := ⟨⟨by decide +kernel, by decide +kernel⟩, List.mem_of_getElem? (i := 191) (by decide +kernel), List.mem_of_getElem? (i := 703) (by decide +kernel), List.mem_of_getElem? (i := 704) (by decide +kernel)⟩
theorem lw_p25 : lw_okq (⟨"DraftHouse$Reader", "openFirstRow", "(I)V"⟩, 20) := ⟨⟨by decide +kernel, by decide +kernel⟩, List.mem_of_getElem? (i := 191) (by decide +kernel), List.mem_of_getElem? (i := 707) (by decide +kernel), List.mem_of_getElem? (i := 708) (by decide +kernel)⟩
theorem lw_p26 : lw_okq (⟨"DraftHouse$Reader", "fail", "(I)V"⟩, 20) := ⟨⟨by decide +kernel, by decide +kernel⟩, List.mem_of_getElem? (i := 191) (by decide +kernel), List.mem_of_getElem? (i := 711) (by decide +kernel), List.mem_of_getElem? (i := 712) (by decide +kernel)⟩
theorem lw_p27 : lw_okq (⟨"DraftHouse$Reader", "nameBlock", "()V"⟩, 20) := ⟨⟨by decide +kernel, by decide +kernel⟩, List.mem_of_getElem? (i := 191) (by decide +kernel), List.mem_of_getElem? (i := 715) (by decide +kernel), List.mem_of_getElem? (i := 716) (by decide +kernel)⟩
theorem lw_p28 : lw_okq (⟨"DraftHouse$Reader", "blockSize", "(I)I"⟩, 20) := ⟨⟨by decide +kernel, by decide +kernel⟩, List.mem_of_getElem? (i := 191) (by decide +kernel), List.mem_of_getElem? (i := 719) (by decide +kernel), List.mem_of_getElem? (i := 720) (by decide +kernel)⟩
theorem lw_p29 : lw_okq (⟨"DraftHouse$Reader", "nameTreadle", "()V"⟩, 20) := ⟨⟨by decide +kernel, by decide +kernel⟩, List.mem_of_getElem? (i := 191) (by decide +kernel), List.mem_of_getElem? (i := 723) (by decide +kernel), List.mem_of_getElem? (i := 724) (by decide +kernel)⟩
theorem lw_p30 : lw_okq (⟨"DraftHouse$Reader", "isNumber", "(II)Z"⟩, 20) := ⟨⟨by decide +kernel, by decide +kernel⟩, List.mem_of_getElem? (i := 191) (by decide +kernel), List.mem_of_getElem? (i := 727) (by decide +kernel), List.mem_of_getElem? (i := 728) (by decide +kernel)⟩
theorem lw_p31 : lw_okq (⟨"DraftHouse$Reader", "startOne", "()V"⟩, 20) := ⟨⟨by decide +kernel, by decide +kernel⟩, List.mem_of_getElem? (i := 191) (by decide +kernel), List.mem_of_getElem? (i := 731) (by decide +kernel), List.mem_of_getElem? (i := 732) (by decide +kernel)⟩
def lw_privs_2 : List (MethodName × Nat) := [(⟨"DraftHouse$Tape", "isWord", "(Ljava/lang/String;)Z"⟩, 6), (⟨"DraftHouse$Reader", "endWhatCannotGoOn", "()V"⟩, 20), (⟨"DraftHouse$Reader", "endNumber", "()V"⟩, 20), (⟨"DraftHouse$Reader", "hasRoom", "(I)Z"⟩, 20), (⟨"DraftHouse$Reader", "openRow", "()I"⟩, 20), (⟨"DraftHouse$Reader", "add", "(I)V"⟩, 20), (⟨"DraftHouse$Reader", "failAt", "(II)V"⟩, 20), (⟨"DraftHouse$Reader", "step", "()V"⟩, 20), (⟨"DraftHouse$Reader", "startClause", "()V"⟩, 20), (⟨"DraftHouse$Reader", "openFirstRow", "(I)V"⟩, 20), (⟨"DraftHouse$Reader", "fail", "(I)V"⟩, 20), (⟨"DraftHouse$Reader", "nameBlock", "()V"⟩, 20), (⟨"DraftHouse$Reader", "blockSize", "(I)I"⟩, 20), (⟨"DraftHouse$Reader", "nameTreadle", "()V"⟩, 20), (⟨"DraftHouse$Reader", "isNumber", "(II)Z"⟩, 20), (⟨"DraftHouse$Reader", "startOne", "()V"⟩, 20)]
theorem lw_r2 : ∀ q ∈ lw_privs_2, lw_okq q := List.forall_mem_cons.mpr ⟨lw_p16, List.forall_mem_cons.mpr ⟨lw_p17, List.forall_mem_cons.mpr ⟨lw_p18, List.forall_mem_cons.mpr ⟨lw_p19, List.forall_mem_cons.mpr ⟨lw_p20, List.forall_mem_cons.mpr ⟨lw_p21, List.forall_mem_cons.mpr ⟨lw_p22, List.forall_mem_cons.mpr ⟨lw_p23, List.forall_mem_cons.mpr ⟨lw_p24, List.forall_mem_cons.mpr ⟨lw_p25, List.forall_mem_cons.mpr ⟨lw_p26, List.forall_mem_cons.mpr ⟨lw_p27, List.forall_mem_cons.mpr ⟨lw_p28, List.forall_mem_cons.mpr ⟨lw_p29, List.forall_mem_cons.mpr ⟨lw_p30, List.forall_mem_cons.mpr ⟨lw_p31, fun _ h => absurd h List.not_mem_nil⟩⟩⟩⟩⟩⟩⟩⟩⟩⟩⟩⟩⟩⟩⟩⟩
theorem lw_p32 : lw_okq (⟨"DraftHouse$Reader", "holdNumber", "()V"⟩, 20) := ⟨⟨by decide +kernel, by decide +kernel⟩, List.mem_of_getElem? (i := 191) (by decide +kernel), List.mem_of_getElem? (i := 735) (by decide +kernel), List.mem_of_getElem? (i := 736) (by decide +kernel)⟩
theorem lw_p33 : lw_okq (⟨"DraftHouse$Reader", "addBlock", "()V"⟩, 20) := ⟨⟨by decide +kernel, by decide +kernel⟩, List.mem_of_getElem? (i := 191) (by decide +kernel), List.mem_of_getElem? (i := 739) (by decide +kernel), List.mem_of_getElem? (i := 740) (by decide +kernel)⟩
theorem lw_p34 : lw_okq (⟨"DraftHouse$Reader", "blockNumber", "(II)I"⟩, 20) := ⟨⟨by decide +kernel, by decide +kernel⟩, List.mem_of_getElem? (i := 191) (by decide +kernel), List.mem_of_getElem? (i := 743) (by decide +kernel), List.mem_of_getElem? (i := 744) (by decide +kernel)⟩
theorem lw_p35 : lw_okq (⟨"DraftHouse$Reader", "openBracket", "()V"⟩, 20) := ⟨⟨by decide +kernel, by decide +kernel⟩, List.mem_of_getElem? (i := 191) (by decide +kernel), List.mem_of_getElem? (i := 747) (by decide +kernel), List.mem_of_getElem? (i := 748) (by decide +kernel)⟩
theorem lw_p36 : lw_okq (⟨"DraftHouse$Reader", "endRange", "()V"⟩, 20) := ⟨⟨by decide +kernel, by decide +kernel⟩, List.mem_of_getElem? (i := 191) (by decide +kernel), List.mem_of_getElem? (i := 751) (by decide +kernel), List.mem_of_getElem? (i := 752) (by decide +kernel)⟩
theorem lw_p37 : lw_okq (⟨"DraftHouse$Reader", "nameSum", "()V"⟩, 20) := ⟨⟨by decide +kernel, by decide +kernel⟩, List.mem_of_getElem? (i := 191) (by decide +kernel), List.mem_of_getElem? (i := 758) (by decide +kernel), List.mem_of_getElem? (i := 759) (by decide +kernel)⟩
theorem lw_p38 : lw_okq (⟨"DraftHouse$Reader", "copyItem", "()V"⟩, 20) := ⟨⟨by decide +kernel, by decide +kernel⟩, List.mem_of_getElem? (i := 191) (by decide +kernel), List.mem_of_getElem? (i := 762) (by decide +kernel), List.mem_of_getElem? (i := 763) (by decide +kernel)⟩
theorem lw_p39 : lw_okq (⟨"DraftHouse$Reader", "numberAt", "(I)I"⟩, 20) := ⟨⟨by decide +kernel, by decide +kernel⟩, List.mem_of_getElem? (i := 191) (by decide +kernel), List.mem_of_getElem? (i := 766) (by decide +kernel), List.mem_of_getElem? (i := 767) (by decide +kernel)⟩
theorem lw_p40 : lw_okq (⟨"DraftHouse$Reader", "goOnBehindItem", "()V"⟩, 20) := ⟨⟨by decide +kernel, by decide +kernel⟩, List.mem_of_getElem? (i := 191) (by decide +kernel), List.mem_of_getElem? (i := 770) (by decide +kernel), List.mem_of_getElem? (i := 771) (by decide +kernel)⟩
theorem lw_p41 : lw_okq (⟨"DraftHouse$Reader", "closeBracket", "()V"⟩, 20) := ⟨⟨by decide +kernel, by decide +kernel⟩, List.mem_of_getElem? (i := 191) (by decide +kernel), List.mem_of_getElem? (i := 774) (by decide +kernel), List.mem_of_getElem? (i := 775) (by decide +kernel)⟩
theorem lw_p42 : lw_okq (⟨"DraftHouse$Reader", "turnBack", "(II)V"⟩, 20) := ⟨⟨by decide +kernel, by decide +kernel⟩, List.mem_of_getElem? (i := 191) (by decide +kernel), List.mem_of_getElem? (i := 778) (by decide +kernel), List.mem_of_getElem? (i := 779) (by decide +kernel)⟩
theorem lw_p43 : lw_okq (⟨"DraftHouse$Reader", "put", "(II)V"⟩, 20) := ⟨⟨by decide +kernel, by decide +kernel⟩, List.mem_of_getElem? (i := 191) (by decide +kernel), List.mem_of_getElem? (i := 782) (by decide +kernel), List.mem_of_getElem? (i := 783) (by decide +kernel)⟩
theorem lw_p44 : lw_okq (⟨"DraftHouse$Reader", "raiseNumbers", "(III)V"⟩, 20) := ⟨⟨by decide +kernel, by decide +kernel⟩, List.mem_of_getElem? (i := 191) (by decide +kernel), List.mem_of_getElem? (i := 786) (by decide +kernel), List.mem_of_getElem? (i := 787) (by decide +kernel)⟩
theorem lw_p45 : lw_okq (⟨"DraftHouse$Reader", "endClause", "()V"⟩, 20) := ⟨⟨by decide +kernel, by decide +kernel⟩, List.mem_of_getElem? (i := 191) (by decide +kernel), List.mem_of_getElem? (i := 790) (by decide +kernel), List.mem_of_getElem? (i := 791) (by decide +kernel)⟩
theorem lw_p46 : lw_okq (⟨"DraftHouse$Reader", "keepBlock", "()V"⟩, 20) := ⟨⟨by decide +kernel, by decide +kernel⟩, List.mem_of_getElem? (i := 191) (by decide +kernel), List.mem_of_getElem? (i := 794) (by decide +kernel), List.mem_of_getElem? (i := 795) (by decide +kernel)⟩
theorem lw_p47 : lw_okq (⟨"DraftHouse$Reader", "stageAlong", "(II)V"⟩, 20) := ⟨⟨by decide +kernel, by decide +kernel⟩, List.mem_of_getElem? (i := 191) (by decide +kernel), List.mem_of_getElem? (i := 798) (by decide +kernel), List.mem_of_getElem? (i := 799) (by decide +kernel)⟩
def lw_privs_3 : List (MethodName × Nat) := [(⟨"DraftHouse$Reader", "holdNumber", "()V"⟩, 20), (⟨"DraftHouse$Reader", "addBlock", "()V"⟩, 20), (⟨"DraftHouse$Reader", "blockNumber", "(II)I"⟩, 20), (⟨"DraftHouse$Reader", "openBracket", "()V"⟩, 20), (⟨"DraftHouse$Reader", "endRange", "()V"⟩, 20), (⟨"DraftHouse$Reader", "nameSum", "()V"⟩, 20), (⟨"DraftHouse$Reader", "copyItem", "()V"⟩, 20), (⟨"DraftHouse$Reader", "numberAt", "(I)I"⟩, 20), (⟨"DraftHouse$Reader", "goOnBehindItem", "()V"⟩, 20), (⟨"DraftHouse$Reader", "closeBracket", "()V"⟩, 20), (⟨"DraftHouse$Reader", "turnBack", "(II)V"⟩, 20), (⟨"DraftHouse$Reader", "put", "(II)V"⟩, 20), (⟨"DraftHouse$Reader", "raiseNumbers", "(III)V"⟩, 20), (⟨"DraftHouse$Reader", "endClause", "()V"⟩, 20), (⟨"DraftHouse$Reader", "keepBlock", "()V"⟩, 20), (⟨"DraftHouse$Reader", "stageAlong", "(II)V"⟩, 20)]
theorem lw_r3 : ∀ q ∈ lw_privs_3, lw_okq q := List.forall_mem_cons.mpr ⟨lw_p32, List.forall_mem_cons.mpr ⟨lw_p33, List.forall_mem_cons.mpr ⟨lw_p34, List.forall_mem_cons.mpr ⟨lw_p35, List.forall_mem_cons.mpr ⟨lw_p36, List.forall_mem_cons.mpr ⟨lw_p37, List.forall_mem_cons.mpr ⟨lw_p38, List.forall_mem_cons.mpr ⟨lw_p39, List.forall_mem_cons.mpr ⟨lw_p40, List.forall_mem_cons.mpr ⟨lw_p41, List.forall_mem_cons.mpr ⟨lw_p42, List.forall_mem_cons.mpr ⟨lw_p43, List.forall_mem_cons.mpr ⟨lw_p44, List.forall_mem_cons.mpr ⟨lw_p45, List.forall_mem_cons.mpr ⟨lw_p46, List.forall_mem_cons.mpr ⟨lw_p47, fun _ h => absurd h List.not_mem_nil⟩⟩⟩⟩⟩⟩⟩⟩⟩⟩⟩⟩⟩⟩⟩⟩
theorem lw_p48 : lw_okq (⟨"DraftHouse$Reader", "stageTie", "()V"⟩, 20) := ⟨⟨by decide +kernel, by decide +kernel⟩, List.mem_of_getElem? (i := 191) (by decide +kernel), List.mem_of_getElem? (i := 803) (by decide +kernel), List.mem_of_getElem? (i := 804) (by decide +kernel)⟩
theorem lw_p49 : lw_okq (⟨"DraftHouse$Ledger", "lookAt", "(I)V"⟩, 10) := ⟨⟨by decide +kernel, by decide +kernel⟩, List.mem_of_getElem? (i := 36) (by decide +kernel), List.mem_of_getElem? (i := 817) (by decide +kernel), List.mem_of_getElem? (i := 818) (by decide +kernel)⟩
theorem lw_p50 : lw_okq (⟨"DraftHouse$Ledger", "valueOf", "(I)I"⟩, 10) := ⟨⟨by decide +kernel, by decide +kernel⟩, List.mem_of_getElem? (i := 36) (by decide +kernel), List.mem_of_getElem? (i := 825) (by decide +kernel), List.mem_of_getElem? (i := 826) (by decide +kernel)⟩
theorem lw_p51 : lw_okq (⟨"DraftHouse$Cloth", "weave", "()V"⟩, 12) := ⟨⟨by decide +kernel, by decide +kernel⟩, List.mem_of_getElem? (i := 85) (by decide +kernel), List.mem_of_getElem? (i := 833) (by decide +kernel), List.mem_of_getElem? (i := 834) (by decide +kernel)⟩
theorem lw_p52 : lw_okq (⟨"DraftHouse$Cloth", "press", "()V"⟩, 12) := ⟨⟨by decide +kernel, by decide +kernel⟩, List.mem_of_getElem? (i := 85) (by decide +kernel), List.mem_of_getElem? (i := 837) (by decide +kernel), List.mem_of_getElem? (i := 838) (by decide +kernel)⟩
theorem lw_p53 : lw_okq (⟨"DraftHouse$Cloth", "raise", "()V"⟩, 12) := ⟨⟨by decide +kernel, by decide +kernel⟩, List.mem_of_getElem? (i := 85) (by decide +kernel), List.mem_of_getElem? (i := 848) (by decide +kernel), List.mem_of_getElem? (i := 849) (by decide +kernel)⟩
theorem lw_p54 : lw_okq (⟨"DraftHouse$Cloth", "hang", "()V"⟩, 12) := ⟨⟨by decide +kernel, by decide +kernel⟩, List.mem_of_getElem? (i := 85) (by decide +kernel), List.mem_of_getElem? (i := 852) (by decide +kernel), List.mem_of_getElem? (i := 853) (by decide +kernel)⟩
theorem lw_p55 : lw_okq (⟨"DraftHouse$Cloth", "picksOf", "(I)J"⟩, 12) := ⟨⟨by decide +kernel, by decide +kernel⟩, List.mem_of_getElem? (i := 85) (by decide +kernel), List.mem_of_getElem? (i := 856) (by decide +kernel), List.mem_of_getElem? (i := 857) (by decide +kernel)⟩
theorem lw_p56 : lw_okq (⟨"DraftHouse$Cloth", "cross", "()V"⟩, 12) := ⟨⟨by decide +kernel, by decide +kernel⟩, List.mem_of_getElem? (i := 85) (by decide +kernel), List.mem_of_getElem? (i := 860) (by decide +kernel), List.mem_of_getElem? (i := 861) (by decide +kernel)⟩
theorem lw_p57 : lw_okq (⟨"DraftHouse", "lowestTreadle", "(II)I"⟩, 12) := ⟨⟨by decide +kernel, by decide +kernel⟩, List.mem_of_getElem? (i := 22) (by decide +kernel), List.mem_of_getElem? (i := 873) (by decide +kernel), List.mem_of_getElem? (i := 874) (by decide +kernel)⟩
theorem lw_p58 : lw_okq (⟨"DraftHouse$Ledger", "timeOf", "(I)I"⟩, 10) := ⟨⟨by decide +kernel, by decide +kernel⟩, List.mem_of_getElem? (i := 36) (by decide +kernel), List.mem_of_getElem? (i := 878) (by decide +kernel), List.mem_of_getElem? (i := 879) (by decide +kernel)⟩
theorem lw_p59 : lw_okq (⟨"DraftHouse$Runs", "countFloats", "(ZZ)V"⟩, 2) := ⟨⟨by decide +kernel, by decide +kernel⟩, List.mem_of_getElem? (i := 260) (by decide +kernel), List.mem_of_getElem? (i := 886) (by decide +kernel), List.mem_of_getElem? (i := 887) (by decide +kernel)⟩
theorem lw_p60 : lw_okq (⟨"DraftHouse$Runs", "countLine", "(JI)V"⟩, 2) := ⟨⟨by decide +kernel, by decide +kernel⟩, List.mem_of_getElem? (i := 260) (by decide +kernel), List.mem_of_getElem? (i := 906) (by decide +kernel), List.mem_of_getElem? (i := 907) (by decide +kernel)⟩
theorem lw_p61 : lw_okq (⟨"DraftHouse$Runs", "longestOne", "()I"⟩, 2) := ⟨⟨by decide +kernel, by decide +kernel⟩, List.mem_of_getElem? (i := 260) (by decide +kernel), List.mem_of_getElem? (i := 911) (by decide +kernel), List.mem_of_getElem? (i := 912) (by decide +kernel)⟩
theorem lw_p62 : lw_okq (⟨"DraftHouse$Runs", "longerThan", "(I)I"⟩, 2) := ⟨⟨by decide +kernel, by decide +kernel⟩, List.mem_of_getElem? (i := 260) (by decide +kernel), List.mem_of_getElem? (i := 919) (by decide +kernel), List.mem_of_getElem? (i := 920) (by decide +kernel)⟩
theorem lw_p63 : lw_okq (⟨"DraftHouse", "isPart", "(IIII)Z"⟩, 12) := ⟨⟨by decide +kernel, by decide +kernel⟩, List.mem_of_getElem? (i := 22) (by decide +kernel), List.mem_of_getElem? (i := 927) (by decide +kernel), List.mem_of_getElem? (i := 928) (by decide +kernel)⟩
def lw_privs_4 : List (MethodName × Nat) := [(⟨"DraftHouse$Reader", "stageTie", "()V"⟩, 20), (⟨"DraftHouse$Ledger", "lookAt", "(I)V"⟩, 10), (⟨"DraftHouse$Ledger", "valueOf", "(I)I"⟩, 10), (⟨"DraftHouse$Cloth", "weave", "()V"⟩, 12), (⟨"DraftHouse$Cloth", "press", "()V"⟩, 12), (⟨"DraftHouse$Cloth", "raise", "()V"⟩, 12), (⟨"DraftHouse$Cloth", "hang", "()V"⟩, 12), (⟨"DraftHouse$Cloth", "picksOf", "(I)J"⟩, 12), (⟨"DraftHouse$Cloth", "cross", "()V"⟩, 12), (⟨"DraftHouse", "lowestTreadle", "(II)I"⟩, 12), (⟨"DraftHouse$Ledger", "timeOf", "(I)I"⟩, 10), (⟨"DraftHouse$Runs", "countFloats", "(ZZ)V"⟩, 2), (⟨"DraftHouse$Runs", "countLine", "(JI)V"⟩, 2), (⟨"DraftHouse$Runs", "longestOne", "()I"⟩, 2), (⟨"DraftHouse$Runs", "longerThan", "(I)I"⟩, 2), (⟨"DraftHouse", "isPart", "(IIII)Z"⟩, 12)]
theorem lw_r4 : ∀ q ∈ lw_privs_4, lw_okq q := List.forall_mem_cons.mpr ⟨lw_p48, List.forall_mem_cons.mpr ⟨lw_p49, List.forall_mem_cons.mpr ⟨lw_p50, List.forall_mem_cons.mpr ⟨lw_p51, List.forall_mem_cons.mpr ⟨lw_p52, List.forall_mem_cons.mpr ⟨lw_p53, List.forall_mem_cons.mpr ⟨lw_p54, List.forall_mem_cons.mpr ⟨lw_p55, List.forall_mem_cons.mpr ⟨lw_p56, List.forall_mem_cons.mpr ⟨lw_p57, List.forall_mem_cons.mpr ⟨lw_p58, List.forall_mem_cons.mpr ⟨lw_p59, List.forall_mem_cons.mpr ⟨lw_p60, List.forall_mem_cons.mpr ⟨lw_p61, List.forall_mem_cons.mpr ⟨lw_p62, List.forall_mem_cons.mpr ⟨lw_p63, fun _ h => absurd h List.not_mem_nil⟩⟩⟩⟩⟩⟩⟩⟩⟩⟩⟩⟩⟩⟩⟩⟩
theorem lw_p64 : lw_okq (⟨"DraftHouse$Layering", "sortPart", "(IIII)V"⟩, 14) := ⟨⟨by decide +kernel, by decide +kernel⟩, List.mem_of_getElem? (i := 292) (by decide +kernel), List.mem_of_getElem? (i := 931) (by decide +kernel), List.mem_of_getElem? (i := 932) (by decide +kernel)⟩
theorem lw_p65 : lw_okq (⟨"DraftHouse$Layering", "relate", "()V"⟩, 14) := ⟨⟨by decide +kernel, by decide +kernel⟩, List.mem_of_getElem? (i := 292) (by decide +kernel), List.mem_of_getElem? (i := 939) (by decide +kernel), List.mem_of_getElem? (i := 940) (by decide +kernel)⟩
theorem lw_p66 : lw_okq (⟨"DraftHouse$Layering", "followChains", "([J[J)V"⟩, 14) := ⟨⟨by decide +kernel, by decide +kernel⟩, List.mem_of_getElem? (i := 292) (by decide +kernel), List.mem_of_getElem? (i := 943) (by decide +kernel), List.mem_of_getElem? (i := 944) (by decide +kernel)⟩
theorem lw_p67 : lw_okq (⟨"DraftHouse$Layering", "followThrough", "([J[JI)V"⟩, 14) := ⟨⟨by decide +kernel, by decide +kernel⟩, List.mem_of_getElem? (i := 292) (by decide +kernel), List.mem_of_getElem? (i := 947) (by decide +kernel), List.mem_of_getElem? (i := 948) (by decide +kernel)⟩
theorem lw_p68 : lw_okq (⟨"DraftHouse$Layering", "numberAll", "()V"⟩, 14) := ⟨⟨by decide +kernel, by decide +kernel⟩, List.mem_of_getElem? (i := 292) (by decide +kernel), List.mem_of_getElem? (i := 951) (by decide +kernel), List.mem_of_getElem? (i := 952) (by decide +kernel)⟩
theorem lw_p69 : lw_okq (⟨"DraftHouse$Layering", "lowestOnTop", "()I"⟩, 14) := ⟨⟨by decide +kernel, by decide +kernel⟩, List.mem_of_getElem? (i := 292) (by decide +kernel), List.mem_of_getElem? (i := 955) (by decide +kernel), List.mem_of_getElem? (i := 956) (by decide +kernel)⟩
theorem lw_p70 : lw_okq (⟨"DraftHouse$Layering", "isOnTop", "(I)Z"⟩, 14) := ⟨⟨by decide +kernel, by decide +kernel⟩, List.mem_of_getElem? (i := 292) (by decide +kernel), List.mem_of_getElem? (i := 960) (by decide +kernel), List.mem_of_getElem? (i := 961) (by decide +kernel)⟩
theorem lw_p71 : lw_okq (⟨"DraftHouse$Layering", "numberLayerOf", "(I)V"⟩, 14) := ⟨⟨by decide +kernel, by decide +kernel⟩, List.mem_of_getElem? (i := 292) (by decide +kernel), List.mem_of_getElem? (i := 964) (by decide +kernel), List.mem_of_getElem? (i := 965) (by decide +kernel)⟩
theorem lw_p72 : lw_okq (⟨"DraftHouse$Layering", "numberOf", "(I)I"⟩, 14) := ⟨⟨by decide +kernel, by decide +kernel⟩, List.mem_of_getElem? (i := 292) (by decide +kernel), List.mem_of_getElem? (i := 972) (by decide +kernel), List.mem_of_getElem? (i := 973) (by decide +kernel)⟩
theorem lw_p73 : lw_okq (⟨"DraftHouse", "endsOfColour", "(I)J"⟩, 12) := ⟨⟨by decide +kernel, by decide +kernel⟩, List.mem_of_getElem? (i := 22) (by decide +kernel), List.mem_of_getElem? (i := 984) (by decide +kernel), List.mem_of_getElem? (i := 985) (by decide +kernel)⟩
theorem lw_p74 : lw_okq (⟨"DraftHouse$Planes", "showColours", "()V"⟩, 4) := ⟨⟨by decide +kernel, by decide +kernel⟩, List.mem_of_getElem? (i := 273) (by decide +kernel), List.mem_of_getElem? (i := 998) (by decide +kernel), List.mem_of_getElem? (i := 999) (by decide +kernel)⟩
theorem lw_p75 : lw_okq (⟨"DraftHouse$Planes", "showCells", "()V"⟩, 4) := ⟨⟨by decide +kernel, by decide +kernel⟩, List.mem_of_getElem? (i := 273) (by decide +kernel), List.mem_of_getElem? (i := 1005) (by decide +kernel), List.mem_of_getElem? (i := 1006) (by decide +kernel)⟩
theorem lw_p76 : lw_okq (⟨"DraftHouse$Planes", "likeAlongEnds", "(I)Z"⟩, 4) := ⟨⟨by decide +kernel, by decide +kernel⟩, List.mem_of_getElem? (i := 273) (by decide +kernel), List.mem_of_getElem? (i := 1009) (by decide +kernel), List.mem_of_getElem? (i := 1010) (by decide +kernel)⟩
theorem lw_p77 : lw_okq (⟨"DraftHouse$Planes", "rowAt", "(II)J"⟩, 4) := ⟨⟨by decide +kernel, by decide +kernel⟩, List.mem_of_getElem? (i := 273) (by decide +kernel), List.mem_of_getElem? (i := 1013) (by decide +kernel), List.mem_of_getElem? (i := 1014) (by decide +kernel)⟩
theorem lw_p78 : lw_okq (⟨"DraftHouse$Planes", "likeAlongPicks", "(I)Z"⟩, 4) := ⟨⟨by decide +kernel, by decide +kernel⟩, List.mem_of_getElem? (i := 273) (by decide +kernel), List.mem_of_getElem? (i := 1017) (by decide +kernel), List.mem_of_getElem? (i := 1018) (by decide +kernel)⟩
theorem lw_p79 : lw_okq (⟨"DraftHouse$Covering", "find", "()V"⟩, 13) := ⟨⟨by decide +kernel, by decide +kernel⟩, List.mem_of_getElem? (i := 342) (by decide +kernel), List.mem_of_getElem? (i := 1042) (by decide +kernel), List.mem_of_getElem? (i := 1043) (by decide +kernel)⟩
def lw_privs_5 : List (MethodName × Nat) := [(⟨"DraftHouse$Layering", "sortPart", "(IIII)V"⟩, 14), (⟨"DraftHouse$Layering", "relate", "()V"⟩, 14), (⟨"DraftHouse$Layering", "followChains", "([J[J)V"⟩, 14), (⟨"DraftHouse$Layering", "followThrough", "([J[JI)V"⟩, 14), (⟨"DraftHouse$Layering", "numberAll", "()V"⟩, 14), (⟨"DraftHouse$Layering", "lowestOnTop", "()I"⟩, 14), (⟨"DraftHouse$Layering", "isOnTop", "(I)Z"⟩, 14), (⟨"DraftHouse$Layering", "numberLayerOf", "(I)V"⟩, 14), (⟨"DraftHouse$Layering", "numberOf", "(I)I"⟩, 14), (⟨"DraftHouse", "endsOfColour", "(I)J"⟩, 12), (⟨"DraftHouse$Planes", "showColours", "()V"⟩, 4), (⟨"DraftHouse$Planes", "showCells", "()V"⟩, 4), (⟨"DraftHouse$Planes", "likeAlongEnds", "(I)Z"⟩, 4), (⟨"DraftHouse$Planes", "rowAt", "(II)J"⟩, 4), (⟨"DraftHouse$Planes", "likeAlongPicks", "(I)Z"⟩, 4), (⟨"DraftHouse$Covering", "find", "()V"⟩, 13)]
theorem lw_r5 : ∀ q ∈ lw_privs_5, lw_okq q := List.forall_mem_cons.mpr ⟨lw_p64, List.forall_mem_cons.mpr ⟨lw_p65, List.forall_mem_cons.mpr ⟨lw_p66, List.forall_mem_cons.mpr ⟨lw_p67, List.forall_mem_cons.mpr ⟨lw_p68, List.forall_mem_cons.mpr ⟨lw_p69, List.forall_mem_cons.mpr ⟨lw_p70, List.forall_mem_cons.mpr ⟨lw_p71, List.forall_mem_cons.mpr ⟨lw_p72, List.forall_mem_cons.mpr ⟨lw_p73, List.forall_mem_cons.mpr ⟨lw_p74, List.forall_mem_cons.mpr ⟨lw_p75, List.forall_mem_cons.mpr ⟨lw_p76, List.forall_mem_cons.mpr ⟨lw_p77, List.forall_mem_cons.mpr ⟨lw_p78, List.forall_mem_cons.mpr ⟨lw_p79, fun _ h => absurd h List.not_mem_nil⟩⟩⟩⟩⟩⟩⟩⟩⟩⟩⟩⟩⟩⟩⟩⟩
theorem lw_p80 : lw_okq (⟨"DraftHouse$Covering", "collectLifts", "()Z"⟩, 13) := ⟨⟨by decide +kernel, by decide +kernel⟩, List.mem_of_getElem? (i := 342) (by decide +kernel), List.mem_of_getElem? (i := 1046) (by decide +kernel), List.mem_of_getElem? (i := 1047) (by decide +kernel)⟩
theorem lw_p81 : lw_okq (⟨"DraftHouse$Covering", "collectTies", "()V"⟩, 13) := ⟨⟨by decide +kernel, by decide +kernel⟩, List.mem_of_getElem? (i := 342) (by decide +kernel), List.mem_of_getElem? (i := 1053) (by decide +kernel), List.mem_of_getElem? (i := 1054) (by decide +kernel)⟩
theorem lw_p82 : lw_okq (⟨"DraftHouse$Covering", "insertTie", "(I)V"⟩, 13) := ⟨⟨by decide +kernel, by decide +kernel⟩, List.mem_of_getElem? (i := 342) (by decide +kernel), List.mem_of_getElem? (i := 1059) (by decide +kernel), List.mem_of_getElem? (i := 1060) (by decide +kernel)⟩
theorem lw_p83 : lw_okq (⟨"DraftHouse$Covering", "markGifts", "()V"⟩, 13) := ⟨⟨by decide +kernel, by decide +kernel⟩, List.mem_of_getElem? (i := 342) (by decide +kernel), List.mem_of_getElem? (i := 1063) (by decide +kernel), List.mem_of_getElem? (i := 1064) (by decide +kernel)⟩
theorem lw_p84 : lw_okq (⟨"DraftHouse$Covering", "sortShafts", "()V"⟩, 13) := ⟨⟨by decide +kernel, by decide +kernel⟩, List.mem_of_getElem? (i := 342) (by decide +kernel), List.mem_of_getElem? (i := 1067) (by decide +kernel), List.mem_of_getElem? (i := 1068) (by decide +kernel)⟩
theorem lw_p85 : lw_okq (⟨"DraftHouse$Covering", "markGift", "(II)V"⟩, 13) := ⟨⟨by decide +kernel, by decide +kernel⟩, List.mem_of_getElem? (i := 342) (by decide +kernel), List.mem_of_getElem? (i := 1072) (by decide +kernel), List.mem_of_getElem? (i := 1073) (by decide +kernel)⟩
theorem lw_p86 : lw_okq (⟨"DraftHouse$Covering", "gatherGifts", "()V"⟩, 13) := ⟨⟨by decide +kernel, by decide +kernel⟩, List.mem_of_getElem? (i := 342) (by decide +kernel), List.mem_of_getElem? (i := 1076) (by decide +kernel), List.mem_of_getElem? (i := 1077) (by decide +kernel)⟩
theorem lw_p87 : lw_okq (⟨"DraftHouse$Covering", "findLeast", "()V"⟩, 13) := ⟨⟨by decide +kernel, by decide +kernel⟩, List.mem_of_getElem? (i := 342) (by decide +kernel), List.mem_of_getElem? (i := 1080) (by decide +kernel), List.mem_of_getElem? (i := 1081) (by decide +kernel)⟩
theorem lw_p88 : lw_okq (⟨"DraftHouse$Covering", "choose", "(IIJ)Z"⟩, 13) := ⟨⟨by decide +kernel, by decide +kernel⟩, List.mem_of_getElem? (i := 342) (by decide +kernel), List.mem_of_getElem? (i := 1084) (by decide +kernel), List.mem_of_getElem? (i := 1085) (by decide +kernel)⟩
theorem lw_p89 : lw_okq (⟨"DraftHouse$Covering", "needsMore", "(JI)Z"⟩, 13) := ⟨⟨by decide +kernel, by decide +kernel⟩, List.mem_of_getElem? (i := 342) (by decide +kernel), List.mem_of_getElem? (i := 1090) (by decide +kernel), List.mem_of_getElem? (i := 1091) (by decide +kernel)⟩
theorem lw_p90 : lw_okq (⟨"DraftHouse$Covering", "tieAt", "(I)I"⟩, 13) := ⟨⟨by decide +kernel, by decide +kernel⟩, List.mem_of_getElem? (i := 342) (by decide +kernel), List.mem_of_getElem? (i := 1095) (by decide +kernel), List.mem_of_getElem? (i := 1096) (by decide +kernel)⟩
theorem lw_p91 : lw_okq (⟨"DraftHouse$Sight", "noteRow", "(IJ)V"⟩, 4) := ⟨⟨by decide +kernel, by decide +kernel⟩, List.mem_of_getElem? (i := 389) (by decide +kernel), List.mem_of_getElem? (i := 1103) (by decide +kernel), List.mem_of_getElem? (i := 1104) (by decide +kernel)⟩
theorem lw_p92 : lw_okq (⟨"DraftHouse", "nearestShaft", "(I)I"⟩, 12) := ⟨⟨by decide +kernel, by decide +kernel⟩, List.mem_of_getElem? (i := 22) (by decide +kernel), List.mem_of_getElem? (i := 1117) (by decide +kernel), List.mem_of_getElem? (i := 1118) (by decide +kernel)⟩
theorem lw_p93 : lw_okq (⟨"DraftHouse", "unlikePicks", "(II)I"⟩, 12) := ⟨⟨by decide +kernel, by decide +kernel⟩, List.mem_of_getElem? (i := 22) (by decide +kernel), List.mem_of_getElem? (i := 1121) (by decide +kernel), List.mem_of_getElem? (i := 1122) (by decide +kernel)⟩
theorem lw_p94 : lw_okq (⟨"DraftHouse$Mending", "find", "()V"⟩, 15) := ⟨⟨by decide +kernel, by decide +kernel⟩, List.mem_of_getElem? (i := 411) (by decide +kernel), List.mem_of_getElem? (i := 1130) (by decide +kernel), List.mem_of_getElem? (i := 1131) (by decide +kernel)⟩
theorem lw_p95 : lw_okq (⟨"DraftHouse$Mending", "fitEnds", "()V"⟩, 15) := ⟨⟨by decide +kernel, by decide +kernel⟩, List.mem_of_getElem? (i := 411) (by decide +kernel), List.mem_of_getElem? (i := 1134) (by decide +kernel), List.mem_of_getElem? (i := 1135) (by decide +kernel)⟩
def lw_privs_6 : List (MethodName × Nat) := [(⟨"DraftHouse$Covering", "collectLifts", "()Z"⟩, 13), (⟨"DraftHouse$Covering", "collectTies", "()V"⟩, 13), (⟨"DraftHouse$Covering", "insertTie", "(I)V"⟩, 13), (⟨"DraftHouse$Covering", "markGifts", "()V"⟩, 13), (⟨"DraftHouse$Covering", "sortShafts", "()V"⟩, 13), (⟨"DraftHouse$Covering", "markGift", "(II)V"⟩, 13), (⟨"DraftHouse$Covering", "gatherGifts", "()V"⟩, 13), (⟨"DraftHouse$Covering", "findLeast", "()V"⟩, 13), (⟨"DraftHouse$Covering", "choose", "(IIJ)Z"⟩, 13), (⟨"DraftHouse$Covering", "needsMore", "(JI)Z"⟩, 13), (⟨"DraftHouse$Covering", "tieAt", "(I)I"⟩, 13), (⟨"DraftHouse$Sight", "noteRow", "(IJ)V"⟩, 4), (⟨"DraftHouse", "nearestShaft", "(I)I"⟩, 12), (⟨"DraftHouse", "unlikePicks", "(II)I"⟩, 12), (⟨"DraftHouse$Mending", "find", "()V"⟩, 15), (⟨"DraftHouse$Mending", "fitEnds", "()V"⟩, 15)]
theorem lw_r6 : ∀ q ∈ lw_privs_6, lw_okq q := List.forall_mem_cons.mpr ⟨lw_p80, List.forall_mem_cons.mpr ⟨lw_p81, List.forall_mem_cons.mpr ⟨lw_p82, List.forall_mem_cons.mpr ⟨lw_p83, List.forall_mem_cons.mpr ⟨lw_p84, List.forall_mem_cons.mpr ⟨lw_p85, List.forall_mem_cons.mpr ⟨lw_p86, List.forall_mem_cons.mpr ⟨lw_p87, List.forall_mem_cons.mpr ⟨lw_p88, List.forall_mem_cons.mpr ⟨lw_p89, List.forall_mem_cons.mpr ⟨lw_p90, List.forall_mem_cons.mpr ⟨lw_p91, List.forall_mem_cons.mpr ⟨lw_p92, List.forall_mem_cons.mpr ⟨lw_p93, List.forall_mem_cons.mpr ⟨lw_p94, List.forall_mem_cons.mpr ⟨lw_p95, fun _ h => absurd h List.not_mem_nil⟩⟩⟩⟩⟩⟩⟩⟩⟩⟩⟩⟩⟩⟩⟩⟩
theorem lw_p96 : lw_okq (⟨"DraftHouse$Sight", "endsLike", "(J)J"⟩, 4) := ⟨⟨by decide +kernel, by decide +kernel⟩, List.mem_of_getElem? (i := 389) (by decide +kernel), List.mem_of_getElem? (i := 1138) (by decide +kernel), List.mem_of_getElem? (i := 1139) (by decide +kernel)⟩
theorem lw_p97 : lw_okq (⟨"DraftHouse$Mending", "weighThreading", "()V"⟩, 15) := ⟨⟨by decide +kernel, by decide +kernel⟩, List.mem_of_getElem? (i := 411) (by decide +kernel), List.mem_of_getElem? (i := 1143) (by decide +kernel), List.mem_of_getElem? (i := 1144) (by decide +kernel)⟩
theorem lw_p98 : lw_okq (⟨"DraftHouse$Mending", "weighTie", "(II)V"⟩, 15) := ⟨⟨by decide +kernel, by decide +kernel⟩, List.mem_of_getElem? (i := 411) (by decide +kernel), List.mem_of_getElem? (i := 1148) (by decide +kernel), List.mem_of_getElem? (i := 1149) (by decide +kernel)⟩
theorem lw_p99 : lw_okq (⟨"DraftHouse$Mending", "picksAfter", "(II)J"⟩, 15) := ⟨⟨by decide +kernel, by decide +kernel⟩, List.mem_of_getElem? (i := 411) (by decide +kernel), List.mem_of_getElem? (i := 1152) (by decide +kernel), List.mem_of_getElem? (i := 1153) (by decide +kernel)⟩
theorem lw_p100 : lw_okq (⟨"DraftHouse$Mending", "settle", "()V"⟩, 15) := ⟨⟨by decide +kernel, by decide +kernel⟩, List.mem_of_getElem? (i := 411) (by decide +kernel), List.mem_of_getElem? (i := 1158) (by decide +kernel), List.mem_of_getElem? (i := 1159) (by decide +kernel)⟩
theorem lw_p101 : lw_okq (⟨"DraftHouse$Mending", "fits", "(II)Z"⟩, 15) := ⟨⟨by decide +kernel, by decide +kernel⟩, List.mem_of_getElem? (i := 411) (by decide +kernel), List.mem_of_getElem? (i := 1162) (by decide +kernel), List.mem_of_getElem? (i := 1163) (by decide +kernel)⟩
theorem lw_p102 : lw_okq (⟨"DraftHouse$Mending", "firstFitting", "(I)I"⟩, 15) := ⟨⟨by decide +kernel, by decide +kernel⟩, List.mem_of_getElem? (i := 411) (by decide +kernel), List.mem_of_getElem? (i := 1166) (by decide +kernel), List.mem_of_getElem? (i := 1167) (by decide +kernel)⟩
theorem lw_p103 : lw_okq (⟨"DraftHouse", "cellsUp", "()I"⟩, 12) := ⟨⟨by decide +kernel, by decide +kernel⟩, List.mem_of_getElem? (i := 22) (by decide +kernel), List.mem_of_getElem? (i := 1181) (by decide +kernel), List.mem_of_getElem? (i := 1182) (by decide +kernel)⟩
theorem lw_p104 : lw_okq (⟨"DraftHouse", "firstMixedPick", "()I"⟩, 12) := ⟨⟨by decide +kernel, by decide +kernel⟩, List.mem_of_getElem? (i := 22) (by decide +kernel), List.mem_of_getElem? (i := 1185) (by decide +kernel), List.mem_of_getElem? (i := 1186) (by decide +kernel)⟩
theorem lw_p105 : lw_okq (⟨"DraftHouse$Sight", "isMoved", "(III)Z"⟩, 4) := ⟨⟨by decide +kernel, by decide +kernel⟩, List.mem_of_getElem? (i := 389) (by decide +kernel), List.mem_of_getElem? (i := 1189) (by decide +kernel), List.mem_of_getElem? (i := 1190) (by decide +kernel)⟩
theorem lw_p106 : lw_okq (⟨"DraftHouse", "threadedEnds", "()I"⟩, 12) := ⟨⟨by decide +kernel, by decide +kernel⟩, List.mem_of_getElem? (i := 22) (by decide +kernel), List.mem_of_getElem? (i := 1204) (by decide +kernel), List.mem_of_getElem? (i := 1205) (by decide +kernel)⟩
theorem lw_p107 : lw_okq (⟨"DraftHouseModel", "isEnd", "(I)Z"⟩, 56) := ⟨⟨by decide +kernel, by decide +kernel⟩, List.mem_of_getElem? (i := 1211) (by decide +kernel), List.mem_of_getElem? (i := 1390) (by decide +kernel), List.mem_of_getElem? (i := 1391) (by decide +kernel)⟩
theorem lw_p108 : lw_okq (⟨"DraftHouseModel", "telling", "(ZIII)I"⟩, 56) := ⟨⟨by decide +kernel, by decide +kernel⟩, List.mem_of_getElem? (i := 1211) (by decide +kernel), List.mem_of_getElem? (i := 1397) (by decide +kernel), List.mem_of_getElem? (i := 1398) (by decide +kernel)⟩
theorem lw_p109 : lw_okq (⟨"DraftHouseModel", "enter", "(III)V"⟩, 56) := ⟨⟨by decide +kernel, by decide +kernel⟩, List.mem_of_getElem? (i := 1211) (by decide +kernel), List.mem_of_getElem? (i := 1401) (by decide +kernel), List.mem_of_getElem? (i := 1402) (by decide +kernel)⟩
theorem lw_p110 : lw_okq (⟨"DraftHouseModel", "passes", "()I"⟩, 56) := ⟨⟨by decide +kernel, by decide +kernel⟩, List.mem_of_getElem? (i := 1211) (by decide +kernel), List.mem_of_getElem? (i := 1405) (by decide +kernel), List.mem_of_getElem? (i := 1406) (by decide +kernel)⟩
theorem lw_p111 : lw_okq (⟨"DraftHouseModel", "isPick", "(I)Z"⟩, 56) := ⟨⟨by decide +kernel, by decide +kernel⟩, List.mem_of_getElem? (i := 1211) (by decide +kernel), List.mem_of_getElem? (i := 1418) (by decide +kernel), List.mem_of_getElem? (i := 1419) (by decide +kernel)⟩
def lw_privs_7 : List (MethodName × Nat) := [(⟨"DraftHouse$Sight", "endsLike", "(J)J"⟩, 4), (⟨"DraftHouse$Mending", "weighThreading", "()V"⟩, 15), (⟨"DraftHouse$Mending", "weighTie", "(II)V"⟩, 15), (⟨"DraftHouse$Mending", "picksAfter", "(II)J"⟩, 15), (⟨"DraftHouse$Mending", "settle", "()V"⟩, 15), (⟨"DraftHouse$Mending", "fits", "(II)Z"⟩, 15), (⟨"DraftHouse$Mending", "firstFitting", "(I)I"⟩, 15), (⟨"DraftHouse", "cellsUp", "()I"⟩, 12), (⟨"DraftHouse", "firstMixedPick", "()I"⟩, 12), (⟨"DraftHouse$Sight", "isMoved", "(III)Z"⟩, 4), (⟨"DraftHouse", "threadedEnds", "()I"⟩, 12), (⟨"DraftHouseModel", "isEnd", "(I)Z"⟩, 56), (⟨"DraftHouseModel", "telling", "(ZIII)I"⟩, 56), (⟨"DraftHouseModel", "enter", "(III)V"⟩, 56), (⟨"DraftHouseModel", "passes", "()I"⟩, 56), (⟨"DraftHouseModel", "isPick", "(I)Z"⟩, 56)]
theorem lw_r7 : ∀ q ∈ lw_privs_7, lw_okq q := List.forall_mem_cons.mpr ⟨lw_p96, List.forall_mem_cons.mpr ⟨lw_p97, List.forall_mem_cons.mpr ⟨lw_p98, List.forall_mem_cons.mpr ⟨lw_p99, List.forall_mem_cons.mpr ⟨lw_p100, List.forall_mem_cons.mpr ⟨lw_p101, List.forall_mem_cons.mpr ⟨lw_p102, List.forall_mem_cons.mpr ⟨lw_p103, List.forall_mem_cons.mpr ⟨lw_p104, List.forall_mem_cons.mpr ⟨lw_p105, List.forall_mem_cons.mpr ⟨lw_p106, List.forall_mem_cons.mpr ⟨lw_p107, List.forall_mem_cons.mpr ⟨lw_p108, List.forall_mem_cons.mpr ⟨lw_p109, List.forall_mem_cons.mpr ⟨lw_p110, List.forall_mem_cons.mpr ⟨lw_p111, fun _ h => absurd h List.not_mem_nil⟩⟩⟩⟩⟩⟩⟩⟩⟩⟩⟩⟩⟩⟩⟩⟩
theorem lw_p112 : lw_okq (⟨"DraftHouseModel", "valueOf", "(II)I"⟩, 56) := ⟨⟨by decide +kernel, by decide +kernel⟩, List.mem_of_getElem? (i := 1211) (by decide +kernel), List.mem_of_getElem? (i := 1434) (by decide +kernel), List.mem_of_getElem? (i := 1435) (by decide +kernel)⟩
theorem lw_p113 : lw_okq (⟨"DraftHouseModel", "entryOf", "(II)I"⟩, 56) := ⟨⟨by decide +kernel, by decide +kernel⟩, List.mem_of_getElem? (i := 1211) (by decide +kernel), List.mem_of_getElem? (i := 1438) (by decide +kernel), List.mem_of_getElem? (i := 1439) (by decide +kernel)⟩
theorem lw_p114 : lw_okq (⟨"DraftHouseModel", "draw", "()V"⟩, 56) := ⟨⟨by decide +kernel, by decide +kernel⟩, List.mem_of_getElem? (i := 1211) (by decide +kernel), List.mem_of_getElem? (i := 1446) (by decide +kernel), List.mem_of_getElem? (i := 1447) (by decide +kernel)⟩
theorem lw_p115 : lw_okq (⟨"DraftHouseModel", "lifts", "()V"⟩, 56) := ⟨⟨by decide +kernel, by decide +kernel⟩, List.mem_of_getElem? (i := 1211) (by decide +kernel), List.mem_of_getElem? (i := 1450) (by decide +kernel), List.mem_of_getElem? (i := 1451) (by decide +kernel)⟩
theorem lw_p116 : lw_okq (⟨"DraftHouseModel", "four", "(I)V"⟩, 56) := ⟨⟨by decide +kernel, by decide +kernel⟩, List.mem_of_getElem? (i := 1211) (by decide +kernel), List.mem_of_getElem? (i := 1467) (by decide +kernel), List.mem_of_getElem? (i := 1468) (by decide +kernel)⟩
theorem lw_p117 : lw_okq (⟨"DraftHouseModel", "readText", "()I"⟩, 56) := ⟨⟨by decide +kernel, by decide +kernel⟩, List.mem_of_getElem? (i := 1211) (by decide +kernel), List.mem_of_getElem? (i := 1479) (by decide +kernel), List.mem_of_getElem? (i := 1480) (by decide +kernel)⟩
theorem lw_p118 : lw_okq (⟨"DraftHouseModel", "nextToken", "()V"⟩, 56) := ⟨⟨by decide +kernel, by decide +kernel⟩, List.mem_of_getElem? (i := 1211) (by decide +kernel), List.mem_of_getElem? (i := 1483) (by decide +kernel), List.mem_of_getElem? (i := 1484) (by decide +kernel)⟩
theorem lw_p119 : lw_okq (⟨"DraftHouseModel", "see", "(I)I"⟩, 56) := ⟨⟨by decide +kernel, by decide +kernel⟩, List.mem_of_getElem? (i := 1211) (by decide +kernel), List.mem_of_getElem? (i := 1487) (by decide +kernel), List.mem_of_getElem? (i := 1488) (by decide +kernel)⟩
theorem lw_p120 : lw_okq (⟨"DraftHouseModel", "wordOf", "(III)I"⟩, 56) := ⟨⟨by decide +kernel, by decide +kernel⟩, List.mem_of_getElem? (i := 1211) (by decide +kernel), List.mem_of_getElem? (i := 1501) (by decide +kernel), List.mem_of_getElem? (i := 1502) (by decide +kernel)⟩
theorem lw_p121 : lw_okq (⟨"DraftHouseModel", "block", "()I"⟩, 56) := ⟨⟨by decide +kernel, by decide +kernel⟩, List.mem_of_getElem? (i := 1211) (by decide +kernel), List.mem_of_getElem? (i := 1511) (by decide +kernel), List.mem_of_getElem? (i := 1512) (by decide +kernel)⟩
theorem lw_p122 : lw_okq (⟨"DraftHouseModel", "fails", "(II)I"⟩, 56) := ⟨⟨by decide +kernel, by decide +kernel⟩, List.mem_of_getElem? (i := 1211) (by decide +kernel), List.mem_of_getElem? (i := 1515) (by decide +kernel), List.mem_of_getElem? (i := 1516) (by decide +kernel)⟩
theorem lw_p123 : lw_okq (⟨"DraftHouseModel", "readRow", "()I"⟩, 56) := ⟨⟨by decide +kernel, by decide +kernel⟩, List.mem_of_getElem? (i := 1211) (by decide +kernel), List.mem_of_getElem? (i := 1519) (by decide +kernel), List.mem_of_getElem? (i := 1520) (by decide +kernel)⟩
theorem lw_p124 : lw_okq (⟨"DraftHouseModel", "opens", "()I"⟩, 56) := ⟨⟨by decide +kernel, by decide +kernel⟩, List.mem_of_getElem? (i := 1211) (by decide +kernel), List.mem_of_getElem? (i := 1523) (by decide +kernel), List.mem_of_getElem? (i := 1524) (by decide +kernel)⟩
theorem lw_p125 : lw_okq (⟨"DraftHouseModel", "plainOne", "()I"⟩, 56) := ⟨⟨by decide +kernel, by decide +kernel⟩, List.mem_of_getElem? (i := 1211) (by decide +kernel), List.mem_of_getElem? (i := 1527) (by decide +kernel), List.mem_of_getElem? (i := 1528) (by decide +kernel)⟩
theorem lw_p126 : lw_okq (⟨"DraftHouseModel", "many", "()I"⟩, 56) := ⟨⟨by decide +kernel, by decide +kernel⟩, List.mem_of_getElem? (i := 1211) (by decide +kernel), List.mem_of_getElem? (i := 1531) (by decide +kernel), List.mem_of_getElem? (i := 1532) (by decide +kernel)⟩
theorem lw_p127 : lw_okq (⟨"DraftHouseModel", "push", "(I)V"⟩, 56) := ⟨⟨by decide +kernel, by decide +kernel⟩, List.mem_of_getElem? (i := 1211) (by decide +kernel), List.mem_of_getElem? (i := 1535) (by decide +kernel), List.mem_of_getElem? (i := 1536) (by decide +kernel)⟩
def lw_privs_8 : List (MethodName × Nat) := [(⟨"DraftHouseModel", "valueOf", "(II)I"⟩, 56), (⟨"DraftHouseModel", "entryOf", "(II)I"⟩, 56), (⟨"DraftHouseModel", "draw", "()V"⟩, 56), (⟨"DraftHouseModel", "lifts", "()V"⟩, 56), (⟨"DraftHouseModel", "four", "(I)V"⟩, 56), (⟨"DraftHouseModel", "readText", "()I"⟩, 56), (⟨"DraftHouseModel", "nextToken", "()V"⟩, 56), (⟨"DraftHouseModel", "see", "(I)I"⟩, 56), (⟨"DraftHouseModel", "wordOf", "(III)I"⟩, 56), (⟨"DraftHouseModel", "block", "()I"⟩, 56), (⟨"DraftHouseModel", "fails", "(II)I"⟩, 56), (⟨"DraftHouseModel", "readRow", "()I"⟩, 56), (⟨"DraftHouseModel", "opens", "()I"⟩, 56), (⟨"DraftHouseModel", "plainOne", "()I"⟩, 56), (⟨"DraftHouseModel", "many", "()I"⟩, 56), (⟨"DraftHouseModel", "push", "(I)V"⟩, 56)]
theorem lw_r8 : ∀ q ∈ lw_privs_8, lw_okq q := List.forall_mem_cons.mpr ⟨lw_p112, List.forall_mem_cons.mpr ⟨lw_p113, List.forall_mem_cons.mpr ⟨lw_p114, List.forall_mem_cons.mpr ⟨lw_p115, List.forall_mem_cons.mpr ⟨lw_p116, List.forall_mem_cons.mpr ⟨lw_p117, List.forall_mem_cons.mpr ⟨lw_p118, List.forall_mem_cons.mpr ⟨lw_p119, List.forall_mem_cons.mpr ⟨lw_p120, List.forall_mem_cons.mpr ⟨lw_p121, List.forall_mem_cons.mpr ⟨lw_p122, List.forall_mem_cons.mpr ⟨lw_p123, List.forall_mem_cons.mpr ⟨lw_p124, List.forall_mem_cons.mpr ⟨lw_p125, List.forall_mem_cons.mpr ⟨lw_p126, List.forall_mem_cons.mpr ⟨lw_p127, fun _ h => absurd h List.not_mem_nil⟩⟩⟩⟩⟩⟩⟩⟩⟩⟩⟩⟩⟩⟩⟩⟩
theorem lw_p128 : lw_okq (⟨"DraftHouseModel", "times", "()I"⟩, 56) := ⟨⟨by decide +kernel, by decide +kernel⟩, List.mem_of_getElem? (i := 1211) (by decide +kernel), List.mem_of_getElem? (i := 1539) (by decide +kernel), List.mem_of_getElem? (i := 1540) (by decide +kernel)⟩
theorem lw_p129 : lw_okq (⟨"DraftHouseModel", "closes", "()I"⟩, 56) := ⟨⟨by decide +kernel, by decide +kernel⟩, List.mem_of_getElem? (i := 1211) (by decide +kernel), List.mem_of_getElem? (i := 1543) (by decide +kernel), List.mem_of_getElem? (i := 1544) (by decide +kernel)⟩
theorem lw_p130 : lw_okq (⟨"DraftHouseModel", "rowClause", "(I)I"⟩, 56) := ⟨⟨by decide +kernel, by decide +kernel⟩, List.mem_of_getElem? (i := 1211) (by decide +kernel), List.mem_of_getElem? (i := 1547) (by decide +kernel), List.mem_of_getElem? (i := 1548) (by decide +kernel)⟩
theorem lw_p131 : lw_okq (⟨"DraftHouseModel", "bring", "(III)V"⟩, 56) := ⟨⟨by decide +kernel, by decide +kernel⟩, List.mem_of_getElem? (i := 1211) (by decide +kernel), List.mem_of_getElem? (i := 1551) (by decide +kernel), List.mem_of_getElem? (i := 1552) (by decide +kernel)⟩
theorem lw_p132 : lw_okq (⟨"DraftHouseModel", "findRuns", "(ZZ)V"⟩, 56) := ⟨⟨by decide +kernel, by decide +kernel⟩, List.mem_of_getElem? (i := 1211) (by decide +kernel), List.mem_of_getElem? (i := 1563) (by decide +kernel), List.mem_of_getElem? (i := 1564) (by decide +kernel)⟩
theorem lw_p133 : lw_okq (⟨"DraftHouseModel", "runsOf", "(JIZZ)V"⟩, 56) := ⟨⟨by decide +kernel, by decide +kernel⟩, List.mem_of_getElem? (i := 1211) (by decide +kernel), List.mem_of_getElem? (i := 1567) (by decide +kernel), List.mem_of_getElem? (i := 1568) (by decide +kernel)⟩
theorem lw_p134 : lw_okq (⟨"DraftHouseModel", "isPart", "(IIII)Z"⟩, 56) := ⟨⟨by decide +kernel, by decide +kernel⟩, List.mem_of_getElem? (i := 1211) (by decide +kernel), List.mem_of_getElem? (i := 1579) (by decide +kernel), List.mem_of_getElem? (i := 1580) (by decide +kernel)⟩
theorem lw_p135 : lw_okq (⟨"DraftHouseModel", "number", "(IIII)V"⟩, 56) := ⟨⟨by decide +kernel, by decide +kernel⟩, List.mem_of_getElem? (i := 1211) (by decide +kernel), List.mem_of_getElem? (i := 1583) (by decide +kernel), List.mem_of_getElem? (i := 1584) (by decide +kernel)⟩
theorem lw_p136 : lw_okq (⟨"DraftHouseModel", "reach", "(IIII)V"⟩, 56) := ⟨⟨by decide +kernel, by decide +kernel⟩, List.mem_of_getElem? (i := 1211) (by decide +kernel), List.mem_of_getElem? (i := 1587) (by decide +kernel), List.mem_of_getElem? (i := 1588) (by decide +kernel)⟩
theorem lw_p137 : lw_okq (⟨"DraftHouseModel", "isTop", "(IIIII)Z"⟩, 56) := ⟨⟨by decide +kernel, by decide +kernel⟩, List.mem_of_getElem? (i := 1211) (by decide +kernel), List.mem_of_getElem? (i := 1597) (by decide +kernel), List.mem_of_getElem? (i := 1598) (by decide +kernel)⟩
theorem lw_p138 : lw_okq (⟨"DraftHouseModel", "isAbove", "(II)Z"⟩, 56) := ⟨⟨by decide +kernel, by decide +kernel⟩, List.mem_of_getElem? (i := 1211) (by decide +kernel), List.mem_of_getElem? (i := 1601) (by decide +kernel), List.mem_of_getElem? (i := 1602) (by decide +kernel)⟩
theorem lw_p139 : lw_okq (⟨"DraftHouseModel", "colourAt", "(II)I"⟩, 56) := ⟨⟨by decide +kernel, by decide +kernel⟩, List.mem_of_getElem? (i := 1211) (by decide +kernel), List.mem_of_getElem? (i := 1613) (by decide +kernel), List.mem_of_getElem? (i := 1614) (by decide +kernel)⟩
theorem lw_p140 : lw_okq (⟨"DraftHouseModel", "paint", "(Z)V"⟩, 56) := ⟨⟨by decide +kernel, by decide +kernel⟩, List.mem_of_getElem? (i := 1211) (by decide +kernel), List.mem_of_getElem? (i := 1621) (by decide +kernel), List.mem_of_getElem? (i := 1622) (by decide +kernel)⟩
theorem lw_p141 : lw_okq (⟨"DraftHouseModel", "isAlike", "(ZI)Z"⟩, 56) := ⟨⟨by decide +kernel, by decide +kernel⟩, List.mem_of_getElem? (i := 1211) (by decide +kernel), List.mem_of_getElem? (i := 1629) (by decide +kernel), List.mem_of_getElem? (i := 1630) (by decide +kernel)⟩
theorem lw_p142 : lw_okq (⟨"DraftHouseModel", "usedShafts", "()I"⟩, 56) := ⟨⟨by decide +kernel, by decide +kernel⟩, List.mem_of_getElem? (i := 1211) (by decide +kernel), List.mem_of_getElem? (i := 1644) (by decide +kernel), List.mem_of_getElem? (i := 1645) (by decide +kernel)⟩
theorem lw_p143 : lw_okq (⟨"DraftHouseModel", "gather", "()V"⟩, 56) := ⟨⟨by decide +kernel, by decide +kernel⟩, List.mem_of_getElem? (i := 1211) (by decide +kernel), List.mem_of_getElem? (i := 1655) (by decide +kernel), List.mem_of_getElem? (i := 1656) (by decide +kernel)⟩
def lw_privs_9 : List (MethodName × Nat) := [(⟨"DraftHouseModel", "times", "()I"⟩, 56), (⟨"DraftHouseModel", "closes", "()I"⟩, 56), (⟨"DraftHouseModel", "rowClause", "(I)I"⟩, 56), (⟨"DraftHouseModel", "bring", "(III)V"⟩, 56), (⟨"DraftHouseModel", "findRuns", "(ZZ)V"⟩, 56), (⟨"DraftHouseModel", "runsOf", "(JIZZ)V"⟩, 56), (⟨"DraftHouseModel", "isPart", "(IIII)Z"⟩, 56), (⟨"DraftHouseModel", "number", "(IIII)V"⟩, 56), (⟨"DraftHouseModel", "reach", "(IIII)V"⟩, 56), (⟨"DraftHouseModel", "isTop", "(IIIII)Z"⟩, 56), (⟨"DraftHouseModel", "isAbove", "(II)Z"⟩, 56), (⟨"DraftHouseModel", "colourAt", "(II)I"⟩, 56), (⟨"DraftHouseModel", "paint", "(Z)V"⟩, 56), (⟨"DraftHouseModel", "isAlike", "(ZI)Z"⟩, 56), (⟨"DraftHouseModel", "usedShafts", "()I"⟩, 56), (⟨"DraftHouseModel", "gather", "()V"⟩, 56)]
theorem lw_r9 : ∀ q ∈ lw_privs_9, lw_okq q := List.forall_mem_cons.mpr ⟨lw_p128, List.forall_mem_cons.mpr ⟨lw_p129, List.forall_mem_cons.mpr ⟨lw_p130, List.forall_mem_cons.mpr ⟨lw_p131, List.forall_mem_cons.mpr ⟨lw_p132, List.forall_mem_cons.mpr ⟨lw_p133, List.forall_mem_cons.mpr ⟨lw_p134, List.forall_mem_cons.mpr ⟨lw_p135, List.forall_mem_cons.mpr ⟨lw_p136, List.forall_mem_cons.mpr ⟨lw_p137, List.forall_mem_cons.mpr ⟨lw_p138, List.forall_mem_cons.mpr ⟨lw_p139, List.forall_mem_cons.mpr ⟨lw_p140, List.forall_mem_cons.mpr ⟨lw_p141, List.forall_mem_cons.mpr ⟨lw_p142, List.forall_mem_cons.mpr ⟨lw_p143, fun _ h => absurd h List.not_mem_nil⟩⟩⟩⟩⟩⟩⟩⟩⟩⟩⟩⟩⟩⟩⟩⟩
theorem lw_p144 : lw_okq (⟨"DraftHouseModel", "findCommons", "()V"⟩, 56) := ⟨⟨by decide +kernel, by decide +kernel⟩, List.mem_of_getElem? (i := 1211) (by decide +kernel), List.mem_of_getElem? (i := 1659) (by decide +kernel), List.mem_of_getElem? (i := 1660) (by decide +kernel)⟩
theorem lw_p145 : lw_okq (⟨"DraftHouseModel", "chooses", "(I)Z"⟩, 56) := ⟨⟨by decide +kernel, by decide +kernel⟩, List.mem_of_getElem? (i := 1211) (by decide +kernel), List.mem_of_getElem? (i := 1663) (by decide +kernel), List.mem_of_getElem? (i := 1664) (by decide +kernel)⟩
theorem lw_p146 : lw_okq (⟨"DraftHouseModel", "covers", "(I)Z"⟩, 56) := ⟨⟨by decide +kernel, by decide +kernel⟩, List.mem_of_getElem? (i := 1211) (by decide +kernel), List.mem_of_getElem? (i := 1667) (by decide +kernel), List.mem_of_getElem? (i := 1668) (by decide +kernel)⟩
theorem lw_p147 : lw_okq (⟨"DraftHouseModel", "seenColumn", "(I)J"⟩, 56) := ⟨⟨by decide +kernel, by decide +kernel⟩, List.mem_of_getElem? (i := 1211) (by decide +kernel), List.mem_of_getElem? (i := 1679) (by decide +kernel), List.mem_of_getElem? (i := 1680) (by decide +kernel)⟩
theorem lw_p148 : lw_okq (⟨"DraftHouseModel", "nearestOf", "(I)I"⟩, 56) := ⟨⟨by decide +kernel, by decide +kernel⟩, List.mem_of_getElem? (i := 1211) (by decide +kernel), List.mem_of_getElem? (i := 1690) (by decide +kernel), List.mem_of_getElem? (i := 1691) (by decide +kernel)⟩
theorem lw_p149 : lw_okq (⟨"DraftHouseModel", "columnBy", "(I)J"⟩, 56) := ⟨⟨by decide +kernel, by decide +kernel⟩, List.mem_of_getElem? (i := 1211) (by decide +kernel), List.mem_of_getElem? (i := 1694) (by decide +kernel), List.mem_of_getElem? (i := 1695) (by decide +kernel)⟩
theorem lw_p150 : lw_okq (⟨"DraftHouseModel", "mend", "()V"⟩, 56) := ⟨⟨by decide +kernel, by decide +kernel⟩, List.mem_of_getElem? (i := 1211) (by decide +kernel), List.mem_of_getElem? (i := 1702) (by decide +kernel), List.mem_of_getElem? (i := 1703) (by decide +kernel)⟩
theorem lw_p151 : lw_okq (⟨"DraftHouseModel", "costOfEnds", "()I"⟩, 56) := ⟨⟨by decide +kernel, by decide +kernel⟩, List.mem_of_getElem? (i := 1211) (by decide +kernel), List.mem_of_getElem? (i := 1706) (by decide +kernel), List.mem_of_getElem? (i := 1707) (by decide +kernel)⟩
theorem lw_p152 : lw_okq (⟨"DraftHouseModel", "isMoved", "(II)Z"⟩, 56) := ⟨⟨by decide +kernel, by decide +kernel⟩, List.mem_of_getElem? (i := 1211) (by decide +kernel), List.mem_of_getElem? (i := 1718) (by decide +kernel), List.mem_of_getElem? (i := 1719) (by decide +kernel)⟩
def lw_privs_10 : List (MethodName × Nat) := [(⟨"DraftHouseModel", "findCommons", "()V"⟩, 56), (⟨"DraftHouseModel", "chooses", "(I)Z"⟩, 56), (⟨"DraftHouseModel", "covers", "(I)Z"⟩, 56), (⟨"DraftHouseModel", "seenColumn", "(I)J"⟩, 56), (⟨"DraftHouseModel", "nearestOf", "(I)I"⟩, 56), (⟨"DraftHouseModel", "columnBy", "(I)J"⟩, 56), (⟨"DraftHouseModel", "mend", "()V"⟩, 56), (⟨"DraftHouseModel", "costOfEnds", "()I"⟩, 56), (⟨"DraftHouseModel", "isMoved", "(II)Z"⟩, 56)]
theorem lw_r10 : ∀ q ∈ lw_privs_10, lw_okq q := List.forall_mem_cons.mpr ⟨lw_p144, List.forall_mem_cons.mpr ⟨lw_p145, List.forall_mem_cons.mpr ⟨lw_p146, List.forall_mem_cons.mpr ⟨lw_p147, List.forall_mem_cons.mpr ⟨lw_p148, List.forall_mem_cons.mpr ⟨lw_p149, List.forall_mem_cons.mpr ⟨lw_p150, List.forall_mem_cons.mpr ⟨lw_p151, List.forall_mem_cons.mpr ⟨lw_p152, fun _ h => absurd h List.not_mem_nil⟩⟩⟩⟩⟩⟩⟩⟩⟩
def lw_privs : List (MethodName × Nat) := lw_privs_1 ++ (lw_privs_2 ++ (lw_privs_3 ++ (lw_privs_4 ++ (lw_privs_5 ++ (lw_privs_6 ++ (lw_privs_7 ++ (lw_privs_8 ++ (lw_privs_9 ++ (lw_privs_10)))))))))
def lw_tbl : List Cond := k2_sels lw_privs ++ tables_1
theorem lw_privs_ok : ∀ q ∈ lw_privs, lw_okq q := by
  show ∀ q ∈ lw_privs_1 ++ (lw_privs_2 ++ (lw_privs_3 ++ (lw_privs_4 ++ (lw_privs_5 ++ (lw_privs_6 ++ (lw_privs_7 ++ (lw_privs_8 ++ (lw_privs_9 ++ (lw_privs_10))))))))), lw_okq q
  exact List.forall_mem_append.mpr ⟨lw_r1, List.forall_mem_append.mpr ⟨lw_r2, List.forall_mem_append.mpr ⟨lw_r3, List.forall_mem_append.mpr ⟨lw_r4, List.forall_mem_append.mpr ⟨lw_r5, List.forall_mem_append.mpr ⟨lw_r6, List.forall_mem_append.mpr ⟨lw_r7, List.forall_mem_append.mpr ⟨lw_r8, List.forall_mem_append.mpr ⟨lw_r9, lw_r10⟩⟩⟩⟩⟩⟩⟩⟩⟩
end
section
/-! THE SIMULATOR: a small interpreter of bytecode over a memory of cells by number (no machine, no heap): what its answers mean for the machine is said in the next parts -/
abbrev sm_M : Type := List va_E
abbrev sm_L : Type := List (Option Value)
abbrev sm_R : Type := Option (sm_M × Option Value)
/-- of a class: its field links (pool number, class, field, kind), its method links (pool number, kind, method, parameters, class of the receiver), its constants, what it makes -/
abbrev sm_LK : Type := List (Nat × Nat × Nat × Nat) × List (Nat × Nat × Nat × Nat × Nat) × List (Nat × Value) × List (Nat × Nat × List Value)
/-- of a method: name, bytes, locals, answer, instructions, which locals live at a loop's head, its class's links -/
abbrev sm_MI : Type := MethodName × ByteArray × Nat × Option FieldType × List (Nat × Instr) × List (Nat × List Bool) × sm_LK
def sm_fd {α : Type} : List (Nat × α) → Nat → Option α
  | [], _ => none
  | (q, a) :: t, k => match Nat.beq q k with
    | true => some a
    | false => sm_fd t k
def sm_msk : List Bool → sm_L → sm_L
  | b :: bs, v :: L => (match b with | true => v | false => none) :: sm_msk bs L
  | [], L => L
  | _ :: _, [] => []
def sm_kp (ks : List (Nat × List Bool)) (pc : Nat) (L : sm_L) : sm_L := match sm_fd ks pc with
  | none => L
  | some bs => sm_msk bs L
def sm_lg : sm_L → Nat → Option Value
  | [], _ => none
  | v :: _, 0 => v
  | _ :: t, i + 1 => sm_lg t i
def sm_is2 : Option Value → Bool
  | some (.long _) => true
  | some (.double _) => true
  | _ => false
def sm_cl (o : Option Value) : Option Value := match sm_is2 o with
  | true => none
  | false => o
def sm_s1 : sm_L → Nat → Value → sm_L
  | [], _, _ => []
  | _ :: t, 0, v => some v :: t
  | o :: t, i + 1, v => (match i with | 0 => sm_cl o | _ + 1 => o) :: sm_s1 t i v
def sm_s2 : sm_L → Nat → Value → sm_L
  | [], _, _ => []
  | _ :: t, 0, v => some v :: (match t with | [] => [] | _ :: t' => none :: t')
  | o :: t, i + 1, v => (match i with | 0 => sm_cl o | _ + 1 => o) :: sm_s2 t i v
def sm_get : sm_M → Nat → Option va_E
  | [], _ => none
  | e :: _, 0 => some e
  | _ :: t, i + 1 => sm_get t i
def sm_set : sm_M → Nat → va_E → sm_M
  | [], _, _ => []
  | _ :: t, 0, e => e :: t
  | c :: t, i + 1, e => c :: sm_set t i e
def sm_vg : List Value → Nat → Option Value
  | [], _ => none
  | v :: _, 0 => some v
  | _ :: t, i + 1 => sm_vg t i
def sm_vs : List Value → Nat → Value → List Value
  | [], _, _ => []
  | _ :: t, 0, v => v :: t
  | w :: t, i + 1, v => w :: sm_vs t i v
def sm_pt : Nat → Value → Bool
  | 0, .int _ => true
  | 1, .int x => x == 0 || x == 1
  | 2, .long _ => true
  | 3, .ref _ => true
  | _, _ => false
def sm_pop : Nat → List Value → List Value → Option (List Value × List Value)
  | 0, acc, st => some (acc, st)
  | n + 1, acc, v :: st => sm_pop n (v :: acc) st
  | _ + 1, _, [] => none
def sm_low (st : List Value) : Bool := Nat.ble ((st.map fun v => v.category).sum) 8
def sm_i1 (st : List Value) (f : Int32 → List Value → sm_R) : sm_R := match st with
  | .int x :: r => f x r
  | _ => none
def sm_i2 (st : List Value) (f : Int32 → Int32 → List Value → sm_R) : sm_R := match st with
  | .int y :: .int x :: r => f x y r
  | _ => none
def sm_l1 (st : List Value) (f : Int64 → List Value → sm_R) : sm_R := match st with
  | .long x :: r => f x r
  | _ => none
def sm_l2 (st : List Value) (f : Int64 → Int64 → List Value → sm_R) : sm_R := match st with
  | .long y :: .long x :: r => f x y r
  | _ => none
def sm_li (st : List Value) (f : Int64 → Int32 → List Value → sm_R) : sm_R := match st with
  | .int y :: .long x :: r => f x y r
  | _ => none
def sm_r1 (st : List Value) (f : Nat → List Value → sm_R) : sm_R := match st with
  | .ref x :: r => f x r
  | _ => none
def sm_tg (pc : Nat) (off : Int) (f : Nat → sm_R) : sm_R := match (pc : Int) + off with
  | .ofNat t => f t
  | .negSucc _ => none
def sm_li1 (L : sm_L) (i : Nat) (f : Int32 → sm_R) : sm_R := match sm_lg L i with
  | some (.int x) => f x
  | _ => none
def sm_ll1 (L : sm_L) (i : Nat) (f : Int64 → sm_R) : sm_R := match sm_lg L i with
  | some (.long x) => f x
  | _ => none
def sm_lr1 (L : sm_L) (i : Nat) (f : Nat → sm_R) : sm_R := match sm_lg L i with
  | some (.ref x) => f x
  | _ => none
/-- an index: in its row, or nothing -/
def sm_ix (i : Int32) (n : Nat) (f : Nat → sm_R) : sm_R := if i < 0 ∨ n ≤ i.toNatClampNeg then none else f i.toNatClampNeg
def sm_obj (M : sm_M) (o : Nat) (f : Nat → List Value → sm_R) : sm_R := match sm_get M o with
  | some (.inr (ci, fs)) => f ci fs
  | _ => none
def sm_ia (M : sm_M) (o : Nat) (f : Nat → (Nat → Int32) → sm_R) : sm_R := match sm_get M o with
  | some (.inl (0, n, .inl g)) => f n g
  | _ => none
def sm_la (M : sm_M) (o : Nat) (f : Nat → (Nat → Int64) → sm_R) : sm_R := match sm_get M o with
  | some (.inl (1, n, .inr (.inl g))) => f n g
  | _ => none
def sm_len (M : sm_M) (o : Nat) (f : Nat → sm_R) : sm_R := match sm_get M o with
  | some (.inl (0, n, .inl _)) => f n
  | some (.inl (1, n, .inr (.inl _))) => f n
  | _ => none
/-- the script's own number -/
def sm_SC : Nat := 1000
def sm_st1 (L : sm_L) (i : Nat) (v : Value) (f : sm_L → sm_R) : sm_R := match Nat.blt i L.length with
  | true => f (sm_s1 L i v)
  | false => none
def sm_st2 (L : sm_L) (i : Nat) (v : Value) (f : sm_L → sm_R) : sm_R := match Nat.blt (i + 1) L.length with
  | true => f (sm_s2 L i v)
  | false => none
def sm_ret (v : Option Value) (M : sm_M) (st : List Value) : sm_R := match st with
  | [] => some (M, v)
  | _ :: _ => none
def sm_zr (rt : Option FieldType) (x : Int32) : Bool := match rt with
  | some .int => true
  | some .boolean => x == 0 || x == 1
  | _ => false
def sm_inv (f : Nat → sm_L → List Value → sm_M → sm_R) (pc : Nat) (L : sm_L) (r : List Value) (a : sm_R) : sm_R := match a with
  | some (M, v) => f (pc + 3) L (v.toList ++ r) M
  | none => none
/-- one instruction; k: what comes behind it -/
def sm_ex (cal : Nat → List Value → sm_M → sm_R) (sc : Option (Nat × (Nat → Int32))) (mi : sm_MI) (k : Nat → sm_L → List Value → sm_M → sm_R) (pc : Nat) (L : sm_L) (st : List Value) (M : sm_M) (i : Instr) : sm_R :=
  match i with
  | .iconst n => k (pc + 1) L (.int (Int32.ofInt n) :: st) M
  | .bipush n => k (pc + 2) L (.int (Int8.ofInt n).toInt32 :: st) M
  | .sipush n => k (pc + 3) L (.int (Int16.ofInt n).toInt32 :: st) M
  | .lconst n => k (pc + 1) L (.long (Int64.ofNat (n : Nat)) :: st) M
  | .ldc x => (match sm_fd mi.2.2.2.2.2.2.2.2.1 x with | some (.int v) => k (pc + 2) L (.int v :: st) M | some (.ref v) => k (pc + 2) L (.ref v :: st) M | _ => none)
  | .ldc_w x => (match sm_fd mi.2.2.2.2.2.2.2.2.1 x with | some (.int v) => k (pc + 3) L (.int v :: st) M | _ => none)
  | .ldc2_w x => (match sm_fd mi.2.2.2.2.2.2.2.2.1 x with | some (.long v) => k (pc + 3) L (.long v :: st) M | _ => none)
  | .iload_n j => sm_li1 L j.val (fun x => k (pc + 1) L (.int x :: st) M)
  | .iload j => sm_li1 L j (fun x => k (pc + 2) L (.int x :: st) M)
  | .lload_n j => sm_ll1 L j.val (fun x => k (pc + 1) L (.long x :: st) M)
  | .lload j => sm_ll1 L j (fun x => k (pc + 2) L (.long x :: st) M)
  | .aload_n j => sm_lr1 L j.val (fun x => k (pc + 1) L (.ref x :: st) M)
  | .aload j => sm_lr1 L j (fun x => k (pc + 2) L (.ref x :: st) M)
  | .istore_n j => sm_i1 st (fun x r => sm_st1 L j.val (.int x) (fun L' => k (pc + 1) L' r M))
  | .istore j => sm_i1 st (fun x r => sm_st1 L j (.int x) (fun L' => k (pc + 2) L' r M))
  | .lstore_n j => sm_l1 st (fun x r => sm_st2 L j.val (.long x) (fun L' => k (pc + 1) L' r M))
  | .lstore j => sm_l1 st (fun x r => sm_st2 L j (.long x) (fun L' => k (pc + 2) L' r M))
  | .astore_n j => sm_r1 st (fun x r => sm_st1 L j.val (.ref x) (fun L' => k (pc + 1) L' r M))
  | .astore j => sm_r1 st (fun x r => sm_st1 L j (.ref x) (fun L' => k (pc + 2) L' r M))
  | .iinc j n => sm_li1 L j (fun x => sm_st1 L j (.int (x + Int32.ofInt n)) (fun L' => k (pc + 3) L' st M))
  | .iadd => sm_i2 st (fun x y r => k (pc + 1) L (.int (x + y) :: r) M)
  | .isub => sm_i2 st (fun x y r => k (pc + 1) L (.int (x - y) :: r) M)
  | .imul => sm_i2 st (fun x y r => k (pc + 1) L (.int (x * y) :: r) M)
  | .iand => sm_i2 st (fun x y r => k (pc + 1) L (.int (x &&& y) :: r) M)
  | .ior => sm_i2 st (fun x y r => k (pc + 1) L (.int (x ||| y) :: r) M)
  | .ixor => sm_i2 st (fun x y r => k (pc + 1) L (.int (x ^^^ y) :: r) M)
  | .idiv => sm_i2 st (fun x y r => if y = 0 then none else k (pc + 1) L (.int (x / y) :: r) M)
  | .irem => sm_i2 st (fun x y r => if y = 0 then none else k (pc + 1) L (.int (x - x / y * y) :: r) M)
  | .ishl => sm_i2 st (fun x y r => k (pc + 1) L (.int (x <<< (y &&& 31)) :: r) M)
  | .ishr => sm_i2 st (fun x y r => k (pc + 1) L (.int (x >>> (y &&& 31)) :: r) M)
  | .iushr => sm_i2 st (fun x y r => k (pc + 1) L (.int (x.toUInt32 >>> (y.toUInt32 &&& Int32.toUInt32 31)).toInt32 :: r) M)
  | .ineg => sm_i1 st (fun x r => k (pc + 1) L (.int (-x) :: r) M)
  | .ladd => sm_l2 st (fun x y r => k (pc + 1) L (.long (x + y) :: r) M)
  | .lsub => sm_l2 st (fun x y r => k (pc + 1) L (.long (x - y) :: r) M)
  | .land => sm_l2 st (fun x y r => k (pc + 1) L (.long (x &&& y) :: r) M)
  | .lor => sm_l2 st (fun x y r => k (pc + 1) L (.long (x ||| y) :: r) M)
  | .lxor => sm_l2 st (fun x y r => k (pc + 1) L (.long (x ^^^ y) :: r) M)
  | .lshl => sm_li st (fun x y r => k (pc + 1) L (.long (x <<< (y.toInt64 &&& 63)) :: r) M)
  | .lshr => sm_li st (fun x y r => k (pc + 1) L (.long (x >>> (y.toInt64 &&& 63)) :: r) M)
  | .lushr => sm_li st (fun x y r => k (pc + 1) L (.long (x.toUInt64 >>> (y.toInt64.toUInt64 &&& Int64.toUInt64 63)).toInt64 :: r) M)
  | .lcmp => sm_l2 st (fun x y r => k (pc + 1) L (.int (lg_cmp x y) :: r) M)
  | .i2l => sm_i1 st (fun x r => k (pc + 1) L (.long x.toInt64 :: r) M)
  | .l2i => sm_l1 st (fun x r => k (pc + 1) L (.int x.toInt32 :: r) M)
  | .dup => (match st with
    | .int x :: r => k (pc + 1) L (.int x :: .int x :: r) M
    | .ref x :: r => k (pc + 1) L (.ref x :: .ref x :: r) M
    | _ => none)
  | .dup2 => (match st with
    | .int x :: .ref y :: r => k (pc + 1) L (.int x :: .ref y :: .int x :: .ref y :: r) M
    | .long x :: r => k (pc + 1) L (.long x :: .long x :: r) M
    | _ => none)
  | .goto off => sm_tg pc off (fun t => k t L st M)
  | .ifCond c off => sm_tg pc off (fun t => sm_i1 st (fun x r => match c with
    | .eq => if x = 0 then k t L r M else k (pc + 3) L r M
    | .ne => if x = 0 then k (pc + 3) L r M else k t L r M
    | .lt => if x < 0 then k t L r M else k (pc + 3) L r M
    | .ge => if 0 ≤ x then k t L r M else k (pc + 3) L r M
    | .gt => if 0 < x then k t L r M else k (pc + 3) L r M
    | .le => if x ≤ 0 then k t L r M else k (pc + 3) L r M))
  | .if_icmp c off => sm_tg pc off (fun t => sm_i2 st (fun x y r => match c with
    | .eq => if x = y then k t L r M else k (pc + 3) L r M
    | .ne => if x = y then k (pc + 3) L r M else k t L r M
    | .lt => if x < y then k t L r M else k (pc + 3) L r M
    | .ge => if y ≤ x then k t L r M else k (pc + 3) L r M
    | .gt => if y < x then k t L r M else k (pc + 3) L r M
    | .le => if x ≤ y then k t L r M else k (pc + 3) L r M))
  | .tableswitch dflt lo hi offs => sm_i1 st (fun x r => if x.toInt < lo ∨ hi < x.toInt then sm_tg pc dflt (fun t => k t L r M) else (match offs[(x.toInt - lo).toNat]? with
    | some off => sm_tg pc off (fun t => k t L r M)
    | none => none))
  | .lookupswitch dflt ps => (match (ps.toList.zip (ps.toList.drop 1)).all (fun (a, next) => a.1 < next.1) with
    | true => sm_i1 st (fun x r => sm_tg pc (Op.lookupswitch.offset ps.toList dflt x.toInt) (fun t => k t L r M))
    | false => none)
  | .getfield x => (match sm_fd mi.2.2.2.2.2.2.1 x with
    | some (ci, j, _) => sm_r1 st (fun o r => sm_obj M o (fun cj fs => match Nat.beq cj ci with
      | true => (match sm_vg fs j with | some v => k (pc + 3) L (v :: r) M | none => none)
      | false => none))
    | none => none)
  | .putfield x => (match sm_fd mi.2.2.2.2.2.2.1 x with
    | some (ci, j, t) => (match st with
      | v :: .ref o :: r => sm_obj M o (fun cj fs => match Nat.beq cj ci && sm_pt t v && Nat.blt j fs.length with
        | true => k (pc + 3) L r (sm_set M o (.inr (cj, sm_vs fs j v)))
        | false => none)
      | _ => none)
    | none => none)
  | .iaload => (match st with
    | .int i :: .ref a :: r => (match Nat.beq a sm_SC with
      | true => (match sc with | some (n, g) => sm_ix i n (fun j => k (pc + 1) L (.int (g j) :: r) M) | none => none)
      | false => sm_ia M a (fun n g => sm_ix i n (fun j => k (pc + 1) L (.int (g j) :: r) M)))
    | _ => none)
  | .laload => (match st with
    | .int i :: .ref a :: r => sm_la M a (fun n g => sm_ix i n (fun j => k (pc + 1) L (.long (g j) :: r) M))
    | _ => none)
  | .iastore => (match st with
    | .int x :: .int i :: .ref a :: r => sm_ia M a (fun n g => sm_ix i n (fun j => k (pc + 1) L r (sm_set M a (.inl (0, n, .inl (upd g j x))))))
    | _ => none)
  | .lastore => (match st with
    | .long x :: .int i :: .ref a :: r => sm_la M a (fun n g => sm_ix i n (fun j => k (pc + 1) L r (sm_set M a (.inl (1, n, .inr (.inl (vp_updL g j x)))))))
    | _ => none)
  | .arraylength => sm_r1 st (fun a r => match Nat.beq a sm_SC with
    | true => (match sc with | some (n, _) => k (pc + 1) L (.int (Int32.ofNat n) :: r) M | none => none)
    | false => sm_len M a (fun n => k (pc + 1) L (.int (Int32.ofNat n) :: r) M))
  | .newarray t => sm_i1 st (fun x r => if x < 0 then none else (match Nat.ble x.toNatClampNeg 100000 && Nat.blt M.length 1000 with
    | true => (match t with
      | .int => k (pc + 2) L (.ref M.length :: r) (M ++ [.inl (0, x.toNatClampNeg, .inl (fun _ => 0))])
      | .long => k (pc + 2) L (.ref M.length :: r) (M ++ [.inl (1, x.toNatClampNeg, .inr (.inl (fun _ => 0)))])
      | _ => none)
    | false => none))
  | .new x => (match sm_fd mi.2.2.2.2.2.2.2.2.2 x with
    | some (ci, fs) => (match Nat.blt M.length 1000 with
      | true => k (pc + 3) L (.ref M.length :: st) (M ++ [.inr (ci, fs)])
      | false => none)
    | none => none)
  | .invokestatic x => (match sm_fd mi.2.2.2.2.2.2.2.1 x with
    | some (0, y, n, _) => (match sm_pop n [] st with
      | some (as, r) => (match sm_low r with | true => sm_inv k pc L r (cal y as M) | false => none)
      | none => none)
    | some (5, _, _, _) => sm_i2 st (fun x y r => match sm_low r with | true => k (pc + 3) L (.int (if x < y then y else x) :: r) M | false => none)
    | some (6, _, _, _) => sm_i2 st (fun x y r => match sm_low r with | true => k (pc + 3) L (.int (if y < x then y else x) :: r) M | false => none)
    | some (7, _, _, _) => sm_i1 st (fun x r => match sm_low r with | true => k (pc + 3) L (.int (if 0 ≤ x then x else 0 - x) :: r) M | false => none)
    | _ => none)
  | .invokevirtual x => (match sm_fd mi.2.2.2.2.2.2.2.1 x with
    | some (1, y, n, ci) => (match sm_pop n [] st with
      | some (as, .ref b :: r) => (match sm_low r with
        | true => sm_obj M b (fun cj _ => match Nat.beq cj ci with | true => sm_inv k pc L r (cal y (.ref b :: as) M) | false => none)
        | false => none)
      | _ => none)
    | some (4, y, n, _) => (match sm_pop n [] st with
      | some (as, .ref b :: r) => (match sm_low r && (Nat.ble 1001 b && Nat.ble b 1008) with
        | true => sm_inv k pc L r (cal y (.ref b :: as) M)
        | false => none)
      | _ => none)
    | _ => none)
  | .invokespecial x => (match sm_fd mi.2.2.2.2.2.2.2.1 x with
    | some (2, y, n, _) => (match sm_pop n [] st with
      | some (as, .ref b :: r) => (match sm_low r with | true => sm_inv k pc L r (cal y (.ref b :: as) M) | false => none)
      | _ => none)
    | some (3, _, _, _) => sm_r1 st (fun _ r => match sm_low r with | true => k (pc + 3) L r M | false => none)
    | _ => none)
  | .ireturn => sm_i1 st (fun x r => match sm_zr mi.2.2.2.1 x with | true => sm_ret (some (.int x)) M r | false => none)
  | .lreturn => sm_l1 st (fun x r => match mi.2.2.2.1 with | some .long => sm_ret (some (.long x)) M r | _ => none)
  | .return_ => (match mi.2.2.2.1 with | none => sm_ret none M st | some _ => none)
  | _ => none
def sm_run (cal : Nat → List Value → sm_M → sm_R) (sc : Option (Nat × (Nat → Int32))) (mi : sm_MI) : Nat → Nat → sm_L → List Value → sm_M → sm_R
  | 0, _, _, _, _ => none
  | n + 1, pc, L, st, M => match sm_fd mi.2.2.2.2.1 pc with
    | none => none
    | some i => sm_ex cal sc mi (sm_run cal sc mi n) pc (sm_kp mi.2.2.2.2.2.1 pc L) st M i
def sm_ent : List Value → sm_L
  | [] => []
  | v :: t => match sm_is2 (some v) with
    | true => some v :: none :: sm_ent t
    | false => some v :: sm_ent t
def sm_pad : Nat → sm_L → sm_L
  | 0, _ => []
  | n + 1, [] => none :: sm_pad n []
  | n + 1, o :: t => o :: sm_pad n t
/-- calls down to depth d, N instructions in each -/
def sm_sim (pg : List (Nat × sm_MI)) (bi : Nat → List Value → sm_M → sm_R) (sc : Option (Nat × (Nat → Int32))) : Nat → Nat → Nat → List Value → sm_M → sm_R
  | 0, _, _, _, _ => none
  | d + 1, N, y, as, M => match sm_fd pg y with
    | some mi => (match Nat.ble (sm_ent as).length mi.2.2.1 with
      | true => sm_run (sm_sim pg bi sc d N) sc mi N 0 (sm_pad mi.2.2.1 (sm_ent as)) [] M
      | false => none)
    | none => (match Nat.ble 4 d with
      | true => bi y as M
      | false => none)
end
section
/-! WHAT THE SIMULATOR'S NUMBERS MEAN: cells by their addresses (B + number, below 1000), locals, words -/
def sm_rho (B : Nat) (ad : Nat → Nat) (i : Nat) : Nat := if i < 1000 then B + i else ad i
def sm_cv (B : Nat) (ad : Nat → Nat) : Value → Value
  | .ref a => .ref (sm_rho B ad a)
  | v => v
def sm_ce (τ : Nat → ClassId) (B : Nat) (ad : Nat → Nat) : va_E → va_E
  | .inl (c, a) => .inl (τ c, a)
  | .inr (ci, fs) => .inr (ci, fs.map (sm_cv B ad))
def sm_w (τ : Nat → ClassId) (B : Nat) (ad : Nat → Nat) : Nat → sm_M → va_W
  | _, [] => []
  | j, e :: t => (sm_rho B ad j, sm_ce τ B ad e) :: sm_w τ B ad (j + 1) t
def sm_sz : va_E → Nat
  | .inl (_, n, _) => n
  | .inr (_, fs) => fs.length
def sm_sl : sm_M → Nat
  | [] => 0
  | e :: t => sm_sz e + sm_sl t
theorem sm_w_get (τ : Nat → ClassId) (B : Nat) (ad : Nat → Nat) : ∀ (M : sm_M) (j i : Nat), (sm_w τ B ad j M)[i]? = (sm_get M i).map (fun e => (sm_rho B ad (j + i), sm_ce τ B ad e)) := by
  intro M
  induction M with
  | nil => intro j i; rfl
  | cons e t ih =>
    intro j i
    cases i with
    | zero => rfl
    | succ i =>
      show (sm_w τ B ad (j + 1) t)[i]? = _
      rw [ih (j + 1) i, show j + 1 + i = j + (i + 1) by omega]
      rfl
theorem sm_w_set (τ : Nat → ClassId) (B : Nat) (ad : Nat → Nat) : ∀ (M : sm_M) (j i : Nat) (e : va_E), (sm_w τ B ad j M).set i (sm_rho B ad (j + i), sm_ce τ B ad e) = sm_w τ B ad j (sm_set M i e) := by
  intro M
  induction M with
  | nil => intro j i e; rfl
  | cons c t ih =>
    intro j i e
    cases i with
    | zero => rfl
    | succ i =>
      show _ :: (sm_w τ B ad (j + 1) t).set i _ = _ :: sm_w τ B ad (j + 1) (sm_set t i e)
      rw [← ih (j + 1) i e, show j + 1 + i = j + (i + 1) by omega]
theorem sm_w_app (τ : Nat → ClassId) (B : Nat) (ad : Nat → Nat) (e : va_E) : ∀ (M : sm_M) (j : Nat), sm_w τ B ad j (M ++ [e]) = sm_w τ B ad j M ++ [(sm_rho B ad (j + M.length), sm_ce τ B ad e)] := by
  intro M
  induction M with
  | nil => intro j; rfl
  | cons c t ih =>
    intro j
    show _ :: sm_w τ B ad (j + 1) (t ++ [e]) = _ :: (sm_w τ B ad (j + 1) t ++ _)
    rw [ih (j + 1), show j + 1 + t.length = j + (c :: t).length by simp; omega]
theorem sm_get_lt : ∀ {M : sm_M} {i : Nat} {e : va_E}, sm_get M i = some e → i < M.length := by
  intro M
  induction M with
  | nil => intro i e h; cases h
  | cons c t ih =>
    intro i e h
    cases i with
    | zero => simp
    | succ i => have := ih (i := i) h; simp; omega
theorem sm_set_len : ∀ (M : sm_M) (i : Nat) (e : va_E), (sm_set M i e).length = M.length := by
  intro M
  induction M with
  | nil => intro i e; rfl
  | cons c t ih =>
    intro i e
    cases i with
    | zero => rfl
    | succ i => simp [sm_set, ih]
theorem sm_set_sl : ∀ {M : sm_M} {i : Nat} {e e0 : va_E}, sm_get M i = some e0 → sm_sz e = sm_sz e0 → sm_sl (sm_set M i e) = sm_sl M := by
  intro M
  induction M with
  | nil => intro i e e0 h; cases h
  | cons c t ih =>
    intro i e e0 h hz
    cases i with
    | zero => cases h; simp [sm_set, sm_sl, hz]
    | succ i => simp [sm_set, sm_sl, ih (i := i) h hz]
theorem sm_sl_app (e : va_E) : ∀ (M : sm_M), sm_sl (M ++ [e]) = sm_sl M + sm_sz e := by
  intro M
  induction M with
  | nil => simp [sm_sl]
  | cons c t ih => simp [sm_sl, ih]; omega
theorem sm_rho_lt {B : Nat} {ad : Nat → Nat} {i : Nat} (h : i < 1000) : sm_rho B ad i = B + i := if_pos h
/-- the cells' addresses are apart, and from B on -/
theorem sm_D {τ : Nat → ClassId} {B : Nat} {ad : Nat → Nat} {M : sm_M} (h : M.length ≤ 1000) : va_D (fun q => B ≤ q) (sm_w τ B ad 0 M) := by
  have key : ∀ (i : Nat) (q : Nat × va_E), (sm_w τ B ad 0 M)[i]? = some q → q.1 = B + i := by
    intro i q hq
    rw [sm_w_get] at hq
    cases hg : sm_get M i with
    | none => rw [hg] at hq; cases hq
    | some e =>
      rw [hg] at hq
      have hlt := sm_get_lt hg
      have : q = (sm_rho B ad (0 + i), sm_ce τ B ad e) := (Option.some.inj hq).symm
      rw [this, Nat.zero_add, sm_rho_lt (by omega)]
  exact ⟨fun i j a b ha hb hab => by rw [key i a ha, key j b hb] at hab; omega, fun i q hq => by rw [key i q hq]; exact Nat.le_add_right _ _⟩
theorem sm_cv_cat (B : Nat) (ad : Nat → Nat) (v : Value) : (sm_cv B ad v).category = v.category := by cases v <;> rfl
/-- locals: what they hold, by their places -/
def sm_al (B : Nat) (ad : Nat → Nat) : Nat → sm_L → List (Nat × Value)
  | _, [] => []
  | j, none :: t => sm_al B ad (j + 1) t
  | j, some v :: t => (j, sm_cv B ad v) :: sm_al B ad (j + 1) t
theorem sm_al_in {B : Nat} {ad : Nat → Nat} : ∀ {L : sm_L} {i j : Nat} {v : Value}, sm_lg L i = some v → (j + i, sm_cv B ad v) ∈ sm_al B ad j L := by
  intro L
  induction L with
  | nil => intro i j v h; cases h
  | cons o t ih =>
    intro i j v h
    cases i with
    | zero =>
      have h : o = some v := h
      subst h
      exact List.mem_cons_self
    | succ i =>
      have h : sm_lg t i = some v := h
      have := ih (j := j + 1) h
      rw [show j + 1 + i = j + (i + 1) by omega] at this
      cases o with
      | none => exact this
      | some w => exact List.mem_cons_of_mem _ this
theorem sm_al_ge {B : Nat} {ad : Nat → Nat} : ∀ {L : sm_L} {j : Nat} {q : Nat × Value}, q ∈ sm_al B ad j L → j ≤ q.1 := by
  intro L
  induction L with
  | nil => intro j q h; cases h
  | cons o t ih =>
    intro j q h
    cases o with
    | none => exact Nat.le_of_succ_le (ih (j := j + 1) h)
    | some w =>
      rcases List.mem_cons.mp h with rfl | h
      · exact Nat.le_refl _
      · exact Nat.le_of_succ_le (ih (j := j + 1) h)
theorem sm_al_msk {B : Nat} {ad : Nat → Nat} : ∀ {L : sm_L} {bs : List Bool} {j : Nat} {q : Nat × Value}, q ∈ sm_al B ad j (sm_msk bs L) → q ∈ sm_al B ad j L := by
  intro L
  induction L with
  | nil => intro bs j q h; cases bs <;> cases h
  | cons o t ih =>
    intro bs j q h
    cases bs with
    | nil => exact h
    | cons b bs =>
      cases b with
      | true =>
        cases o with
        | none => exact ih (bs := bs) (j := j + 1) h
        | some w =>
          rcases List.mem_cons.mp h with h | h
          · exact List.mem_cons.mpr (Or.inl h)
          · exact List.mem_cons_of_mem _ (ih (bs := bs) (j := j + 1) h)
      | false =>
        have h2 := ih (bs := bs) (j := j + 1) h
        cases o with
        | none => exact h2
        | some w => exact List.mem_cons_of_mem _ h2
theorem sm_msk_len : ∀ (L : sm_L) (bs : List Bool), (sm_msk bs L).length = L.length := by
  intro L
  induction L with
  | nil => intro bs; cases bs <;> rfl
  | cons o t ih =>
    intro bs
    cases bs with
    | nil => rfl
    | cons b bs => simp [sm_msk, ih]
theorem sm_s1_len : ∀ (L : sm_L) (i : Nat) (v : Value), (sm_s1 L i v).length = L.length := by
  intro L
  induction L with
  | nil => intro i v; rfl
  | cons o t ih =>
    intro i v
    cases i with
    | zero => rfl
    | succ i => simp [sm_s1, ih]
theorem sm_s2_len : ∀ (L : sm_L) (i : Nat) (v : Value), (sm_s2 L i v).length = L.length := by
  intro L
  induction L with
  | nil => intro i v; rfl
  | cons o t ih =>
    intro i v
    cases i with
    | zero => cases t <;> rfl
    | succ i => simp [sm_s2, ih]
theorem sm_al_cl {B : Nat} {ad : Nat → Nat} {o : Option Value} {t : sm_L} {j : Nat} {q : Nat × Value} (h : q ∈ sm_al B ad j (sm_cl o :: t)) : (q ∈ sm_al B ad j [o] ∧ ¬ q.2.category = 2) ∨ q ∈ sm_al B ad (j + 1) t := by
  cases o with
  | none => exact Or.inr h
  | some v =>
    cases v <;> first
      | exact Or.inr h
      | (rcases List.mem_cons.mp h with rfl | h
         · exact Or.inl ⟨List.mem_cons_self, by simp [sm_cv, Value.category]⟩
         · exact Or.inr h)
theorem sm_al_one {B : Nat} {ad : Nat → Nat} {o : Option Value} {t : sm_L} {j : Nat} {q : Nat × Value} (h : q ∈ sm_al B ad j [o]) : q ∈ sm_al B ad j (o :: t) ∧ q.1 = j := by
  cases o with
  | none => cases h
  | some v =>
    rcases List.mem_cons.mp h with rfl | h
    · exact ⟨List.mem_cons_self, rfl⟩
    · cases h
theorem sm_al_tl {B : Nat} {ad : Nat → Nat} {o : Option Value} {t : sm_L} {j : Nat} {q : Nat × Value} (h : q ∈ sm_al B ad (j + 1) t) : q ∈ sm_al B ad j (o :: t) := by
  cases o with
  | none => exact h
  | some v => exact List.mem_cons_of_mem _ h
theorem sm_al_hd {B : Nat} {ad : Nat → Nat} {o : Option Value} {t : sm_L} {j : Nat} {q : Nat × Value} (h : q ∈ sm_al B ad j (o :: t)) : (q ∈ sm_al B ad j [o]) ∨ q ∈ sm_al B ad (j + 1) t := by
  cases o with
  | none => exact Or.inr h
  | some v =>
    rcases List.mem_cons.mp h with rfl | h
    · exact Or.inl List.mem_cons_self
    · exact Or.inr h
theorem sm_al_s1 {B : Nat} {ad : Nat → Nat} : ∀ {L : sm_L} {i j : Nat} {v : Value} {q : Nat × Value}, q ∈ sm_al B ad j (sm_s1 L i v) → q = (j + i, sm_cv B ad v) ∨ (q ∈ sm_al B ad j L ∧ ¬ q.1 = j + i ∧ ¬ (q.1 + 1 = j + i ∧ q.2.category = 2)) := by
  intro L
  induction L with
  | nil => intro i j v q h; cases h
  | cons o t ih =>
    intro i j v q h
    cases i with
    | zero =>
      rcases List.mem_cons.mp (show q ∈ (j, sm_cv B ad v) :: sm_al B ad (j + 1) t from h) with h | h
      · exact Or.inl h
      · have g := sm_al_ge h
        exact Or.inr ⟨sm_al_tl h, by omega, by omega⟩
    | succ i =>
      cases i with
      | zero =>
        rcases sm_al_cl (show q ∈ sm_al B ad j (sm_cl o :: sm_s1 t 0 v) from h) with ⟨h, hc⟩ | h
        · obtain ⟨h1, h2⟩ := sm_al_one (t := t) h
          exact Or.inr ⟨h1, by omega, fun z => hc z.2⟩
        · rcases ih (i := 0) (j := j + 1) h with h | ⟨h, h2, h3⟩
          · exact Or.inl (by rw [h])
          · exact Or.inr ⟨sm_al_tl h, by omega, fun z => h3 ⟨by omega, z.2⟩⟩
      | succ i =>
        rcases sm_al_hd (show q ∈ sm_al B ad j (o :: sm_s1 t (i + 1) v) from h) with h | h
        · obtain ⟨h1, h2⟩ := sm_al_one (t := t) h
          exact Or.inr ⟨h1, by omega, by omega⟩
        · rcases ih (i := i + 1) (j := j + 1) h with h | ⟨h, h2, h3⟩
          · exact Or.inl (by rw [h, show j + 1 + (i + 1) = j + (i + 1 + 1) by omega])
          · exact Or.inr ⟨sm_al_tl h, by omega, fun z => h3 ⟨by omega, z.2⟩⟩
theorem sm_al_s2 {B : Nat} {ad : Nat → Nat} : ∀ {L : sm_L} {i j : Nat} {v : Value} {q : Nat × Value}, q ∈ sm_al B ad j (sm_s2 L i v) → q = (j + i, sm_cv B ad v) ∨ (q ∈ sm_al B ad j L ∧ ¬ q.1 = j + i ∧ ¬ q.1 = j + i + 1 ∧ ¬ (q.1 + 1 = j + i ∧ q.2.category = 2)) := by
  intro L
  induction L with
  | nil => intro i j v q h; cases h
  | cons o t ih =>
    intro i j v q h
    cases i with
    | zero =>
      cases t with
      | nil =>
        rcases List.mem_cons.mp (show q ∈ (j, sm_cv B ad v) :: sm_al B ad (j + 1) [] from h) with h | h
        · exact Or.inl h
        · cases h
      | cons o2 t =>
        rcases List.mem_cons.mp (show q ∈ (j, sm_cv B ad v) :: sm_al B ad (j + 1 + 1) t from h) with h | h
        · exact Or.inl h
        · have g := sm_al_ge h
          exact Or.inr ⟨sm_al_tl (sm_al_tl h), by omega, by omega, by omega⟩
    | succ i =>
      cases i with
      | zero =>
        rcases sm_al_cl (show q ∈ sm_al B ad j (sm_cl o :: sm_s2 t 0 v) from h) with ⟨h, hc⟩ | h
        · obtain ⟨h1, h2⟩ := sm_al_one (t := t) h
          exact Or.inr ⟨h1, by omega, by omega, fun z => hc z.2⟩
        · rcases ih (i := 0) (j := j + 1) h with h | ⟨h, h2, h3, h4⟩
          · exact Or.inl (by rw [h])
          · exact Or.inr ⟨sm_al_tl h, by omega, by omega, fun z => h4 ⟨by omega, z.2⟩⟩
      | succ i =>
        rcases sm_al_hd (show q ∈ sm_al B ad j (o :: sm_s2 t (i + 1) v) from h) with h | h
        · obtain ⟨h1, h2⟩ := sm_al_one (t := t) h
          exact Or.inr ⟨h1, by omega, by omega, by omega⟩
        · rcases ih (i := i + 1) (j := j + 1) h with h | ⟨h, h2, h3, h4⟩
          · exact Or.inl (by rw [h, show j + 1 + (i + 1) = j + (i + 1 + 1) by omega])
          · exact Or.inr ⟨sm_al_tl h, by omega, by omega, fun z => h4 ⟨by omega, z.2⟩⟩
theorem sm_has_le {ls : Array Slot} {nL : Nat} {l l' : List (Nat × Value)} (h : lv_has ls nL l) (hs : ∀ q ∈ l', q ∈ l) : lv_has ls nL l' := ⟨h.1, h.2.1, fun q hq => h.2.2 q (hs q hq)⟩
theorem sm_has_kp {ls : Array Slot} {nL : Nat} {B : Nat} {ad : Nat → Nat} {L : sm_L} {ks : List (Nat × List Bool)} {pc : Nat} (h : lv_has ls nL (sm_al B ad 0 L)) : lv_has ls nL (sm_al B ad 0 (sm_kp ks pc L)) := by
  unfold sm_kp
  cases sm_fd ks pc with
  | none => exact h
  | some bs => exact sm_has_le h (fun q hq => sm_al_msk hq)
theorem sm_kp_len (ks : List (Nat × List Bool)) (pc : Nat) (L : sm_L) : (sm_kp ks pc L).length = L.length := by
  unfold sm_kp
  cases sm_fd ks pc with
  | none => rfl
  | some bs => exact sm_msk_len L bs
theorem sm_has_s1 {ls : Array Slot} {nL : Nat} {B : Nat} {ad : Nat → Nat} {L : sm_L} {i : Nat} {v : Value} (h : lv_has ls nL ((i, sm_cv B ad v) :: (sm_al B ad 0 L).filter (fun q => !(q.1 == i) && !(q.1 + 1 == i && q.2.category == 2)))) : lv_has ls nL (sm_al B ad 0 (sm_s1 L i v)) := by
  refine sm_has_le h (fun q hq => ?_)
  rcases sm_al_s1 hq with h | ⟨h1, h2, h3⟩
  · rw [h, Nat.zero_add]; exact List.mem_cons_self
  · refine List.mem_cons_of_mem _ (List.mem_filter.mpr ⟨h1, ?_⟩)
    rw [Nat.zero_add] at h2 h3
    simp only [Bool.and_eq_true, Bool.not_eq_true', beq_eq_false_iff_ne, ne_eq, Bool.and_eq_false_iff]
    refine ⟨h2, ?_⟩
    by_cases z : q.1 + 1 = i
    · exact Or.inr (fun y => h3 ⟨z, y⟩)
    · exact Or.inl z
theorem sm_has_s2 {ls : Array Slot} {nL : Nat} {B : Nat} {ad : Nat → Nat} {L : sm_L} {i : Nat} {v : Value} (h : lv_has ls nL ((i, sm_cv B ad v) :: (sm_al B ad 0 L).filter (fun q => !(q.1 == i) && (!(q.1 == i + 1) && !(q.1 + 1 == i && q.2.category == 2))))) : lv_has ls nL (sm_al B ad 0 (sm_s2 L i v)) := by
  refine sm_has_le h (fun q hq => ?_)
  rcases sm_al_s2 hq with h | ⟨h1, h2, h3, h4⟩
  · rw [h, Nat.zero_add]; exact List.mem_cons_self
  · refine List.mem_cons_of_mem _ (List.mem_filter.mpr ⟨h1, ?_⟩)
    rw [Nat.zero_add] at h2 h3 h4
    simp only [Bool.and_eq_true, Bool.not_eq_true', beq_eq_false_iff_ne, ne_eq, Bool.and_eq_false_iff]
    refine ⟨h2, h3, ?_⟩
    by_cases z : q.1 + 1 = i
    · exact Or.inr (fun y => h4 ⟨z, y⟩)
    · exact Or.inl z
theorem sm_lg_lt : ∀ {L : sm_L} {i : Nat} {v : Value}, sm_lg L i = some v → i < L.length := by
  intro L
  induction L with
  | nil => intro i v h; cases h
  | cons o t ih =>
    intro i v h
    cases i with
    | zero => simp
    | succ i => have := ih (i := i) h; simp; omega
theorem sm_has_at {ls : Array Slot} {nL : Nat} {B : Nat} {ad : Nat → Nat} {L : sm_L} {i : Nat} {v : Value} (h : lv_has ls nL (sm_al B ad 0 L)) (hv : sm_lg L i = some v) : ls[i]? = some (.val (sm_cv B ad v)) := by
  have := h.2.2 _ (sm_al_in (B := B) (ad := ad) (j := 0) hv)
  rw [Nat.zero_add] at this
  exact this
end
section
/-! inversions of the simulator's small words, and: memory only grows -/
theorem sm_i1_some {st : List Value} {f : Int32 → List Value → sm_R} {z : sm_M × Option Value} (h : sm_i1 st f = some z) : ∃ x t, st = .int x :: t ∧ f x t = some z := by
  unfold sm_i1 at h
  split at h
  · exact ⟨_, _, rfl, h⟩
  · cases h
theorem sm_i2_some {st : List Value} {f : Int32 → Int32 → List Value → sm_R} {z : sm_M × Option Value} (h : sm_i2 st f = some z) : ∃ x y t, st = .int y :: .int x :: t ∧ f x y t = some z := by
  unfold sm_i2 at h
  split at h
  · exact ⟨_, _, _, rfl, h⟩
  · cases h
theorem sm_l1_some {st : List Value} {f : Int64 → List Value → sm_R} {z : sm_M × Option Value} (h : sm_l1 st f = some z) : ∃ x t, st = .long x :: t ∧ f x t = some z := by
  unfold sm_l1 at h
  split at h
  · exact ⟨_, _, rfl, h⟩
  · cases h
theorem sm_l2_some {st : List Value} {f : Int64 → Int64 → List Value → sm_R} {z : sm_M × Option Value} (h : sm_l2 st f = some z) : ∃ x y t, st = .long y :: .long x :: t ∧ f x y t = some z := by
  unfold sm_l2 at h
  split at h
  · exact ⟨_, _, _, rfl, h⟩
  · cases h
theorem sm_li_some {st : List Value} {f : Int64 → Int32 → List Value → sm_R} {z : sm_M × Option Value} (h : sm_li st f = some z) : ∃ x y t, st = .int y :: .long x :: t ∧ f x y t = some z := by
  unfold sm_li at h
  split at h
  · exact ⟨_, _, _, rfl, h⟩
  · cases h
theorem sm_r1_some {st : List Value} {f : Nat → List Value → sm_R} {z : sm_M × Option Value} (h : sm_r1 st f = some z) : ∃ x t, st = .ref x :: t ∧ f x t = some z := by
  unfold sm_r1 at h
  split at h
  · exact ⟨_, _, rfl, h⟩
  · cases h
theorem sm_tg_some {pc : Nat} {off : Int} {f : Nat → sm_R} {z : sm_M × Option Value} (h : sm_tg pc off f = some z) : ∃ t : Nat, (pc : Int) + off = (t : Int) ∧ f t = some z := by
  unfold sm_tg at h
  split at h
  · rename_i t ht; exact ⟨t, ht, h⟩
  · cases h
theorem sm_li1_some {L : sm_L} {i : Nat} {f : Int32 → sm_R} {z : sm_M × Option Value} (h : sm_li1 L i f = some z) : ∃ x, sm_lg L i = some (.int x) ∧ f x = some z := by
  unfold sm_li1 at h
  split at h
  · rename_i x hx; exact ⟨x, hx, h⟩
  · cases h
theorem sm_ll1_some {L : sm_L} {i : Nat} {f : Int64 → sm_R} {z : sm_M × Option Value} (h : sm_ll1 L i f = some z) : ∃ x, sm_lg L i = some (.long x) ∧ f x = some z := by
  unfold sm_ll1 at h
  split at h
  · rename_i x hx; exact ⟨x, hx, h⟩
  · cases h
theorem sm_lr1_some {L : sm_L} {i : Nat} {f : Nat → sm_R} {z : sm_M × Option Value} (h : sm_lr1 L i f = some z) : ∃ x, sm_lg L i = some (.ref x) ∧ f x = some z := by
  unfold sm_lr1 at h
  split at h
  · rename_i x hx; exact ⟨x, hx, h⟩
  · cases h
theorem sm_ix_some {i : Int32} {n : Nat} {f : Nat → sm_R} {z : sm_M × Option Value} (h : sm_ix i n f = some z) : vp_in i n ∧ f i.toNatClampNeg = some z := by
  unfold sm_ix at h
  split at h
  · cases h
  · rename_i hn; exact ⟨hn, h⟩
theorem sm_obj_some {M : sm_M} {o : Nat} {f : Nat → List Value → sm_R} {z : sm_M × Option Value} (h : sm_obj M o f = some z) : ∃ ci fs, sm_get M o = some (.inr (ci, fs)) ∧ f ci fs = some z := by
  unfold sm_obj at h
  split at h
  · rename_i ci fs hg; exact ⟨ci, fs, hg, h⟩
  · cases h
theorem sm_ia_some {M : sm_M} {o : Nat} {f : Nat → (Nat → Int32) → sm_R} {z : sm_M × Option Value} (h : sm_ia M o f = some z) : ∃ n g, sm_get M o = some (.inl (0, n, .inl g)) ∧ f n g = some z := by
  unfold sm_ia at h
  split at h
  · rename_i n g hg; exact ⟨n, g, hg, h⟩
  · cases h
theorem sm_la_some {M : sm_M} {o : Nat} {f : Nat → (Nat → Int64) → sm_R} {z : sm_M × Option Value} (h : sm_la M o f = some z) : ∃ n g, sm_get M o = some (.inl (1, n, .inr (.inl g))) ∧ f n g = some z := by
  unfold sm_la at h
  split at h
  · rename_i n g hg; exact ⟨n, g, hg, h⟩
  · cases h
theorem sm_len_some {M : sm_M} {o : Nat} {f : Nat → sm_R} {z : sm_M × Option Value} (h : sm_len M o f = some z) : ∃ n, ((∃ g, sm_get M o = some (.inl (0, n, .inl g))) ∨ ∃ g, sm_get M o = some (.inl (1, n, .inr (.inl g)))) ∧ f n = some z := by
  unfold sm_len at h
  split at h
  · rename_i n g hg; exact ⟨n, Or.inl ⟨g, hg⟩, h⟩
  · rename_i n g hg; exact ⟨n, Or.inr ⟨g, hg⟩, h⟩
  · cases h
theorem sm_st1_some {L : sm_L} {i : Nat} {v : Value} {f : sm_L → sm_R} {z : sm_M × Option Value} (h : sm_st1 L i v f = some z) : i < L.length ∧ f (sm_s1 L i v) = some z := by
  unfold sm_st1 at h
  split at h
  · rename_i hb; exact ⟨by simpa using hb, h⟩
  · cases h
theorem sm_st2_some {L : sm_L} {i : Nat} {v : Value} {f : sm_L → sm_R} {z : sm_M × Option Value} (h : sm_st2 L i v f = some z) : i + 1 < L.length ∧ f (sm_s2 L i v) = some z := by
  unfold sm_st2 at h
  split at h
  · rename_i hb; exact ⟨by simpa using hb, h⟩
  · cases h
theorem sm_ret_some {v : Option Value} {M : sm_M} {st : List Value} {z : sm_M × Option Value} (h : sm_ret v M st = some z) : st = [] ∧ z = (M, v) := by
  unfold sm_ret at h
  split at h
  · exact ⟨rfl, (Option.some.inj h).symm⟩
  · cases h
theorem sm_inv_some {f : Nat → sm_L → List Value → sm_M → sm_R} {pc : Nat} {L : sm_L} {r : List Value} {a : sm_R} {z : sm_M × Option Value} (h : sm_inv f pc L r a = some z) : ∃ M v, a = some (M, v) ∧ f (pc + 3) L (v.toList ++ r) M = some z := by
  unfold sm_inv at h
  split at h
  · exact ⟨_, _, rfl, h⟩
  · cases h
theorem sm_vg_get : ∀ (fs : List Value) (k : Nat), sm_vg fs k = fs[k]? := by
  intro fs
  induction fs with
  | nil => intro k; rfl
  | cons v t ih =>
    intro k
    cases k with
    | zero => rfl
    | succ k => simp [sm_vg, ih]
theorem sm_vs_set : ∀ (fs : List Value) (k : Nat) (v : Value), sm_vs fs k v = fs.set k v := by
  intro fs
  induction fs with
  | nil => intro k v; rfl
  | cons w t ih =>
    intro k v
    cases k with
    | zero => rfl
    | succ k => simp [sm_vs, ih]
theorem sm_pop_some : ∀ {n : Nat} {acc st as r : List Value}, sm_pop n acc st = some (as, r) → ∃ ps : List Value, ps.length = n ∧ as = ps ++ acc ∧ st = ps.reverse ++ r := by
  intro n
  induction n with
  | zero => intro acc st as r h; cases h; exact ⟨[], rfl, rfl, rfl⟩
  | succ n ih =>
    intro acc st as r h
    cases st with
    | nil => cases h
    | cons v st =>
      obtain ⟨ps, h1, h2, h3⟩ := ih (show sm_pop n (v :: acc) st = some (as, r) from h)
      exact ⟨ps ++ [v], by simp [h1], by simp [h2], by simp [h3]⟩
theorem sm_pop_0 {n : Nat} {st as r : List Value} (h : sm_pop n [] st = some (as, r)) : as.length = n ∧ st = as.reverse ++ r := by
  obtain ⟨ps, h1, h2, h3⟩ := sm_pop_some h
  rw [List.append_nil] at h2
  subst h2
  exact ⟨h1, h3⟩
end
section
/-! memory only grows -/
set_option maxHeartbeats 4000000 in
theorem sm_ex_mono {cal : Nat → List Value → sm_M → sm_R} {sc : Option (Nat × (Nat → Int32))} {mi : sm_MI} {k : Nat → sm_L → List Value → sm_M → sm_R} {M' : sm_M} {r : Option Value} (hc : ∀ y as M M1 v, cal y as M = some (M1, v) → M.length ≤ M1.length ∧ sm_sl M ≤ sm_sl M1) (hk : ∀ pc L st M, k pc L st M = some (M', r) → M.length ≤ M'.length ∧ sm_sl M ≤ sm_sl M') {pc : Nat} {L : sm_L} {st : List Value} {M : sm_M} {i : Instr} (h : sm_ex cal sc mi k pc L st M i = some (M', r)) : M.length ≤ M'.length ∧ sm_sl M ≤ sm_sl M' := by
  have hk3 : ∀ (e e0 : va_E) (a pc : Nat) (L : sm_L) (st : List Value), sm_get M a = some e0 → sm_sz e = sm_sz e0 → k pc L st (sm_set M a e) = some (M', r) → M.length ≤ M'.length ∧ sm_sl M ≤ sm_sl M' := by
    intro e e0 a pc L st hg hz h
    have h2 := hk _ _ _ _ h
    rw [sm_set_len, sm_set_sl hg hz] at h2
    exact h2
  have hk4 : ∀ (e : va_E) (pc : Nat) (L : sm_L) (st : List Value), k pc L st (M ++ [e]) = some (M', r) → M.length ≤ M'.length ∧ sm_sl M ≤ sm_sl M' := by
    intro e pc L st h
    have h2 := hk _ _ _ _ h
    rw [sm_sl_app, List.length_append] at h2
    exact ⟨by have := h2.1; simp at this; omega, by omega⟩
  have hk5 : ∀ (y : Nat) (as r0 : List Value) (pc : Nat) (L : sm_L), sm_inv k pc L r0 (cal y as M) = some (M', r) → M.length ≤ M'.length ∧ sm_sl M ≤ sm_sl M' := by
    intro y as r0 pc L h
    obtain ⟨M1, v, h1, h⟩ := sm_inv_some h
    have h2 := hk _ _ _ _ h
    have h3 := hc _ _ _ _ _ h1
    exact ⟨Nat.le_trans h3.1 h2.1, Nat.le_trans h3.2 h2.2⟩
  cases i with
  | iconst n =>
    exact hk _ _ _ _ h
  | bipush n =>
    exact hk _ _ _ _ h
  | sipush n =>
    exact hk _ _ _ _ h
  | lconst n =>
    exact hk _ _ _ _ h
  | iload_n j =>
    replace h := sm_li1_some h
    obtain ⟨x, hx, h⟩ := h
    exact hk _ _ _ _ h
  | iload j =>
    replace h := sm_li1_some h
    obtain ⟨x, hx, h⟩ := h
    exact hk _ _ _ _ h
  | lload_n j =>
    replace h := sm_ll1_some h
    obtain ⟨x, hx, h⟩ := h
    exact hk _ _ _ _ h
  | lload j =>
    replace h := sm_ll1_some h
    obtain ⟨x, hx, h⟩ := h
    exact hk _ _ _ _ h
  | aload_n j =>
    replace h := sm_lr1_some h
    obtain ⟨x, hx, h⟩ := h
    exact hk _ _ _ _ h
  | aload j =>
    replace h := sm_lr1_some h
    obtain ⟨x, hx, h⟩ := h
    exact hk _ _ _ _ h
  | istore_n j =>
    replace h := sm_i1_some h
    obtain ⟨x, t, rfl, h⟩ := h
    replace h := sm_st1_some h
    obtain ⟨hj, h⟩ := h
    exact hk _ _ _ _ h
  | istore j =>
    replace h := sm_i1_some h
    obtain ⟨x, t, rfl, h⟩ := h
    replace h := sm_st1_some h
    obtain ⟨hj, h⟩ := h
    exact hk _ _ _ _ h
  | lstore_n j =>
    replace h := sm_l1_some h
    obtain ⟨x, t, rfl, h⟩ := h
    replace h := sm_st2_some h
    obtain ⟨hj, h⟩ := h
    exact hk _ _ _ _ h
  | lstore j =>
    replace h := sm_l1_some h
    obtain ⟨x, t, rfl, h⟩ := h
    replace h := sm_st2_some h
    obtain ⟨hj, h⟩ := h
    exact hk _ _ _ _ h
  | astore_n j =>
    replace h := sm_r1_some h
    obtain ⟨x, t, rfl, h⟩ := h
    replace h := sm_st1_some h
    obtain ⟨hj, h⟩ := h
    exact hk _ _ _ _ h
  | astore j =>
    replace h := sm_r1_some h
    obtain ⟨x, t, rfl, h⟩ := h
    replace h := sm_st1_some h
    obtain ⟨hj, h⟩ := h
    exact hk _ _ _ _ h
  | iinc j n =>
    replace h := sm_li1_some h
    obtain ⟨x, hx, h⟩ := h
    replace h := sm_st1_some h
    obtain ⟨hj, h⟩ := h
    exact hk _ _ _ _ h
  | iadd =>
    replace h := sm_i2_some h
    obtain ⟨x, y, t, rfl, h⟩ := h
    exact hk _ _ _ _ h
  | isub =>
    replace h := sm_i2_some h
    obtain ⟨x, y, t, rfl, h⟩ := h
    exact hk _ _ _ _ h
  | imul =>
    replace h := sm_i2_some h
    obtain ⟨x, y, t, rfl, h⟩ := h
    exact hk _ _ _ _ h
  | iand =>
    replace h := sm_i2_some h
    obtain ⟨x, y, t, rfl, h⟩ := h
    exact hk _ _ _ _ h
  | ior =>
    replace h := sm_i2_some h
    obtain ⟨x, y, t, rfl, h⟩ := h
    exact hk _ _ _ _ h
  | ixor =>
    replace h := sm_i2_some h
    obtain ⟨x, y, t, rfl, h⟩ := h
    exact hk _ _ _ _ h
  | ishl =>
    replace h := sm_i2_some h
    obtain ⟨x, y, t, rfl, h⟩ := h
    exact hk _ _ _ _ h
  | ishr =>
    replace h := sm_i2_some h
    obtain ⟨x, y, t, rfl, h⟩ := h
    exact hk _ _ _ _ h
  | iushr =>
    replace h := sm_i2_some h
    obtain ⟨x, y, t, rfl, h⟩ := h
    exact hk _ _ _ _ h
  | ladd =>
    replace h := sm_l2_some h
    obtain ⟨x, y, t, rfl, h⟩ := h
    exact hk _ _ _ _ h
  | lsub =>
    replace h := sm_l2_some h
    obtain ⟨x, y, t, rfl, h⟩ := h
    exact hk _ _ _ _ h
  | land =>
    replace h := sm_l2_some h
    obtain ⟨x, y, t, rfl, h⟩ := h
    exact hk _ _ _ _ h
  | lor =>
    replace h := sm_l2_some h
    obtain ⟨x, y, t, rfl, h⟩ := h
    exact hk _ _ _ _ h
  | lxor =>
    replace h := sm_l2_some h
    obtain ⟨x, y, t, rfl, h⟩ := h
    exact hk _ _ _ _ h
  | lcmp =>
    replace h := sm_l2_some h
    obtain ⟨x, y, t, rfl, h⟩ := h
    exact hk _ _ _ _ h
  | lshl =>
    replace h := sm_li_some h
    obtain ⟨x, y, t, rfl, h⟩ := h
    exact hk _ _ _ _ h
  | lshr =>
    replace h := sm_li_some h
    obtain ⟨x, y, t, rfl, h⟩ := h
    exact hk _ _ _ _ h
  | lushr =>
    replace h := sm_li_some h
    obtain ⟨x, y, t, rfl, h⟩ := h
    exact hk _ _ _ _ h
  | ineg =>
    replace h := sm_i1_some h
    obtain ⟨x, t, rfl, h⟩ := h
    exact hk _ _ _ _ h
  | i2l =>
    replace h := sm_i1_some h
    obtain ⟨x, t, rfl, h⟩ := h
    exact hk _ _ _ _ h
  | l2i =>
    replace h := sm_l1_some h
    obtain ⟨x, t, rfl, h⟩ := h
    exact hk _ _ _ _ h
  | goto off =>
    replace h := sm_tg_some h
    obtain ⟨t, ht, h⟩ := h
    exact hk _ _ _ _ h
  | ldc x =>
    simp only [sm_ex] at h
    split at h
    · exact hk _ _ _ _ h
    · exact hk _ _ _ _ h
    · cases h
  | ldc_w x =>
    simp only [sm_ex] at h
    split at h
    · exact hk _ _ _ _ h
    · cases h
  | ldc2_w x =>
    simp only [sm_ex] at h
    split at h
    · exact hk _ _ _ _ h
    · cases h
  | idiv =>
    replace h := sm_i2_some h
    obtain ⟨x, y, t, rfl, h⟩ := h
    split at h
    · cases h
    · exact hk _ _ _ _ h
  | irem =>
    replace h := sm_i2_some h
    obtain ⟨x, y, t, rfl, h⟩ := h
    split at h
    · cases h
    · exact hk _ _ _ _ h
  | dup =>
    simp only [sm_ex] at h
    split at h
    · exact hk _ _ _ _ h
    · exact hk _ _ _ _ h
    · cases h
  | dup2 =>
    simp only [sm_ex] at h
    split at h
    · exact hk _ _ _ _ h
    · exact hk _ _ _ _ h
    · cases h
  | ifCond c off =>
    replace h := sm_tg_some h
    obtain ⟨t, ht, h⟩ := h
    replace h := sm_i1_some h
    obtain ⟨x, r0, rfl, h⟩ := h
    cases c <;> (dsimp only at h; split at h <;> exact hk _ _ _ _ h)
  | if_icmp c off =>
    replace h := sm_tg_some h
    obtain ⟨t, ht, h⟩ := h
    replace h := sm_i2_some h
    obtain ⟨x, y, r0, rfl, h⟩ := h
    cases c <;> (dsimp only at h; split at h <;> exact hk _ _ _ _ h)
  | tableswitch dflt lo hi offs =>
    replace h := sm_i1_some h
    obtain ⟨x, r0, rfl, h⟩ := h
    split at h
    · replace h := sm_tg_some h
      obtain ⟨t, ht, h⟩ := h
      exact hk _ _ _ _ h
    · split at h
      · replace h := sm_tg_some h
        obtain ⟨t, ht, h⟩ := h
        exact hk _ _ _ _ h
      · cases h
  | lookupswitch dflt ps =>
    simp only [sm_ex] at h
    split at h
    · replace h := sm_i1_some h
      obtain ⟨x, r0, rfl, h⟩ := h
      replace h := sm_tg_some h
      obtain ⟨t, ht, h⟩ := h
      exact hk _ _ _ _ h
    · cases h
  | getfield x =>
    simp only [sm_ex] at h
    split at h
    · replace h := sm_r1_some h
      obtain ⟨o, r0, rfl, h⟩ := h
      replace h := sm_obj_some h
      obtain ⟨cj, fs, hg, h⟩ := h
      split at h
      · split at h
        · exact hk _ _ _ _ h
        · cases h
      · cases h
    · cases h
  | putfield x =>
    simp only [sm_ex] at h
    split at h
    · split at h
      · replace h := sm_obj_some h
        obtain ⟨cj, fs, hg, h⟩ := h
        split at h
        · exact hk3 _ _ _ _ _ _ hg (by simp [sm_sz, sm_vs_set]) h
        · cases h
      · cases h
    · cases h
  | iaload =>
    simp only [sm_ex] at h
    split at h
    · split at h
      · split at h
        · replace h := sm_ix_some h
          obtain ⟨hi, h⟩ := h
          exact hk _ _ _ _ h
        · cases h
      · replace h := sm_ia_some h
        obtain ⟨n, g, hg, h⟩ := h
        replace h := sm_ix_some h
        obtain ⟨hi, h⟩ := h
        exact hk _ _ _ _ h
    · cases h
  | laload =>
    simp only [sm_ex] at h
    split at h
    · replace h := sm_la_some h
      obtain ⟨n, g, hg, h⟩ := h
      replace h := sm_ix_some h
      obtain ⟨hi, h⟩ := h
      exact hk _ _ _ _ h
    · cases h
  | iastore =>
    simp only [sm_ex] at h
    split at h
    · replace h := sm_ia_some h
      obtain ⟨n, g, hg, h⟩ := h
      replace h := sm_ix_some h
      obtain ⟨hi, h⟩ := h
      refine hk3 _ _ _ _ _ _ hg ?_ h
      rfl
    · cases h
  | lastore =>
    simp only [sm_ex] at h
    split at h
    · replace h := sm_la_some h
      obtain ⟨n, g, hg, h⟩ := h
      replace h := sm_ix_some h
      obtain ⟨hi, h⟩ := h
      refine hk3 _ _ _ _ _ _ hg ?_ h
      rfl
    · cases h
  | arraylength =>
    replace h := sm_r1_some h
    obtain ⟨a, r0, rfl, h⟩ := h
    split at h
    · split at h
      · exact hk _ _ _ _ h
      · cases h
    · replace h := sm_len_some h
      obtain ⟨n, hg, h⟩ := h
      exact hk _ _ _ _ h
  | newarray t =>
    replace h := sm_i1_some h
    obtain ⟨x, r0, rfl, h⟩ := h
    split at h
    · cases h
    · split at h
      · split at h
        · exact hk4 _ _ _ _ h
        · exact hk4 _ _ _ _ h
        · cases h
      · cases h
  | new x =>
    simp only [sm_ex] at h
    split at h
    · split at h
      · exact hk4 _ _ _ _ h
      · cases h
    · cases h
  | invokestatic x =>
    simp only [sm_ex] at h
    split at h
    · split at h
      · split at h
        · exact hk5 _ _ _ _ _ h
        · cases h
      · cases h
    · replace h := sm_i2_some h
      obtain ⟨x, y, r0, rfl, h⟩ := h
      split at h
      · exact hk _ _ _ _ h
      · cases h
    · replace h := sm_i2_some h
      obtain ⟨x, y, r0, rfl, h⟩ := h
      split at h
      · exact hk _ _ _ _ h
      · cases h
    · replace h := sm_i1_some h
      obtain ⟨x, r0, rfl, h⟩ := h
      split at h
      · exact hk _ _ _ _ h
      · cases h
    · cases h
  | invokevirtual x =>
    simp only [sm_ex] at h
    split at h
    · split at h
      · split at h
        · replace h := sm_obj_some h
          obtain ⟨cj, fs, hg, h⟩ := h
          split at h
          · exact hk5 _ _ _ _ _ h
          · cases h
        · cases h
      · cases h
    · split at h
      · split at h
        · exact hk5 _ _ _ _ _ h
        · cases h
      · cases h
    · cases h
  | invokespecial x =>
    simp only [sm_ex] at h
    split at h
    · split at h
      · split at h
        · exact hk5 _ _ _ _ _ h
        · cases h
      · cases h
    · replace h := sm_r1_some h
      obtain ⟨a, r0, rfl, h⟩ := h
      split at h
      · exact hk _ _ _ _ h
      · cases h
    · cases h
  | ireturn =>
    replace h := sm_i1_some h
    obtain ⟨x, r0, rfl, h⟩ := h
    split at h
    · replace h := sm_ret_some h
      obtain ⟨-, h⟩ := h
      cases h
      exact ⟨Nat.le_refl _, Nat.le_refl _⟩
    · cases h
  | lreturn =>
    replace h := sm_l1_some h
    obtain ⟨x, r0, rfl, h⟩ := h
    split at h
    · replace h := sm_ret_some h
      obtain ⟨-, h⟩ := h
      cases h
      exact ⟨Nat.le_refl _, Nat.le_refl _⟩
    · cases h
  | return_ =>
    simp only [sm_ex] at h
    split at h
    · replace h := sm_ret_some h
      obtain ⟨-, h⟩ := h
      cases h
      exact ⟨Nat.le_refl _, Nat.le_refl _⟩
    · cases h
  | _ => exact absurd (show (none : sm_R) = some (M', r) from h) (by simp)
theorem sm_run_mono {cal : Nat → List Value → sm_M → sm_R} {sc : Option (Nat × (Nat → Int32))} {mi : sm_MI} {M' : sm_M} {r : Option Value} (hc : ∀ y as M M1 v, cal y as M = some (M1, v) → M.length ≤ M1.length ∧ sm_sl M ≤ sm_sl M1) : ∀ (n pc : Nat) (L : sm_L) (st : List Value) (M : sm_M), sm_run cal sc mi n pc L st M = some (M', r) → M.length ≤ M'.length ∧ sm_sl M ≤ sm_sl M' := by
  intro n
  induction n with
  | zero => intro pc L st M h; cases h
  | succ n ih =>
    intro pc L st M h
    simp only [sm_run] at h
    split at h
    · cases h
    · exact sm_ex_mono hc ih h
end
section
/-! THE SIMULATOR IS SOUND, instruction by instruction -/
abbrev sm_tys (τ : Nat → ClassId) : List (ClassId × FieldType) := [(τ 0, .int), (τ 1, .long)]
abbrev sm_SKt : Type := List (String × Nat × String × Nat)
/-- what holds of the place where a method runs -/
def sm_C (p : Program) (s : State) (m : MethodId) (args : Array Value) (meth : Method) (c : Code) (D : va_G) (cl : List vw_C) (τ : Nat → ClassId) (B : Nat) (ad : Nat → Nat) (TB NB : List Cond) (SK : sm_SKt) (XT : State → Heap → Prop) (m0 : Nat) (mi : sm_MI) : Prop :=
  p.tables.exec = Jvm.exec ∧ c.code = mi.2.1 ∧ c.maxLocals = mi.2.2.1 ∧ s.vm.findClass mi.1.cls = some m.cls ∧ (∀ w ∈ TB, w.before args s = true) ∧ (∀ w ∈ NB, va_Nw w s) ∧ va_K D cl (sm_tys τ) s ∧ (∀ q ∈ SK, vk_R q.1 q.2.1 q.2.2.1 (sm_rho B ad q.2.2.2) s) ∧ XT s s.heap ∧ s.heap.size = B + m0 ∧ (mi.1.name = "<init>" → meth.name = "<init>")
/-- the machine goes on well from here -/
def sm_G (p : Program) (l : Launch) (e : Env) (R : Room) (s : State) (m : MethodId) (args : Array Value) (below : List Frame) (meth : Method) (c : Code) (Q : State → Prop) (D : va_G) (cl : List vw_C) (τ : Nat → ClassId) (B : Nat) (ad : Nat → Nat) (nL m0 s0 : Nat) (pc : Nat) (L : sm_L) (st : List Value) (M : sm_M) : Prop :=
  ∀ (H : Heap) (locs : List Loc) (ls : Array Slot) (cells slots : Nat), va_P D cl (sm_w τ B ad 0 M) H → M.length ≤ 1000 → va_S (fun q => B ≤ q) s.heap H locs → L.length ≤ nL → lv_has ls nL (sm_al B ad 0 L) → cells + m0 = M.length → slots + s0 = sm_sl M → W p l e R s m args below meth c H locs cells slots Q (F0 m pc ls (st.map (sm_cv B ad)))
/-- an instruction's length; 0: a switch -/
def sm_ln : Instr → Nat
  | .bipush _ | .ldc _ | .iload _ | .lload _ | .aload _ | .istore _ | .lstore _ | .astore _ | .newarray _ => 2
  | .sipush _ | .ldc_w _ | .ldc2_w _ | .iinc _ _ | .goto _ | .ifCond _ _ | .if_icmp _ _ | .getfield _ | .putfield _ | .new _ | .invokestatic _ | .invokevirtual _ | .invokespecial _ => 3
  | .tableswitch _ _ _ _ | .lookupswitch _ _ => 0
  | _ => 1
theorem sm_dl {cc : ByteArray} {pc len : Nat} {i : Instr} (hd : decode cc pc = .ok (i, len)) (hl : len = sm_ln i ∨ sm_ln i = 0) (n : Nat) (hn : sm_ln i = n) (h0 : n ≠ 0) : decode cc pc = .ok (i, n) := by
  rcases hl with h | h
  · rw [hd, h, hn]
  · exact absurd (hn.symm.trans h) h0
theorem sm_w_at {τ : Nat → ClassId} {B : Nat} {ad : Nat → Nat} {M : sm_M} {o : Nat} {e : va_E} (h : sm_get M o = some e) : (sm_w τ B ad 0 M)[o]? = some (sm_rho B ad o, sm_ce τ B ad e) := by
  rw [sm_w_get, h, Nat.zero_add]
  rfl
theorem sm_w_put {τ : Nat → ClassId} {B : Nat} {ad : Nat → Nat} (M : sm_M) (o : Nat) (e : va_E) : (sm_w τ B ad 0 M).set o (sm_rho B ad o, sm_ce τ B ad e) = sm_w τ B ad 0 (sm_set M o e) := by
  have h := sm_w_set τ B ad M 0 o e
  rw [Nat.zero_add] at h
  exact h
/-- an answer's instruction -/
def sm_rk (rt : Option FieldType) (i : Instr) (r : Option Value) : Prop := (i = .ireturn ∧ ∃ x, r = some (.int x) ∧ sm_zr rt x = true) ∨ (i = .lreturn ∧ ∃ x, r = some (.long x) ∧ rt = some .long) ∨ (i = .return_ ∧ r = none ∧ rt = none)
def sm_kd (t : Nat) (ty : FieldType) : Prop := (t = 0 → ty = .int) ∧ (t = 1 → ty = .boolean) ∧ (t = 2 → ty = .long) ∧ (t = 3 → (∃ n, ty = .object n) ∨ ∃ u, ty = .array u)
theorem sm_pt_ok {t : Nat} {ty : FieldType} {v : Value} {B : Nat} {ad : Nat → Nat} (hk : sm_kd t ty) (h : sm_pt t v = true) : narrow ty (sm_cv B ad v) = sm_cv B ad v ∧ fits ty (sm_cv B ad v) = true := by
  obtain ⟨h0, h1, h2, h3⟩ := hk
  unfold sm_pt at h
  split at h
  · rw [h0 rfl]; exact ⟨rfl, rfl⟩
  · rename_i x
    rw [h1 rfl]
    simp only [Bool.or_eq_true, beq_iff_eq] at h
    rcases h with rfl | rfl
    · exact ⟨show narrow .boolean (.int 0) = .int 0 by decide, show fits .boolean (.int 0) = true by decide⟩
    · exact ⟨show narrow .boolean (.int 1) = .int 1 by decide, show fits .boolean (.int 1) = true by decide⟩
  · rw [h2 rfl]; exact ⟨rfl, rfl⟩
  · rcases h3 rfl with ⟨n, rfl⟩ | ⟨u, rfl⟩ <;> exact ⟨rfl, rfl⟩
  · cases h
/-- a method's links to fields are as the tables say -/
def sm_okF (cl : List vw_C) (TB NB : List Cond) (mi : sm_MI) : Prop := ∀ x ci j t, sm_fd mi.2.2.2.2.2.2.1 x = some (ci, j, t) → ∃ (C : String) (T : u_T) (N : Nat) (ty0 : Nat → FieldType), cl[ci]? = some (C, T, N) ∧ j < N ∧ (∀ w ∈ u_ws C T N, w ∈ TB) ∧ (∀ k, k < N → parseFieldDescriptor (T k).2.2.1 = some (ty0 k)) ∧ (∀ a, a < N → ∀ b, b < N → a ≠ b → (T a).2.1 ≠ (T b).2.1) ∧ (T j).1 = C ∧ sm_kd t (ty0 j) ∧
  ((Cond.fieldLink mi.1.cls x C (T j).2.1 (T j).2.2.1 ∈ TB ∧ (3 < t ∨ (T j).2.2.2 = false ∨ ((T j).2.2.2 = true ∧ mi.1.name = "<init>" ∧ (T j).1 = mi.1.cls))) ∨ (∃ host, Cond.fieldLinkNest mi.1.cls x C (T j).2.1 (T j).2.2.1 host ∈ NB ∧ (3 < t ∨ (T j).2.2.2 = false)))
theorem sm_pt_lt {t : Nat} {v : Value} (h : sm_pt t v = true) : ¬ 3 < t := by
  unfold sm_pt at h
  split at h <;> first | omega | cases h
def sm_okK (TB : List Cond) (SK : sm_SKt) (mi : sm_MI) : Prop := ∀ x v, sm_fd mi.2.2.2.2.2.2.2.2.1 x = some v → (∀ w, v = .int w → Cond.constant mi.1.cls x w ∈ TB) ∧ (∀ w, v = .long w → Cond.constantLong mi.1.cls x w ∈ TB) ∧ (∀ w, v = .ref w → ∃ tx, (mi.1.cls, x, tx, w) ∈ SK)
def sm_okN (cl : List vw_C) (TB : List Cond) (mi : sm_MI) : Prop := ∀ x ci fs, sm_fd mi.2.2.2.2.2.2.2.2.2 x = some (ci, fs) → ∃ (C : String) (T : u_T) (N : Nat) (ty0 : Nat → FieldType), cl[ci]? = some (C, T, N) ∧ (∀ w ∈ u_ws C T N, w ∈ TB) ∧ (∀ k, k < N → parseFieldDescriptor (T k).2.2.1 = some (ty0 k)) ∧ Cond.classLink mi.1.cls x C ∈ TB ∧ Cond.instantiable C N ∈ TB ∧ Cond.initialized C ∈ TB ∧ fs.length = N ∧ (∀ B ad, fs.map (sm_cv B ad) = fs) ∧ (∀ j, j < N → defaultValue (ty0 j) = vp_V fs j)
set_option maxHeartbeats 1000000 in
theorem sg_iconst {p : Program} {l : Launch} {e : Env} {R : Room} {s : State} {m : MethodId} {args : Array Value} {below : List Frame} {meth : Method} {c : Code} {Q : State → Prop} {D : va_G} {cl : List vw_C} {τ : Nat → ClassId} {B : Nat} {ad : Nat → Nat} {TB NB : List Cond} {SK : sm_SKt} {XT : State → Heap → Prop} {mi : sm_MI} {M' : sm_M} {m0 s0 : Nat} {cal : Nat → List Value → sm_M → sm_R} {sc : Option (Nat × (Nat → Int32))} {k : Nat → sm_L → List Value → sm_M → sm_R} {r : Option Value} {pc : Nat} {L : sm_L} {st : List Value} {M : sm_M} {n : Int} (C0 : sm_C p s m args meth c D cl τ B ad TB NB SK XT m0 mi) (ih : ∀ pc L st M, k pc L st M = some (M', r) → sm_G p l e R s m args below meth c Q D cl τ B ad mi.2.2.1 m0 s0 pc L st M) (hd : decode mi.2.1 pc = .ok (.iconst n, 1)) (h : sm_ex cal sc mi k pc L st M (.iconst n) = some (M', r)) : sm_G p l e R s m args below meth c Q D cl τ B ad mi.2.2.1 m0 s0 pc L st M := by
  have hx := C0.1
  have hb := C0.2.1
  intro H locs ls cells slots hP hm hS hLl hL h1 h2
  refine lv_iconst hx hb hd rfl ?_
  exact ih _ _ _ _ h H locs ls cells slots hP hm hS hLl hL h1 h2
set_option maxHeartbeats 1000000 in
theorem sg_bipush {p : Program} {l : Launch} {e : Env} {R : Room} {s : State} {m : MethodId} {args : Array Value} {below : List Frame} {meth : Method} {c : Code} {Q : State → Prop} {D : va_G} {cl : List vw_C} {τ : Nat → ClassId} {B : Nat} {ad : Nat → Nat} {TB NB : List Cond} {SK : sm_SKt} {XT : State → Heap → Prop} {mi : sm_MI} {M' : sm_M} {m0 s0 : Nat} {cal : Nat → List Value → sm_M → sm_R} {sc : Option (Nat × (Nat → Int32))} {k : Nat → sm_L → List Value → sm_M → sm_R} {r : Option Value} {pc : Nat} {L : sm_L} {st : List Value} {M : sm_M} {n : Int} (C0 : sm_C p s m args meth c D cl τ B ad TB NB SK XT m0 mi) (ih : ∀ pc L st M, k pc L st M = some (M', r) → sm_G p l e R s m args below meth c Q D cl τ B ad mi.2.2.1 m0 s0 pc L st M) (hd : decode mi.2.1 pc = .ok (.bipush n, 2)) (h : sm_ex cal sc mi k pc L st M (.bipush n) = some (M', r)) : sm_G p l e R s m args below meth c Q D cl τ B ad mi.2.2.1 m0 s0 pc L st M := by
  have hx := C0.1
  have hb := C0.2.1
  intro H locs ls cells slots hP hm hS hLl hL h1 h2
  refine lv_bipush hx hb hd rfl ?_
  exact ih _ _ _ _ h H locs ls cells slots hP hm hS hLl hL h1 h2
set_option maxHeartbeats 1000000 in
theorem sg_sipush {p : Program} {l : Launch} {e : Env} {R : Room} {s : State} {m : MethodId} {args : Array Value} {below : List Frame} {meth : Method} {c : Code} {Q : State → Prop} {D : va_G} {cl : List vw_C} {τ : Nat → ClassId} {B : Nat} {ad : Nat → Nat} {TB NB : List Cond} {SK : sm_SKt} {XT : State → Heap → Prop} {mi : sm_MI} {M' : sm_M} {m0 s0 : Nat} {cal : Nat → List Value → sm_M → sm_R} {sc : Option (Nat × (Nat → Int32))} {k : Nat → sm_L → List Value → sm_M → sm_R} {r : Option Value} {pc : Nat} {L : sm_L} {st : List Value} {M : sm_M} {n : Int} (C0 : sm_C p s m args meth c D cl τ B ad TB NB SK XT m0 mi) (ih : ∀ pc L st M, k pc L st M = some (M', r) → sm_G p l e R s m args below meth c Q D cl τ B ad mi.2.2.1 m0 s0 pc L st M) (hd : decode mi.2.1 pc = .ok (.sipush n, 3)) (h : sm_ex cal sc mi k pc L st M (.sipush n) = some (M', r)) : sm_G p l e R s m args below meth c Q D cl τ B ad mi.2.2.1 m0 s0 pc L st M := by
  have hx := C0.1
  have hb := C0.2.1
  intro H locs ls cells slots hP hm hS hLl hL h1 h2
  refine lv_sipush hx hb hd rfl ?_
  exact ih _ _ _ _ h H locs ls cells slots hP hm hS hLl hL h1 h2
set_option maxHeartbeats 1000000 in
theorem sg_lconst {p : Program} {l : Launch} {e : Env} {R : Room} {s : State} {m : MethodId} {args : Array Value} {below : List Frame} {meth : Method} {c : Code} {Q : State → Prop} {D : va_G} {cl : List vw_C} {τ : Nat → ClassId} {B : Nat} {ad : Nat → Nat} {TB NB : List Cond} {SK : sm_SKt} {XT : State → Heap → Prop} {mi : sm_MI} {M' : sm_M} {m0 s0 : Nat} {cal : Nat → List Value → sm_M → sm_R} {sc : Option (Nat × (Nat → Int32))} {k : Nat → sm_L → List Value → sm_M → sm_R} {r : Option Value} {pc : Nat} {L : sm_L} {st : List Value} {M : sm_M} {n : Fin 2} (C0 : sm_C p s m args meth c D cl τ B ad TB NB SK XT m0 mi) (ih : ∀ pc L st M, k pc L st M = some (M', r) → sm_G p l e R s m args below meth c Q D cl τ B ad mi.2.2.1 m0 s0 pc L st M) (hd : decode mi.2.1 pc = .ok (.lconst n, 1)) (h : sm_ex cal sc mi k pc L st M (.lconst n) = some (M', r)) : sm_G p l e R s m args below meth c Q D cl τ B ad mi.2.2.1 m0 s0 pc L st M := by
  have hx := C0.1
  have hb := C0.2.1
  intro H locs ls cells slots hP hm hS hLl hL h1 h2
  refine lv_lconst hx hb hd rfl ?_
  exact ih _ _ _ _ h H locs ls cells slots hP hm hS hLl hL h1 h2
set_option maxHeartbeats 1000000 in
theorem sg_iload_n {p : Program} {l : Launch} {e : Env} {R : Room} {s : State} {m : MethodId} {args : Array Value} {below : List Frame} {meth : Method} {c : Code} {Q : State → Prop} {D : va_G} {cl : List vw_C} {τ : Nat → ClassId} {B : Nat} {ad : Nat → Nat} {TB NB : List Cond} {SK : sm_SKt} {XT : State → Heap → Prop} {mi : sm_MI} {M' : sm_M} {m0 s0 : Nat} {cal : Nat → List Value → sm_M → sm_R} {sc : Option (Nat × (Nat → Int32))} {k : Nat → sm_L → List Value → sm_M → sm_R} {r : Option Value} {pc : Nat} {L : sm_L} {st : List Value} {M : sm_M} {j : Fin 4} (C0 : sm_C p s m args meth c D cl τ B ad TB NB SK XT m0 mi) (ih : ∀ pc L st M, k pc L st M = some (M', r) → sm_G p l e R s m args below meth c Q D cl τ B ad mi.2.2.1 m0 s0 pc L st M) (hd : decode mi.2.1 pc = .ok (.iload_n j, 1)) (h : sm_ex cal sc mi k pc L st M (.iload_n j) = some (M', r)) : sm_G p l e R s m args below meth c Q D cl τ B ad mi.2.2.1 m0 s0 pc L st M := by
  have hx := C0.1
  have hb := C0.2.1
  replace h := sm_li1_some h
  obtain ⟨x, hv, h⟩ := h
  intro H locs ls cells slots hP hm hS hLl hL h1 h2
  refine lv_iload_n hx hb hd rfl (sm_has_at hL hv) ?_
  exact ih _ _ _ _ h H locs ls cells slots hP hm hS hLl hL h1 h2
set_option maxHeartbeats 1000000 in
theorem sg_iload {p : Program} {l : Launch} {e : Env} {R : Room} {s : State} {m : MethodId} {args : Array Value} {below : List Frame} {meth : Method} {c : Code} {Q : State → Prop} {D : va_G} {cl : List vw_C} {τ : Nat → ClassId} {B : Nat} {ad : Nat → Nat} {TB NB : List Cond} {SK : sm_SKt} {XT : State → Heap → Prop} {mi : sm_MI} {M' : sm_M} {m0 s0 : Nat} {cal : Nat → List Value → sm_M → sm_R} {sc : Option (Nat × (Nat → Int32))} {k : Nat → sm_L → List Value → sm_M → sm_R} {r : Option Value} {pc : Nat} {L : sm_L} {st : List Value} {M : sm_M} {j : Nat} (C0 : sm_C p s m args meth c D cl τ B ad TB NB SK XT m0 mi) (ih : ∀ pc L st M, k pc L st M = some (M', r) → sm_G p l e R s m args below meth c Q D cl τ B ad mi.2.2.1 m0 s0 pc L st M) (hd : decode mi.2.1 pc = .ok (.iload j, 2)) (h : sm_ex cal sc mi k pc L st M (.iload j) = some (M', r)) : sm_G p l e R s m args below meth c Q D cl τ B ad mi.2.2.1 m0 s0 pc L st M := by
  have hx := C0.1
  have hb := C0.2.1
  replace h := sm_li1_some h
  obtain ⟨x, hv, h⟩ := h
  intro H locs ls cells slots hP hm hS hLl hL h1 h2
  refine lv_iload hx hb hd (sm_has_at hL hv) ?_
  exact ih _ _ _ _ h H locs ls cells slots hP hm hS hLl hL h1 h2
set_option maxHeartbeats 1000000 in
theorem sg_lload_n {p : Program} {l : Launch} {e : Env} {R : Room} {s : State} {m : MethodId} {args : Array Value} {below : List Frame} {meth : Method} {c : Code} {Q : State → Prop} {D : va_G} {cl : List vw_C} {τ : Nat → ClassId} {B : Nat} {ad : Nat → Nat} {TB NB : List Cond} {SK : sm_SKt} {XT : State → Heap → Prop} {mi : sm_MI} {M' : sm_M} {m0 s0 : Nat} {cal : Nat → List Value → sm_M → sm_R} {sc : Option (Nat × (Nat → Int32))} {k : Nat → sm_L → List Value → sm_M → sm_R} {r : Option Value} {pc : Nat} {L : sm_L} {st : List Value} {M : sm_M} {j : Fin 4} (C0 : sm_C p s m args meth c D cl τ B ad TB NB SK XT m0 mi) (ih : ∀ pc L st M, k pc L st M = some (M', r) → sm_G p l e R s m args below meth c Q D cl τ B ad mi.2.2.1 m0 s0 pc L st M) (hd : decode mi.2.1 pc = .ok (.lload_n j, 1)) (h : sm_ex cal sc mi k pc L st M (.lload_n j) = some (M', r)) : sm_G p l e R s m args below meth c Q D cl τ B ad mi.2.2.1 m0 s0 pc L st M := by
  have hx := C0.1
  have hb := C0.2.1
  replace h := sm_ll1_some h
  obtain ⟨x, hv, h⟩ := h
  intro H locs ls cells slots hP hm hS hLl hL h1 h2
  refine lv_lload_n hx hb hd rfl (sm_has_at hL hv) ?_
  exact ih _ _ _ _ h H locs ls cells slots hP hm hS hLl hL h1 h2
set_option maxHeartbeats 1000000 in
theorem sg_lload {p : Program} {l : Launch} {e : Env} {R : Room} {s : State} {m : MethodId} {args : Array Value} {below : List Frame} {meth : Method} {c : Code} {Q : State → Prop} {D : va_G} {cl : List vw_C} {τ : Nat → ClassId} {B : Nat} {ad : Nat → Nat} {TB NB : List Cond} {SK : sm_SKt} {XT : State → Heap → Prop} {mi : sm_MI} {M' : sm_M} {m0 s0 : Nat} {cal : Nat → List Value → sm_M → sm_R} {sc : Option (Nat × (Nat → Int32))} {k : Nat → sm_L → List Value → sm_M → sm_R} {r : Option Value} {pc : Nat} {L : sm_L} {st : List Value} {M : sm_M} {j : Nat} (C0 : sm_C p s m args meth c D cl τ B ad TB NB SK XT m0 mi) (ih : ∀ pc L st M, k pc L st M = some (M', r) → sm_G p l e R s m args below meth c Q D cl τ B ad mi.2.2.1 m0 s0 pc L st M) (hd : decode mi.2.1 pc = .ok (.lload j, 2)) (h : sm_ex cal sc mi k pc L st M (.lload j) = some (M', r)) : sm_G p l e R s m args below meth c Q D cl τ B ad mi.2.2.1 m0 s0 pc L st M := by
  have hx := C0.1
  have hb := C0.2.1
  replace h := sm_ll1_some h
  obtain ⟨x, hv, h⟩ := h
  intro H locs ls cells slots hP hm hS hLl hL h1 h2
  refine lv_lload hx hb hd (sm_has_at hL hv) ?_
  exact ih _ _ _ _ h H locs ls cells slots hP hm hS hLl hL h1 h2
set_option maxHeartbeats 1000000 in
theorem sg_aload_n {p : Program} {l : Launch} {e : Env} {R : Room} {s : State} {m : MethodId} {args : Array Value} {below : List Frame} {meth : Method} {c : Code} {Q : State → Prop} {D : va_G} {cl : List vw_C} {τ : Nat → ClassId} {B : Nat} {ad : Nat → Nat} {TB NB : List Cond} {SK : sm_SKt} {XT : State → Heap → Prop} {mi : sm_MI} {M' : sm_M} {m0 s0 : Nat} {cal : Nat → List Value → sm_M → sm_R} {sc : Option (Nat × (Nat → Int32))} {k : Nat → sm_L → List Value → sm_M → sm_R} {r : Option Value} {pc : Nat} {L : sm_L} {st : List Value} {M : sm_M} {j : Fin 4} (C0 : sm_C p s m args meth c D cl τ B ad TB NB SK XT m0 mi) (ih : ∀ pc L st M, k pc L st M = some (M', r) → sm_G p l e R s m args below meth c Q D cl τ B ad mi.2.2.1 m0 s0 pc L st M) (hd : decode mi.2.1 pc = .ok (.aload_n j, 1)) (h : sm_ex cal sc mi k pc L st M (.aload_n j) = some (M', r)) : sm_G p l e R s m args below meth c Q D cl τ B ad mi.2.2.1 m0 s0 pc L st M := by
  have hx := C0.1
  have hb := C0.2.1
  replace h := sm_lr1_some h
  obtain ⟨x, hv, h⟩ := h
  intro H locs ls cells slots hP hm hS hLl hL h1 h2
  refine lv_aload_n hx hb hd rfl (sm_has_at hL hv) ?_
  exact ih _ _ _ _ h H locs ls cells slots hP hm hS hLl hL h1 h2
set_option maxHeartbeats 1000000 in
theorem sg_aload {p : Program} {l : Launch} {e : Env} {R : Room} {s : State} {m : MethodId} {args : Array Value} {below : List Frame} {meth : Method} {c : Code} {Q : State → Prop} {D : va_G} {cl : List vw_C} {τ : Nat → ClassId} {B : Nat} {ad : Nat → Nat} {TB NB : List Cond} {SK : sm_SKt} {XT : State → Heap → Prop} {mi : sm_MI} {M' : sm_M} {m0 s0 : Nat} {cal : Nat → List Value → sm_M → sm_R} {sc : Option (Nat × (Nat → Int32))} {k : Nat → sm_L → List Value → sm_M → sm_R} {r : Option Value} {pc : Nat} {L : sm_L} {st : List Value} {M : sm_M} {j : Nat} (C0 : sm_C p s m args meth c D cl τ B ad TB NB SK XT m0 mi) (ih : ∀ pc L st M, k pc L st M = some (M', r) → sm_G p l e R s m args below meth c Q D cl τ B ad mi.2.2.1 m0 s0 pc L st M) (hd : decode mi.2.1 pc = .ok (.aload j, 2)) (h : sm_ex cal sc mi k pc L st M (.aload j) = some (M', r)) : sm_G p l e R s m args below meth c Q D cl τ B ad mi.2.2.1 m0 s0 pc L st M := by
  have hx := C0.1
  have hb := C0.2.1
  replace h := sm_lr1_some h
  obtain ⟨x, hv, h⟩ := h
  intro H locs ls cells slots hP hm hS hLl hL h1 h2
  refine lv_aload hx hb hd (sm_has_at hL hv) ?_
  exact ih _ _ _ _ h H locs ls cells slots hP hm hS hLl hL h1 h2
set_option maxHeartbeats 1000000 in
theorem sg_istore_n {p : Program} {l : Launch} {e : Env} {R : Room} {s : State} {m : MethodId} {args : Array Value} {below : List Frame} {meth : Method} {c : Code} {Q : State → Prop} {D : va_G} {cl : List vw_C} {τ : Nat → ClassId} {B : Nat} {ad : Nat → Nat} {TB NB : List Cond} {SK : sm_SKt} {XT : State → Heap → Prop} {mi : sm_MI} {M' : sm_M} {m0 s0 : Nat} {cal : Nat → List Value → sm_M → sm_R} {sc : Option (Nat × (Nat → Int32))} {k : Nat → sm_L → List Value → sm_M → sm_R} {r : Option Value} {pc : Nat} {L : sm_L} {st : List Value} {M : sm_M} {j : Fin 4} (C0 : sm_C p s m args meth c D cl τ B ad TB NB SK XT m0 mi) (ih : ∀ pc L st M, k pc L st M = some (M', r) → sm_G p l e R s m args below meth c Q D cl τ B ad mi.2.2.1 m0 s0 pc L st M) (hd : decode mi.2.1 pc = .ok (.istore_n j, 1)) (h : sm_ex cal sc mi k pc L st M (.istore_n j) = some (M', r)) : sm_G p l e R s m args below meth c Q D cl τ B ad mi.2.2.1 m0 s0 pc L st M := by
  have hx := C0.1
  have hb := C0.2.1
  replace h := sm_i1_some h
  obtain ⟨x, t, rfl, h⟩ := h
  replace h := sm_st1_some h
  obtain ⟨hj, h⟩ := h
  intro H locs ls cells slots hP hm hS hLl hL h1 h2
  refine lv_istore_n hx hb hd rfl hL (by omega) rfl (fun ls' hL' => ?_)
  exact ih _ _ _ _ h H locs ls' cells slots hP hm hS (by rw [sm_s1_len]; exact hLl) (sm_has_s1 (v := .int x) hL') h1 h2
set_option maxHeartbeats 1000000 in
theorem sg_istore {p : Program} {l : Launch} {e : Env} {R : Room} {s : State} {m : MethodId} {args : Array Value} {below : List Frame} {meth : Method} {c : Code} {Q : State → Prop} {D : va_G} {cl : List vw_C} {τ : Nat → ClassId} {B : Nat} {ad : Nat → Nat} {TB NB : List Cond} {SK : sm_SKt} {XT : State → Heap → Prop} {mi : sm_MI} {M' : sm_M} {m0 s0 : Nat} {cal : Nat → List Value → sm_M → sm_R} {sc : Option (Nat × (Nat → Int32))} {k : Nat → sm_L → List Value → sm_M → sm_R} {r : Option Value} {pc : Nat} {L : sm_L} {st : List Value} {M : sm_M} {j : Nat} (C0 : sm_C p s m args meth c D cl τ B ad TB NB SK XT m0 mi) (ih : ∀ pc L st M, k pc L st M = some (M', r) → sm_G p l e R s m args below meth c Q D cl τ B ad mi.2.2.1 m0 s0 pc L st M) (hd : decode mi.2.1 pc = .ok (.istore j, 2)) (h : sm_ex cal sc mi k pc L st M (.istore j) = some (M', r)) : sm_G p l e R s m args below meth c Q D cl τ B ad mi.2.2.1 m0 s0 pc L st M := by
  have hx := C0.1
  have hb := C0.2.1
  replace h := sm_i1_some h
  obtain ⟨x, t, rfl, h⟩ := h
  replace h := sm_st1_some h
  obtain ⟨hj, h⟩ := h
  intro H locs ls cells slots hP hm hS hLl hL h1 h2
  refine lv_istore hx hb hd hL (by omega) rfl (fun ls' hL' => ?_)
  exact ih _ _ _ _ h H locs ls' cells slots hP hm hS (by rw [sm_s1_len]; exact hLl) (sm_has_s1 (v := .int x) hL') h1 h2
set_option maxHeartbeats 1000000 in
theorem sg_astore_n {p : Program} {l : Launch} {e : Env} {R : Room} {s : State} {m : MethodId} {args : Array Value} {below : List Frame} {meth : Method} {c : Code} {Q : State → Prop} {D : va_G} {cl : List vw_C} {τ : Nat → ClassId} {B : Nat} {ad : Nat → Nat} {TB NB : List Cond} {SK : sm_SKt} {XT : State → Heap → Prop} {mi : sm_MI} {M' : sm_M} {m0 s0 : Nat} {cal : Nat → List Value → sm_M → sm_R} {sc : Option (Nat × (Nat → Int32))} {k : Nat → sm_L → List Value → sm_M → sm_R} {r : Option Value} {pc : Nat} {L : sm_L} {st : List Value} {M : sm_M} {j : Fin 4} (C0 : sm_C p s m args meth c D cl τ B ad TB NB SK XT m0 mi) (ih : ∀ pc L st M, k pc L st M = some (M', r) → sm_G p l e R s m args below meth c Q D cl τ B ad mi.2.2.1 m0 s0 pc L st M) (hd : decode mi.2.1 pc = .ok (.astore_n j, 1)) (h : sm_ex cal sc mi k pc L st M (.astore_n j) = some (M', r)) : sm_G p l e R s m args below meth c Q D cl τ B ad mi.2.2.1 m0 s0 pc L st M := by
  have hx := C0.1
  have hb := C0.2.1
  replace h := sm_r1_some h
  obtain ⟨x, t, rfl, h⟩ := h
  replace h := sm_st1_some h
  obtain ⟨hj, h⟩ := h
  intro H locs ls cells slots hP hm hS hLl hL h1 h2
  refine lv_astore_n hx hb hd rfl hL (by omega) rfl (fun ls' hL' => ?_)
  exact ih _ _ _ _ h H locs ls' cells slots hP hm hS (by rw [sm_s1_len]; exact hLl) (sm_has_s1 (v := .ref x) hL') h1 h2
set_option maxHeartbeats 1000000 in
theorem sg_astore {p : Program} {l : Launch} {e : Env} {R : Room} {s : State} {m : MethodId} {args : Array Value} {below : List Frame} {meth : Method} {c : Code} {Q : State → Prop} {D : va_G} {cl : List vw_C} {τ : Nat → ClassId} {B : Nat} {ad : Nat → Nat} {TB NB : List Cond} {SK : sm_SKt} {XT : State → Heap → Prop} {mi : sm_MI} {M' : sm_M} {m0 s0 : Nat} {cal : Nat → List Value → sm_M → sm_R} {sc : Option (Nat × (Nat → Int32))} {k : Nat → sm_L → List Value → sm_M → sm_R} {r : Option Value} {pc : Nat} {L : sm_L} {st : List Value} {M : sm_M} {j : Nat} (C0 : sm_C p s m args meth c D cl τ B ad TB NB SK XT m0 mi) (ih : ∀ pc L st M, k pc L st M = some (M', r) → sm_G p l e R s m args below meth c Q D cl τ B ad mi.2.2.1 m0 s0 pc L st M) (hd : decode mi.2.1 pc = .ok (.astore j, 2)) (h : sm_ex cal sc mi k pc L st M (.astore j) = some (M', r)) : sm_G p l e R s m args below meth c Q D cl τ B ad mi.2.2.1 m0 s0 pc L st M := by
  have hx := C0.1
  have hb := C0.2.1
  replace h := sm_r1_some h
  obtain ⟨x, t, rfl, h⟩ := h
  replace h := sm_st1_some h
  obtain ⟨hj, h⟩ := h
  intro H locs ls cells slots hP hm hS hLl hL h1 h2
  refine lv_astore hx hb hd hL (by omega) rfl (fun ls' hL' => ?_)
  exact ih _ _ _ _ h H locs ls' cells slots hP hm hS (by rw [sm_s1_len]; exact hLl) (sm_has_s1 (v := .ref x) hL') h1 h2
set_option maxHeartbeats 1000000 in
theorem sg_lstore_n {p : Program} {l : Launch} {e : Env} {R : Room} {s : State} {m : MethodId} {args : Array Value} {below : List Frame} {meth : Method} {c : Code} {Q : State → Prop} {D : va_G} {cl : List vw_C} {τ : Nat → ClassId} {B : Nat} {ad : Nat → Nat} {TB NB : List Cond} {SK : sm_SKt} {XT : State → Heap → Prop} {mi : sm_MI} {M' : sm_M} {m0 s0 : Nat} {cal : Nat → List Value → sm_M → sm_R} {sc : Option (Nat × (Nat → Int32))} {k : Nat → sm_L → List Value → sm_M → sm_R} {r : Option Value} {pc : Nat} {L : sm_L} {st : List Value} {M : sm_M} {j : Fin 4} (C0 : sm_C p s m args meth c D cl τ B ad TB NB SK XT m0 mi) (ih : ∀ pc L st M, k pc L st M = some (M', r) → sm_G p l e R s m args below meth c Q D cl τ B ad mi.2.2.1 m0 s0 pc L st M) (hd : decode mi.2.1 pc = .ok (.lstore_n j, 1)) (h : sm_ex cal sc mi k pc L st M (.lstore_n j) = some (M', r)) : sm_G p l e R s m args below meth c Q D cl τ B ad mi.2.2.1 m0 s0 pc L st M := by
  have hx := C0.1
  have hb := C0.2.1
  replace h := sm_l1_some h
  obtain ⟨x, t, rfl, h⟩ := h
  replace h := sm_st2_some h
  obtain ⟨hj, h⟩ := h
  intro H locs ls cells slots hP hm hS hLl hL h1 h2
  refine lv_lstore_n hx hb hd rfl hL (by omega) rfl (fun ls' hL' => ?_)
  exact ih _ _ _ _ h H locs ls' cells slots hP hm hS (by rw [sm_s2_len]; exact hLl) (sm_has_s2 (v := .long x) hL') h1 h2
set_option maxHeartbeats 1000000 in
theorem sg_lstore {p : Program} {l : Launch} {e : Env} {R : Room} {s : State} {m : MethodId} {args : Array Value} {below : List Frame} {meth : Method} {c : Code} {Q : State → Prop} {D : va_G} {cl : List vw_C} {τ : Nat → ClassId} {B : Nat} {ad : Nat → Nat} {TB NB : List Cond} {SK : sm_SKt} {XT : State → Heap → Prop} {mi : sm_MI} {M' : sm_M} {m0 s0 : Nat} {cal : Nat → List Value → sm_M → sm_R} {sc : Option (Nat × (Nat → Int32))} {k : Nat → sm_L → List Value → sm_M → sm_R} {r : Option Value} {pc : Nat} {L : sm_L} {st : List Value} {M : sm_M} {j : Nat} (C0 : sm_C p s m args meth c D cl τ B ad TB NB SK XT m0 mi) (ih : ∀ pc L st M, k pc L st M = some (M', r) → sm_G p l e R s m args below meth c Q D cl τ B ad mi.2.2.1 m0 s0 pc L st M) (hd : decode mi.2.1 pc = .ok (.lstore j, 2)) (h : sm_ex cal sc mi k pc L st M (.lstore j) = some (M', r)) : sm_G p l e R s m args below meth c Q D cl τ B ad mi.2.2.1 m0 s0 pc L st M := by
  have hx := C0.1
  have hb := C0.2.1
  replace h := sm_l1_some h
  obtain ⟨x, t, rfl, h⟩ := h
  replace h := sm_st2_some h
  obtain ⟨hj, h⟩ := h
  intro H locs ls cells slots hP hm hS hLl hL h1 h2
  refine lv_lstore hx hb hd hL (by omega) rfl (fun ls' hL' => ?_)
  exact ih _ _ _ _ h H locs ls' cells slots hP hm hS (by rw [sm_s2_len]; exact hLl) (sm_has_s2 (v := .long x) hL') h1 h2
set_option maxHeartbeats 1000000 in
theorem sg_iinc {p : Program} {l : Launch} {e : Env} {R : Room} {s : State} {m : MethodId} {args : Array Value} {below : List Frame} {meth : Method} {c : Code} {Q : State → Prop} {D : va_G} {cl : List vw_C} {τ : Nat → ClassId} {B : Nat} {ad : Nat → Nat} {TB NB : List Cond} {SK : sm_SKt} {XT : State → Heap → Prop} {mi : sm_MI} {M' : sm_M} {m0 s0 : Nat} {cal : Nat → List Value → sm_M → sm_R} {sc : Option (Nat × (Nat → Int32))} {k : Nat → sm_L → List Value → sm_M → sm_R} {r : Option Value} {pc : Nat} {L : sm_L} {st : List Value} {M : sm_M} {j : Nat} {n : Int} (C0 : sm_C p s m args meth c D cl τ B ad TB NB SK XT m0 mi) (ih : ∀ pc L st M, k pc L st M = some (M', r) → sm_G p l e R s m args below meth c Q D cl τ B ad mi.2.2.1 m0 s0 pc L st M) (hd : decode mi.2.1 pc = .ok (.iinc j n, 3)) (h : sm_ex cal sc mi k pc L st M (.iinc j n) = some (M', r)) : sm_G p l e R s m args below meth c Q D cl τ B ad mi.2.2.1 m0 s0 pc L st M := by
  have hx := C0.1
  have hb := C0.2.1
  replace h := sm_li1_some h
  obtain ⟨x, hv, h⟩ := h
  replace h := sm_st1_some h
  obtain ⟨hj, h⟩ := h
  intro H locs ls cells slots hP hm hS hLl hL h1 h2
  have hmem := sm_al_in (B := B) (ad := ad) (j := 0) hv
  rw [Nat.zero_add] at hmem
  obtain ⟨kk, hkk⟩ := List.getElem?_of_mem hmem
  refine lv_iinc hx hb hd hL hkk rfl (by omega) rfl (fun ls' hL' => ?_)
  exact ih _ _ _ _ h H locs ls' cells slots hP hm hS (by rw [sm_s1_len]; exact hLl) (sm_has_s1 (v := .int (x + Int32.ofInt n)) hL') h1 h2
set_option maxHeartbeats 1000000 in
theorem sg_iadd {p : Program} {l : Launch} {e : Env} {R : Room} {s : State} {m : MethodId} {args : Array Value} {below : List Frame} {meth : Method} {c : Code} {Q : State → Prop} {D : va_G} {cl : List vw_C} {τ : Nat → ClassId} {B : Nat} {ad : Nat → Nat} {TB NB : List Cond} {SK : sm_SKt} {XT : State → Heap → Prop} {mi : sm_MI} {M' : sm_M} {m0 s0 : Nat} {cal : Nat → List Value → sm_M → sm_R} {sc : Option (Nat × (Nat → Int32))} {k : Nat → sm_L → List Value → sm_M → sm_R} {r : Option Value} {pc : Nat} {L : sm_L} {st : List Value} {M : sm_M}  (C0 : sm_C p s m args meth c D cl τ B ad TB NB SK XT m0 mi) (ih : ∀ pc L st M, k pc L st M = some (M', r) → sm_G p l e R s m args below meth c Q D cl τ B ad mi.2.2.1 m0 s0 pc L st M) (hd : decode mi.2.1 pc = .ok (.iadd, 1)) (h : sm_ex cal sc mi k pc L st M (.iadd) = some (M', r)) : sm_G p l e R s m args below meth c Q D cl τ B ad mi.2.2.1 m0 s0 pc L st M := by
  have hx := C0.1
  have hb := C0.2.1
  replace h := sm_i2_some h
  obtain ⟨x, y, t, rfl, h⟩ := h
  intro H locs ls cells slots hP hm hS hLl hL h1 h2
  refine lv_iadd hx hb hd ?_
  exact ih _ _ _ _ h H locs ls cells slots hP hm hS hLl hL h1 h2
set_option maxHeartbeats 1000000 in
theorem sg_isub {p : Program} {l : Launch} {e : Env} {R : Room} {s : State} {m : MethodId} {args : Array Value} {below : List Frame} {meth : Method} {c : Code} {Q : State → Prop} {D : va_G} {cl : List vw_C} {τ : Nat → ClassId} {B : Nat} {ad : Nat → Nat} {TB NB : List Cond} {SK : sm_SKt} {XT : State → Heap → Prop} {mi : sm_MI} {M' : sm_M} {m0 s0 : Nat} {cal : Nat → List Value → sm_M → sm_R} {sc : Option (Nat × (Nat → Int32))} {k : Nat → sm_L → List Value → sm_M → sm_R} {r : Option Value} {pc : Nat} {L : sm_L} {st : List Value} {M : sm_M}  (C0 : sm_C p s m args meth c D cl τ B ad TB NB SK XT m0 mi) (ih : ∀ pc L st M, k pc L st M = some (M', r) → sm_G p l e R s m args below meth c Q D cl τ B ad mi.2.2.1 m0 s0 pc L st M) (hd : decode mi.2.1 pc = .ok (.isub, 1)) (h : sm_ex cal sc mi k pc L st M (.isub) = some (M', r)) : sm_G p l e R s m args below meth c Q D cl τ B ad mi.2.2.1 m0 s0 pc L st M := by
  have hx := C0.1
  have hb := C0.2.1
  replace h := sm_i2_some h
  obtain ⟨x, y, t, rfl, h⟩ := h
  intro H locs ls cells slots hP hm hS hLl hL h1 h2
  refine lv_isub hx hb hd ?_
  exact ih _ _ _ _ h H locs ls cells slots hP hm hS hLl hL h1 h2
set_option maxHeartbeats 1000000 in
theorem sg_imul {p : Program} {l : Launch} {e : Env} {R : Room} {s : State} {m : MethodId} {args : Array Value} {below : List Frame} {meth : Method} {c : Code} {Q : State → Prop} {D : va_G} {cl : List vw_C} {τ : Nat → ClassId} {B : Nat} {ad : Nat → Nat} {TB NB : List Cond} {SK : sm_SKt} {XT : State → Heap → Prop} {mi : sm_MI} {M' : sm_M} {m0 s0 : Nat} {cal : Nat → List Value → sm_M → sm_R} {sc : Option (Nat × (Nat → Int32))} {k : Nat → sm_L → List Value → sm_M → sm_R} {r : Option Value} {pc : Nat} {L : sm_L} {st : List Value} {M : sm_M}  (C0 : sm_C p s m args meth c D cl τ B ad TB NB SK XT m0 mi) (ih : ∀ pc L st M, k pc L st M = some (M', r) → sm_G p l e R s m args below meth c Q D cl τ B ad mi.2.2.1 m0 s0 pc L st M) (hd : decode mi.2.1 pc = .ok (.imul, 1)) (h : sm_ex cal sc mi k pc L st M (.imul) = some (M', r)) : sm_G p l e R s m args below meth c Q D cl τ B ad mi.2.2.1 m0 s0 pc L st M := by
  have hx := C0.1
  have hb := C0.2.1
  replace h := sm_i2_some h
  obtain ⟨x, y, t, rfl, h⟩ := h
  intro H locs ls cells slots hP hm hS hLl hL h1 h2
  refine lv_imul hx hb hd ?_
  exact ih _ _ _ _ h H locs ls cells slots hP hm hS hLl hL h1 h2
set_option maxHeartbeats 1000000 in
theorem sg_iand {p : Program} {l : Launch} {e : Env} {R : Room} {s : State} {m : MethodId} {args : Array Value} {below : List Frame} {meth : Method} {c : Code} {Q : State → Prop} {D : va_G} {cl : List vw_C} {τ : Nat → ClassId} {B : Nat} {ad : Nat → Nat} {TB NB : List Cond} {SK : sm_SKt} {XT : State → Heap → Prop} {mi : sm_MI} {M' : sm_M} {m0 s0 : Nat} {cal : Nat → List Value → sm_M → sm_R} {sc : Option (Nat × (Nat → Int32))} {k : Nat → sm_L → List Value → sm_M → sm_R} {r : Option Value} {pc : Nat} {L : sm_L} {st : List Value} {M : sm_M}  (C0 : sm_C p s m args meth c D cl τ B ad TB NB SK XT m0 mi) (ih : ∀ pc L st M, k pc L st M = some (M', r) → sm_G p l e R s m args below meth c Q D cl τ B ad mi.2.2.1 m0 s0 pc L st M) (hd : decode mi.2.1 pc = .ok (.iand, 1)) (h : sm_ex cal sc mi k pc L st M (.iand) = some (M', r)) : sm_G p l e R s m args below meth c Q D cl τ B ad mi.2.2.1 m0 s0 pc L st M := by
  have hx := C0.1
  have hb := C0.2.1
  replace h := sm_i2_some h
  obtain ⟨x, y, t, rfl, h⟩ := h
  intro H locs ls cells slots hP hm hS hLl hL h1 h2
  refine lv_iand hx hb hd ?_
  exact ih _ _ _ _ h H locs ls cells slots hP hm hS hLl hL h1 h2
set_option maxHeartbeats 1000000 in
theorem sg_ior {p : Program} {l : Launch} {e : Env} {R : Room} {s : State} {m : MethodId} {args : Array Value} {below : List Frame} {meth : Method} {c : Code} {Q : State → Prop} {D : va_G} {cl : List vw_C} {τ : Nat → ClassId} {B : Nat} {ad : Nat → Nat} {TB NB : List Cond} {SK : sm_SKt} {XT : State → Heap → Prop} {mi : sm_MI} {M' : sm_M} {m0 s0 : Nat} {cal : Nat → List Value → sm_M → sm_R} {sc : Option (Nat × (Nat → Int32))} {k : Nat → sm_L → List Value → sm_M → sm_R} {r : Option Value} {pc : Nat} {L : sm_L} {st : List Value} {M : sm_M}  (C0 : sm_C p s m args meth c D cl τ B ad TB NB SK XT m0 mi) (ih : ∀ pc L st M, k pc L st M = some (M', r) → sm_G p l e R s m args below meth c Q D cl τ B ad mi.2.2.1 m0 s0 pc L st M) (hd : decode mi.2.1 pc = .ok (.ior, 1)) (h : sm_ex cal sc mi k pc L st M (.ior) = some (M', r)) : sm_G p l e R s m args below meth c Q D cl τ B ad mi.2.2.1 m0 s0 pc L st M := by
  have hx := C0.1
  have hb := C0.2.1
  replace h := sm_i2_some h
  obtain ⟨x, y, t, rfl, h⟩ := h
  intro H locs ls cells slots hP hm hS hLl hL h1 h2
  refine lv_ior hx hb hd ?_
  exact ih _ _ _ _ h H locs ls cells slots hP hm hS hLl hL h1 h2
set_option maxHeartbeats 1000000 in
theorem sg_ixor {p : Program} {l : Launch} {e : Env} {R : Room} {s : State} {m : MethodId} {args : Array Value} {below : List Frame} {meth : Method} {c : Code} {Q : State → Prop} {D : va_G} {cl : List vw_C} {τ : Nat → ClassId} {B : Nat} {ad : Nat → Nat} {TB NB : List Cond} {SK : sm_SKt} {XT : State → Heap → Prop} {mi : sm_MI} {M' : sm_M} {m0 s0 : Nat} {cal : Nat → List Value → sm_M → sm_R} {sc : Option (Nat × (Nat → Int32))} {k : Nat → sm_L → List Value → sm_M → sm_R} {r : Option Value} {pc : Nat} {L : sm_L} {st : List Value} {M : sm_M}  (C0 : sm_C p s m args meth c D cl τ B ad TB NB SK XT m0 mi) (ih : ∀ pc L st M, k pc L st M = some (M', r) → sm_G p l e R s m args below meth c Q D cl τ B ad mi.2.2.1 m0 s0 pc L st M) (hd : decode mi.2.1 pc = .ok (.ixor, 1)) (h : sm_ex cal sc mi k pc L st M (.ixor) = some (M', r)) : sm_G p l e R s m args below meth c Q D cl τ B ad mi.2.2.1 m0 s0 pc L st M := by
  have hx := C0.1
  have hb := C0.2.1
  replace h := sm_i2_some h
  obtain ⟨x, y, t, rfl, h⟩ := h
  intro H locs ls cells slots hP hm hS hLl hL h1 h2
  refine lv_ixor hx hb hd ?_
  exact ih _ _ _ _ h H locs ls cells slots hP hm hS hLl hL h1 h2
set_option maxHeartbeats 1000000 in
theorem sg_ishl {p : Program} {l : Launch} {e : Env} {R : Room} {s : State} {m : MethodId} {args : Array Value} {below : List Frame} {meth : Method} {c : Code} {Q : State → Prop} {D : va_G} {cl : List vw_C} {τ : Nat → ClassId} {B : Nat} {ad : Nat → Nat} {TB NB : List Cond} {SK : sm_SKt} {XT : State → Heap → Prop} {mi : sm_MI} {M' : sm_M} {m0 s0 : Nat} {cal : Nat → List Value → sm_M → sm_R} {sc : Option (Nat × (Nat → Int32))} {k : Nat → sm_L → List Value → sm_M → sm_R} {r : Option Value} {pc : Nat} {L : sm_L} {st : List Value} {M : sm_M}  (C0 : sm_C p s m args meth c D cl τ B ad TB NB SK XT m0 mi) (ih : ∀ pc L st M, k pc L st M = some (M', r) → sm_G p l e R s m args below meth c Q D cl τ B ad mi.2.2.1 m0 s0 pc L st M) (hd : decode mi.2.1 pc = .ok (.ishl, 1)) (h : sm_ex cal sc mi k pc L st M (.ishl) = some (M', r)) : sm_G p l e R s m args below meth c Q D cl τ B ad mi.2.2.1 m0 s0 pc L st M := by
  have hx := C0.1
  have hb := C0.2.1
  replace h := sm_i2_some h
  obtain ⟨x, y, t, rfl, h⟩ := h
  intro H locs ls cells slots hP hm hS hLl hL h1 h2
  refine lv_ishl hx hb hd ?_
  exact ih _ _ _ _ h H locs ls cells slots hP hm hS hLl hL h1 h2
set_option maxHeartbeats 1000000 in
theorem sg_ishr {p : Program} {l : Launch} {e : Env} {R : Room} {s : State} {m : MethodId} {args : Array Value} {below : List Frame} {meth : Method} {c : Code} {Q : State → Prop} {D : va_G} {cl : List vw_C} {τ : Nat → ClassId} {B : Nat} {ad : Nat → Nat} {TB NB : List Cond} {SK : sm_SKt} {XT : State → Heap → Prop} {mi : sm_MI} {M' : sm_M} {m0 s0 : Nat} {cal : Nat → List Value → sm_M → sm_R} {sc : Option (Nat × (Nat → Int32))} {k : Nat → sm_L → List Value → sm_M → sm_R} {r : Option Value} {pc : Nat} {L : sm_L} {st : List Value} {M : sm_M}  (C0 : sm_C p s m args meth c D cl τ B ad TB NB SK XT m0 mi) (ih : ∀ pc L st M, k pc L st M = some (M', r) → sm_G p l e R s m args below meth c Q D cl τ B ad mi.2.2.1 m0 s0 pc L st M) (hd : decode mi.2.1 pc = .ok (.ishr, 1)) (h : sm_ex cal sc mi k pc L st M (.ishr) = some (M', r)) : sm_G p l e R s m args below meth c Q D cl τ B ad mi.2.2.1 m0 s0 pc L st M := by
  have hx := C0.1
  have hb := C0.2.1
  replace h := sm_i2_some h
  obtain ⟨x, y, t, rfl, h⟩ := h
  intro H locs ls cells slots hP hm hS hLl hL h1 h2
  refine lv_ishr hx hb hd ?_
  exact ih _ _ _ _ h H locs ls cells slots hP hm hS hLl hL h1 h2
set_option maxHeartbeats 1000000 in
theorem sg_iushr {p : Program} {l : Launch} {e : Env} {R : Room} {s : State} {m : MethodId} {args : Array Value} {below : List Frame} {meth : Method} {c : Code} {Q : State → Prop} {D : va_G} {cl : List vw_C} {τ : Nat → ClassId} {B : Nat} {ad : Nat → Nat} {TB NB : List Cond} {SK : sm_SKt} {XT : State → Heap → Prop} {mi : sm_MI} {M' : sm_M} {m0 s0 : Nat} {cal : Nat → List Value → sm_M → sm_R} {sc : Option (Nat × (Nat → Int32))} {k : Nat → sm_L → List Value → sm_M → sm_R} {r : Option Value} {pc : Nat} {L : sm_L} {st : List Value} {M : sm_M}  (C0 : sm_C p s m args meth c D cl τ B ad TB NB SK XT m0 mi) (ih : ∀ pc L st M, k pc L st M = some (M', r) → sm_G p l e R s m args below meth c Q D cl τ B ad mi.2.2.1 m0 s0 pc L st M) (hd : decode mi.2.1 pc = .ok (.iushr, 1)) (h : sm_ex cal sc mi k pc L st M (.iushr) = some (M', r)) : sm_G p l e R s m args below meth c Q D cl τ B ad mi.2.2.1 m0 s0 pc L st M := by
  have hx := C0.1
  have hb := C0.2.1
  replace h := sm_i2_some h
  obtain ⟨x, y, t, rfl, h⟩ := h
  intro H locs ls cells slots hP hm hS hLl hL h1 h2
  refine lv_iushr hx hb hd rfl ?_
  exact ih _ _ _ _ h H locs ls cells slots hP hm hS hLl hL h1 h2
set_option maxHeartbeats 1000000 in
theorem sg_idiv {p : Program} {l : Launch} {e : Env} {R : Room} {s : State} {m : MethodId} {args : Array Value} {below : List Frame} {meth : Method} {c : Code} {Q : State → Prop} {D : va_G} {cl : List vw_C} {τ : Nat → ClassId} {B : Nat} {ad : Nat → Nat} {TB NB : List Cond} {SK : sm_SKt} {XT : State → Heap → Prop} {mi : sm_MI} {M' : sm_M} {m0 s0 : Nat} {cal : Nat → List Value → sm_M → sm_R} {sc : Option (Nat × (Nat → Int32))} {k : Nat → sm_L → List Value → sm_M → sm_R} {r : Option Value} {pc : Nat} {L : sm_L} {st : List Value} {M : sm_M}  (C0 : sm_C p s m args meth c D cl τ B ad TB NB SK XT m0 mi) (ih : ∀ pc L st M, k pc L st M = some (M', r) → sm_G p l e R s m args below meth c Q D cl τ B ad mi.2.2.1 m0 s0 pc L st M) (hd : decode mi.2.1 pc = .ok (.idiv, 1)) (h : sm_ex cal sc mi k pc L st M (.idiv) = some (M', r)) : sm_G p l e R s m args below meth c Q D cl τ B ad mi.2.2.1 m0 s0 pc L st M := by
  have hx := C0.1
  have hb := C0.2.1
  replace h := sm_i2_some h
  obtain ⟨x, y, t, rfl, h⟩ := h
  split at h
  · cases h
  · rename_i hne
    intro H locs ls cells slots hP hm hS hLl hL h1 h2
    refine lv_idiv hx hb hd hne ?_
    exact ih _ _ _ _ h H locs ls cells slots hP hm hS hLl hL h1 h2
set_option maxHeartbeats 1000000 in
theorem sg_irem {p : Program} {l : Launch} {e : Env} {R : Room} {s : State} {m : MethodId} {args : Array Value} {below : List Frame} {meth : Method} {c : Code} {Q : State → Prop} {D : va_G} {cl : List vw_C} {τ : Nat → ClassId} {B : Nat} {ad : Nat → Nat} {TB NB : List Cond} {SK : sm_SKt} {XT : State → Heap → Prop} {mi : sm_MI} {M' : sm_M} {m0 s0 : Nat} {cal : Nat → List Value → sm_M → sm_R} {sc : Option (Nat × (Nat → Int32))} {k : Nat → sm_L → List Value → sm_M → sm_R} {r : Option Value} {pc : Nat} {L : sm_L} {st : List Value} {M : sm_M}  (C0 : sm_C p s m args meth c D cl τ B ad TB NB SK XT m0 mi) (ih : ∀ pc L st M, k pc L st M = some (M', r) → sm_G p l e R s m args below meth c Q D cl τ B ad mi.2.2.1 m0 s0 pc L st M) (hd : decode mi.2.1 pc = .ok (.irem, 1)) (h : sm_ex cal sc mi k pc L st M (.irem) = some (M', r)) : sm_G p l e R s m args below meth c Q D cl τ B ad mi.2.2.1 m0 s0 pc L st M := by
  have hx := C0.1
  have hb := C0.2.1
  replace h := sm_i2_some h
  obtain ⟨x, y, t, rfl, h⟩ := h
  split at h
  · cases h
  · rename_i hne
    intro H locs ls cells slots hP hm hS hLl hL h1 h2
    refine lv_irem hx hb hd hne ?_
    exact ih _ _ _ _ h H locs ls cells slots hP hm hS hLl hL h1 h2
set_option maxHeartbeats 1000000 in
theorem sg_ineg {p : Program} {l : Launch} {e : Env} {R : Room} {s : State} {m : MethodId} {args : Array Value} {below : List Frame} {meth : Method} {c : Code} {Q : State → Prop} {D : va_G} {cl : List vw_C} {τ : Nat → ClassId} {B : Nat} {ad : Nat → Nat} {TB NB : List Cond} {SK : sm_SKt} {XT : State → Heap → Prop} {mi : sm_MI} {M' : sm_M} {m0 s0 : Nat} {cal : Nat → List Value → sm_M → sm_R} {sc : Option (Nat × (Nat → Int32))} {k : Nat → sm_L → List Value → sm_M → sm_R} {r : Option Value} {pc : Nat} {L : sm_L} {st : List Value} {M : sm_M}  (C0 : sm_C p s m args meth c D cl τ B ad TB NB SK XT m0 mi) (ih : ∀ pc L st M, k pc L st M = some (M', r) → sm_G p l e R s m args below meth c Q D cl τ B ad mi.2.2.1 m0 s0 pc L st M) (hd : decode mi.2.1 pc = .ok (.ineg, 1)) (h : sm_ex cal sc mi k pc L st M (.ineg) = some (M', r)) : sm_G p l e R s m args below meth c Q D cl τ B ad mi.2.2.1 m0 s0 pc L st M := by
  have hx := C0.1
  have hb := C0.2.1
  replace h := sm_i1_some h
  obtain ⟨x, t, rfl, h⟩ := h
  intro H locs ls cells slots hP hm hS hLl hL h1 h2
  refine lv_ineg hx hb hd ?_
  exact ih _ _ _ _ h H locs ls cells slots hP hm hS hLl hL h1 h2
set_option maxHeartbeats 1000000 in
theorem sg_ladd {p : Program} {l : Launch} {e : Env} {R : Room} {s : State} {m : MethodId} {args : Array Value} {below : List Frame} {meth : Method} {c : Code} {Q : State → Prop} {D : va_G} {cl : List vw_C} {τ : Nat → ClassId} {B : Nat} {ad : Nat → Nat} {TB NB : List Cond} {SK : sm_SKt} {XT : State → Heap → Prop} {mi : sm_MI} {M' : sm_M} {m0 s0 : Nat} {cal : Nat → List Value → sm_M → sm_R} {sc : Option (Nat × (Nat → Int32))} {k : Nat → sm_L → List Value → sm_M → sm_R} {r : Option Value} {pc : Nat} {L : sm_L} {st : List Value} {M : sm_M}  (C0 : sm_C p s m args meth c D cl τ B ad TB NB SK XT m0 mi) (ih : ∀ pc L st M, k pc L st M = some (M', r) → sm_G p l e R s m args below meth c Q D cl τ B ad mi.2.2.1 m0 s0 pc L st M) (hd : decode mi.2.1 pc = .ok (.ladd, 1)) (h : sm_ex cal sc mi k pc L st M (.ladd) = some (M', r)) : sm_G p l e R s m args below meth c Q D cl τ B ad mi.2.2.1 m0 s0 pc L st M := by
  have hx := C0.1
  have hb := C0.2.1
  replace h := sm_l2_some h
  obtain ⟨x, y, t, rfl, h⟩ := h
  intro H locs ls cells slots hP hm hS hLl hL h1 h2
  refine lv_ladd hx hb hd ?_
  exact ih _ _ _ _ h H locs ls cells slots hP hm hS hLl hL h1 h2
set_option maxHeartbeats 1000000 in
theorem sg_lsub {p : Program} {l : Launch} {e : Env} {R : Room} {s : State} {m : MethodId} {args : Array Value} {below : List Frame} {meth : Method} {c : Code} {Q : State → Prop} {D : va_G} {cl : List vw_C} {τ : Nat → ClassId} {B : Nat} {ad : Nat → Nat} {TB NB : List Cond} {SK : sm_SKt} {XT : State → Heap → Prop} {mi : sm_MI} {M' : sm_M} {m0 s0 : Nat} {cal : Nat → List Value → sm_M → sm_R} {sc : Option (Nat × (Nat → Int32))} {k : Nat → sm_L → List Value → sm_M → sm_R} {r : Option Value} {pc : Nat} {L : sm_L} {st : List Value} {M : sm_M}  (C0 : sm_C p s m args meth c D cl τ B ad TB NB SK XT m0 mi) (ih : ∀ pc L st M, k pc L st M = some (M', r) → sm_G p l e R s m args below meth c Q D cl τ B ad mi.2.2.1 m0 s0 pc L st M) (hd : decode mi.2.1 pc = .ok (.lsub, 1)) (h : sm_ex cal sc mi k pc L st M (.lsub) = some (M', r)) : sm_G p l e R s m args below meth c Q D cl τ B ad mi.2.2.1 m0 s0 pc L st M := by
  have hx := C0.1
  have hb := C0.2.1
  replace h := sm_l2_some h
  obtain ⟨x, y, t, rfl, h⟩ := h
  intro H locs ls cells slots hP hm hS hLl hL h1 h2
  refine lv_lsub hx hb hd ?_
  exact ih _ _ _ _ h H locs ls cells slots hP hm hS hLl hL h1 h2
set_option maxHeartbeats 1000000 in
theorem sg_land {p : Program} {l : Launch} {e : Env} {R : Room} {s : State} {m : MethodId} {args : Array Value} {below : List Frame} {meth : Method} {c : Code} {Q : State → Prop} {D : va_G} {cl : List vw_C} {τ : Nat → ClassId} {B : Nat} {ad : Nat → Nat} {TB NB : List Cond} {SK : sm_SKt} {XT : State → Heap → Prop} {mi : sm_MI} {M' : sm_M} {m0 s0 : Nat} {cal : Nat → List Value → sm_M → sm_R} {sc : Option (Nat × (Nat → Int32))} {k : Nat → sm_L → List Value → sm_M → sm_R} {r : Option Value} {pc : Nat} {L : sm_L} {st : List Value} {M : sm_M}  (C0 : sm_C p s m args meth c D cl τ B ad TB NB SK XT m0 mi) (ih : ∀ pc L st M, k pc L st M = some (M', r) → sm_G p l e R s m args below meth c Q D cl τ B ad mi.2.2.1 m0 s0 pc L st M) (hd : decode mi.2.1 pc = .ok (.land, 1)) (h : sm_ex cal sc mi k pc L st M (.land) = some (M', r)) : sm_G p l e R s m args below meth c Q D cl τ B ad mi.2.2.1 m0 s0 pc L st M := by
  have hx := C0.1
  have hb := C0.2.1
  replace h := sm_l2_some h
  obtain ⟨x, y, t, rfl, h⟩ := h
  intro H locs ls cells slots hP hm hS hLl hL h1 h2
  refine lv_land hx hb hd ?_
  exact ih _ _ _ _ h H locs ls cells slots hP hm hS hLl hL h1 h2
set_option maxHeartbeats 1000000 in
theorem sg_lor {p : Program} {l : Launch} {e : Env} {R : Room} {s : State} {m : MethodId} {args : Array Value} {below : List Frame} {meth : Method} {c : Code} {Q : State → Prop} {D : va_G} {cl : List vw_C} {τ : Nat → ClassId} {B : Nat} {ad : Nat → Nat} {TB NB : List Cond} {SK : sm_SKt} {XT : State → Heap → Prop} {mi : sm_MI} {M' : sm_M} {m0 s0 : Nat} {cal : Nat → List Value → sm_M → sm_R} {sc : Option (Nat × (Nat → Int32))} {k : Nat → sm_L → List Value → sm_M → sm_R} {r : Option Value} {pc : Nat} {L : sm_L} {st : List Value} {M : sm_M}  (C0 : sm_C p s m args meth c D cl τ B ad TB NB SK XT m0 mi) (ih : ∀ pc L st M, k pc L st M = some (M', r) → sm_G p l e R s m args below meth c Q D cl τ B ad mi.2.2.1 m0 s0 pc L st M) (hd : decode mi.2.1 pc = .ok (.lor, 1)) (h : sm_ex cal sc mi k pc L st M (.lor) = some (M', r)) : sm_G p l e R s m args below meth c Q D cl τ B ad mi.2.2.1 m0 s0 pc L st M := by
  have hx := C0.1
  have hb := C0.2.1
  replace h := sm_l2_some h
  obtain ⟨x, y, t, rfl, h⟩ := h
  intro H locs ls cells slots hP hm hS hLl hL h1 h2
  refine lv_lor hx hb hd ?_
  exact ih _ _ _ _ h H locs ls cells slots hP hm hS hLl hL h1 h2
set_option maxHeartbeats 1000000 in
theorem sg_lxor {p : Program} {l : Launch} {e : Env} {R : Room} {s : State} {m : MethodId} {args : Array Value} {below : List Frame} {meth : Method} {c : Code} {Q : State → Prop} {D : va_G} {cl : List vw_C} {τ : Nat → ClassId} {B : Nat} {ad : Nat → Nat} {TB NB : List Cond} {SK : sm_SKt} {XT : State → Heap → Prop} {mi : sm_MI} {M' : sm_M} {m0 s0 : Nat} {cal : Nat → List Value → sm_M → sm_R} {sc : Option (Nat × (Nat → Int32))} {k : Nat → sm_L → List Value → sm_M → sm_R} {r : Option Value} {pc : Nat} {L : sm_L} {st : List Value} {M : sm_M}  (C0 : sm_C p s m args meth c D cl τ B ad TB NB SK XT m0 mi) (ih : ∀ pc L st M, k pc L st M = some (M', r) → sm_G p l e R s m args below meth c Q D cl τ B ad mi.2.2.1 m0 s0 pc L st M) (hd : decode mi.2.1 pc = .ok (.lxor, 1)) (h : sm_ex cal sc mi k pc L st M (.lxor) = some (M', r)) : sm_G p l e R s m args below meth c Q D cl τ B ad mi.2.2.1 m0 s0 pc L st M := by
  have hx := C0.1
  have hb := C0.2.1
  replace h := sm_l2_some h
  obtain ⟨x, y, t, rfl, h⟩ := h
  intro H locs ls cells slots hP hm hS hLl hL h1 h2
  refine lv_lxor hx hb hd ?_
  exact ih _ _ _ _ h H locs ls cells slots hP hm hS hLl hL h1 h2
set_option maxHeartbeats 1000000 in
theorem sg_lshl {p : Program} {l : Launch} {e : Env} {R : Room} {s : State} {m : MethodId} {args : Array Value} {below : List Frame} {meth : Method} {c : Code} {Q : State → Prop} {D : va_G} {cl : List vw_C} {τ : Nat → ClassId} {B : Nat} {ad : Nat → Nat} {TB NB : List Cond} {SK : sm_SKt} {XT : State → Heap → Prop} {mi : sm_MI} {M' : sm_M} {m0 s0 : Nat} {cal : Nat → List Value → sm_M → sm_R} {sc : Option (Nat × (Nat → Int32))} {k : Nat → sm_L → List Value → sm_M → sm_R} {r : Option Value} {pc : Nat} {L : sm_L} {st : List Value} {M : sm_M}  (C0 : sm_C p s m args meth c D cl τ B ad TB NB SK XT m0 mi) (ih : ∀ pc L st M, k pc L st M = some (M', r) → sm_G p l e R s m args below meth c Q D cl τ B ad mi.2.2.1 m0 s0 pc L st M) (hd : decode mi.2.1 pc = .ok (.lshl, 1)) (h : sm_ex cal sc mi k pc L st M (.lshl) = some (M', r)) : sm_G p l e R s m args below meth c Q D cl τ B ad mi.2.2.1 m0 s0 pc L st M := by
  have hx := C0.1
  have hb := C0.2.1
  replace h := sm_li_some h
  obtain ⟨x, y, t, rfl, h⟩ := h
  intro H locs ls cells slots hP hm hS hLl hL h1 h2
  refine lv_lshl hx hb hd rfl ?_
  exact ih _ _ _ _ h H locs ls cells slots hP hm hS hLl hL h1 h2
set_option maxHeartbeats 1000000 in
theorem sg_lshr {p : Program} {l : Launch} {e : Env} {R : Room} {s : State} {m : MethodId} {args : Array Value} {below : List Frame} {meth : Method} {c : Code} {Q : State → Prop} {D : va_G} {cl : List vw_C} {τ : Nat → ClassId} {B : Nat} {ad : Nat → Nat} {TB NB : List Cond} {SK : sm_SKt} {XT : State → Heap → Prop} {mi : sm_MI} {M' : sm_M} {m0 s0 : Nat} {cal : Nat → List Value → sm_M → sm_R} {sc : Option (Nat × (Nat → Int32))} {k : Nat → sm_L → List Value → sm_M → sm_R} {r : Option Value} {pc : Nat} {L : sm_L} {st : List Value} {M : sm_M}  (C0 : sm_C p s m args meth c D cl τ B ad TB NB SK XT m0 mi) (ih : ∀ pc L st M, k pc L st M = some (M', r) → sm_G p l e R s m args below meth c Q D cl τ B ad mi.2.2.1 m0 s0 pc L st M) (hd : decode mi.2.1 pc = .ok (.lshr, 1)) (h : sm_ex cal sc mi k pc L st M (.lshr) = some (M', r)) : sm_G p l e R s m args below meth c Q D cl τ B ad mi.2.2.1 m0 s0 pc L st M := by
  have hx := C0.1
  have hb := C0.2.1
  replace h := sm_li_some h
  obtain ⟨x, y, t, rfl, h⟩ := h
  intro H locs ls cells slots hP hm hS hLl hL h1 h2
  refine lv_lshr hx hb hd rfl ?_
  exact ih _ _ _ _ h H locs ls cells slots hP hm hS hLl hL h1 h2
set_option maxHeartbeats 1000000 in
theorem sg_lushr {p : Program} {l : Launch} {e : Env} {R : Room} {s : State} {m : MethodId} {args : Array Value} {below : List Frame} {meth : Method} {c : Code} {Q : State → Prop} {D : va_G} {cl : List vw_C} {τ : Nat → ClassId} {B : Nat} {ad : Nat → Nat} {TB NB : List Cond} {SK : sm_SKt} {XT : State → Heap → Prop} {mi : sm_MI} {M' : sm_M} {m0 s0 : Nat} {cal : Nat → List Value → sm_M → sm_R} {sc : Option (Nat × (Nat → Int32))} {k : Nat → sm_L → List Value → sm_M → sm_R} {r : Option Value} {pc : Nat} {L : sm_L} {st : List Value} {M : sm_M}  (C0 : sm_C p s m args meth c D cl τ B ad TB NB SK XT m0 mi) (ih : ∀ pc L st M, k pc L st M = some (M', r) → sm_G p l e R s m args below meth c Q D cl τ B ad mi.2.2.1 m0 s0 pc L st M) (hd : decode mi.2.1 pc = .ok (.lushr, 1)) (h : sm_ex cal sc mi k pc L st M (.lushr) = some (M', r)) : sm_G p l e R s m args below meth c Q D cl τ B ad mi.2.2.1 m0 s0 pc L st M := by
  have hx := C0.1
  have hb := C0.2.1
  replace h := sm_li_some h
  obtain ⟨x, y, t, rfl, h⟩ := h
  intro H locs ls cells slots hP hm hS hLl hL h1 h2
  refine lv_lushr hx hb hd rfl ?_
  exact ih _ _ _ _ h H locs ls cells slots hP hm hS hLl hL h1 h2
set_option maxHeartbeats 1000000 in
theorem sg_lcmp {p : Program} {l : Launch} {e : Env} {R : Room} {s : State} {m : MethodId} {args : Array Value} {below : List Frame} {meth : Method} {c : Code} {Q : State → Prop} {D : va_G} {cl : List vw_C} {τ : Nat → ClassId} {B : Nat} {ad : Nat → Nat} {TB NB : List Cond} {SK : sm_SKt} {XT : State → Heap → Prop} {mi : sm_MI} {M' : sm_M} {m0 s0 : Nat} {cal : Nat → List Value → sm_M → sm_R} {sc : Option (Nat × (Nat → Int32))} {k : Nat → sm_L → List Value → sm_M → sm_R} {r : Option Value} {pc : Nat} {L : sm_L} {st : List Value} {M : sm_M}  (C0 : sm_C p s m args meth c D cl τ B ad TB NB SK XT m0 mi) (ih : ∀ pc L st M, k pc L st M = some (M', r) → sm_G p l e R s m args below meth c Q D cl τ B ad mi.2.2.1 m0 s0 pc L st M) (hd : decode mi.2.1 pc = .ok (.lcmp, 1)) (h : sm_ex cal sc mi k pc L st M (.lcmp) = some (M', r)) : sm_G p l e R s m args below meth c Q D cl τ B ad mi.2.2.1 m0 s0 pc L st M := by
  have hx := C0.1
  have hb := C0.2.1
  replace h := sm_l2_some h
  obtain ⟨x, y, t, rfl, h⟩ := h
  intro H locs ls cells slots hP hm hS hLl hL h1 h2
  refine W.lcmp hx hb hd ?_
  exact ih _ _ _ _ h H locs ls cells slots hP hm hS hLl hL h1 h2
set_option maxHeartbeats 1000000 in
theorem sg_i2l {p : Program} {l : Launch} {e : Env} {R : Room} {s : State} {m : MethodId} {args : Array Value} {below : List Frame} {meth : Method} {c : Code} {Q : State → Prop} {D : va_G} {cl : List vw_C} {τ : Nat → ClassId} {B : Nat} {ad : Nat → Nat} {TB NB : List Cond} {SK : sm_SKt} {XT : State → Heap → Prop} {mi : sm_MI} {M' : sm_M} {m0 s0 : Nat} {cal : Nat → List Value → sm_M → sm_R} {sc : Option (Nat × (Nat → Int32))} {k : Nat → sm_L → List Value → sm_M → sm_R} {r : Option Value} {pc : Nat} {L : sm_L} {st : List Value} {M : sm_M}  (C0 : sm_C p s m args meth c D cl τ B ad TB NB SK XT m0 mi) (ih : ∀ pc L st M, k pc L st M = some (M', r) → sm_G p l e R s m args below meth c Q D cl τ B ad mi.2.2.1 m0 s0 pc L st M) (hd : decode mi.2.1 pc = .ok (.i2l, 1)) (h : sm_ex cal sc mi k pc L st M (.i2l) = some (M', r)) : sm_G p l e R s m args below meth c Q D cl τ B ad mi.2.2.1 m0 s0 pc L st M := by
  have hx := C0.1
  have hb := C0.2.1
  replace h := sm_i1_some h
  obtain ⟨x, t, rfl, h⟩ := h
  intro H locs ls cells slots hP hm hS hLl hL h1 h2
  refine lv_i2l hx hb hd rfl ?_
  exact ih _ _ _ _ h H locs ls cells slots hP hm hS hLl hL h1 h2
set_option maxHeartbeats 1000000 in
theorem sg_l2i {p : Program} {l : Launch} {e : Env} {R : Room} {s : State} {m : MethodId} {args : Array Value} {below : List Frame} {meth : Method} {c : Code} {Q : State → Prop} {D : va_G} {cl : List vw_C} {τ : Nat → ClassId} {B : Nat} {ad : Nat → Nat} {TB NB : List Cond} {SK : sm_SKt} {XT : State → Heap → Prop} {mi : sm_MI} {M' : sm_M} {m0 s0 : Nat} {cal : Nat → List Value → sm_M → sm_R} {sc : Option (Nat × (Nat → Int32))} {k : Nat → sm_L → List Value → sm_M → sm_R} {r : Option Value} {pc : Nat} {L : sm_L} {st : List Value} {M : sm_M}  (C0 : sm_C p s m args meth c D cl τ B ad TB NB SK XT m0 mi) (ih : ∀ pc L st M, k pc L st M = some (M', r) → sm_G p l e R s m args below meth c Q D cl τ B ad mi.2.2.1 m0 s0 pc L st M) (hd : decode mi.2.1 pc = .ok (.l2i, 1)) (h : sm_ex cal sc mi k pc L st M (.l2i) = some (M', r)) : sm_G p l e R s m args below meth c Q D cl τ B ad mi.2.2.1 m0 s0 pc L st M := by
  have hx := C0.1
  have hb := C0.2.1
  replace h := sm_l1_some h
  obtain ⟨x, t, rfl, h⟩ := h
  intro H locs ls cells slots hP hm hS hLl hL h1 h2
  refine lv_l2i hx hb hd rfl ?_
  exact ih _ _ _ _ h H locs ls cells slots hP hm hS hLl hL h1 h2
set_option maxHeartbeats 1000000 in
theorem sg_goto {p : Program} {l : Launch} {e : Env} {R : Room} {s : State} {m : MethodId} {args : Array Value} {below : List Frame} {meth : Method} {c : Code} {Q : State → Prop} {D : va_G} {cl : List vw_C} {τ : Nat → ClassId} {B : Nat} {ad : Nat → Nat} {TB NB : List Cond} {SK : sm_SKt} {XT : State → Heap → Prop} {mi : sm_MI} {M' : sm_M} {m0 s0 : Nat} {cal : Nat → List Value → sm_M → sm_R} {sc : Option (Nat × (Nat → Int32))} {k : Nat → sm_L → List Value → sm_M → sm_R} {r : Option Value} {pc : Nat} {L : sm_L} {st : List Value} {M : sm_M} {off : Int} (C0 : sm_C p s m args meth c D cl τ B ad TB NB SK XT m0 mi) (ih : ∀ pc L st M, k pc L st M = some (M', r) → sm_G p l e R s m args below meth c Q D cl τ B ad mi.2.2.1 m0 s0 pc L st M) (hd : decode mi.2.1 pc = .ok (.goto off, 3)) (h : sm_ex cal sc mi k pc L st M (.goto off) = some (M', r)) : sm_G p l e R s m args below meth c Q D cl τ B ad mi.2.2.1 m0 s0 pc L st M := by
  have hx := C0.1
  have hb := C0.2.1
  replace h := sm_tg_some h
  obtain ⟨t, ht, h⟩ := h
  intro H locs ls cells slots hP hm hS hLl hL h1 h2
  refine lv_goto hx hb hd ht ?_
  exact ih _ _ _ _ h H locs ls cells slots hP hm hS hLl hL h1 h2
set_option maxHeartbeats 1000000 in
theorem sg_dup {p : Program} {l : Launch} {e : Env} {R : Room} {s : State} {m : MethodId} {args : Array Value} {below : List Frame} {meth : Method} {c : Code} {Q : State → Prop} {D : va_G} {cl : List vw_C} {τ : Nat → ClassId} {B : Nat} {ad : Nat → Nat} {TB NB : List Cond} {SK : sm_SKt} {XT : State → Heap → Prop} {mi : sm_MI} {M' : sm_M} {m0 s0 : Nat} {cal : Nat → List Value → sm_M → sm_R} {sc : Option (Nat × (Nat → Int32))} {k : Nat → sm_L → List Value → sm_M → sm_R} {r : Option Value} {pc : Nat} {L : sm_L} {st : List Value} {M : sm_M}  (C0 : sm_C p s m args meth c D cl τ B ad TB NB SK XT m0 mi) (ih : ∀ pc L st M, k pc L st M = some (M', r) → sm_G p l e R s m args below meth c Q D cl τ B ad mi.2.2.1 m0 s0 pc L st M) (hd : decode mi.2.1 pc = .ok (.dup, 1)) (h : sm_ex cal sc mi k pc L st M (.dup) = some (M', r)) : sm_G p l e R s m args below meth c Q D cl τ B ad mi.2.2.1 m0 s0 pc L st M := by
  have hx := C0.1
  have hb := C0.2.1
  simp only [sm_ex] at h
  split at h
  · intro H locs ls cells slots hP hm hS hLl hL h1 h2
    refine lv_dup hx hb hd rfl ?_
    exact ih _ _ _ _ h H locs ls cells slots hP hm hS hLl hL h1 h2
  · intro H locs ls cells slots hP hm hS hLl hL h1 h2
    refine lv_dup hx hb hd rfl ?_
    exact ih _ _ _ _ h H locs ls cells slots hP hm hS hLl hL h1 h2
  · cases h
set_option maxHeartbeats 1000000 in
theorem sg_dup2 {p : Program} {l : Launch} {e : Env} {R : Room} {s : State} {m : MethodId} {args : Array Value} {below : List Frame} {meth : Method} {c : Code} {Q : State → Prop} {D : va_G} {cl : List vw_C} {τ : Nat → ClassId} {B : Nat} {ad : Nat → Nat} {TB NB : List Cond} {SK : sm_SKt} {XT : State → Heap → Prop} {mi : sm_MI} {M' : sm_M} {m0 s0 : Nat} {cal : Nat → List Value → sm_M → sm_R} {sc : Option (Nat × (Nat → Int32))} {k : Nat → sm_L → List Value → sm_M → sm_R} {r : Option Value} {pc : Nat} {L : sm_L} {st : List Value} {M : sm_M}  (C0 : sm_C p s m args meth c D cl τ B ad TB NB SK XT m0 mi) (ih : ∀ pc L st M, k pc L st M = some (M', r) → sm_G p l e R s m args below meth c Q D cl τ B ad mi.2.2.1 m0 s0 pc L st M) (hd : decode mi.2.1 pc = .ok (.dup2, 1)) (h : sm_ex cal sc mi k pc L st M (.dup2) = some (M', r)) : sm_G p l e R s m args below meth c Q D cl τ B ad mi.2.2.1 m0 s0 pc L st M := by
  have hx := C0.1
  have hb := C0.2.1
  simp only [sm_ex] at h
  split at h
  · intro H locs ls cells slots hP hm hS hLl hL h1 h2
    refine lv_dup2_11 hx hb hd rfl rfl ?_
    exact ih _ _ _ _ h H locs ls cells slots hP hm hS hLl hL h1 h2
  · intro H locs ls cells slots hP hm hS hLl hL h1 h2
    refine lv_dup2_2 hx hb hd rfl ?_
    exact ih _ _ _ _ h H locs ls cells slots hP hm hS hLl hL h1 h2
  · cases h
set_option maxHeartbeats 1000000 in
theorem sg_ifCond {p : Program} {l : Launch} {e : Env} {R : Room} {s : State} {m : MethodId} {args : Array Value} {below : List Frame} {meth : Method} {c : Code} {Q : State → Prop} {D : va_G} {cl : List vw_C} {τ : Nat → ClassId} {B : Nat} {ad : Nat → Nat} {TB NB : List Cond} {SK : sm_SKt} {XT : State → Heap → Prop} {mi : sm_MI} {M' : sm_M} {m0 s0 : Nat} {cal : Nat → List Value → sm_M → sm_R} {sc : Option (Nat × (Nat → Int32))} {k : Nat → sm_L → List Value → sm_M → sm_R} {r : Option Value} {pc : Nat} {L : sm_L} {st : List Value} {M : sm_M} {cd : ClassFile.Cond} {off : Int} (C0 : sm_C p s m args meth c D cl τ B ad TB NB SK XT m0 mi) (ih : ∀ pc L st M, k pc L st M = some (M', r) → sm_G p l e R s m args below meth c Q D cl τ B ad mi.2.2.1 m0 s0 pc L st M) (hd : decode mi.2.1 pc = .ok (.ifCond cd off, 3)) (h : sm_ex cal sc mi k pc L st M (.ifCond cd off) = some (M', r)) : sm_G p l e R s m args below meth c Q D cl τ B ad mi.2.2.1 m0 s0 pc L st M := by
  have hx := C0.1
  have hb := C0.2.1
  replace h := sm_tg_some h
  obtain ⟨t, ht, h⟩ := h
  replace h := sm_i1_some h
  obtain ⟨x, r0, rfl, h⟩ := h
  intro H locs ls cells slots hP hm hS hLl hL h1 h2
  cases cd
  · refine lv_if_eq hx hb hd ht (fun hc => ?_) (fun hc => ?_)
    · have h := (if_pos hc).symm.trans h
      exact ih _ _ _ _ h H locs ls cells slots hP hm hS hLl hL h1 h2
    · have h := (if_neg hc).symm.trans h
      exact ih _ _ _ _ h H locs ls cells slots hP hm hS hLl hL h1 h2
  · refine lv_if_ne hx hb hd ht (fun hc => ?_) (fun hc => ?_)
    · have h := (if_neg hc).symm.trans h
      exact ih _ _ _ _ h H locs ls cells slots hP hm hS hLl hL h1 h2
    · have h := (if_pos hc).symm.trans h
      exact ih _ _ _ _ h H locs ls cells slots hP hm hS hLl hL h1 h2
  · refine lv_if_lt hx hb hd ht (fun hc => ?_) (fun hc => ?_)
    · have h := (if_pos hc).symm.trans h
      exact ih _ _ _ _ h H locs ls cells slots hP hm hS hLl hL h1 h2
    · have h := (if_neg hc).symm.trans h
      exact ih _ _ _ _ h H locs ls cells slots hP hm hS hLl hL h1 h2
  · refine lv_if_ge hx hb hd ht (fun hc => ?_) (fun hc => ?_)
    · have h := (if_pos hc).symm.trans h
      exact ih _ _ _ _ h H locs ls cells slots hP hm hS hLl hL h1 h2
    · have h := (if_neg hc).symm.trans h
      exact ih _ _ _ _ h H locs ls cells slots hP hm hS hLl hL h1 h2
  · refine lv_if_gt hx hb hd ht (fun hc => ?_) (fun hc => ?_)
    · have h := (if_pos hc).symm.trans h
      exact ih _ _ _ _ h H locs ls cells slots hP hm hS hLl hL h1 h2
    · have h := (if_neg hc).symm.trans h
      exact ih _ _ _ _ h H locs ls cells slots hP hm hS hLl hL h1 h2
  · refine lv_if_le hx hb hd ht (fun hc => ?_) (fun hc => ?_)
    · have h := (if_pos hc).symm.trans h
      exact ih _ _ _ _ h H locs ls cells slots hP hm hS hLl hL h1 h2
    · have h := (if_neg hc).symm.trans h
      exact ih _ _ _ _ h H locs ls cells slots hP hm hS hLl hL h1 h2
set_option maxHeartbeats 1000000 in
theorem sg_if_icmp {p : Program} {l : Launch} {e : Env} {R : Room} {s : State} {m : MethodId} {args : Array Value} {below : List Frame} {meth : Method} {c : Code} {Q : State → Prop} {D : va_G} {cl : List vw_C} {τ : Nat → ClassId} {B : Nat} {ad : Nat → Nat} {TB NB : List Cond} {SK : sm_SKt} {XT : State → Heap → Prop} {mi : sm_MI} {M' : sm_M} {m0 s0 : Nat} {cal : Nat → List Value → sm_M → sm_R} {sc : Option (Nat × (Nat → Int32))} {k : Nat → sm_L → List Value → sm_M → sm_R} {r : Option Value} {pc : Nat} {L : sm_L} {st : List Value} {M : sm_M} {cd : ClassFile.Cond} {off : Int} (C0 : sm_C p s m args meth c D cl τ B ad TB NB SK XT m0 mi) (ih : ∀ pc L st M, k pc L st M = some (M', r) → sm_G p l e R s m args below meth c Q D cl τ B ad mi.2.2.1 m0 s0 pc L st M) (hd : decode mi.2.1 pc = .ok (.if_icmp cd off, 3)) (h : sm_ex cal sc mi k pc L st M (.if_icmp cd off) = some (M', r)) : sm_G p l e R s m args below meth c Q D cl τ B ad mi.2.2.1 m0 s0 pc L st M := by
  have hx := C0.1
  have hb := C0.2.1
  replace h := sm_tg_some h
  obtain ⟨t, ht, h⟩ := h
  replace h := sm_i2_some h
  obtain ⟨x, y, r0, rfl, h⟩ := h
  intro H locs ls cells slots hP hm hS hLl hL h1 h2
  cases cd
  · refine lv_icmp_eq hx hb hd ht (fun hc => ?_) (fun hc => ?_)
    · have h := (if_pos hc).symm.trans h
      exact ih _ _ _ _ h H locs ls cells slots hP hm hS hLl hL h1 h2
    · have h := (if_neg hc).symm.trans h
      exact ih _ _ _ _ h H locs ls cells slots hP hm hS hLl hL h1 h2
  · refine lv_icmp_ne hx hb hd ht (fun hc => ?_) (fun hc => ?_)
    · have h := (if_neg hc).symm.trans h
      exact ih _ _ _ _ h H locs ls cells slots hP hm hS hLl hL h1 h2
    · have h := (if_pos hc).symm.trans h
      exact ih _ _ _ _ h H locs ls cells slots hP hm hS hLl hL h1 h2
  · refine lv_icmp_lt hx hb hd ht (fun hc => ?_) (fun hc => ?_)
    · have h := (if_pos hc).symm.trans h
      exact ih _ _ _ _ h H locs ls cells slots hP hm hS hLl hL h1 h2
    · have h := (if_neg hc).symm.trans h
      exact ih _ _ _ _ h H locs ls cells slots hP hm hS hLl hL h1 h2
  · refine lv_icmp_ge hx hb hd ht (fun hc => ?_) (fun hc => ?_)
    · have h := (if_pos hc).symm.trans h
      exact ih _ _ _ _ h H locs ls cells slots hP hm hS hLl hL h1 h2
    · have h := (if_neg hc).symm.trans h
      exact ih _ _ _ _ h H locs ls cells slots hP hm hS hLl hL h1 h2
  · refine lv_icmp_gt hx hb hd ht (fun hc => ?_) (fun hc => ?_)
    · have h := (if_pos hc).symm.trans h
      exact ih _ _ _ _ h H locs ls cells slots hP hm hS hLl hL h1 h2
    · have h := (if_neg hc).symm.trans h
      exact ih _ _ _ _ h H locs ls cells slots hP hm hS hLl hL h1 h2
  · refine lv_icmp_le hx hb hd ht (fun hc => ?_) (fun hc => ?_)
    · have h := (if_pos hc).symm.trans h
      exact ih _ _ _ _ h H locs ls cells slots hP hm hS hLl hL h1 h2
    · have h := (if_neg hc).symm.trans h
      exact ih _ _ _ _ h H locs ls cells slots hP hm hS hLl hL h1 h2
set_option maxHeartbeats 1000000 in
theorem sg_tableswitch {p : Program} {l : Launch} {e : Env} {R : Room} {s : State} {m : MethodId} {args : Array Value} {below : List Frame} {meth : Method} {c : Code} {Q : State → Prop} {D : va_G} {cl : List vw_C} {τ : Nat → ClassId} {B : Nat} {ad : Nat → Nat} {TB NB : List Cond} {SK : sm_SKt} {XT : State → Heap → Prop} {mi : sm_MI} {M' : sm_M} {m0 s0 : Nat} {cal : Nat → List Value → sm_M → sm_R} {sc : Option (Nat × (Nat → Int32))} {k : Nat → sm_L → List Value → sm_M → sm_R} {r : Option Value} {pc : Nat} {L : sm_L} {st : List Value} {M : sm_M} {dflt lo hi : Int} {offs : Array Int} {len : Nat} (hd : decode mi.2.1 pc = .ok (.tableswitch dflt lo hi offs, len)) (C0 : sm_C p s m args meth c D cl τ B ad TB NB SK XT m0 mi) (ih : ∀ pc L st M, k pc L st M = some (M', r) → sm_G p l e R s m args below meth c Q D cl τ B ad mi.2.2.1 m0 s0 pc L st M) (h : sm_ex cal sc mi k pc L st M (.tableswitch dflt lo hi offs) = some (M', r)) : sm_G p l e R s m args below meth c Q D cl τ B ad mi.2.2.1 m0 s0 pc L st M := by
  have hx := C0.1
  have hb := C0.2.1
  replace h := sm_i1_some h
  obtain ⟨x, r0, rfl, h⟩ := h
  split at h
  · rename_i hc
    replace h := sm_tg_some h
    obtain ⟨t, ht, h⟩ := h
    intro H locs ls cells slots hP hm hS hLl hL h1 h2
    refine lv_tableOut hx hb hd hc ht ?_
    exact ih _ _ _ _ h H locs ls cells slots hP hm hS hLl hL h1 h2
  · rename_i hc
    split at h
    · rename_i off ho
      replace h := sm_tg_some h
      obtain ⟨t, ht, h⟩ := h
      intro H locs ls cells slots hP hm hS hLl hL h1 h2
      refine lv_tableIn hx hb hd (fun z => hc (Or.inl z)) (fun z => hc (Or.inr z)) ho ht ?_
      exact ih _ _ _ _ h H locs ls cells slots hP hm hS hLl hL h1 h2
    · cases h
set_option maxHeartbeats 1000000 in
theorem sg_lookupswitch {p : Program} {l : Launch} {e : Env} {R : Room} {s : State} {m : MethodId} {args : Array Value} {below : List Frame} {meth : Method} {c : Code} {Q : State → Prop} {D : va_G} {cl : List vw_C} {τ : Nat → ClassId} {B : Nat} {ad : Nat → Nat} {TB NB : List Cond} {SK : sm_SKt} {XT : State → Heap → Prop} {mi : sm_MI} {M' : sm_M} {m0 s0 : Nat} {cal : Nat → List Value → sm_M → sm_R} {sc : Option (Nat × (Nat → Int32))} {k : Nat → sm_L → List Value → sm_M → sm_R} {r : Option Value} {pc : Nat} {L : sm_L} {st : List Value} {M : sm_M} {dflt : Int} {ps : Array (Int × Int)} {len : Nat} (hd : decode mi.2.1 pc = .ok (.lookupswitch dflt ps, len)) (C0 : sm_C p s m args meth c D cl τ B ad TB NB SK XT m0 mi) (ih : ∀ pc L st M, k pc L st M = some (M', r) → sm_G p l e R s m args below meth c Q D cl τ B ad mi.2.2.1 m0 s0 pc L st M) (h : sm_ex cal sc mi k pc L st M (.lookupswitch dflt ps) = some (M', r)) : sm_G p l e R s m args below meth c Q D cl τ B ad mi.2.2.1 m0 s0 pc L st M := by
  have hx := C0.1
  have hb := C0.2.1
  simp only [sm_ex] at h
  split at h
  · rename_i hp
    replace h := sm_i1_some h
    obtain ⟨x, r0, rfl, h⟩ := h
    replace h := sm_tg_some h
    obtain ⟨t, ht, h⟩ := h
    intro H locs ls cells slots hP hm hS hLl hL h1 h2
    refine lv_lookup hx hb hd hp rfl ht ?_
    exact ih _ _ _ _ h H locs ls cells slots hP hm hS hLl hL h1 h2
  · cases h
set_option maxHeartbeats 1000000 in
theorem sg_ldc {p : Program} {l : Launch} {e : Env} {R : Room} {s : State} {m : MethodId} {args : Array Value} {below : List Frame} {meth : Method} {c : Code} {Q : State → Prop} {D : va_G} {cl : List vw_C} {τ : Nat → ClassId} {B : Nat} {ad : Nat → Nat} {TB NB : List Cond} {SK : sm_SKt} {XT : State → Heap → Prop} {mi : sm_MI} {M' : sm_M} {m0 s0 : Nat} {cal : Nat → List Value → sm_M → sm_R} {sc : Option (Nat × (Nat → Int32))} {k : Nat → sm_L → List Value → sm_M → sm_R} {r : Option Value} {pc : Nat} {L : sm_L} {st : List Value} {M : sm_M} {x : Nat} (hK : sm_okK TB SK mi) (C0 : sm_C p s m args meth c D cl τ B ad TB NB SK XT m0 mi) (ih : ∀ pc L st M, k pc L st M = some (M', r) → sm_G p l e R s m args below meth c Q D cl τ B ad mi.2.2.1 m0 s0 pc L st M) (hd : decode mi.2.1 pc = .ok (.ldc x, 2)) (h : sm_ex cal sc mi k pc L st M (.ldc x) = some (M', r)) : sm_G p l e R s m args below meth c Q D cl τ B ad mi.2.2.1 m0 s0 pc L st M := by
  have hx := C0.1
  have hb := C0.2.1
  have hown := C0.2.2.2.1
  have hts := C0.2.2.2.2.1
  simp only [sm_ex] at h
  split at h
  · rename_i hv
    intro H locs ls cells slots hP hm hS hLl hL h1 h2
    refine lv_ldc hx hb hown (hts _ ((hK _ _ hv).1 _ rfl)) hd ?_
    exact ih _ _ _ _ h H locs ls cells slots hP hm hS hLl hL h1 h2
  · rename_i hv
    obtain ⟨tx, hin⟩ := (hK _ _ hv).2.2 _ rfl
    intro H locs ls cells slots hP hm hS hLl hL h1 h2
    refine va_ldcS hx hb hown (C0.2.2.2.2.2.2.2.1 _ hin) hd ?_
    exact ih _ _ _ _ h H locs ls cells slots hP hm hS hLl hL h1 h2
  · cases h
set_option maxHeartbeats 1000000 in
theorem sg_ldc_w {p : Program} {l : Launch} {e : Env} {R : Room} {s : State} {m : MethodId} {args : Array Value} {below : List Frame} {meth : Method} {c : Code} {Q : State → Prop} {D : va_G} {cl : List vw_C} {τ : Nat → ClassId} {B : Nat} {ad : Nat → Nat} {TB NB : List Cond} {SK : sm_SKt} {XT : State → Heap → Prop} {mi : sm_MI} {M' : sm_M} {m0 s0 : Nat} {cal : Nat → List Value → sm_M → sm_R} {sc : Option (Nat × (Nat → Int32))} {k : Nat → sm_L → List Value → sm_M → sm_R} {r : Option Value} {pc : Nat} {L : sm_L} {st : List Value} {M : sm_M} {x : Nat} (hK : sm_okK TB SK mi) (C0 : sm_C p s m args meth c D cl τ B ad TB NB SK XT m0 mi) (ih : ∀ pc L st M, k pc L st M = some (M', r) → sm_G p l e R s m args below meth c Q D cl τ B ad mi.2.2.1 m0 s0 pc L st M) (hd : decode mi.2.1 pc = .ok (.ldc_w x, 3)) (h : sm_ex cal sc mi k pc L st M (.ldc_w x) = some (M', r)) : sm_G p l e R s m args below meth c Q D cl τ B ad mi.2.2.1 m0 s0 pc L st M := by
  have hx := C0.1
  have hb := C0.2.1
  have hown := C0.2.2.2.1
  have hts := C0.2.2.2.2.1
  simp only [sm_ex] at h
  split at h
  · rename_i hv
    intro H locs ls cells slots hP hm hS hLl hL h1 h2
    refine lv_ldcw hx hb hown (hts _ ((hK _ _ hv).1 _ rfl)) hd ?_
    exact ih _ _ _ _ h H locs ls cells slots hP hm hS hLl hL h1 h2
  · cases h
set_option maxHeartbeats 1000000 in
theorem sg_ldc2_w {p : Program} {l : Launch} {e : Env} {R : Room} {s : State} {m : MethodId} {args : Array Value} {below : List Frame} {meth : Method} {c : Code} {Q : State → Prop} {D : va_G} {cl : List vw_C} {τ : Nat → ClassId} {B : Nat} {ad : Nat → Nat} {TB NB : List Cond} {SK : sm_SKt} {XT : State → Heap → Prop} {mi : sm_MI} {M' : sm_M} {m0 s0 : Nat} {cal : Nat → List Value → sm_M → sm_R} {sc : Option (Nat × (Nat → Int32))} {k : Nat → sm_L → List Value → sm_M → sm_R} {r : Option Value} {pc : Nat} {L : sm_L} {st : List Value} {M : sm_M} {x : Nat} (hK : sm_okK TB SK mi) (C0 : sm_C p s m args meth c D cl τ B ad TB NB SK XT m0 mi) (ih : ∀ pc L st M, k pc L st M = some (M', r) → sm_G p l e R s m args below meth c Q D cl τ B ad mi.2.2.1 m0 s0 pc L st M) (hd : decode mi.2.1 pc = .ok (.ldc2_w x, 3)) (h : sm_ex cal sc mi k pc L st M (.ldc2_w x) = some (M', r)) : sm_G p l e R s m args below meth c Q D cl τ B ad mi.2.2.1 m0 s0 pc L st M := by
  have hx := C0.1
  have hb := C0.2.1
  have hown := C0.2.2.2.1
  have hts := C0.2.2.2.2.1
  simp only [sm_ex] at h
  split at h
  · rename_i hv
    intro H locs ls cells slots hP hm hS hLl hL h1 h2
    refine lv_ldc2 hx hb hown (hts _ ((hK _ _ hv).2.1 _ rfl)) hd ?_
    exact ih _ _ _ _ h H locs ls cells slots hP hm hS hLl hL h1 h2
  · cases h
set_option maxHeartbeats 1000000 in
theorem sg_getfield {p : Program} {l : Launch} {e : Env} {R : Room} {s : State} {m : MethodId} {args : Array Value} {below : List Frame} {meth : Method} {c : Code} {Q : State → Prop} {D : va_G} {cl : List vw_C} {τ : Nat → ClassId} {B : Nat} {ad : Nat → Nat} {TB NB : List Cond} {SK : sm_SKt} {XT : State → Heap → Prop} {mi : sm_MI} {M' : sm_M} {m0 s0 : Nat} {cal : Nat → List Value → sm_M → sm_R} {sc : Option (Nat × (Nat → Int32))} {k : Nat → sm_L → List Value → sm_M → sm_R} {r : Option Value} {pc : Nat} {L : sm_L} {st : List Value} {M : sm_M} {x : Nat} (hF : sm_okF cl TB NB mi) (hNB : ∀ w ∈ NB, w.onTables = true) (C0 : sm_C p s m args meth c D cl τ B ad TB NB SK XT m0 mi) (ih : ∀ pc L st M, k pc L st M = some (M', r) → sm_G p l e R s m args below meth c Q D cl τ B ad mi.2.2.1 m0 s0 pc L st M) (hd : decode mi.2.1 pc = .ok (.getfield x, 3)) (h : sm_ex cal sc mi k pc L st M (.getfield x) = some (M', r)) : sm_G p l e R s m args below meth c Q D cl τ B ad mi.2.2.1 m0 s0 pc L st M := by
  have hx := C0.1
  have hb := C0.2.1
  have hown := C0.2.2.2.1
  have hts := C0.2.2.2.2.1
  have hnb := C0.2.2.2.2.2.1
  have hK := C0.2.2.2.2.2.2.1
  simp only [sm_ex] at h
  split at h
  · rename_i ci j t hf
    replace h := sm_r1_some h
    obtain ⟨a, r0, rfl, h⟩ := h
    replace h := sm_obj_some h
    obtain ⟨cj, fs, hg, h⟩ := h
    split at h
    · rename_i hbq
      have hcj := Nat.eq_of_beq_eq_true hbq
      subst hcj
      split at h
      · rename_i v hv
        rw [sm_vg_get] at hv
        obtain ⟨C, T, N, ty0, hc, hj, hin, -, -, hTC, -, hlk⟩ := hF _ _ _ _ hf
        have hv2 : (fs.map (sm_cv B ad))[j]? = some (sm_cv B ad v) := by rw [List.getElem?_map, hv]; rfl
        intro H locs ls cells slots hP hm hS hLl hL h1 h2
        rcases hlk with ⟨hlk, -⟩ | ⟨host, hlk, -⟩
        · refine va_get (D := D) (cl := cl) (ci := cj) (ref := C) hx hb hts hin hown hK hP a (sm_w_at hg) hc j hj (hts _ hlk) (fun y hy => by rw [← hTC]; exact hy) hv2 hd ?_
          exact ih _ _ _ _ h H locs ls cells slots hP hm hS hLl hL h1 h2
        · refine va_getN (D := D) (cl := cl) (ci := cj) (ref := C) (host := host) hx hb hts hin hown hK hP a (sm_w_at hg) hc j hj (va_Nw.use (hNB _ hlk) (hnb _ hlk)) (fun y hy => by rw [← hTC]; exact hy) hv2 hd ?_
          exact ih _ _ _ _ h H locs ls cells slots hP hm hS hLl hL h1 h2
      · cases h
    · cases h
  · cases h
set_option maxHeartbeats 1000000 in
theorem sg_putfield {p : Program} {l : Launch} {e : Env} {R : Room} {s : State} {m : MethodId} {args : Array Value} {below : List Frame} {meth : Method} {c : Code} {Q : State → Prop} {D : va_G} {cl : List vw_C} {τ : Nat → ClassId} {B : Nat} {ad : Nat → Nat} {TB NB : List Cond} {SK : sm_SKt} {XT : State → Heap → Prop} {mi : sm_MI} {M' : sm_M} {m0 s0 : Nat} {cal : Nat → List Value → sm_M → sm_R} {sc : Option (Nat × (Nat → Int32))} {k : Nat → sm_L → List Value → sm_M → sm_R} {r : Option Value} {pc : Nat} {L : sm_L} {st : List Value} {M : sm_M} {x : Nat} (hF : sm_okF cl TB NB mi) (hNB : ∀ w ∈ NB, w.onTables = true) (C0 : sm_C p s m args meth c D cl τ B ad TB NB SK XT m0 mi) (ih : ∀ pc L st M, k pc L st M = some (M', r) → sm_G p l e R s m args below meth c Q D cl τ B ad mi.2.2.1 m0 s0 pc L st M) (hd : decode mi.2.1 pc = .ok (.putfield x, 3)) (h : sm_ex cal sc mi k pc L st M (.putfield x) = some (M', r)) : sm_G p l e R s m args below meth c Q D cl τ B ad mi.2.2.1 m0 s0 pc L st M := by
  have hx := C0.1
  have hb := C0.2.1
  have hown := C0.2.2.2.1
  have hts := C0.2.2.2.2.1
  have hnb := C0.2.2.2.2.2.1
  have hK := C0.2.2.2.2.2.2.1
  simp only [sm_ex] at h
  split at h
  · rename_i ci j t hf
    split at h
    · rename_i v a r0
      replace h := sm_obj_some h
      obtain ⟨cj, fs, hg, h⟩ := h
      split at h
      · rename_i hbq
        simp only [Bool.and_eq_true] at hbq
        obtain ⟨⟨hb1, hpt⟩, hlt⟩ := hbq
        have hcj := Nat.eq_of_beq_eq_true hb1
        subst hcj
        have hlt : j < fs.length := by simpa using hlt
        obtain ⟨C, T, N, ty0, hc, hj, hin, hty, hnm, hTC, hkd, hlk⟩ := hF _ _ _ _ hf
        obtain ⟨hnar, hfit⟩ := sm_pt_ok (B := B) (ad := ad) hkd hpt
        have hnt := sm_pt_lt hpt
        intro H locs ls cells slots hP hm hS hLl hL h1 h2
        have hlen : j < (fs.map (sm_cv B ad)).length := by rw [List.length_map]; exact hlt
        have eW : (sm_w τ B ad 0 M).set a (sm_rho B ad a, .inr (cj, (fs.map (sm_cv B ad)).set j (sm_cv B ad v))) = sm_w τ B ad 0 (sm_set M a (.inr (cj, sm_vs fs j v))) := by
          rw [← sm_w_put, sm_vs_set]
          show _ = List.set _ a (_, Sum.inr (cj, List.map (sm_cv B ad) (fs.set j v)))
          rw [List.map_set]
        have fin : ∀ (H1 : Heap) (locs1 : List Loc), va_P D cl ((sm_w τ B ad 0 M).set a (sm_rho B ad a, .inr (cj, (fs.map (sm_cv B ad)).set j (sm_cv B ad v)))) H1 → va_S (fun q => B ≤ q) s.heap H1 locs1 → W p l e R s m args below meth c H1 locs1 cells slots Q (F0 m (pc + 3) ls (r0.map (sm_cv B ad))) := by
          intro H1 locs1 hP1 hS1
          rw [eW] at hP1
          exact ih _ _ _ _ h H1 locs1 ls cells slots hP1 (by rw [sm_set_len]; exact hm) hS1 hLl hL (by rw [sm_set_len]; exact h1) (by rw [sm_set_sl hg (by simp [sm_sz, sm_vs_set])]; exact h2)
        rcases hlk with ⟨hlk, hfn | hfn | ⟨hfn, hni, hdc⟩⟩ | ⟨host, hlk, hfn | hfn⟩
        · exact absurd hfn hnt
        · exact va_put (D := D) (cl := cl) (ci := cj) (ref := C) hx hb hts hin ty0 hty hnm hown hK hP (sm_D hm) hS a (sm_w_at hg) hc j hj (hts _ hlk) (fun y hy => by rw [← hTC]; exact hy) hfn (hty j hj) hnar hfit hlen hd (fun H1 locs1 hP1 _ hS1 => fin H1 locs1 hP1 hS1)
        · exact va_putF (D := D) (cl := cl) (ci := cj) (ref := C) hx hb hts hin ty0 hty hnm hown hK hP (sm_D hm) hS a (sm_w_at hg) hc j hj (hts _ hlk) (fun y hy => by rw [← hTC]; exact hy) hfn (C0.2.2.2.2.2.2.2.2.2.2 hni) hdc (hty j hj) hnar hfit hlen hd (fun H1 locs1 hP1 _ hS1 => fin H1 locs1 hP1 hS1)
        · exact absurd hfn hnt
        · exact va_putN (D := D) (cl := cl) (ci := cj) (ref := C) (host := host) hx hb hts hin ty0 hty hnm hown hK hP (sm_D hm) hS a (sm_w_at hg) hc j hj (va_Nw.use (hNB _ hlk) (hnb _ hlk)) (fun y hy => by rw [← hTC]; exact hy) hfn (hty j hj) hnar hfit hlen hd (fun H1 locs1 hP1 _ hS1 => fin H1 locs1 hP1 hS1)
      · cases h
    · cases h
  · cases h
/-! sizes -/
theorem sm_size_le {p : Program} {l : Launch} {e : Env} {R : Room} {s : State} {m : MethodId} {args : Array Value} {below : List Frame} {meth : Method} {c : Code} {H : Heap} {locs : List Loc} {cells slots : Nat} {Q : State → Prop} {g : JFrame} (kk : H.size ≤ s.heap.size + cells → W p l e R s m args below meth c H locs cells slots Q g) : W p l e R s m args below meth c H locs cells slots Q g := fun T hT X => kk (by rw [← hT]; exact X.heapSize) T hT X
theorem sm_size {D : va_G} {cl : List vw_C} {τ : Nat → ClassId} {B m0 : Nat} {ad : Nat → Nat} {M : sm_M} {H H0 : Heap} {cells : Nat} {locs : List Loc} (hP : va_P D cl (sm_w τ B ad 0 M) H) (hm : M.length ≤ 1000) (hS : va_S (fun q => B ≤ q) H0 H locs) (h0 : H0.size = B + m0) (h1 : cells + m0 = M.length) (hle : H.size ≤ H0.size + cells) : H.size = B + M.length := by
  have h2 := hS.1
  by_cases hM : M.length = 0
  · omega
  · have hg : ∃ e, sm_get M (M.length - 1) = some e := by
      have : ∀ (M : sm_M) (i : Nat), i < M.length → ∃ e, sm_get M i = some e := by
        intro M
        induction M with
        | nil => intro i h; cases h
        | cons c t ih =>
          intro i h
          cases i with
          | zero => exact ⟨c, rfl⟩
          | succ i => exact ih i (by simp at h; omega)
      exact this M _ (by omega)
    obtain ⟨e, he⟩ := hg
    have h3 := (hP _ _ (sm_w_at he)).lt
    rw [show (sm_rho B ad (M.length - 1), sm_ce τ B ad e).1 = B + (M.length - 1) from sm_rho_lt (by omega)] at h3
    omega
end
section
/-! arrays, new cells -/
def sm_okX (B : Nat) (ad : Nat → Nat) (s : State) (sc : Option (Nat × (Nat → Int32))) : Prop := ∀ n g, sc = some (n, g) → va_X (sm_rho B ad sm_SC) n g s s.heap ∧ sm_rho B ad sm_SC < s.heap.size ∧ ¬ B ≤ sm_rho B ad sm_SC
set_option maxHeartbeats 1000000 in
theorem sg_iaload {p : Program} {l : Launch} {e : Env} {R : Room} {s : State} {m : MethodId} {args : Array Value} {below : List Frame} {meth : Method} {c : Code} {Q : State → Prop} {D : va_G} {cl : List vw_C} {τ : Nat → ClassId} {B : Nat} {ad : Nat → Nat} {TB NB : List Cond} {SK : sm_SKt} {XT : State → Heap → Prop} {mi : sm_MI} {M' : sm_M} {m0 s0 : Nat} {cal : Nat → List Value → sm_M → sm_R} {sc : Option (Nat × (Nat → Int32))} {k : Nat → sm_L → List Value → sm_M → sm_R} {r : Option Value} {pc : Nat} {L : sm_L} {st : List Value} {M : sm_M} (hsc : sm_okX B ad s sc) (C0 : sm_C p s m args meth c D cl τ B ad TB NB SK XT m0 mi) (ih : ∀ pc L st M, k pc L st M = some (M', r) → sm_G p l e R s m args below meth c Q D cl τ B ad mi.2.2.1 m0 s0 pc L st M) (hd : decode mi.2.1 pc = .ok (.iaload, 1)) (h : sm_ex cal sc mi k pc L st M (.iaload) = some (M', r)) : sm_G p l e R s m args below meth c Q D cl τ B ad mi.2.2.1 m0 s0 pc L st M := by
  have hx := C0.1
  have hb := C0.2.1
  have hK := C0.2.2.2.2.2.2.1
  simp only [sm_ex] at h
  split at h
  · rename_i i a r0
    split at h
    · rename_i hb1
      have ha := Nat.eq_of_beq_eq_true hb1
      subst ha
      split at h
      · rename_i n g
        obtain ⟨hX, hbl, hbA⟩ := hsc _ _ rfl
        replace h := sm_ix_some h
        obtain ⟨hi, h⟩ := h
        intro H locs ls cells slots hP hm hS hLl hL h1 h2
        refine va_sld hx hb hX hbl hbA hS hi hd ?_
        exact ih _ _ _ _ h H locs ls cells slots hP hm hS hLl hL h1 h2
      · cases h
    · replace h := sm_ia_some h
      obtain ⟨n, g, hg, h⟩ := h
      replace h := sm_ix_some h
      obtain ⟨hi, h⟩ := h
      intro H locs ls cells slots hP hm hS hLl hL h1 h2
      refine va_iald hx hb hK hP a 0 (sm_w_at hg) rfl hi hd ?_
      exact ih _ _ _ _ h H locs ls cells slots hP hm hS hLl hL h1 h2
  · cases h
set_option maxHeartbeats 1000000 in
theorem sg_laload {p : Program} {l : Launch} {e : Env} {R : Room} {s : State} {m : MethodId} {args : Array Value} {below : List Frame} {meth : Method} {c : Code} {Q : State → Prop} {D : va_G} {cl : List vw_C} {τ : Nat → ClassId} {B : Nat} {ad : Nat → Nat} {TB NB : List Cond} {SK : sm_SKt} {XT : State → Heap → Prop} {mi : sm_MI} {M' : sm_M} {m0 s0 : Nat} {cal : Nat → List Value → sm_M → sm_R} {sc : Option (Nat × (Nat → Int32))} {k : Nat → sm_L → List Value → sm_M → sm_R} {r : Option Value} {pc : Nat} {L : sm_L} {st : List Value} {M : sm_M}  (C0 : sm_C p s m args meth c D cl τ B ad TB NB SK XT m0 mi) (ih : ∀ pc L st M, k pc L st M = some (M', r) → sm_G p l e R s m args below meth c Q D cl τ B ad mi.2.2.1 m0 s0 pc L st M) (hd : decode mi.2.1 pc = .ok (.laload, 1)) (h : sm_ex cal sc mi k pc L st M (.laload) = some (M', r)) : sm_G p l e R s m args below meth c Q D cl τ B ad mi.2.2.1 m0 s0 pc L st M := by
  have hx := C0.1
  have hb := C0.2.1
  have hK := C0.2.2.2.2.2.2.1
  simp only [sm_ex] at h
  split at h
  · rename_i i a r0
    replace h := sm_la_some h
    obtain ⟨n, g, hg, h⟩ := h
    replace h := sm_ix_some h
    obtain ⟨hi, h⟩ := h
    intro H locs ls cells slots hP hm hS hLl hL h1 h2
    refine va_lald hx hb hK hP a 1 (sm_w_at hg) rfl hi hd ?_
    exact ih _ _ _ _ h H locs ls cells slots hP hm hS hLl hL h1 h2
  · cases h
set_option maxHeartbeats 1000000 in
theorem sg_iastore {p : Program} {l : Launch} {e : Env} {R : Room} {s : State} {m : MethodId} {args : Array Value} {below : List Frame} {meth : Method} {c : Code} {Q : State → Prop} {D : va_G} {cl : List vw_C} {τ : Nat → ClassId} {B : Nat} {ad : Nat → Nat} {TB NB : List Cond} {SK : sm_SKt} {XT : State → Heap → Prop} {mi : sm_MI} {M' : sm_M} {m0 s0 : Nat} {cal : Nat → List Value → sm_M → sm_R} {sc : Option (Nat × (Nat → Int32))} {k : Nat → sm_L → List Value → sm_M → sm_R} {r : Option Value} {pc : Nat} {L : sm_L} {st : List Value} {M : sm_M}  (C0 : sm_C p s m args meth c D cl τ B ad TB NB SK XT m0 mi) (ih : ∀ pc L st M, k pc L st M = some (M', r) → sm_G p l e R s m args below meth c Q D cl τ B ad mi.2.2.1 m0 s0 pc L st M) (hd : decode mi.2.1 pc = .ok (.iastore, 1)) (h : sm_ex cal sc mi k pc L st M (.iastore) = some (M', r)) : sm_G p l e R s m args below meth c Q D cl τ B ad mi.2.2.1 m0 s0 pc L st M := by
  have hx := C0.1
  have hb := C0.2.1
  have hK := C0.2.2.2.2.2.2.1
  simp only [sm_ex] at h
  split at h
  · rename_i x i a r0
    replace h := sm_ia_some h
    obtain ⟨n, g, hg, h⟩ := h
    replace h := sm_ix_some h
    obtain ⟨hi, h⟩ := h
    intro H locs ls cells slots hP hm hS hLl hL h1 h2
    refine va_iast hx hb hK hP (sm_D hm) hS a 0 (sm_w_at hg) rfl hi hd (fun H1 locs1 hP1 _ hS1 => ?_)
    refine ih _ _ _ _ h H1 locs1 ls cells slots ?_ (by rw [sm_set_len]; exact hm) hS1 hLl hL (by rw [sm_set_len]; exact h1) (h2.trans (sm_set_sl hg (by rfl)).symm)
    rw [← sm_w_put]
    exact hP1
  · cases h
set_option maxHeartbeats 1000000 in
theorem sg_lastore {p : Program} {l : Launch} {e : Env} {R : Room} {s : State} {m : MethodId} {args : Array Value} {below : List Frame} {meth : Method} {c : Code} {Q : State → Prop} {D : va_G} {cl : List vw_C} {τ : Nat → ClassId} {B : Nat} {ad : Nat → Nat} {TB NB : List Cond} {SK : sm_SKt} {XT : State → Heap → Prop} {mi : sm_MI} {M' : sm_M} {m0 s0 : Nat} {cal : Nat → List Value → sm_M → sm_R} {sc : Option (Nat × (Nat → Int32))} {k : Nat → sm_L → List Value → sm_M → sm_R} {r : Option Value} {pc : Nat} {L : sm_L} {st : List Value} {M : sm_M}  (C0 : sm_C p s m args meth c D cl τ B ad TB NB SK XT m0 mi) (ih : ∀ pc L st M, k pc L st M = some (M', r) → sm_G p l e R s m args below meth c Q D cl τ B ad mi.2.2.1 m0 s0 pc L st M) (hd : decode mi.2.1 pc = .ok (.lastore, 1)) (h : sm_ex cal sc mi k pc L st M (.lastore) = some (M', r)) : sm_G p l e R s m args below meth c Q D cl τ B ad mi.2.2.1 m0 s0 pc L st M := by
  have hx := C0.1
  have hb := C0.2.1
  have hK := C0.2.2.2.2.2.2.1
  simp only [sm_ex] at h
  split at h
  · rename_i x i a r0
    replace h := sm_la_some h
    obtain ⟨n, g, hg, h⟩ := h
    replace h := sm_ix_some h
    obtain ⟨hi, h⟩ := h
    intro H locs ls cells slots hP hm hS hLl hL h1 h2
    refine va_last hx hb hK hP (sm_D hm) hS a 1 (sm_w_at hg) rfl hi hd (fun H1 locs1 hP1 _ hS1 => ?_)
    refine ih _ _ _ _ h H1 locs1 ls cells slots ?_ (by rw [sm_set_len]; exact hm) hS1 hLl hL (by rw [sm_set_len]; exact h1) (h2.trans (sm_set_sl hg (by rfl)).symm)
    rw [← sm_w_put]
    exact hP1
  · cases h
set_option maxHeartbeats 1000000 in
theorem sg_arraylength {p : Program} {l : Launch} {e : Env} {R : Room} {s : State} {m : MethodId} {args : Array Value} {below : List Frame} {meth : Method} {c : Code} {Q : State → Prop} {D : va_G} {cl : List vw_C} {τ : Nat → ClassId} {B : Nat} {ad : Nat → Nat} {TB NB : List Cond} {SK : sm_SKt} {XT : State → Heap → Prop} {mi : sm_MI} {M' : sm_M} {m0 s0 : Nat} {cal : Nat → List Value → sm_M → sm_R} {sc : Option (Nat × (Nat → Int32))} {k : Nat → sm_L → List Value → sm_M → sm_R} {r : Option Value} {pc : Nat} {L : sm_L} {st : List Value} {M : sm_M} (hsc : sm_okX B ad s sc) (C0 : sm_C p s m args meth c D cl τ B ad TB NB SK XT m0 mi) (ih : ∀ pc L st M, k pc L st M = some (M', r) → sm_G p l e R s m args below meth c Q D cl τ B ad mi.2.2.1 m0 s0 pc L st M) (hd : decode mi.2.1 pc = .ok (.arraylength, 1)) (h : sm_ex cal sc mi k pc L st M (.arraylength) = some (M', r)) : sm_G p l e R s m args below meth c Q D cl τ B ad mi.2.2.1 m0 s0 pc L st M := by
  have hx := C0.1
  have hb := C0.2.1
  have hK := C0.2.2.2.2.2.2.1
  replace h := sm_r1_some h
  obtain ⟨a, r0, rfl, h⟩ := h
  split at h
  · rename_i hb1
    have ha := Nat.eq_of_beq_eq_true hb1
    subst ha
    split at h
    · rename_i n g
      obtain ⟨hX, hbl, hbA⟩ := hsc _ _ rfl
      intro H locs ls cells slots hP hm hS hLl hL h1 h2
      refine va_slen hx hb hX hbl hbA hS hd ?_
      exact ih _ _ _ _ h H locs ls cells slots hP hm hS hLl hL h1 h2
    · cases h
  · replace h := sm_len_some h
    obtain ⟨n, hg, h⟩ := h
    intro H locs ls cells slots hP hm hS hLl hL h1 h2
    rcases hg with ⟨g, hg⟩ | ⟨g, hg⟩
    · refine va_alen hx hb hK hP a 0 (sm_w_at hg) (ty := .int) rfl rfl hd ?_
      exact ih _ _ _ _ h H locs ls cells slots hP hm hS hLl hL h1 h2
    · refine va_alen hx hb hK hP a 1 (sm_w_at hg) (ty := .long) rfl rfl hd ?_
      exact ih _ _ _ _ h H locs ls cells slots hP hm hS hLl hL h1 h2
/-- a new cell behind the others -/
theorem sm_push {D : va_G} {cl : List vw_C} {τ : Nat → ClassId} {B : Nat} {ad : Nat → Nat} {M : sm_M} {H H1 : Heap} {ev : va_E} (hP : va_P D cl (sm_w τ B ad 0 M) H) (hlt : M.length < 1000) (hz : H.size = B + M.length) (o1 : ∀ q, q < H.size → H1[q]? = H[q]?) (he : va_at D cl (B + M.length, sm_ce τ B ad ev) H1) : va_P D cl (sm_w τ B ad 0 (M ++ [ev])) H1 := by
  rw [sm_w_app, Nat.zero_add, sm_rho_lt hlt]
  refine (hP.kept (fun k x hx => o1 x.1 ((hP k x hx).lt))).app (fun k x hx => ?_)
  have hz : k < 1 := (List.getElem?_eq_some_iff.mp hx).1
  rw [show k = 0 by omega] at hx
  cases hx
  exact he
theorem sm_push_S {A : Nat → Prop} {H0 H H1 : Heap} {locs : List Loc} (hS : va_S A H0 H locs) (z1 : H1.size = H.size + 1) (o1 : ∀ q, q < H.size → H1[q]? = H[q]?) : va_S A H0 H1 locs := ⟨Nat.le_trans hS.1 (by omega), fun x h1 h2 => (o1 x (Nat.lt_of_lt_of_le h1 hS.1)).trans (hS.2.1 x h1 h2), hS.2.2⟩
set_option maxHeartbeats 1000000 in
theorem sg_newarray {p : Program} {l : Launch} {e : Env} {R : Room} {s : State} {m : MethodId} {args : Array Value} {below : List Frame} {meth : Method} {c : Code} {Q : State → Prop} {D : va_G} {cl : List vw_C} {τ : Nat → ClassId} {B : Nat} {ad : Nat → Nat} {TB NB : List Cond} {SK : sm_SKt} {XT : State → Heap → Prop} {mi : sm_MI} {M' : sm_M} {m0 s0 : Nat} {cal : Nat → List Value → sm_M → sm_R} {sc : Option (Nat × (Nat → Int32))} {k : Nat → sm_L → List Value → sm_M → sm_R} {r : Option Value} {pc : Nat} {L : sm_L} {st : List Value} {M : sm_M} {t : ArrayType} (hAI : Cond.arrayClass .int ∈ TB) (hAL : Cond.arrayClass .long ∈ TB) (hk : ∀ pc L st M, k pc L st M = some (M', r) → M.length ≤ M'.length ∧ sm_sl M ≤ sm_sl M') (hRc : M'.length ≤ R.cells + m0) (hRs : sm_sl M' ≤ R.slots + s0) (C0 : sm_C p s m args meth c D cl τ B ad TB NB SK XT m0 mi) (ih : ∀ pc L st M, k pc L st M = some (M', r) → sm_G p l e R s m args below meth c Q D cl τ B ad mi.2.2.1 m0 s0 pc L st M) (hd : decode mi.2.1 pc = .ok (.newarray t, 2)) (h : sm_ex cal sc mi k pc L st M (.newarray t) = some (M', r)) : sm_G p l e R s m args below meth c Q D cl τ B ad mi.2.2.1 m0 s0 pc L st M := by
  have hx := C0.1
  have hb := C0.2.1
  have hts := C0.2.2.2.2.1
  have hK := C0.2.2.2.2.2.2.1
  have h0 := C0.2.2.2.2.2.2.2.2.2.1
  replace h := sm_i1_some h
  obtain ⟨x, r0, rfl, h⟩ := h
  split at h
  · cases h
  · rename_i hneg
    split at h
    · rename_i hbb
      simp only [Bool.and_eq_true] at hbb
      have hbig : x.toNatClampNeg ≤ 100000 := by simpa using hbb.1
      have hlt : M.length < 1000 := by simpa using hbb.2
      have hmono : ∀ e : va_E, sm_sz e = x.toNatClampNeg → ∀ pc L st, k pc L st (M ++ [e]) = some (M', r) → M.length + 1 ≤ M'.length ∧ sm_sl M + x.toNatClampNeg ≤ sm_sl M' := by
        intro e he pc L st h
        have h3 := hk _ _ _ _ h
        rw [sm_sl_app, List.length_append, he] at h3
        exact h3
      split at h
      · intro H locs ls cells slots hP hm hS hLl hL h1 h2
        obtain ⟨g1, g2⟩ := hmono (.inl (0, x.toNatClampNeg, .inl (fun _ => 0))) rfl _ _ _ h
        refine sm_size_le (fun hle => ?_)
        have hz := sm_size hP hm hS h0 h1 hle
        refine va_newaK (atype := .int) hx hb (hts _ hAI) rfl hd rfl hneg rfl (by show _ * 4 ≤ _; omega) (by omega) (by omega) hz (fun H1 cA e1 z1 o1 hAr hNm => ?_)
        have hcA : cA = τ 0 := Option.some.inj (hNm.symm.trans (hK.2 0 _ rfl).2)
        subst hcA
        have hP1 := sm_push (ev := .inl (0, x.toNatClampNeg, .inl (fun _ => 0))) hP hlt hz (fun q hq => o1 q (by omega)) e1
        have hS1 := sm_push_S hS (by omega) (fun q hq => o1 q (by omega))
        have hW := ih _ _ _ _ h H1 locs ls (cells + 1) (slots + x.toNatClampNeg) hP1 (by simp; omega) hS1 hLl hL (by simp; omega) (by rw [sm_sl_app]; show _ = _ + x.toNatClampNeg; omega)
        rw [show (Value.ref M.length :: r0).map (sm_cv B ad) = .ref (B + M.length) :: r0.map (sm_cv B ad) from by rw [← sm_rho_lt (ad := ad) hlt]; rfl] at hW
        exact hW
      · intro H locs ls cells slots hP hm hS hLl hL h1 h2
        obtain ⟨g1, g2⟩ := hmono (.inl (1, x.toNatClampNeg, .inr (.inl (fun _ => 0)))) rfl _ _ _ h
        refine sm_size_le (fun hle => ?_)
        have hz := sm_size hP hm hS h0 h1 hle
        refine va_newaK (atype := .long) hx hb (hts _ hAL) rfl hd rfl hneg rfl (by show _ * 8 ≤ _; omega) (by omega) (by omega) hz (fun H1 cA e1 z1 o1 hAr hNm => ?_)
        have hcA : cA = τ 1 := Option.some.inj (hNm.symm.trans (hK.2 1 _ rfl).2)
        subst hcA
        have hP1 := sm_push (ev := .inl (1, x.toNatClampNeg, .inr (.inl (fun _ => 0)))) hP hlt hz (fun q hq => o1 q (by omega)) e1
        have hS1 := sm_push_S hS (by omega) (fun q hq => o1 q (by omega))
        have hW := ih _ _ _ _ h H1 locs ls (cells + 1) (slots + x.toNatClampNeg) hP1 (by simp; omega) hS1 hLl hL (by simp; omega) (by rw [sm_sl_app]; show _ = _ + x.toNatClampNeg; omega)
        rw [show (Value.ref M.length :: r0).map (sm_cv B ad) = .ref (B + M.length) :: r0.map (sm_cv B ad) from by rw [← sm_rho_lt (ad := ad) hlt]; rfl] at hW
        exact hW
      · cases h
    · cases h
set_option maxHeartbeats 1000000 in
theorem sg_new {p : Program} {l : Launch} {e : Env} {R : Room} {s : State} {m : MethodId} {args : Array Value} {below : List Frame} {meth : Method} {c : Code} {Q : State → Prop} {D : va_G} {cl : List vw_C} {τ : Nat → ClassId} {B : Nat} {ad : Nat → Nat} {TB NB : List Cond} {SK : sm_SKt} {XT : State → Heap → Prop} {mi : sm_MI} {M' : sm_M} {m0 s0 : Nat} {cal : Nat → List Value → sm_M → sm_R} {sc : Option (Nat × (Nat → Int32))} {k : Nat → sm_L → List Value → sm_M → sm_R} {r : Option Value} {pc : Nat} {L : sm_L} {st : List Value} {M : sm_M} {x : Nat} (hN : sm_okN cl TB mi) (hk : ∀ pc L st M, k pc L st M = some (M', r) → M.length ≤ M'.length ∧ sm_sl M ≤ sm_sl M') (hRc : M'.length ≤ R.cells + m0) (hRs : sm_sl M' ≤ R.slots + s0) (C0 : sm_C p s m args meth c D cl τ B ad TB NB SK XT m0 mi) (ih : ∀ pc L st M, k pc L st M = some (M', r) → sm_G p l e R s m args below meth c Q D cl τ B ad mi.2.2.1 m0 s0 pc L st M) (hd : decode mi.2.1 pc = .ok (.new x, 3)) (h : sm_ex cal sc mi k pc L st M (.new x) = some (M', r)) : sm_G p l e R s m args below meth c Q D cl τ B ad mi.2.2.1 m0 s0 pc L st M := by
  have hx := C0.1
  have hb := C0.2.1
  have hown := C0.2.2.2.1
  have hts := C0.2.2.2.2.1
  have hK := C0.2.2.2.2.2.2.1
  have h0 := C0.2.2.2.2.2.2.2.2.2.1
  simp only [sm_ex] at h
  split at h
  · rename_i ci fs hf
    split at h
    · rename_i hbb
      have hlt : M.length < 1000 := by simpa using hbb
      obtain ⟨C, T, N, ty0, hc, hin, hty, hcl, hins, hini, hlen, hmap, hdf⟩ := hN _ _ _ hf
      have h3 := hk _ _ _ _ h
      rw [sm_sl_app, List.length_append] at h3
      have g1 : M.length + 1 ≤ M'.length := h3.1
      have g2 : sm_sl M + N ≤ sm_sl M' := by have := h3.2; rw [show sm_sz (.inr (ci, fs)) = N from hlen] at this; exact this
      intro H locs ls cells slots hP hm hS hLl hL h1 h2
      refine sm_size_le (fun hle => ?_)
      have hz := sm_size hP hm hS h0 h1 hle
      have hKn := hK.1 ci _ hc
      refine W.newcK hx hb hown (hts _ hcl) (hts _ hins) (hts _ hini) rfl hd (by omega) (by omega) hKn.2.1 hz fun H1 kC hkC e1 z1 o1 => ?_
      have hP1 := sm_push (ev := .inr (ci, fs)) hP hlt hz (fun q hq => o1 q (by omega)) ⟨_, hc, by
        rw [hmap]
        exact (u_born ty0 hts hin hKn hkC e1 hty).to hdf⟩
      have hS1 := sm_push_S hS (by omega) (fun q hq => o1 q (by omega))
      have hW := ih _ _ _ _ h H1 locs ls (cells + 1) (slots + N) hP1 (by simp; omega) hS1 hLl hL (by simp; omega) (by rw [sm_sl_app, show sm_sz (.inr (ci, fs)) = N from hlen]; omega)
      rw [show (Value.ref M.length :: st).map (sm_cv B ad) = .ref (B + M.length) :: st.map (sm_cv B ad) from by rw [← sm_rho_lt (ad := ad) hlt]; rfl] at hW
      exact hW
    · cases h
  · cases h
end
section
/-! CALLS: a callee's contract, in the simulator's words -/
def sm_Pre (D : va_G) (cl : List vw_C) (τ : Nat → ClassId) (B : Nat) (ad : Nat → Nat) (NB : List Cond) (SK : sm_SKt) (XT : State → Heap → Prop) (as : List Value) (M : sm_M) : Array Value → State → Prop := va_Pc (as.map (sm_cv B ad)) (fun U => va_P D cl (sm_w τ B ad 0 M) U.heap ∧ M.length ≤ 1000 ∧ U.heap.size = B + M.length ∧ va_K D cl (sm_tys τ) U ∧ (∀ w ∈ NB, va_Nw w U) ∧ (∀ q ∈ SK, vk_R q.1 q.2.1 q.2.2.1 (sm_rho B ad q.2.2.2) U) ∧ XT U U.heap)
def sm_Post (D : va_G) (cl : List vw_C) (τ : Nat → ClassId) (B : Nat) (ad : Nat → Nat) (M' : sm_M) (r : Option Value) : Array Value → State → Outcome → State → Prop := fun _ st o t => o = .returned (r.map (sm_cv B ad)) ∧ va_P D cl (sm_w τ B ad 0 M') t.heap ∧ M'.length ≤ 1000 ∧ va_F (fun q => B ≤ q) st t
abbrev sm_rm (d : Nat) (M M' : sm_M) : Room := { frames := d, cells := M'.length - M.length, slots := sm_sl M' - sm_sl M, locals := d * 80 }
abbrev sm_HD : Type := List (Nat × MethodName × ByteArray × Nat × Option FieldType)
/-- what calls answer is what the machine's calls answer, in a room of depth d -/
def sm_cok (l : Launch) (D : va_G) (cl : List vw_C) (τ : Nat → ClassId) (B : Nat) (ad : Nat → Nat) (TB NB : List Cond) (SK : sm_SKt) (XT : State → Heap → Prop) (hds : sm_HD) (d : Nat) (cal : Nat → List Value → sm_M → sm_R) : Prop := ∀ y as M M1 v, cal y as M = some (M1, v) → M.length ≤ M1.length ∧ sm_sl M ≤ sm_sl M1 ∧ ∀ yN bytes mL rt, sm_fd hds y = some (yN, bytes, mL, rt) → Met l yN (.code yN bytes mL rt :: TB) (sm_rm d M M1) (sm_Pre D cl τ B ad NB SK XT as M) (sm_Post D cl τ B ad M1 v) (M1.length - M.length) (sm_sl M1 - sm_sl M) (fun q => B ≤ q)
/-- the words that ride along -/
def sm_okE (TB NB : List Cond) (XT : State → Heap → Prop) (B : Nat) : Prop := (∀ w ∈ TB, goodWord w = true) ∧ (∀ w ∈ NB, w.onTables = true ∧ ∀ s U : State, s.WarmedH U.vm → va_Nw w s → va_Nw w U) ∧ (∀ (u U : State) (H : Heap), u.vm.Alike U.vm → XT u H → XT U H) ∧ (∀ (U : State) (H H1 : Heap), (∀ a : Nat, a < H.size → ¬ B ≤ a → H1[a]? = H[a]?) → XT U H → XT U H1)
theorem sm_blind {D : va_G} {cl : List vw_C} {τ : Nat → ClassId} {B : Nat} {ad : Nat → Nat} {TB NB : List Cond} {SK : sm_SKt} {XT : State → Heap → Prop} {as : List Value} {M : sm_M} (hE : sm_okE TB NB XT B) : FrameBlind (sm_Pre D cl τ B ad NB SK XT as M) := by
  intro a U g mk q
  obtain ⟨q0, qP, qm, qz, qK, qN, qS, qX⟩ := q
  exact ⟨q0, qP, qm, qz, va_K.moved (u := U) (U := U.calling g mk a) (Vm.Alike.refl U.vm) qK, fun w hw => va_Nw.same (u := U) (hE.2.1 w hw).1 rfl (qN w hw), fun z hz => vk_R.same (u := U) rfl (qS z hz), hE.2.2.1 U (U.calling g mk a) U.heap (Vm.Alike.refl U.vm) qX⟩
theorem sm_preU {p : Program} {s : State} {m : MethodId} {args : Array Value} {meth : Method} {c : Code} {D : va_G} {cl : List vw_C} {τ : Nat → ClassId} {B : Nat} {ad : Nat → Nat} {TB NB : List Cond} {SK : sm_SKt} {XT : State → Heap → Prop} {m0 : Nat} {mi : sm_MI} {M : sm_M} {H : Heap} {locs : List Loc} (C0 : sm_C p s m args meth c D cl τ B ad TB NB SK XT m0 mi) (hE : sm_okE TB NB XT B) (hP : va_P D cl (sm_w τ B ad 0 M) H) (hm : M.length ≤ 1000) (hz : H.size = B + M.length) (hS : va_S (fun q => B ≤ q) s.heap H locs) (as : List Value) : ∀ U : State, U.heap = H → s.WarmedH U.vm → sm_Pre D cl τ B ad NB SK XT as M (as.map (sm_cv B ad)).toArray U := by
  intro U hU hW
  obtain ⟨-, -, -, -, -, hnb, hK, hsk, hX, -⟩ := C0
  exact ⟨rfl, by rw [hU]; exact hP, hm, by rw [hU]; exact hz, va_K.moved hW.alike hK, fun w hw => (hE.2.1 w hw).2 s U hW (hnb w hw), fun q hq => vk_R.warm hW (hsk q hq), by rw [hU]; exact hE.2.2.1 s U H hW.alike (hE.2.2.2 s s.heap H hS.2.1 hX)⟩
theorem sm_after {p : Program} {l : Launch} {e : Env} {R : Room} {s : State} {m : MethodId} {args : Array Value} {below : List Frame} {meth : Method} {c : Code} {H : Heap} {locs : List Loc} {cells slots mc ms pc : Nat} {Q : State → Prop} {ls : Array Slot} {st0 rest : List Value} {a : Array Value} {D : va_G} {cl : List vw_C} {τ : Nat → ClassId} {B : Nat} {ad : Nat → Nat} {M1 : sm_M} {v : Option Value} (hr : va_Run p l e R s m args below meth c H locs cells slots mc ms (F0 m pc ls st0) rest (sm_Post D cl τ B ad M1 v a) (fun q => B ≤ q)) (hS : va_S (fun q => B ≤ q) s.heap H locs)
    (kk : ∀ (H1 : Heap) (locs1 : List Loc), va_P D cl (sm_w τ B ad 0 M1) H1 → M1.length ≤ 1000 → va_S (fun q => B ≤ q) s.heap H1 locs1 → W p l e R s m args below meth c H1 locs1 (cells + mc) (slots + ms) Q (F0 m (pc + 3) ls ((v.map (sm_cv B ad)).toList ++ rest))) : W p l e R s m args below meth c H locs cells slots Q (F0 m pc ls st0) := by
  intro T hT X
  obtain ⟨v', st₀, t, T', L, h0, X', hL, e1, e2, ⟨hv, hP1, hm1, hz, hk⟩, st⟩ := hr T hT X
  cases hv
  rw [h0] at hz hk
  obtain ⟨t2, a1, b1⟩ := kk T'.heap (locs ++ L) (by rw [e1]; exact hP1) hm1
    ⟨Nat.le_trans hS.1 (by rw [e1]; exact hz), fun q h1 h2 => by rw [e1, hk q (Nat.lt_of_lt_of_le h1 hS.1) h2]; exact hS.2.1 q h1 h2, fun q hq => by
      rcases List.mem_append.mp hq with h | h
      · exact hS.2.2 q h
      · exact hL q h⟩ T' rfl X'
  exact ⟨t2, st t2 a1, b1⟩
def sm_hdk (TB : List Cond) (yN : MethodName) (bytes : ByteArray) (mL : Nat) (rt : Option FieldType) (n : Nat) : Prop := Cond.code yN bytes mL rt ∈ TB ∧ Cond.initialized yN.cls ∈ TB ∧ (yN.cls ≠ "java/lang/invoke/MethodHandle" ∧ yN.cls ≠ "java/lang/invoke/VarHandle" ∧ (parseMethodDescriptor yN.desc).map (fun d => d.parameters.length) = some n) ∧ mL ≤ 61
def sm_lnk (TB NB : List Cond) (own : String) (x : Nat) (yN : MethodName) : Prop := Cond.methodLink own x yN ∈ TB ∨ ∃ host, Cond.methodLinkNest own x yN host ∈ NB
def sm_mth (TB : List Cond) (own : String) (x : Nat) (y : MethodName) (cc : ByteArray) (n : Nat) : Prop := Cond.methodLink own x y ∈ TB ∧ Cond.static y ∈ TB ∧ Cond.initialized "java/lang/Math" ∈ TB ∧ Cond.code y cc n (some .int) ∈ TB
def sm_okM (cl : List vw_C) (TB NB : List Cond) (hds : sm_HD) (mi : sm_MI) : Prop := ∀ x kd y n ci, sm_fd mi.2.2.2.2.2.2.2.1 x = some (kd, y, n, ci) →
  (kd = 0 → ∃ yN bytes mL rt, sm_fd hds y = some (yN, bytes, mL, rt) ∧ sm_hdk TB yN bytes mL rt n ∧ sm_lnk TB NB mi.1.cls x yN ∧ Cond.static yN ∈ TB) ∧
  (kd = 1 → ∃ yN bytes mL rt C T N, sm_fd hds y = some (yN, bytes, mL, rt) ∧ sm_hdk TB yN bytes mL rt n ∧ sm_lnk TB NB mi.1.cls x yN ∧ Cond.instanceMethod yN ∈ TB ∧ Cond.selects C yN yN ∈ TB ∧ cl[ci]? = some (C, T, N)) ∧
  (kd = 2 → ∃ yN bytes mL, sm_fd hds y = some (yN, bytes, mL, none) ∧ sm_hdk TB yN bytes mL none n ∧ sm_lnk TB NB mi.1.cls x yN ∧ Cond.instanceMethod yN ∈ TB ∧ yN.name = "<init>") ∧
  (kd = 3 → Cond.methodLink mi.1.cls x Lib.objectInit ∈ TB ∧ Cond.instanceMethod Lib.objectInit ∈ TB ∧ Cond.code Lib.objectInit ⟨#[0xb1]⟩ 1 none ∈ TB) ∧
  (kd = 4 → ∃ yN bytes mL rt, sm_fd hds y = some (yN, bytes, mL, rt) ∧ sm_hdk TB yN bytes mL rt n ∧ sm_lnk TB NB mi.1.cls x yN ∧ Cond.instanceMethod yN ∈ TB ∧ Cond.selects "java/lang/String" yN yN ∈ TB) ∧
  (kd = 5 → sm_mth TB mi.1.cls x Lib.Math.max.name Lib.Math.max.code 2) ∧ (kd = 6 → sm_mth TB mi.1.cls x Lib.Math.min.name Lib.Math.min.code 2) ∧ (kd = 7 → sm_mth TB mi.1.cls x Lib.Math.abs.name Lib.Math.abs.code 1)
/-- the String constants lie where they should -/
def sm_okR (B : Nat) (ad : Nat → Nat) (XT : State → Heap → Prop) : Prop := ∀ (s : State) (H : Heap), XT s H → ∀ b, 1001 ≤ b → b ≤ 1008 → ∃ cell : Cell, H[sm_rho B ad b]? = some cell ∧ cell.vm.isStatics = false ∧ s.vm.findClass "java/lang/String" = some cell.cls
theorem sm_goodIn {TB : List Cond} (hTB : ∀ w ∈ TB, goodWord w = true) {w0 : Cond} (h0 : w0 ∈ TB) : GoodIn TB (w0 :: TB) := by
  intro w hw
  rcases List.mem_cons.mp hw with rfl | hw
  · exact ⟨h0, good_of_word (hTB _ h0)⟩
  · exact ⟨hw, good_of_word (hTB _ hw)⟩
theorem sm_low_ok {B : Nat} {ad : Nat → Nat} {st : List Value} (h : sm_low st = true) : ((st.map (sm_cv B ad)).map fun v => v.category).sum ≤ 8 := by
  have e : (st.map (sm_cv B ad)).map (fun v => v.category) = st.map (fun v => v.category) := by
    rw [List.map_map]
    exact List.map_congr_left (fun v _ => sm_cv_cat B ad v)
  rw [e]
  exact Nat.le_of_ble_eq_true h
theorem sm_opt_map (B : Nat) (ad : Nat → Nat) (v : Option Value) (r : List Value) : (v.toList ++ r).map (sm_cv B ad) = (v.map (sm_cv B ad)).toList ++ r.map (sm_cv B ad) := by
  cases v <;> rfl
set_option maxHeartbeats 1000000 in
theorem sg_invokestatic {p : Program} {l : Launch} {e : Env} {R : Room} {s : State} {m : MethodId} {args : Array Value} {below : List Frame} {meth : Method} {c : Code} {Q : State → Prop} {D : va_G} {cl : List vw_C} {τ : Nat → ClassId} {B : Nat} {ad : Nat → Nat} {TB NB : List Cond} {SK : sm_SKt} {XT : State → Heap → Prop} {mi : sm_MI} {M' : sm_M} {m0 s0 : Nat} {cal : Nat → List Value → sm_M → sm_R} {sc : Option (Nat × (Nat → Int32))} {k : Nat → sm_L → List Value → sm_M → sm_R} {r : Option Value} {pc : Nat} {L : sm_L} {st : List Value} {M : sm_M} {x : Nat} {hds : sm_HD} {d : Nat} (hcok : sm_cok l D cl τ B ad TB NB SK XT hds d cal) (hE : sm_okE TB NB XT B) (hM : sm_okM cl TB NB hds mi) (hk : ∀ pc L st M, k pc L st M = some (M', r) → M.length ≤ M'.length ∧ sm_sl M ≤ sm_sl M') (hRc : M'.length ≤ R.cells + m0) (hRs : sm_sl M' ≤ R.slots + s0) (hR : d + 1 ≤ R.frames ∧ (d + 1) * 80 ≤ R.locals) (C0 : sm_C p s m args meth c D cl τ B ad TB NB SK XT m0 mi) (ih : ∀ pc L st M, k pc L st M = some (M', r) → sm_G p l e R s m args below meth c Q D cl τ B ad mi.2.2.1 m0 s0 pc L st M) (hd : decode mi.2.1 pc = .ok (.invokestatic x, 3)) (h : sm_ex cal sc mi k pc L st M (.invokestatic x) = some (M', r)) : sm_G p l e R s m args below meth c Q D cl τ B ad mi.2.2.1 m0 s0 pc L st M := by
  have hx := C0.1
  have hb := C0.2.1
  have hml := C0.2.2.1
  have hown := C0.2.2.2.1
  have hts := C0.2.2.2.2.1
  have hnb := C0.2.2.2.2.2.1
  have hK := C0.2.2.2.2.2.2.1
  have h0 := C0.2.2.2.2.2.2.2.2.2.1
  simp only [sm_ex] at h
  split at h
  · rename_i y n ci hf
    split at h
    · rename_i as r0 hpop
      split at h
      · rename_i hlow
        replace h := sm_inv_some h
        obtain ⟨M1, v, hcal, h⟩ := h
        obtain ⟨hl1, hl2, hmet⟩ := hcok _ _ _ _ _ hcal
        obtain ⟨yN, bytes, mL, rt, hh, hhd, hlk, hst⟩ := (hM _ _ _ _ _ hf).1 rfl
        have hMet := hmet _ _ _ _ hh
        obtain ⟨hlen, hst0⟩ := sm_pop_0 hpop
        have hmono := hk _ _ _ _ h
        obtain ⟨hcd, hini, hdd, hmL⟩ := hhd
        intro H locs ls cells slots hP hm hS hLl hL h1 h2
        refine sm_size_le (fun hle => ?_)
        have hz := sm_size hP hm hS h0 h1 hle
        have hpre := sm_preU C0 hE hP hm hz hS as
        have hstk : st.map (sm_cv B ad) = (as.map (sm_cv B ad)).reverse ++ r0.map (sm_cv B ad) := by rw [hst0, List.map_append, List.map_reverse]
        have hrm : (sm_rm d M M1).frames + 1 ≤ R.frames ∧ 8 + (mL + 11) + (sm_rm d M M1).locals ≤ R.locals := ⟨hR.1, by show 8 + (mL + 11) + d * 80 ≤ R.locals; omega⟩
        have hfit : cells + (M1.length - M.length) ≤ R.cells ∧ slots + (sm_sl M1 - sm_sl M) ≤ R.slots := ⟨by omega, by omega⟩
        refine sm_after (D := D) (cl := cl) (τ := τ) (ad := ad) (a := (as.map (sm_cv B ad)).toArray) (rest := r0.map (sm_cv B ad)) (M1 := M1) (v := v) (mc := M1.length - M.length) (ms := sm_sl M1 - sm_sl M) ?_ hS (fun H1 locs1 hP1 hm1 hS1 => ?_)
        · rcases hlk with hlk | ⟨host, hlk⟩
          · exact va_runS (As := as.map (sm_cv B ad)) ⟨hx, hb, hml, hown, hts⟩ hMet ⟨callB_of n hts (sm_goodIn hE.1 hcd) rfl rfl rfl (hts _ hini) (hts _ hlk) hdd hrm, hts _ hst⟩ ⟨sm_blind hE, hpre⟩ rfl (by rw [List.length_map]; exact hlen) hL.1 hstk (lv_room (sm_low_ok hlow)) hd hfit
          · exact va_runSN (As := as.map (sm_cv B ad)) ⟨hx, hb, hml, hown, hts⟩ hMet ⟨va_cnB n hts (sm_goodIn hE.1 hcd) rfl rfl rfl (hnb _ hlk) (hts _ hini) hdd hrm, hts _ hst, trivial⟩ ⟨sm_blind hE, hpre⟩ rfl (by rw [List.length_map]; exact hlen) hL.1 hstk (lv_room (sm_low_ok hlow)) hd hfit
        · have hW := ih _ _ _ _ h H1 locs1 ls (cells + (M1.length - M.length)) (slots + (sm_sl M1 - sm_sl M)) hP1 hm1 hS1 hLl hL (by omega) (by omega)
          rw [sm_opt_map] at hW
          exact hW
      · cases h
    · cases h
  · rename_i hf
    obtain ⟨hw1, hw2, hw3, hw4⟩ := (hM _ _ _ _ _ hf).2.2.2.2.2.1 rfl
    replace h := sm_i2_some h
    obtain ⟨x1, y1, r0, rfl, h⟩ := h
    split at h
    · rename_i hlow
      have hlw := sm_low_ok (B := B) (ad := ad) hlow
      have hmono := hk _ _ _ _ h
      intro H locs ls cells slots hP hm hS hLl hL h1 h2
      refine va_mmax hx hb (by rw [hml]; exact hL.1.symm) hown (hts _ hw1) (hts _ hw2) (hts _ hw3) (hts _ hw4) (by omega) (by omega) (by omega) (by omega) hd ?_
      exact ih _ _ _ _ h H locs ls cells slots hP hm hS hLl hL h1 h2
    · cases h
  · rename_i hf
    obtain ⟨hw1, hw2, hw3, hw4⟩ := (hM _ _ _ _ _ hf).2.2.2.2.2.2.1 rfl
    replace h := sm_i2_some h
    obtain ⟨x1, y1, r0, rfl, h⟩ := h
    split at h
    · rename_i hlow
      have hlw := sm_low_ok (B := B) (ad := ad) hlow
      have hmono := hk _ _ _ _ h
      intro H locs ls cells slots hP hm hS hLl hL h1 h2
      refine va_mmin hx hb (by rw [hml]; exact hL.1.symm) hown (hts _ hw1) (hts _ hw2) (hts _ hw3) (hts _ hw4) (by omega) (by omega) (by omega) (by omega) hd ?_
      exact ih _ _ _ _ h H locs ls cells slots hP hm hS hLl hL h1 h2
    · cases h
  · rename_i hf
    obtain ⟨hw1, hw2, hw3, hw4⟩ := (hM _ _ _ _ _ hf).2.2.2.2.2.2.2 rfl
    replace h := sm_i1_some h
    obtain ⟨x1, r0, rfl, h⟩ := h
    split at h
    · rename_i hlow
      have hlw := sm_low_ok (B := B) (ad := ad) hlow
      have hmono := hk _ _ _ _ h
      intro H locs ls cells slots hP hm hS hLl hL h1 h2
      refine va_mabs hx hb (by rw [hml]; exact hL.1.symm) hown (hts _ hw1) (hts _ hw2) (hts _ hw3) (hts _ hw4) (by omega) (by omega) (by omega) (by omega) hd ?_
      exact ih _ _ _ _ h H locs ls cells slots hP hm hS hLl hL h1 h2
    · cases h
  · cases h
set_option maxHeartbeats 1000000 in
theorem sg_invokevirtual {p : Program} {l : Launch} {e : Env} {R : Room} {s : State} {m : MethodId} {args : Array Value} {below : List Frame} {meth : Method} {c : Code} {Q : State → Prop} {D : va_G} {cl : List vw_C} {τ : Nat → ClassId} {B : Nat} {ad : Nat → Nat} {TB NB : List Cond} {SK : sm_SKt} {XT : State → Heap → Prop} {mi : sm_MI} {M' : sm_M} {m0 s0 : Nat} {cal : Nat → List Value → sm_M → sm_R} {sc : Option (Nat × (Nat → Int32))} {k : Nat → sm_L → List Value → sm_M → sm_R} {r : Option Value} {pc : Nat} {L : sm_L} {st : List Value} {M : sm_M} {x : Nat} (hXR : sm_okR B ad XT) {hds : sm_HD} {d : Nat} (hcok : sm_cok l D cl τ B ad TB NB SK XT hds d cal) (hE : sm_okE TB NB XT B) (hM : sm_okM cl TB NB hds mi) (hk : ∀ pc L st M, k pc L st M = some (M', r) → M.length ≤ M'.length ∧ sm_sl M ≤ sm_sl M') (hRc : M'.length ≤ R.cells + m0) (hRs : sm_sl M' ≤ R.slots + s0) (hR : d + 1 ≤ R.frames ∧ (d + 1) * 80 ≤ R.locals) (C0 : sm_C p s m args meth c D cl τ B ad TB NB SK XT m0 mi) (ih : ∀ pc L st M, k pc L st M = some (M', r) → sm_G p l e R s m args below meth c Q D cl τ B ad mi.2.2.1 m0 s0 pc L st M) (hd : decode mi.2.1 pc = .ok (.invokevirtual x, 3)) (h : sm_ex cal sc mi k pc L st M (.invokevirtual x) = some (M', r)) : sm_G p l e R s m args below meth c Q D cl τ B ad mi.2.2.1 m0 s0 pc L st M := by
  have hx := C0.1
  have hb := C0.2.1
  have hml := C0.2.2.1
  have hown := C0.2.2.2.1
  have hts := C0.2.2.2.2.1
  have hnb := C0.2.2.2.2.2.1
  have hK := C0.2.2.2.2.2.2.1
  have h0 := C0.2.2.2.2.2.2.2.2.2.1
  simp only [sm_ex] at h
  split at h
  · rename_i y n ci hf
    split at h
    · rename_i as b r0 hpop
      split at h
      · rename_i hlow
        replace h := sm_obj_some h
        obtain ⟨cj, fs, hg, h⟩ := h
        split at h
        · rename_i hbq
          have hcj := Nat.eq_of_beq_eq_true hbq
          subst hcj
          replace h := sm_inv_some h
          obtain ⟨M1, v, hcal, h⟩ := h
          obtain ⟨hl1, hl2, hmet⟩ := hcok _ _ _ _ _ hcal
          obtain ⟨yN, bytes, mL, rt, C, T, N, hh, hhd, hlk, hst, hsel, hcl⟩ := (hM _ _ _ _ _ hf).2.1 rfl
          have hMet := hmet _ _ _ _ hh
          obtain ⟨hlen, hst0⟩ := sm_pop_0 hpop
          have hmono := hk _ _ _ _ h
          obtain ⟨hcd, hini, hdd, hmL⟩ := hhd
          intro H locs ls cells slots hP hm hS hLl hL h1 h2
          refine sm_size_le (fun hle => ?_)
          have hz := sm_size hP hm hS h0 h1 hle
          have hpre := sm_preU C0 hE hP hm hz hS (.ref b :: as)
          have hstk : st.map (sm_cv B ad) = (as.map (sm_cv B ad)).reverse ++ .ref (sm_rho B ad b) :: r0.map (sm_cv B ad) := by rw [hst0, List.map_append, List.map_reverse]; rfl
          have hrm : (sm_rm d M M1).frames + 1 ≤ R.frames ∧ 8 + (mL + 11) + (sm_rm d M M1).locals ≤ R.locals := ⟨hR.1, by show 8 + (mL + 11) + d * 80 ≤ R.locals; omega⟩
          have hfit : cells + (M1.length - M.length) ≤ R.cells ∧ slots + (sm_sl M1 - sm_sl M) ≤ R.slots := ⟨by omega, by omega⟩
          refine sm_after (D := D) (cl := cl) (τ := τ) (ad := ad) (a := ((.ref b :: as).map (sm_cv B ad)).toArray) (rest := r0.map (sm_cv B ad)) (M1 := M1) (v := v) (mc := M1.length - M.length) (ms := sm_sl M1 - sm_sl M) ?_ hS (fun H1 locs1 hP1 hm1 hS1 => ?_)
          · have hrc := va_recv hK hP hcl (sm_w_at hg)
            rcases hlk with hlk | ⟨host, hlk⟩
            · exact va_runV (As := as.map (sm_cv B ad)) (b := sm_rho B ad b) (C := C) ⟨hx, hb, hml, hown, hts⟩ hMet ⟨callB_of n hts (sm_goodIn hE.1 hcd) rfl rfl rfl (hts _ hini) (hts _ hlk) hdd hrm, hts _ hst, hts _ hsel⟩ ⟨sm_blind hE, hrc, hpre⟩ rfl (by rw [List.length_map]; exact hlen) hL.1 hstk (lv_room (sm_low_ok hlow)) hd hfit
            · exact va_runVN (As := as.map (sm_cv B ad)) (b := sm_rho B ad b) (C := C) ⟨hx, hb, hml, hown, hts⟩ hMet ⟨va_cnB n hts (sm_goodIn hE.1 hcd) rfl rfl rfl (hnb _ hlk) (hts _ hini) hdd hrm, hts _ hst, hts _ hsel⟩ ⟨sm_blind hE, hrc, hpre⟩ rfl (by rw [List.length_map]; exact hlen) hL.1 hstk (lv_room (sm_low_ok hlow)) hd hfit
          · have hW := ih _ _ _ _ h H1 locs1 ls (cells + (M1.length - M.length)) (slots + (sm_sl M1 - sm_sl M)) hP1 hm1 hS1 hLl hL (by omega) (by omega)
            rw [sm_opt_map] at hW
            exact hW
        · cases h
      · cases h
    · cases h
  · rename_i y n ci hf
    split at h
    · rename_i as b r0 hpop
      split at h
      · rename_i hlow0
        simp only [Bool.and_eq_true] at hlow0
        obtain ⟨hlow, hbb1, hbb2⟩ := hlow0
        have hb1 : 1001 ≤ b := Nat.le_of_ble_eq_true hbb1
        have hb2 : b ≤ 1008 := Nat.le_of_ble_eq_true hbb2
        replace h := sm_inv_some h
        obtain ⟨M1, v, hcal, h⟩ := h
        obtain ⟨hl1, hl2, hmet⟩ := hcok _ _ _ _ _ hcal
        obtain ⟨yN, bytes, mL, rt, hh, hhd, hlk, hst, hsel⟩ := (hM _ _ _ _ _ hf).2.2.2.2.1 rfl
        have hMet := hmet _ _ _ _ hh
        obtain ⟨hlen, hst0⟩ := sm_pop_0 hpop
        have hmono := hk _ _ _ _ h
        obtain ⟨hcd, hini, hdd, hmL⟩ := hhd
        intro H locs ls cells slots hP hm hS hLl hL h1 h2
        refine sm_size_le (fun hle => ?_)
        have hz := sm_size hP hm hS h0 h1 hle
        have hpre := sm_preU C0 hE hP hm hz hS (.ref b :: as)
        have hstk : st.map (sm_cv B ad) = (as.map (sm_cv B ad)).reverse ++ .ref (sm_rho B ad b) :: r0.map (sm_cv B ad) := by rw [hst0, List.map_append, List.map_reverse]; rfl
        have hrm : (sm_rm d M M1).frames + 1 ≤ R.frames ∧ 8 + (mL + 11) + (sm_rm d M M1).locals ≤ R.locals := ⟨hR.1, by show 8 + (mL + 11) + d * 80 ≤ R.locals; omega⟩
        have hfit : cells + (M1.length - M.length) ≤ R.cells ∧ slots + (sm_sl M1 - sm_sl M) ≤ R.slots := ⟨by omega, by omega⟩
        refine sm_after (D := D) (cl := cl) (τ := τ) (ad := ad) (a := ((.ref b :: as).map (sm_cv B ad)).toArray) (rest := r0.map (sm_cv B ad)) (M1 := M1) (v := v) (mc := M1.length - M.length) (ms := sm_sl M1 - sm_sl M) ?_ hS (fun H1 locs1 hP1 hm1 hS1 => ?_)
        · have hrc := hXR s H (hE.2.2.2 s s.heap H hS.2.1 C0.2.2.2.2.2.2.2.2.1) b hb1 hb2
          let C := "java/lang/String"
          rcases hlk with hlk | ⟨host, hlk⟩
          · exact va_runV (As := as.map (sm_cv B ad)) (b := sm_rho B ad b) (C := C) ⟨hx, hb, hml, hown, hts⟩ hMet ⟨callB_of n hts (sm_goodIn hE.1 hcd) rfl rfl rfl (hts _ hini) (hts _ hlk) hdd hrm, hts _ hst, hts _ hsel⟩ ⟨sm_blind hE, hrc, hpre⟩ rfl (by rw [List.length_map]; exact hlen) hL.1 hstk (lv_room (sm_low_ok hlow)) hd hfit
          · exact va_runVN (As := as.map (sm_cv B ad)) (b := sm_rho B ad b) (C := C) ⟨hx, hb, hml, hown, hts⟩ hMet ⟨va_cnB n hts (sm_goodIn hE.1 hcd) rfl rfl rfl (hnb _ hlk) (hts _ hini) hdd hrm, hts _ hst, hts _ hsel⟩ ⟨sm_blind hE, hrc, hpre⟩ rfl (by rw [List.length_map]; exact hlen) hL.1 hstk (lv_room (sm_low_ok hlow)) hd hfit
        · have hW := ih _ _ _ _ h H1 locs1 ls (cells + (M1.length - M.length)) (slots + (sm_sl M1 - sm_sl M)) hP1 hm1 hS1 hLl hL (by omega) (by omega)
          rw [sm_opt_map] at hW
          exact hW
      · cases h
    · cases h
  · cases h
set_option maxHeartbeats 1000000 in
theorem sg_invokespecial {p : Program} {l : Launch} {e : Env} {R : Room} {s : State} {m : MethodId} {args : Array Value} {below : List Frame} {meth : Method} {c : Code} {Q : State → Prop} {D : va_G} {cl : List vw_C} {τ : Nat → ClassId} {B : Nat} {ad : Nat → Nat} {TB NB : List Cond} {SK : sm_SKt} {XT : State → Heap → Prop} {mi : sm_MI} {M' : sm_M} {m0 s0 : Nat} {cal : Nat → List Value → sm_M → sm_R} {sc : Option (Nat × (Nat → Int32))} {k : Nat → sm_L → List Value → sm_M → sm_R} {r : Option Value} {pc : Nat} {L : sm_L} {st : List Value} {M : sm_M} {x : Nat} {hds : sm_HD} {d : Nat} (hcok : sm_cok l D cl τ B ad TB NB SK XT hds d cal) (hE : sm_okE TB NB XT B) (hM : sm_okM cl TB NB hds mi) (hk : ∀ pc L st M, k pc L st M = some (M', r) → M.length ≤ M'.length ∧ sm_sl M ≤ sm_sl M') (hRc : M'.length ≤ R.cells + m0) (hRs : sm_sl M' ≤ R.slots + s0) (hR : d + 1 ≤ R.frames ∧ (d + 1) * 80 ≤ R.locals) (C0 : sm_C p s m args meth c D cl τ B ad TB NB SK XT m0 mi) (ih : ∀ pc L st M, k pc L st M = some (M', r) → sm_G p l e R s m args below meth c Q D cl τ B ad mi.2.2.1 m0 s0 pc L st M) (hd : decode mi.2.1 pc = .ok (.invokespecial x, 3)) (h : sm_ex cal sc mi k pc L st M (.invokespecial x) = some (M', r)) : sm_G p l e R s m args below meth c Q D cl τ B ad mi.2.2.1 m0 s0 pc L st M := by
  have hx := C0.1
  have hb := C0.2.1
  have hml := C0.2.2.1
  have hown := C0.2.2.2.1
  have hts := C0.2.2.2.2.1
  have hnb := C0.2.2.2.2.2.1
  have hK := C0.2.2.2.2.2.2.1
  have h0 := C0.2.2.2.2.2.2.2.2.2.1
  simp only [sm_ex] at h
  split at h
  · rename_i y n ci hf
    split at h
    · rename_i as b r0 hpop
      split at h
      · rename_i hlow
        replace h := sm_inv_some h
        obtain ⟨M1, v, hcal, h⟩ := h
        obtain ⟨hl1, hl2, hmet⟩ := hcok _ _ _ _ _ hcal
        obtain ⟨yN, bytes, mL, hh, hhd, hlk, hst, hnm⟩ := (hM _ _ _ _ _ hf).2.2.1 rfl
        have hMet := hmet _ _ _ _ hh
        obtain ⟨hlen, hst0⟩ := sm_pop_0 hpop
        have hmono := hk _ _ _ _ h
        obtain ⟨hcd, hini, hdd, hmL⟩ := hhd
        intro H locs ls cells slots hP hm hS hLl hL h1 h2
        refine sm_size_le (fun hle => ?_)
        have hz := sm_size hP hm hS h0 h1 hle
        have hpre := sm_preU C0 hE hP hm hz hS (.ref b :: as)
        have hstk : st.map (sm_cv B ad) = (as.map (sm_cv B ad)).reverse ++ .ref (sm_rho B ad b) :: r0.map (sm_cv B ad) := by rw [hst0, List.map_append, List.map_reverse]; rfl
        have hrm : (sm_rm d M M1).frames + 1 ≤ R.frames ∧ 8 + (mL + 11) + (sm_rm d M M1).locals ≤ R.locals := ⟨hR.1, by show 8 + (mL + 11) + d * 80 ≤ R.locals; omega⟩
        have hfit : cells + (M1.length - M.length) ≤ R.cells ∧ slots + (sm_sl M1 - sm_sl M) ≤ R.slots := ⟨by omega, by omega⟩
        refine sm_after (D := D) (cl := cl) (τ := τ) (ad := ad) (a := ((.ref b :: as).map (sm_cv B ad)).toArray) (rest := r0.map (sm_cv B ad)) (M1 := M1) (v := v) (mc := M1.length - M.length) (ms := sm_sl M1 - sm_sl M) ?_ hS (fun H1 locs1 hP1 hm1 hS1 => ?_)
        · rcases hlk with hlk | ⟨host, hlk⟩
          · exact va_runI (As := as.map (sm_cv B ad)) (b := sm_rho B ad b) ⟨hx, hb, hml, hown, hts⟩ hMet ⟨callB_of n hts (sm_goodIn hE.1 hcd) rfl rfl rfl (hts _ hini) (hts _ hlk) hdd hrm, hnm, hts _ hst⟩ ⟨sm_blind hE, hpre⟩ rfl (by rw [List.length_map]; exact hlen) hL.1 hstk (lv_room (sm_low_ok hlow)) hd hfit
          · exact va_runIN (As := as.map (sm_cv B ad)) (b := sm_rho B ad b) ⟨hx, hb, hml, hown, hts⟩ hMet ⟨va_cnB n hts (sm_goodIn hE.1 hcd) rfl rfl rfl (hnb _ hlk) (hts _ hini) hdd hrm, hnm, hts _ hst⟩ ⟨sm_blind hE, hpre⟩ rfl (by rw [List.length_map]; exact hlen) hL.1 hstk (lv_room (sm_low_ok hlow)) hd hfit
        · have hW := ih _ _ _ _ h H1 locs1 ls (cells + (M1.length - M.length)) (slots + (sm_sl M1 - sm_sl M)) hP1 hm1 hS1 hLl hL (by omega) (by omega)
          rw [sm_opt_map] at hW
          exact hW
      · cases h
    · cases h
  · rename_i hf
    obtain ⟨hw1, hw2, hw3⟩ := (hM _ _ _ _ _ hf).2.2.2.1 rfl
    replace h := sm_r1_some h
    obtain ⟨a, r0, rfl, h⟩ := h
    split at h
    · rename_i hlow
      have hlw := sm_low_ok (B := B) (ad := ad) hlow
      intro H locs ls cells slots hP hm hS hLl hL h1 h2
      refine W.objInit hx hb hown (hts _ hw1) (hts _ hw2) (hts _ hw3) rfl (by rw [hml]; exact hL.1) rfl hd (by omega) (by show 2 * 0 + _ + 12 ≤ R.locals; omega) ?_
      exact ih _ _ _ _ h H locs ls cells slots hP hm hS hLl hL h1 h2
    · cases h
  · cases h
end
section
/-! THE SIMULATOR IS SOUND: a method's run, a call -/
def sm_okT (mi : sm_MI) : Prop := ∀ pc i, sm_fd mi.2.2.2.2.1 pc = some i → ∃ len, decode mi.2.1 pc = .ok (i, len) ∧ (len = sm_ln i ∨ sm_ln i = 0)
def sm_ok (cl : List vw_C) (TB NB : List Cond) (SK : sm_SKt) (hds : sm_HD) (mi : sm_MI) : Prop := sm_okT mi ∧ sm_okF cl TB NB mi ∧ sm_okM cl TB NB hds mi ∧ sm_okK TB SK mi ∧ sm_okN cl TB mi
/-- at a method's end -/
def sm_End (p : Program) (l : Launch) (e : Env) (R : Room) (s : State) (m : MethodId) (args : Array Value) (below : List Frame) (meth : Method) (c : Code) (Q : State → Prop) (D : va_G) (cl : List vw_C) (τ : Nat → ClassId) (B : Nat) (ad : Nat → Nat) (mi : sm_MI) (m0 s0 : Nat) (M' : sm_M) (r : Option Value) : Prop :=
  ∀ (pc : Nat) (i : Instr) (H : Heap) (locs : List Loc) (ls : Array Slot) (cells slots : Nat), decode mi.2.1 pc = .ok (i, 1) → sm_rk mi.2.2.2.1 i r → va_P D cl (sm_w τ B ad 0 M') H → M'.length ≤ 1000 → va_S (fun q => B ≤ q) s.heap H locs → cells + m0 = M'.length → slots + s0 = sm_sl M' → W p l e R s m args below meth c H locs cells slots Q (F0 m pc ls (r.map (sm_cv B ad)).toList)
set_option maxHeartbeats 4000000 in
theorem sm_step {p : Program} {l : Launch} {e : Env} {R : Room} {s : State} {m : MethodId} {args : Array Value} {below : List Frame} {meth : Method} {c : Code} {Q : State → Prop} {D : va_G} {cl : List vw_C} {τ : Nat → ClassId} {B : Nat} {ad : Nat → Nat} {TB NB : List Cond} {SK : sm_SKt} {XT : State → Heap → Prop} {mi : sm_MI} {M' : sm_M} {m0 s0 : Nat} {cal : Nat → List Value → sm_M → sm_R} {sc : Option (Nat × (Nat → Int32))} {k : Nat → sm_L → List Value → sm_M → sm_R} {r : Option Value} {pc : Nat} {L : sm_L} {st : List Value} {M : sm_M} {hds : sm_HD} {d : Nat} {i : Instr} {len : Nat} (C0 : sm_C p s m args meth c D cl τ B ad TB NB SK XT m0 mi) (ok : sm_ok cl TB NB SK hds mi) (hE : sm_okE TB NB XT B) (hXR : sm_okR B ad XT) (hsc : sm_okX B ad s sc) (hAI : Cond.arrayClass .int ∈ TB) (hAL : Cond.arrayClass .long ∈ TB) (hcok : sm_cok l D cl τ B ad TB NB SK XT hds d cal) (hk : ∀ pc L st M, k pc L st M = some (M', r) → M.length ≤ M'.length ∧ sm_sl M ≤ sm_sl M') (hRc : M'.length ≤ R.cells + m0) (hRs : sm_sl M' ≤ R.slots + s0) (hR : d + 1 ≤ R.frames ∧ (d + 1) * 80 ≤ R.locals) (hK : sm_End p l e R s m args below meth c Q D cl τ B ad mi m0 s0 M' r) (ih : ∀ pc L st M, k pc L st M = some (M', r) → sm_G p l e R s m args below meth c Q D cl τ B ad mi.2.2.1 m0 s0 pc L st M) (hd : decode mi.2.1 pc = .ok (i, len)) (hln : len = sm_ln i ∨ sm_ln i = 0) (h : sm_ex cal sc mi k pc L st M i = some (M', r)) : sm_G p l e R s m args below meth c Q D cl τ B ad mi.2.2.1 m0 s0 pc L st M := by
  have hNB : ∀ w ∈ NB, w.onTables = true := fun w hw => (hE.2.1 w hw).1
  cases i with
  | iconst n => exact sg_iconst C0 ih (sm_dl hd hln 1 rfl (by decide)) h
  | bipush n => exact sg_bipush C0 ih (sm_dl hd hln 2 rfl (by decide)) h
  | sipush n => exact sg_sipush C0 ih (sm_dl hd hln 3 rfl (by decide)) h
  | lconst n => exact sg_lconst C0 ih (sm_dl hd hln 1 rfl (by decide)) h
  | iload_n j => exact sg_iload_n C0 ih (sm_dl hd hln 1 rfl (by decide)) h
  | iload j => exact sg_iload C0 ih (sm_dl hd hln 2 rfl (by decide)) h
  | lload_n j => exact sg_lload_n C0 ih (sm_dl hd hln 1 rfl (by decide)) h
  | lload j => exact sg_lload C0 ih (sm_dl hd hln 2 rfl (by decide)) h
  | aload_n j => exact sg_aload_n C0 ih (sm_dl hd hln 1 rfl (by decide)) h
  | aload j => exact sg_aload C0 ih (sm_dl hd hln 2 rfl (by decide)) h
  | istore_n j => exact sg_istore_n C0 ih (sm_dl hd hln 1 rfl (by decide)) h
  | istore j => exact sg_istore C0 ih (sm_dl hd hln 2 rfl (by decide)) h
  | lstore_n j => exact sg_lstore_n C0 ih (sm_dl hd hln 1 rfl (by decide)) h
  | lstore j => exact sg_lstore C0 ih (sm_dl hd hln 2 rfl (by decide)) h
  | astore_n j => exact sg_astore_n C0 ih (sm_dl hd hln 1 rfl (by decide)) h
  | astore j => exact sg_astore C0 ih (sm_dl hd hln 2 rfl (by decide)) h
  | iinc j n => exact sg_iinc C0 ih (sm_dl hd hln 3 rfl (by decide)) h
  | iadd => exact sg_iadd C0 ih (sm_dl hd hln 1 rfl (by decide)) h
  | isub => exact sg_isub C0 ih (sm_dl hd hln 1 rfl (by decide)) h
  | imul => exact sg_imul C0 ih (sm_dl hd hln 1 rfl (by decide)) h
  | iand => exact sg_iand C0 ih (sm_dl hd hln 1 rfl (by decide)) h
  | ior => exact sg_ior C0 ih (sm_dl hd hln 1 rfl (by decide)) h
  | ixor => exact sg_ixor C0 ih (sm_dl hd hln 1 rfl (by decide)) h
  | ishl => exact sg_ishl C0 ih (sm_dl hd hln 1 rfl (by decide)) h
  | ishr => exact sg_ishr C0 ih (sm_dl hd hln 1 rfl (by decide)) h
  | iushr => exact sg_iushr C0 ih (sm_dl hd hln 1 rfl (by decide)) h
  | idiv => exact sg_idiv C0 ih (sm_dl hd hln 1 rfl (by decide)) h
  | irem => exact sg_irem C0 ih (sm_dl hd hln 1 rfl (by decide)) h
  | ineg => exact sg_ineg C0 ih (sm_dl hd hln 1 rfl (by decide)) h
  | ladd => exact sg_ladd C0 ih (sm_dl hd hln 1 rfl (by decide)) h
  | lsub => exact sg_lsub C0 ih (sm_dl hd hln 1 rfl (by decide)) h
  | land => exact sg_land C0 ih (sm_dl hd hln 1 rfl (by decide)) h
  | lor => exact sg_lor C0 ih (sm_dl hd hln 1 rfl (by decide)) h
  | lxor => exact sg_lxor C0 ih (sm_dl hd hln 1 rfl (by decide)) h
  | lshl => exact sg_lshl C0 ih (sm_dl hd hln 1 rfl (by decide)) h
  | lshr => exact sg_lshr C0 ih (sm_dl hd hln 1 rfl (by decide)) h
  | lushr => exact sg_lushr C0 ih (sm_dl hd hln 1 rfl (by decide)) h
  | lcmp => exact sg_lcmp C0 ih (sm_dl hd hln 1 rfl (by decide)) h
  | i2l => exact sg_i2l C0 ih (sm_dl hd hln 1 rfl (by decide)) h
  | l2i => exact sg_l2i C0 ih (sm_dl hd hln 1 rfl (by decide)) h
  | dup => exact sg_dup C0 ih (sm_dl hd hln 1 rfl (by decide)) h
  | dup2 => exact sg_dup2 C0 ih (sm_dl hd hln 1 rfl (by decide)) h
  | goto off => exact sg_goto C0 ih (sm_dl hd hln 3 rfl (by decide)) h
  | ifCond cd off => exact sg_ifCond C0 ih (sm_dl hd hln 3 rfl (by decide)) h
  | if_icmp cd off => exact sg_if_icmp C0 ih (sm_dl hd hln 3 rfl (by decide)) h
  | laload => exact sg_laload C0 ih (sm_dl hd hln 1 rfl (by decide)) h
  | iastore => exact sg_iastore C0 ih (sm_dl hd hln 1 rfl (by decide)) h
  | lastore => exact sg_lastore C0 ih (sm_dl hd hln 1 rfl (by decide)) h
  | ldc x => exact sg_ldc ok.2.2.2.1 C0 ih (sm_dl hd hln 2 rfl (by decide)) h
  | ldc_w x => exact sg_ldc_w ok.2.2.2.1 C0 ih (sm_dl hd hln 3 rfl (by decide)) h
  | ldc2_w x => exact sg_ldc2_w ok.2.2.2.1 C0 ih (sm_dl hd hln 3 rfl (by decide)) h
  | getfield x => exact sg_getfield ok.2.1 hNB C0 ih (sm_dl hd hln 3 rfl (by decide)) h
  | putfield x => exact sg_putfield ok.2.1 hNB C0 ih (sm_dl hd hln 3 rfl (by decide)) h
  | iaload => exact sg_iaload hsc C0 ih (sm_dl hd hln 1 rfl (by decide)) h
  | arraylength => exact sg_arraylength hsc C0 ih (sm_dl hd hln 1 rfl (by decide)) h
  | newarray t => exact sg_newarray hAI hAL hk hRc hRs C0 ih (sm_dl hd hln 2 rfl (by decide)) h
  | new x => exact sg_new ok.2.2.2.2 hk hRc hRs C0 ih (sm_dl hd hln 3 rfl (by decide)) h
  | invokestatic x => exact sg_invokestatic hcok hE ok.2.2.1 hk hRc hRs hR C0 ih (sm_dl hd hln 3 rfl (by decide)) h
  | invokespecial x => exact sg_invokespecial hcok hE ok.2.2.1 hk hRc hRs hR C0 ih (sm_dl hd hln 3 rfl (by decide)) h
  | invokevirtual x => exact sg_invokevirtual hXR hcok hE ok.2.2.1 hk hRc hRs hR C0 ih (sm_dl hd hln 3 rfl (by decide)) h
  | tableswitch dflt lo hi offs => exact sg_tableswitch hd C0 ih h
  | lookupswitch dflt ps => exact sg_lookupswitch hd C0 ih h
  | ireturn =>
    replace h := sm_i1_some h
    obtain ⟨x, r0, rfl, h⟩ := h
    split at h
    · rename_i hz
      replace h := sm_ret_some h
      obtain ⟨rfl, h⟩ := h
      cases h
      intro H locs ls cells slots hP hm hS hLl hL h1 h2
      exact hK pc _ H locs ls cells slots (sm_dl hd hln 1 rfl (by decide)) (Or.inl ⟨rfl, x, rfl, hz⟩) hP hm hS h1 h2
    · cases h
  | lreturn =>
    replace h := sm_l1_some h
    obtain ⟨x, r0, rfl, h⟩ := h
    split at h
    · rename_i hz
      replace h := sm_ret_some h
      obtain ⟨rfl, h⟩ := h
      cases h
      intro H locs ls cells slots hP hm hS hLl hL h1 h2
      exact hK pc _ H locs ls cells slots (sm_dl hd hln 1 rfl (by decide)) (Or.inr (Or.inl ⟨rfl, x, rfl, hz⟩)) hP hm hS h1 h2
    · cases h
  | return_ =>
    simp only [sm_ex] at h
    split at h
    · rename_i hz
      replace h := sm_ret_some h
      obtain ⟨rfl, h⟩ := h
      cases h
      intro H locs ls cells slots hP hm hS hLl hL h1 h2
      exact hK pc _ H locs ls cells slots (sm_dl hd hln 1 rfl (by decide)) (Or.inr (Or.inr ⟨rfl, rfl, hz⟩)) hP hm hS h1 h2
    · cases h
  | _ => exact absurd (show (none : sm_R) = some (M', r) from h) (by simp)
set_option maxHeartbeats 1000000 in
theorem sm_run_ok {p : Program} {l : Launch} {e : Env} {R : Room} {s : State} {m : MethodId} {args : Array Value} {below : List Frame} {meth : Method} {c : Code} {Q : State → Prop} {D : va_G} {cl : List vw_C} {τ : Nat → ClassId} {B : Nat} {ad : Nat → Nat} {TB NB : List Cond} {SK : sm_SKt} {XT : State → Heap → Prop} {mi : sm_MI} {M' : sm_M} {m0 s0 : Nat} {cal : Nat → List Value → sm_M → sm_R} {sc : Option (Nat × (Nat → Int32))} {r : Option Value} {hds : sm_HD} {d : Nat} (C0 : sm_C p s m args meth c D cl τ B ad TB NB SK XT m0 mi) (ok : sm_ok cl TB NB SK hds mi) (hE : sm_okE TB NB XT B) (hXR : sm_okR B ad XT) (hsc : sm_okX B ad s sc) (hAI : Cond.arrayClass .int ∈ TB) (hAL : Cond.arrayClass .long ∈ TB) (hcok : sm_cok l D cl τ B ad TB NB SK XT hds d cal) (hRc : M'.length ≤ R.cells + m0) (hRs : sm_sl M' ≤ R.slots + s0) (hR : d + 1 ≤ R.frames ∧ (d + 1) * 80 ≤ R.locals) (hK : sm_End p l e R s m args below meth c Q D cl τ B ad mi m0 s0 M' r) : ∀ (n pc : Nat) (L : sm_L) (st : List Value) (M : sm_M), sm_run cal sc mi n pc L st M = some (M', r) → sm_G p l e R s m args below meth c Q D cl τ B ad mi.2.2.1 m0 s0 pc L st M := by
  intro n
  induction n with
  | zero => intro pc L st M h; cases h
  | succ n ih =>
    intro pc L st M h
    simp only [sm_run] at h
    split at h
    · cases h
    · rename_i i hi
      obtain ⟨len, hd, hln⟩ := ok.1 _ _ hi
      have hG := sm_step C0 ok hE hXR hsc hAI hAL hcok (sm_run_mono (fun y as M M1 v hc => ⟨(hcok y as M M1 v hc).1, (hcok y as M M1 v hc).2.1⟩) n) hRc hRs hR hK ih hd hln h
      intro H locs ls cells slots hP hm hS hLl hL h1 h2
      exact hG H locs ls cells slots hP hm hS (by rw [sm_kp_len]; exact hLl) (sm_has_kp hL) h1 h2
theorem sm_pad_len : ∀ (n : Nat) (L : sm_L), (sm_pad n L).length = n := by
  intro n
  induction n with
  | zero => intro L; rfl
  | succ n ih => intro L; cases L <;> simp [sm_pad, ih]
theorem sm_al_none {B : Nat} {ad : Nat → Nat} {q : Nat × Value} : ∀ (n j : Nat), ¬ q ∈ sm_al B ad j (sm_pad n []) := by
  intro n
  induction n with
  | zero => intro j h; cases h
  | succ n ih => intro j h; exact ih (j + 1) h
theorem sm_al_ent {B : Nat} {ad : Nat → Nat} {q : Nat × Value} : ∀ (as : List Value) (n j : Nat), q ∈ sm_al B ad j (sm_pad n (sm_ent as)) → q ∈ lv_args j (as.map (sm_cv B ad)) := by
  intro as
  induction as with
  | nil => intro n j h; exact absurd h (sm_al_none n j)
  | cons v t ih =>
    intro n j h
    have hc : (sm_cv B ad v).category = v.category := sm_cv_cat B ad v
    cases hv : sm_is2 (some v) with
    | true =>
      have hc2 : v.category = 2 := by cases v <;> first | rfl | cases hv
      rw [show sm_ent (v :: t) = some v :: none :: sm_ent t from by simp only [sm_ent, hv]] at h
      cases n with
      | zero => cases h
      | succ n =>
        rcases List.mem_cons.mp (show q ∈ (j, sm_cv B ad v) :: sm_al B ad (j + 1) (sm_pad n (none :: sm_ent t)) from h) with h | h
        · rw [h]; simp [lv_args]
        · cases n with
          | zero => cases h
          | succ n =>
            have h2 := ih n (j + 2) h
            simp only [List.map_cons, lv_args, hc, hc2]
            exact List.mem_cons_of_mem _ h2
    | false =>
      have hc1 : v.category = 1 := by cases v <;> first | rfl | cases hv
      rw [show sm_ent (v :: t) = some v :: sm_ent t from by simp only [sm_ent, hv]] at h
      cases n with
      | zero => cases h
      | succ n =>
        rcases List.mem_cons.mp (show q ∈ (j, sm_cv B ad v) :: sm_al B ad (j + 1) (sm_pad n (sm_ent t)) from h) with h | h
        · rw [h]; simp [lv_args]
        · have h2 := ih n (j + 1) h
          simp only [List.map_cons, lv_args, hc, hc1]
          exact List.mem_cons_of_mem _ h2
theorem sm_ent_len {B : Nat} {ad : Nat → Nat} : ∀ (as : List Value), (lg_sl (as.map (sm_cv B ad))).length = (sm_ent as).length := by
  intro as
  induction as with
  | nil => rfl
  | cons v t ih =>
    have e : lg_sl ((v :: t).map (sm_cv B ad)) = (if (sm_cv B ad v).category = 2 then [Slot.val (sm_cv B ad v), Slot.second] else [Slot.val (sm_cv B ad v)]) ++ lg_sl (t.map (sm_cv B ad)) := by simp [lg_sl]
    rw [e, List.length_append, ih, sm_cv_cat]
    cases hv : sm_is2 (some v) with
    | true =>
      have hc2 : v.category = 2 := by cases v <;> first | rfl | cases hv
      rw [if_pos hc2, show sm_ent (v :: t) = some v :: none :: sm_ent t from by simp only [sm_ent, hv]]
      simp; omega
    | false =>
      have hc1 : ¬ v.category = 2 := by cases v <;> first | (simp [Value.category]; done) | cases hv
      rw [if_neg hc1, show sm_ent (v :: t) = some v :: sm_ent t from by simp only [sm_ent, hv]]
      simp; omega
set_option maxHeartbeats 1000000 in
/-- calls down to any depth are sound -/
theorem sm_sim_ok {l : Launch} {D : va_G} {cl : List vw_C} {τ : Nat → ClassId} {B : Nat} {ad : Nat → Nat} {TB NB : List Cond} {SK : sm_SKt} {XT : State → Heap → Prop} {hds : sm_HD} {pg : List (Nat × sm_MI)} {bi : Nat → List Value → sm_M → sm_R} {sc : Option (Nat × (Nat → Int32))} (hXS : ∀ s : State, XT s s.heap → sm_okX B ad s sc) (hXR : sm_okR B ad XT) (hE : sm_okE TB NB XT B) (hAI : Cond.arrayClass .int ∈ TB) (hAL : Cond.arrayClass .long ∈ TB) (hpg : ∀ y mi, sm_fd pg y = some mi → sm_ok cl TB NB SK hds mi ∧ plainName mi.1.cls = true ∧ sm_fd hds y = some (mi.1, mi.2.1, mi.2.2.1, mi.2.2.2.1)) (hbi : ∀ d y as M M1 v, 4 ≤ d → sm_fd pg y = none → bi y as M = some (M1, v) → M.length ≤ M1.length ∧ sm_sl M ≤ sm_sl M1 ∧ ∀ yN bytes mL rt, sm_fd hds y = some (yN, bytes, mL, rt) → Met l yN (.code yN bytes mL rt :: TB) (sm_rm (d + 1) M M1) (sm_Pre D cl τ B ad NB SK XT as M) (sm_Post D cl τ B ad M1 v) (M1.length - M.length) (sm_sl M1 - sm_sl M) (fun q => B ≤ q)) (N : Nat) : ∀ d, sm_cok l D cl τ B ad TB NB SK XT hds d (sm_sim pg bi sc d N) := by
  intro d
  induction d with
  | zero => intro y as M M1 v h; cases h
  | succ d ih =>
    intro y as M M1 v h
    simp only [sm_sim] at h
    split at h
    · rename_i mi hmi
      split at h
      · rename_i hble
        have hble : (sm_ent as).length ≤ mi.2.2.1 := Nat.le_of_ble_eq_true hble
        have hmono := sm_run_mono (fun y as M M1 v hc => ⟨(ih y as M M1 v hc).1, (ih y as M M1 v hc).2.1⟩) _ _ _ _ _ h
        refine ⟨hmono.1, hmono.2, fun yN bytes mL rt hh => ?_⟩
        obtain ⟨ok, hpl, hh2⟩ := hpg y mi hmi
        rw [hh2] at hh
        cases hh
        refine Met.ofW (cc := mi.2.1) (maxL := mi.2.2.1) (ret := mi.2.2.2.1) hpl rfl ?_
        intro p e s m args below meth c s₁ Bd hml hv
        obtain ⟨rfl, hP, hm, hz, hK, hN, hS, hX⟩ := hv
        have hts := atoms_spec (ws := Cond.code mi.1 mi.2.1 mi.2.2.1 mi.2.2.2.1 :: TB) Bd.pre
        have C0 : sm_C p s m ((as.map (sm_cv B ad)).toArray) meth c D cl τ B ad TB NB SK XT M.length mi := ⟨Bd.exec, Bd.bytes, hml, findClass_of_methodNamed Bd.named, fun w hw => hts w (List.mem_cons_of_mem _ hw), hN, hK, hS, hX, hz, fun hn => (name_of_methodNamed Bd.named Bd.method).1.trans hn⟩
        have hlocks : meth.locks = false := Bd.notSynchronized
        have hret := Bd.returns
        have hb := Bd.bytes
        have hx := Bd.exec
        have hl := lv_entry (as.map (sm_cv B ad)) (n := mi.2.2.1) (by rw [sm_ent_len]; exact hble)
        rw [lg_entry_eq]
        generalize (lg_sl (as.map (sm_cv B ad)) ++ List.replicate (mi.2.2.1 - (lg_sl (as.map (sm_cv B ad))).length) Slot.unset).toArray = ls at hl ⊢
        refine sm_run_ok (R := sm_rm (d + 1) M M1) (m0 := M.length) (s0 := sm_sl M) C0 ok hE hXR (hXS s hX) hAI hAL ih (by show _ ≤ M1.length - M.length + _; omega) (by show _ ≤ sm_sl M1 - sm_sl M + _; omega) ⟨Nat.le_refl _, Nat.le_refl _⟩ ?_ N 0 _ [] M h s.heap [] ls 0 0 hP hm va_S.rf (by rw [sm_pad_len]; exact Nat.le_refl _) (sm_has_le hl (fun q hq => sm_al_ent as _ 0 hq)) (Nat.zero_add _) (Nat.zero_add _)
        intro pc i H locs ls cells slots hd hrk hP' hm' hS' h1 h2
        have e1 : cells = M1.length - M.length := by omega
        have e2 : slots = sm_sl M1 - sm_sl M := by omega
        subst e1; subst e2
        rcases hrk with ⟨rfl, x, rfl, hzr⟩ | ⟨rfl, x, rfl, hrt⟩ | ⟨rfl, rfl, hrt⟩
        · have hn : ∃ ty, mi.2.2.2.1 = some ty ∧ narrow ty (.int x) = .int x := by
            unfold sm_zr at hzr
            split at hzr
            · rename_i hq; exact ⟨_, hq, rfl⟩
            · rename_i hq
              refine ⟨_, hq, ?_⟩
              simp only [Bool.or_eq_true, beq_iff_eq] at hzr
              rcases hzr with rfl | rfl <;> decide
            · cases hzr
          obtain ⟨ty, hty, hnar⟩ := hn
          exact W.zret hx hb (hret.trans hty) hnar (fun t ht hW => ⟨rfl, by rw [ht]; exact hP', hm', hS'.F ht⟩) hS'.2.2 hd hlocks
        · exact W.lret hx hb (hret.trans hrt) (fun t ht hW => ⟨rfl, by rw [ht]; exact hP', hm', hS'.F ht⟩) hS'.2.2 hd hlocks
        · exact W.vret hx hb (hret.trans hrt) (fun t ht hW => ⟨rfl, by rw [ht]; exact hP', hm', hS'.F ht⟩) hS'.2.2 hd hlocks
      · cases h
    · rename_i hmi
      split at h
      · rename_i hd4
        exact hbi d y as M M1 v (Nat.le_of_ble_eq_true hd4) hmi h
      · cases h
end
section
/-! names, fields, codes (printed of the program) -/
def RX0 : String := "DraftHouse$Cloth"
def TX0 : u_T := fun k => match k with
  | 0 => ("DraftHouse$Cloth", "ledger", "LDraftHouse$Ledger;", true)
  | 1 => ("DraftHouse$Cloth", "wide", "I", true)
  | 2 => ("DraftHouse$Cloth", "high", "I", true)
  | 3 => ("DraftHouse$Cloth", "allEnds", "J", true)
  | 4 => ("DraftHouse$Cloth", "lifts", "[I", true)
  | 5 => ("DraftHouse$Cloth", "rows", "[J", true)
  | 6 => ("DraftHouse$Cloth", "columns", "[J", true)
  | 7 => ("DraftHouse$Cloth", "shaftEnds", "[J", true)
  | 8 => ("DraftHouse$Cloth", "shaftPicks", "[J", true)
  | 9 => ("DraftHouse$Cloth", "treadlePicks", "[J", true)
  | 10 => ("DraftHouse$Cloth", "used", "I", false)
  | _ => ("DraftHouse$Cloth", "edition", "I", false)
def tyX0 : Nat → FieldType := fun k => match k with
  | 0 => .object "DraftHouse$Ledger"
  | 1 => .int
  | 2 => .int
  | 3 => .long
  | 4 => .array .int
  | 5 => .array .long
  | 6 => .array .long
  | 7 => .array .long
  | 8 => .array .long
  | 9 => .array .long
  | 10 => .int
  | _ => .int
abbrev wsX00 : List Cond := u_ws RX0 TX0 12
theorem nmX0 : ∀ a, a < 12 → ∀ b, b < 12 → a ≠ b → (TX0 a).2.1 ≠ (TX0 b).2.1 := by decide +kernel
theorem tyX0_ok : ∀ k, k < 12 → parseFieldDescriptor (TX0 k).2.2.1 = some (tyX0 k) := by decide +kernel
abbrev cX0_init : ByteArray := prog_2_method_1_code
def yX0_init : MethodName := ⟨RX0, "<init>", "(LDraftHouse$Ledger;II)V"⟩
abbrev cX0_weave : ByteArray := prog_2_method_2_code
def yX0_weave : MethodName := ⟨RX0, "weave", "()V"⟩
abbrev cX0_picksOf : ByteArray := prog_2_method_3_code
def yX0_picksOf : MethodName := ⟨RX0, "picksOf", "(I)J"⟩
abbrev cX0_press : ByteArray := prog_2_method_4_code
def yX0_press : MethodName := ⟨RX0, "press", "()V"⟩
abbrev cX0_raise : ByteArray := prog_2_method_5_code
def yX0_raise : MethodName := ⟨RX0, "raise", "()V"⟩
abbrev cX0_hang : ByteArray := prog_2_method_6_code
def yX0_hang : MethodName := ⟨RX0, "hang", "()V"⟩
abbrev cX0_cross : ByteArray := prog_2_method_7_code
def yX0_cross : MethodName := ⟨RX0, "cross", "()V"⟩
def RX1 : String := "DraftHouse$Covering"
def TX1 : u_T := fun k => match k with
  | 0 => ("DraftHouse$Covering", "cloth", "LDraftHouse$Cloth;", true)
  | 1 => ("DraftHouse$Covering", "lifts", "[I", true)
  | 2 => ("DraftHouse$Covering", "liftCount", "I", false)
  | 3 => ("DraftHouse$Covering", "ties", "[I", true)
  | 4 => ("DraftHouse$Covering", "tieCount", "I", false)
  | 5 => ("DraftHouse$Covering", "gifts", "[J", true)
  | 6 => ("DraftHouse$Covering", "laterGifts", "[J", true)
  | 7 => ("DraftHouse$Covering", "sharedGifts", "[J", true)
  | 8 => ("DraftHouse$Covering", "giftCount", "I", false)
  | 9 => ("DraftHouse$Covering", "patterns", "[I", true)
  | 10 => ("DraftHouse$Covering", "chosen", "[I", true)
  | 11 => ("DraftHouse$Covering", "size", "I", false)
  | _ => ("DraftHouse$Covering", "edition", "I", false)
def tyX1 : Nat → FieldType := fun k => match k with
  | 0 => .object "DraftHouse$Cloth"
  | 1 => .array .int
  | 2 => .int
  | 3 => .array .int
  | 4 => .int
  | 5 => .array .long
  | 6 => .array .long
  | 7 => .array .long
  | 8 => .int
  | 9 => .array .int
  | 10 => .array .int
  | 11 => .int
  | _ => .int
abbrev wsX10 : List Cond := u_ws RX1 TX1 13
theorem nmX1 : ∀ a, a < 13 → ∀ b, b < 13 → a ≠ b → (TX1 a).2.1 ≠ (TX1 b).2.1 := by decide +kernel
theorem tyX1_ok : ∀ k, k < 13 → parseFieldDescriptor (TX1 k).2.2.1 = some (tyX1 k) := by decide +kernel
abbrev cX1_init : ByteArray := prog_3_method_1_code
def yX1_init : MethodName := ⟨RX1, "<init>", "(LDraftHouse$Cloth;)V"⟩
abbrev cX1_find : ByteArray := prog_3_method_2_code
def yX1_find : MethodName := ⟨RX1, "find", "()V"⟩
abbrev cX1_tieAt : ByteArray := prog_3_method_3_code
def yX1_tieAt : MethodName := ⟨RX1, "tieAt", "(I)I"⟩
abbrev cX1_collectLifts : ByteArray := prog_3_method_4_code
def yX1_collectLifts : MethodName := ⟨RX1, "collectLifts", "()Z"⟩
abbrev cX1_isIn : ByteArray := prog_3_method_5_code
def yX1_isIn : MethodName := ⟨RX1, "isIn", "([III)Z"⟩
abbrev cX1_collectTies : ByteArray := prog_3_method_6_code
def yX1_collectTies : MethodName := ⟨RX1, "collectTies", "()V"⟩
abbrev cX1_insertTie : ByteArray := prog_3_method_7_code
def yX1_insertTie : MethodName := ⟨RX1, "insertTie", "(I)V"⟩
abbrev cX1_markGifts : ByteArray := prog_3_method_8_code
def yX1_markGifts : MethodName := ⟨RX1, "markGifts", "()V"⟩
abbrev cX1_gatherGifts : ByteArray := prog_3_method_9_code
def yX1_gatherGifts : MethodName := ⟨RX1, "gatherGifts", "()V"⟩
abbrev cX1_sortShafts : ByteArray := prog_3_method_10_code
def yX1_sortShafts : MethodName := ⟨RX1, "sortShafts", "()V"⟩
abbrev cX1_markGift : ByteArray := prog_3_method_11_code
def yX1_markGift : MethodName := ⟨RX1, "markGift", "(II)V"⟩
abbrev cX1_findLeast : ByteArray := prog_3_method_12_code
def yX1_findLeast : MethodName := ⟨RX1, "findLeast", "()V"⟩
abbrev cX1_needsMore : ByteArray := prog_3_method_13_code
def yX1_needsMore : MethodName := ⟨RX1, "needsMore", "(JI)Z"⟩
abbrev cX1_choose : ByteArray := prog_3_method_14_code
def yX1_choose : MethodName := ⟨RX1, "choose", "(IIJ)Z"⟩
def RX2 : String := "DraftHouse$Layering"
def TX2 : u_T := fun k => match k with
  | 0 => ("DraftHouse$Layering", "cloth", "LDraftHouse$Cloth;", true)
  | 1 => ("DraftHouse$Layering", "endsBelow", "[J", true)
  | 2 => ("DraftHouse$Layering", "picksBelow", "[J", true)
  | 3 => ("DraftHouse$Layering", "endsAbove", "[J", true)
  | 4 => ("DraftHouse$Layering", "picksAbove", "[J", true)
  | 5 => ("DraftHouse$Layering", "numbers", "[I", true)
  | 6 => ("DraftHouse$Layering", "count", "I", false)
  | 7 => ("DraftHouse$Layering", "firstEnd", "I", false)
  | 8 => ("DraftHouse$Layering", "lastEnd", "I", false)
  | 9 => ("DraftHouse$Layering", "firstPick", "I", false)
  | 10 => ("DraftHouse$Layering", "lastPick", "I", false)
  | 11 => ("DraftHouse$Layering", "openEnds", "J", false)
  | 12 => ("DraftHouse$Layering", "openPicks", "J", false)
  | _ => ("DraftHouse$Layering", "edition", "I", false)
def tyX2 : Nat → FieldType := fun k => match k with
  | 0 => .object "DraftHouse$Cloth"
  | 1 => .array .long
  | 2 => .array .long
  | 3 => .array .long
  | 4 => .array .long
  | 5 => .array .int
  | 6 => .int
  | 7 => .int
  | 8 => .int
  | 9 => .int
  | 10 => .int
  | 11 => .long
  | 12 => .long
  | _ => .int
abbrev wsX20 : List Cond := u_ws RX2 TX2 14
theorem nmX2 : ∀ a, a < 14 → ∀ b, b < 14 → a ≠ b → (TX2 a).2.1 ≠ (TX2 b).2.1 := by decide +kernel
theorem tyX2_ok : ∀ k, k < 14 → parseFieldDescriptor (TX2 k).2.2.1 = some (tyX2 k) := by decide +kernel
abbrev cX2_init : ByteArray := prog_4_method_1_code
def yX2_init : MethodName := ⟨RX2, "<init>", "(LDraftHouse$Cloth;)V"⟩
abbrev cX2_sortPart : ByteArray := prog_4_method_2_code
def yX2_sortPart : MethodName := ⟨RX2, "sortPart", "(IIII)V"⟩
abbrev cX2_numberOf : ByteArray := prog_4_method_3_code
def yX2_numberOf : MethodName := ⟨RX2, "numberOf", "(I)I"⟩
abbrev cX2_relate : ByteArray := prog_4_method_4_code
def yX2_relate : MethodName := ⟨RX2, "relate", "()V"⟩
abbrev cX2_followChains : ByteArray := prog_4_method_5_code
def yX2_followChains : MethodName := ⟨RX2, "followChains", "([J[J)V"⟩
abbrev cX2_followThrough : ByteArray := prog_4_method_6_code
def yX2_followThrough : MethodName := ⟨RX2, "followThrough", "([J[JI)V"⟩
abbrev cX2_numberAll : ByteArray := prog_4_method_7_code
def yX2_numberAll : MethodName := ⟨RX2, "numberAll", "()V"⟩
abbrev cX2_lowestOnTop : ByteArray := prog_4_method_8_code
def yX2_lowestOnTop : MethodName := ⟨RX2, "lowestOnTop", "()I"⟩
abbrev cX2_isOnTop : ByteArray := prog_4_method_9_code
def yX2_isOnTop : MethodName := ⟨RX2, "isOnTop", "(I)Z"⟩
abbrev cX2_numberLayerOf : ByteArray := prog_4_method_10_code
def yX2_numberLayerOf : MethodName := ⟨RX2, "numberLayerOf", "(I)V"⟩
def RX3 : String := "DraftHouse$Ledger"
def TX3 : u_T := fun k => match k with
  | 0 => ("DraftHouse$Ledger", "slots", "[I", true)
  | 1 => ("DraftHouse$Ledger", "values", "[I", true)
  | 2 => ("DraftHouse$Ledger", "times", "[I", true)
  | 3 => ("DraftHouse$Ledger", "nowValues", "[I", true)
  | 4 => ("DraftHouse$Ledger", "nowTimes", "[I", true)
  | 5 => ("DraftHouse$Ledger", "entries", "I", false)
  | 6 => ("DraftHouse$Ledger", "staged", "I", false)
  | 7 => ("DraftHouse$Ledger", "time", "I", false)
  | 8 => ("DraftHouse$Ledger", "look", "I", false)
  | _ => ("DraftHouse$Ledger", "edition", "I", false)
def tyX3 : Nat → FieldType := fun k => match k with
  | 0 => .array .int
  | 1 => .array .int
  | 2 => .array .int
  | 3 => .array .int
  | 4 => .array .int
  | 5 => .int
  | 6 => .int
  | 7 => .int
  | 8 => .int
  | _ => .int
abbrev wsX30 : List Cond := u_ws RX3 TX3 10
theorem nmX3 : ∀ a, a < 10 → ∀ b, b < 10 → a ≠ b → (TX3 a).2.1 ≠ (TX3 b).2.1 := by decide +kernel
theorem tyX3_ok : ∀ k, k < 10 → parseFieldDescriptor (TX3 k).2.2.1 = some (tyX3 k) := by decide +kernel
abbrev cX3_init : ByteArray := prog_5_method_1_code
def yX3_init : MethodName := ⟨RX3, "<init>", "()V"⟩
abbrev cX3_valueOf : ByteArray := prog_5_method_2_code
def yX3_valueOf : MethodName := ⟨RX3, "valueOf", "(I)I"⟩
abbrev cX3_timeOf : ByteArray := prog_5_method_3_code
def yX3_timeOf : MethodName := ⟨RX3, "timeOf", "(I)I"⟩
abbrev cX3_tellOne : ByteArray := prog_5_method_4_code
def yX3_tellOne : MethodName := ⟨RX3, "tellOne", "(II)I"⟩
abbrev cX3_dropStaged : ByteArray := prog_5_method_5_code
def yX3_dropStaged : MethodName := ⟨RX3, "dropStaged", "()V"⟩
abbrev cX3_stage : ByteArray := prog_5_method_6_code
def yX3_stage : MethodName := ⟨RX3, "stage", "(II)V"⟩
abbrev cX3_takeStaged : ByteArray := prog_5_method_7_code
def yX3_takeStaged : MethodName := ⟨RX3, "takeStaged", "()I"⟩
abbrev cX3_lookAt : ByteArray := prog_5_method_8_code
def yX3_lookAt : MethodName := ⟨RX3, "lookAt", "(I)V"⟩
abbrev cX3_forget : ByteArray := prog_5_method_9_code
def yX3_forget : MethodName := ⟨RX3, "forget", "()V"⟩
abbrev cX3_replay : ByteArray := prog_5_method_10_code
def yX3_replay : MethodName := ⟨RX3, "replay", "(I)V"⟩
def RX4 : String := "DraftHouse$Mending"
def TX4 : u_T := fun k => match k with
  | 0 => ("DraftHouse$Mending", "cloth", "LDraftHouse$Cloth;", true)
  | 1 => ("DraftHouse$Mending", "ledger", "LDraftHouse$Ledger;", true)
  | 2 => ("DraftHouse$Mending", "sight", "LDraftHouse$Sight;", true)
  | 3 => ("DraftHouse$Mending", "fitting", "[J", true)
  | 4 => ("DraftHouse$Mending", "bare", "J", false)
  | 5 => ("DraftHouse$Mending", "hopeless", "J", false)
  | 6 => ("DraftHouse$Mending", "easy", "J", false)
  | 7 => ("DraftHouse$Mending", "misled", "J", false)
  | 8 => ("DraftHouse$Mending", "found", "Z", false)
  | 9 => ("DraftHouse$Mending", "cost", "I", false)
  | 10 => ("DraftHouse$Mending", "treadle", "I", false)
  | 11 => ("DraftHouse$Mending", "shaft", "I", false)
  | 12 => ("DraftHouse$Mending", "shafts", "[I", true)
  | 13 => ("DraftHouse$Mending", "clothEdition", "I", false)
  | _ => ("DraftHouse$Mending", "sightEdition", "I", false)
def tyX4 : Nat → FieldType := fun k => match k with
  | 0 => .object "DraftHouse$Cloth"
  | 1 => .object "DraftHouse$Ledger"
  | 2 => .object "DraftHouse$Sight"
  | 3 => .array .long
  | 4 => .long
  | 5 => .long
  | 6 => .long
  | 7 => .long
  | 8 => .boolean
  | 9 => .int
  | 10 => .int
  | 11 => .int
  | 12 => .array .int
  | 13 => .int
  | _ => .int
abbrev wsX40 : List Cond := u_ws RX4 TX4 15
theorem nmX4 : ∀ a, a < 15 → ∀ b, b < 15 → a ≠ b → (TX4 a).2.1 ≠ (TX4 b).2.1 := by decide +kernel
theorem tyX4_ok : ∀ k, k < 15 → parseFieldDescriptor (TX4 k).2.2.1 = some (tyX4 k) := by decide +kernel
abbrev cX4_init : ByteArray := prog_6_method_1_code
def yX4_init : MethodName := ⟨RX4, "<init>", "(LDraftHouse$Cloth;LDraftHouse$Ledger;LDraftHouse$Sight;)V"⟩
abbrev cX4_find : ByteArray := prog_6_method_2_code
def yX4_find : MethodName := ⟨RX4, "find", "()V"⟩
abbrev cX4_fitEnds : ByteArray := prog_6_method_3_code
def yX4_fitEnds : MethodName := ⟨RX4, "fitEnds", "()V"⟩
abbrev cX4_weighThreading : ByteArray := prog_6_method_4_code
def yX4_weighThreading : MethodName := ⟨RX4, "weighThreading", "()V"⟩
abbrev cX4_weighTie : ByteArray := prog_6_method_5_code
def yX4_weighTie : MethodName := ⟨RX4, "weighTie", "(II)V"⟩
abbrev cX4_picksAfter : ByteArray := prog_6_method_6_code
def yX4_picksAfter : MethodName := ⟨RX4, "picksAfter", "(II)J"⟩
abbrev cX4_settle : ByteArray := prog_6_method_7_code
def yX4_settle : MethodName := ⟨RX4, "settle", "()V"⟩
abbrev cX4_fits : ByteArray := prog_6_method_8_code
def yX4_fits : MethodName := ⟨RX4, "fits", "(II)Z"⟩
abbrev cX4_firstFitting : ByteArray := prog_6_method_9_code
def yX4_firstFitting : MethodName := ⟨RX4, "firstFitting", "(I)I"⟩
def RX5 : String := "DraftHouse$Planes"
def TX5 : u_T := fun k => match k with
  | 0 => ("DraftHouse$Planes", "cloth", "LDraftHouse$Cloth;", true)
  | 1 => ("DraftHouse$Planes", "ledger", "LDraftHouse$Ledger;", true)
  | 2 => ("DraftHouse$Planes", "rows", "[J", true)
  | _ => ("DraftHouse$Planes", "count", "I", false)
def tyX5 : Nat → FieldType := fun k => match k with
  | 0 => .object "DraftHouse$Cloth"
  | 1 => .object "DraftHouse$Ledger"
  | 2 => .array .long
  | _ => .int
abbrev wsX50 : List Cond := u_ws RX5 TX5 4
theorem nmX5 : ∀ a, a < 4 → ∀ b, b < 4 → a ≠ b → (TX5 a).2.1 ≠ (TX5 b).2.1 := by decide +kernel
theorem tyX5_ok : ∀ k, k < 4 → parseFieldDescriptor (TX5 k).2.2.1 = some (tyX5 k) := by decide +kernel
abbrev cX5_init : ByteArray := prog_7_method_1_code
def yX5_init : MethodName := ⟨RX5, "<init>", "(LDraftHouse$Cloth;LDraftHouse$Ledger;)V"⟩
abbrev cX5_showCells : ByteArray := prog_7_method_2_code
def yX5_showCells : MethodName := ⟨RX5, "showCells", "()V"⟩
abbrev cX5_showColours : ByteArray := prog_7_method_3_code
def yX5_showColours : MethodName := ⟨RX5, "showColours", "()V"⟩
abbrev cX5_likeAlongEnds : ByteArray := prog_7_method_4_code
def yX5_likeAlongEnds : MethodName := ⟨RX5, "likeAlongEnds", "(I)Z"⟩
abbrev cX5_likeAlongPicks : ByteArray := prog_7_method_5_code
def yX5_likeAlongPicks : MethodName := ⟨RX5, "likeAlongPicks", "(I)Z"⟩
abbrev cX5_rowAt : ByteArray := prog_7_method_6_code
def yX5_rowAt : MethodName := ⟨RX5, "rowAt", "(II)J"⟩
def RX6 : String := "DraftHouse$Reader"
def TX6 : u_T := fun k => match k with
  | 0 => ("DraftHouse$Reader", "tape", "LDraftHouse$Tape;", true)
  | 1 => ("DraftHouse$Reader", "ledger", "LDraftHouse$Ledger;", true)
  | 2 => ("DraftHouse$Reader", "wide", "I", true)
  | 3 => ("DraftHouse$Reader", "high", "I", true)
  | 4 => ("DraftHouse$Reader", "numbers", "[I", true)
  | 5 => ("DraftHouse$Reader", "rowStarts", "[I", true)
  | 6 => ("DraftHouse$Reader", "itemStarts", "[I", true)
  | 7 => ("DraftHouse$Reader", "shapes", "[I", true)
  | 8 => ("DraftHouse$Reader", "blocks", "[I", true)
  | 9 => ("DraftHouse$Reader", "blockSizes", "[I", true)
  | 10 => ("DraftHouse$Reader", "top", "I", false)
  | 11 => ("DraftHouse$Reader", "depth", "I", false)
  | 12 => ("DraftHouse$Reader", "state", "I", false)
  | 13 => ("DraftHouse$Reader", "clause", "I", false)
  | 14 => ("DraftHouse$Reader", "target", "I", false)
  | 15 => ("DraftHouse$Reader", "shape", "I", false)
  | 16 => ("DraftHouse$Reader", "first", "I", false)
  | 17 => ("DraftHouse$Reader", "firstPlace", "I", false)
  | 18 => ("DraftHouse$Reader", "fault", "I", false)
  | _ => ("DraftHouse$Reader", "faultPlace", "I", false)
def tyX6 : Nat → FieldType := fun k => match k with
  | 0 => .object "DraftHouse$Tape"
  | 1 => .object "DraftHouse$Ledger"
  | 2 => .int
  | 3 => .int
  | 4 => .array .int
  | 5 => .array .int
  | 6 => .array .int
  | 7 => .array .int
  | 8 => .array .int
  | 9 => .array .int
  | 10 => .int
  | 11 => .int
  | 12 => .int
  | 13 => .int
  | 14 => .int
  | 15 => .int
  | 16 => .int
  | 17 => .int
  | 18 => .int
  | _ => .int
abbrev wsX60 : List Cond := u_ws RX6 TX6 20
theorem nmX6 : ∀ a, a < 20 → ∀ b, b < 20 → a ≠ b → (TX6 a).2.1 ≠ (TX6 b).2.1 := by decide +kernel
theorem tyX6_ok : ∀ k, k < 20 → parseFieldDescriptor (TX6 k).2.2.1 = some (tyX6 k) := by decide +kernel
abbrev cX6_init : ByteArray := prog_8_method_1_code
def yX6_init : MethodName := ⟨RX6, "<init>", "(LDraftHouse$Tape;LDraftHouse$Ledger;II)V"⟩
abbrev cX6_readTape : ByteArray := prog_8_method_2_code
def yX6_readTape : MethodName := ⟨RX6, "readTape", "()V"⟩
abbrev cX6_endWhatCannotGoOn : ByteArray := prog_8_method_3_code
def yX6_endWhatCannotGoOn : MethodName := ⟨RX6, "endWhatCannotGoOn", "()V"⟩
abbrev cX6_fail : ByteArray := prog_8_method_4_code
def yX6_fail : MethodName := ⟨RX6, "fail", "(I)V"⟩
abbrev cX6_failAt : ByteArray := prog_8_method_5_code
def yX6_failAt : MethodName := ⟨RX6, "failAt", "(II)V"⟩
abbrev cX6_step : ByteArray := prog_8_method_6_code
def yX6_step : MethodName := ⟨RX6, "step", "()V"⟩
abbrev cX6_startClause : ByteArray := prog_8_method_7_code
def yX6_startClause : MethodName := ⟨RX6, "startClause", "()V"⟩
abbrev cX6_nameBlock : ByteArray := prog_8_method_8_code
def yX6_nameBlock : MethodName := ⟨RX6, "nameBlock", "()V"⟩
abbrev cX6_nameTreadle : ByteArray := prog_8_method_9_code
def yX6_nameTreadle : MethodName := ⟨RX6, "nameTreadle", "()V"⟩
abbrev cX6_isNumber : ByteArray := prog_8_method_10_code
def yX6_isNumber : MethodName := ⟨RX6, "isNumber", "(II)Z"⟩
abbrev cX6_openFirstRow : ByteArray := prog_8_method_11_code
def yX6_openFirstRow : MethodName := ⟨RX6, "openFirstRow", "(I)V"⟩
abbrev cX6_startOne : ByteArray := prog_8_method_12_code
def yX6_startOne : MethodName := ⟨RX6, "startOne", "()V"⟩
abbrev cX6_holdNumber : ByteArray := prog_8_method_13_code
def yX6_holdNumber : MethodName := ⟨RX6, "holdNumber", "()V"⟩
abbrev cX6_endNumber : ByteArray := prog_8_method_14_code
def yX6_endNumber : MethodName := ⟨RX6, "endNumber", "()V"⟩
abbrev cX6_endRange : ByteArray := prog_8_method_15_code
def yX6_endRange : MethodName := ⟨RX6, "endRange", "()V"⟩
abbrev cX6_addBlock : ByteArray := prog_8_method_16_code
def yX6_addBlock : MethodName := ⟨RX6, "addBlock", "()V"⟩
abbrev cX6_nameSum : ByteArray := prog_8_method_17_code
def yX6_nameSum : MethodName := ⟨RX6, "nameSum", "()V"⟩
abbrev cX6_openBracket : ByteArray := prog_8_method_18_code
def yX6_openBracket : MethodName := ⟨RX6, "openBracket", "()V"⟩
abbrev cX6_closeBracket : ByteArray := prog_8_method_19_code
def yX6_closeBracket : MethodName := ⟨RX6, "closeBracket", "()V"⟩
abbrev cX6_turnBack : ByteArray := prog_8_method_20_code
def yX6_turnBack : MethodName := ⟨RX6, "turnBack", "(II)V"⟩
abbrev cX6_raiseNumbers : ByteArray := prog_8_method_21_code
def yX6_raiseNumbers : MethodName := ⟨RX6, "raiseNumbers", "(III)V"⟩
abbrev cX6_copyItem : ByteArray := prog_8_method_22_code
def yX6_copyItem : MethodName := ⟨RX6, "copyItem", "()V"⟩
abbrev cX6_goOnBehindItem : ByteArray := prog_8_method_23_code
def yX6_goOnBehindItem : MethodName := ⟨RX6, "goOnBehindItem", "()V"⟩
abbrev cX6_endClause : ByteArray := prog_8_method_24_code
def yX6_endClause : MethodName := ⟨RX6, "endClause", "()V"⟩
abbrev cX6_keepBlock : ByteArray := prog_8_method_25_code
def yX6_keepBlock : MethodName := ⟨RX6, "keepBlock", "()V"⟩
abbrev cX6_stageAlong : ByteArray := prog_8_method_26_code
def yX6_stageAlong : MethodName := ⟨RX6, "stageAlong", "(II)V"⟩
abbrev cX6_stageTie : ByteArray := prog_8_method_27_code
def yX6_stageTie : MethodName := ⟨RX6, "stageTie", "()V"⟩
abbrev cX6_openRow : ByteArray := prog_8_method_28_code
def yX6_openRow : MethodName := ⟨RX6, "openRow", "()I"⟩
abbrev cX6_hasRoom : ByteArray := prog_8_method_29_code
def yX6_hasRoom : MethodName := ⟨RX6, "hasRoom", "(I)Z"⟩
abbrev cX6_add : ByteArray := prog_8_method_30_code
def yX6_add : MethodName := ⟨RX6, "add", "(I)V"⟩
abbrev cX6_numberAt : ByteArray := prog_8_method_31_code
def yX6_numberAt : MethodName := ⟨RX6, "numberAt", "(I)I"⟩
abbrev cX6_put : ByteArray := prog_8_method_32_code
def yX6_put : MethodName := ⟨RX6, "put", "(II)V"⟩
abbrev cX6_blockSize : ByteArray := prog_8_method_33_code
def yX6_blockSize : MethodName := ⟨RX6, "blockSize", "(I)I"⟩
abbrev cX6_blockNumber : ByteArray := prog_8_method_34_code
def yX6_blockNumber : MethodName := ⟨RX6, "blockNumber", "(II)I"⟩
def RX7 : String := "DraftHouse$Runs"
def TX7 : u_T := fun k => match k with
  | 0 => ("DraftHouse$Runs", "cloth", "LDraftHouse$Cloth;", true)
  | _ => ("DraftHouse$Runs", "counts", "[I", true)
def tyX7 : Nat → FieldType := fun k => match k with
  | 0 => .object "DraftHouse$Cloth"
  | _ => .array .int
abbrev wsX70 : List Cond := u_ws RX7 TX7 2
theorem nmX7 : ∀ a, a < 2 → ∀ b, b < 2 → a ≠ b → (TX7 a).2.1 ≠ (TX7 b).2.1 := by decide +kernel
theorem tyX7_ok : ∀ k, k < 2 → parseFieldDescriptor (TX7 k).2.2.1 = some (tyX7 k) := by decide +kernel
abbrev cX7_init : ByteArray := prog_9_method_1_code
def yX7_init : MethodName := ⟨RX7, "<init>", "(LDraftHouse$Cloth;)V"⟩
abbrev cX7_countFloats : ByteArray := prog_9_method_2_code
def yX7_countFloats : MethodName := ⟨RX7, "countFloats", "(ZZ)V"⟩
abbrev cX7_cutOpen : ByteArray := prog_9_method_3_code
def yX7_cutOpen : MethodName := ⟨RX7, "cutOpen", "(JI)J"⟩
abbrev cX7_countLine : ByteArray := prog_9_method_4_code
def yX7_countLine : MethodName := ⟨RX7, "countLine", "(JI)V"⟩
abbrev cX7_longestOne : ByteArray := prog_9_method_5_code
def yX7_longestOne : MethodName := ⟨RX7, "longestOne", "()I"⟩
abbrev cX7_longerThan : ByteArray := prog_9_method_6_code
def yX7_longerThan : MethodName := ⟨RX7, "longerThan", "(I)I"⟩
def RX8 : String := "DraftHouse$Sight"
def TX8 : u_T := fun k => match k with
  | 0 => ("DraftHouse$Sight", "cloth", "LDraftHouse$Cloth;", true)
  | 1 => ("DraftHouse$Sight", "rows", "[J", true)
  | 2 => ("DraftHouse$Sight", "columns", "[J", true)
  | _ => ("DraftHouse$Sight", "edition", "I", false)
def tyX8 : Nat → FieldType := fun k => match k with
  | 0 => .object "DraftHouse$Cloth"
  | 1 => .array .long
  | 2 => .array .long
  | _ => .int
abbrev wsX80 : List Cond := u_ws RX8 TX8 4
theorem nmX8 : ∀ a, a < 4 → ∀ b, b < 4 → a ≠ b → (TX8 a).2.1 ≠ (TX8 b).2.1 := by decide +kernel
theorem tyX8_ok : ∀ k, k < 4 → parseFieldDescriptor (TX8 k).2.2.1 = some (tyX8 k) := by decide +kernel
abbrev cX8_init : ByteArray := prog_10_method_1_code
def yX8_init : MethodName := ⟨RX8, "<init>", "(LDraftHouse$Cloth;)V"⟩
abbrev cX8_noteRow : ByteArray := prog_10_method_2_code
def yX8_noteRow : MethodName := ⟨RX8, "noteRow", "(IJ)V"⟩
abbrev cX8_endsLike : ByteArray := prog_10_method_3_code
def yX8_endsLike : MethodName := ⟨RX8, "endsLike", "(J)J"⟩
abbrev cX8_isMoved : ByteArray := prog_10_method_4_code
def yX8_isMoved : MethodName := ⟨RX8, "isMoved", "(III)Z"⟩
abbrev cX8_wrapped : ByteArray := prog_10_method_5_code
def yX8_wrapped : MethodName := ⟨RX8, "wrapped", "(II)I"⟩
abbrev cX8_rowAt : ByteArray := prog_10_method_6_code
def yX8_rowAt : MethodName := ⟨RX8, "rowAt", "([JI)J"⟩
def RX9 : String := "DraftHouse$Tape"
def TX9 : u_T := fun k => match k with
  | 0 => ("DraftHouse$Tape", "bytes", "[I", true)
  | 1 => ("DraftHouse$Tape", "size", "I", false)
  | 2 => ("DraftHouse$Tape", "next", "I", false)
  | 3 => ("DraftHouse$Tape", "kind", "I", false)
  | 4 => ("DraftHouse$Tape", "place", "I", false)
  | _ => ("DraftHouse$Tape", "number", "I", false)
def tyX9 : Nat → FieldType := fun k => match k with
  | 0 => .array .int
  | 1 => .int
  | 2 => .int
  | 3 => .int
  | 4 => .int
  | _ => .int
abbrev wsX90 : List Cond := u_ws RX9 TX9 6
theorem nmX9 : ∀ a, a < 6 → ∀ b, b < 6 → a ≠ b → (TX9 a).2.1 ≠ (TX9 b).2.1 := by decide +kernel
theorem tyX9_ok : ∀ k, k < 6 → parseFieldDescriptor (TX9 k).2.2.1 = some (tyX9 k) := by decide +kernel
abbrev cX9_init : ByteArray := prog_11_method_1_code
def yX9_init : MethodName := ⟨RX9, "<init>", "()V"⟩
abbrev cX9_appendWord : ByteArray := prog_11_method_2_code
def yX9_appendWord : MethodName := ⟨RX9, "appendWord", "(I)V"⟩
abbrev cX9_rewind : ByteArray := prog_11_method_3_code
def yX9_rewind : MethodName := ⟨RX9, "rewind", "()V"⟩
abbrev cX9_advance : ByteArray := prog_11_method_4_code
def yX9_advance : MethodName := ⟨RX9, "advance", "()V"⟩
abbrev cX9_byteAt : ByteArray := prog_11_method_5_code
def yX9_byteAt : MethodName := ⟨RX9, "byteAt", "(I)I"⟩
abbrev cX9_readNumber : ByteArray := prog_11_method_6_code
def yX9_readNumber : MethodName := ⟨RX9, "readNumber", "()V"⟩
abbrev cX9_readWord : ByteArray := prog_11_method_7_code
def yX9_readWord : MethodName := ⟨RX9, "readWord", "()V"⟩
abbrev cX9_kindOfWord : ByteArray := prog_11_method_8_code
def yX9_kindOfWord : MethodName := ⟨RX9, "kindOfWord", "()I"⟩
abbrev cX9_isWord : ByteArray := prog_11_method_9_code
def yX9_isWord : MethodName := ⟨RX9, "isWord", "(Ljava/lang/String;)Z"⟩
abbrev cX9_isBlank : ByteArray := prog_11_method_10_code
def yX9_isBlank : MethodName := ⟨RX9, "isBlank", "(I)Z"⟩
abbrev cX9_isDigit : ByteArray := prog_11_method_11_code
def yX9_isDigit : MethodName := ⟨RX9, "isDigit", "(I)Z"⟩
abbrev cX9_isAlphabetic : ByteArray := prog_11_method_12_code
def yX9_isAlphabetic : MethodName := ⟨RX9, "isAlphabetic", "(I)Z"⟩
abbrev cX9_isSign : ByteArray := prog_11_method_13_code
def yX9_isSign : MethodName := ⟨RX9, "isSign", "(I)Z"⟩
def RX10 : String := "DraftHouse"
def TX10 : u_T := fun k => match k with
  | 0 => ("DraftHouse", "wide", "I", true)
  | 1 => ("DraftHouse", "high", "I", true)
  | 2 => ("DraftHouse", "ledger", "LDraftHouse$Ledger;", true)
  | 3 => ("DraftHouse", "cloth", "LDraftHouse$Cloth;", true)
  | 4 => ("DraftHouse", "tape", "LDraftHouse$Tape;", true)
  | 5 => ("DraftHouse", "reader", "LDraftHouse$Reader;", true)
  | 6 => ("DraftHouse", "runs", "LDraftHouse$Runs;", true)
  | 7 => ("DraftHouse", "planes", "LDraftHouse$Planes;", true)
  | 8 => ("DraftHouse", "layering", "LDraftHouse$Layering;", true)
  | 9 => ("DraftHouse", "covering", "LDraftHouse$Covering;", true)
  | 10 => ("DraftHouse", "sight", "LDraftHouse$Sight;", true)
  | _ => ("DraftHouse", "mending", "LDraftHouse$Mending;", true)
def tyX10 : Nat → FieldType := fun k => match k with
  | 0 => .int
  | 1 => .int
  | 2 => .object "DraftHouse$Ledger"
  | 3 => .object "DraftHouse$Cloth"
  | 4 => .object "DraftHouse$Tape"
  | 5 => .object "DraftHouse$Reader"
  | 6 => .object "DraftHouse$Runs"
  | 7 => .object "DraftHouse$Planes"
  | 8 => .object "DraftHouse$Layering"
  | 9 => .object "DraftHouse$Covering"
  | 10 => .object "DraftHouse$Sight"
  | _ => .object "DraftHouse$Mending"
abbrev wsX100 : List Cond := u_ws RX10 TX10 12
theorem nmX10 : ∀ a, a < 12 → ∀ b, b < 12 → a ≠ b → (TX10 a).2.1 ≠ (TX10 b).2.1 := by decide +kernel
theorem tyX10_ok : ∀ k, k < 12 → parseFieldDescriptor (TX10 k).2.2.1 = some (tyX10 k) := by decide +kernel
abbrev cX10_init : ByteArray := prog_1_method_1_code
def yX10_init : MethodName := ⟨RX10, "<init>", "(II)V"⟩
abbrev cX10_thread : ByteArray := prog_1_method_2_code
def yX10_thread : MethodName := ⟨RX10, "thread", "(II)I"⟩
abbrev cX10_tie : ByteArray := prog_1_method_3_code
def yX10_tie : MethodName := ⟨RX10, "tie", "(II)I"⟩
abbrev cX10_tread : ByteArray := prog_1_method_4_code
def yX10_tread : MethodName := ⟨RX10, "tread", "(II)I"⟩
abbrev cX10_colour : ByteArray := prog_1_method_5_code
def yX10_colour : MethodName := ⟨RX10, "colour", "(ZII)I"⟩
abbrev cX10_feed : ByteArray := prog_1_method_6_code
def yX10_feed : MethodName := ⟨RX10, "feed", "(IIIII)I"⟩
abbrev cX10_end : ByteArray := prog_1_method_7_code
def yX10_end : MethodName := ⟨RX10, "end", "(I)I"⟩
abbrev cX10_text : ByteArray := prog_1_method_8_code
def yX10_text : MethodName := ⟨RX10, "text", "()I"⟩
abbrev cX10_fault : ByteArray := prog_1_method_9_code
def yX10_fault : MethodName := ⟨RX10, "fault", "(I)I"⟩
abbrev cX10_look : ByteArray := prog_1_method_10_code
def yX10_look : MethodName := ⟨RX10, "look", "(I)Z"⟩
abbrev cX10_shaft : ByteArray := prog_1_method_11_code
def yX10_shaft : MethodName := ⟨RX10, "shaft", "(I)I"⟩
abbrev cX10_lift : ByteArray := prog_1_method_12_code
def yX10_lift : MethodName := ⟨RX10, "lift", "(I)I"⟩
abbrev cX10_row : ByteArray := prog_1_method_13_code
def yX10_row : MethodName := ⟨RX10, "row", "(I)J"⟩
abbrev cX10_lead : ByteArray := prog_1_method_14_code
def yX10_lead : MethodName := ⟨RX10, "lead", "(III)I"⟩
abbrev cX10_longest : ByteArray := prog_1_method_15_code
def yX10_longest : MethodName := ⟨RX10, "longest", "(ZZ)I"⟩
abbrev cX10_floats : ByteArray := prog_1_method_16_code
def yX10_floats : MethodName := ⟨RX10, "floats", "(ZZI)I"⟩
abbrev cX10_layers : ByteArray := prog_1_method_17_code
def yX10_layers : MethodName := ⟨RX10, "layers", "(IIII)I"⟩
abbrev cX10_layer : ByteArray := prog_1_method_18_code
def yX10_layer : MethodName := ⟨RX10, "layer", "(IIIII)I"⟩
abbrev cX10_seenColour : ByteArray := prog_1_method_19_code
def yX10_seenColour : MethodName := ⟨RX10, "seenColour", "(II)I"⟩
abbrev cX10_coloured : ByteArray := prog_1_method_20_code
def yX10_coloured : MethodName := ⟨RX10, "coloured", "(I)I"⟩
abbrev cX10_period : ByteArray := prog_1_method_21_code
def yX10_period : MethodName := ⟨RX10, "period", "(ZZ)I"⟩
abbrev cX10_fewest : ByteArray := prog_1_method_22_code
def yX10_fewest : MethodName := ⟨RX10, "fewest", "(Z)I"⟩
abbrev cX10_pegs : ByteArray := prog_1_method_23_code
def yX10_pegs : MethodName := ⟨RX10, "pegs", "(Z)I"⟩
abbrev cX10_cover : ByteArray := prog_1_method_24_code
def yX10_cover : MethodName := ⟨RX10, "cover", "(I)I"⟩
abbrev cX10_seen : ByteArray := prog_1_method_25_code
def yX10_seen : MethodName := ⟨RX10, "seen", "(IJ)Z"⟩
abbrev cX10_wrong : ByteArray := prog_1_method_26_code
def yX10_wrong : MethodName := ⟨RX10, "wrong", "(I)I"⟩
abbrev cX10_nearest : ByteArray := prog_1_method_27_code
def yX10_nearest : MethodName := ⟨RX10, "nearest", "(II)I"⟩
abbrev cX10_mended : ByteArray := prog_1_method_28_code
def yX10_mended : MethodName := ⟨RX10, "mended", "(I)I"⟩
abbrev cX10_mendedShaft : ByteArray := prog_1_method_29_code
def yX10_mendedShaft : MethodName := ⟨RX10, "mendedShaft", "(I)I"⟩
abbrev cX10_shifted : ByteArray := prog_1_method_30_code
def yX10_shifted : MethodName := ⟨RX10, "shifted", "(Z)I"⟩
abbrev cX10_about : ByteArray := prog_1_method_31_code
def yX10_about : MethodName := ⟨RX10, "about", "(I)I"⟩
abbrev cX10_isEnd : ByteArray := prog_1_method_32_code
def yX10_isEnd : MethodName := ⟨RX10, "isEnd", "(I)Z"⟩
abbrev cX10_isPick : ByteArray := prog_1_method_33_code
def yX10_isPick : MethodName := ⟨RX10, "isPick", "(I)Z"⟩
abbrev cX10_isPart : ByteArray := prog_1_method_34_code
def yX10_isPart : MethodName := ⟨RX10, "isPart", "(IIII)Z"⟩
abbrev cX10_isColour : ByteArray := prog_1_method_35_code
def yX10_isColour : MethodName := ⟨RX10, "isColour", "(I)Z"⟩
abbrev cX10_has : ByteArray := prog_1_method_36_code
def yX10_has : MethodName := ⟨RX10, "has", "(JI)Z"⟩
abbrev cX10_firstBits : ByteArray := prog_1_method_37_code
def yX10_firstBits : MethodName := ⟨RX10, "firstBits", "(I)J"⟩
abbrev cX10_moved : ByteArray := prog_1_method_38_code
def yX10_moved : MethodName := ⟨RX10, "moved", "(JII)J"⟩
abbrev cX10_lowestTreadle : ByteArray := prog_1_method_39_code
def yX10_lowestTreadle : MethodName := ⟨RX10, "lowestTreadle", "(II)I"⟩
abbrev cX10_endsOfColour : ByteArray := prog_1_method_40_code
def yX10_endsOfColour : MethodName := ⟨RX10, "endsOfColour", "(I)J"⟩
abbrev cX10_unlikeLines : ByteArray := prog_1_method_41_code
def yX10_unlikeLines : MethodName := ⟨RX10, "unlikeLines", "([JI)I"⟩
abbrev cX10_unlikePicks : ByteArray := prog_1_method_42_code
def yX10_unlikePicks : MethodName := ⟨RX10, "unlikePicks", "(II)I"⟩
abbrev cX10_nearestShaft : ByteArray := prog_1_method_43_code
def yX10_nearestShaft : MethodName := ⟨RX10, "nearestShaft", "(I)I"⟩
abbrev cX10_cellsUp : ByteArray := prog_1_method_44_code
def yX10_cellsUp : MethodName := ⟨RX10, "cellsUp", "()I"⟩
abbrev cX10_countCells : ByteArray := prog_1_method_45_code
def yX10_countCells : MethodName := ⟨RX10, "countCells", "([J)I"⟩
abbrev cX10_firstMixedPick : ByteArray := prog_1_method_46_code
def yX10_firstMixedPick : MethodName := ⟨RX10, "firstMixedPick", "()I"⟩
abbrev cX10_threadedEnds : ByteArray := prog_1_method_47_code
def yX10_threadedEnds : MethodName := ⟨RX10, "threadedEnds", "()I"⟩
def RX11 : String := "DraftHouseModel"
def TX11 : u_T := fun k => match k with
  | 0 => ("DraftHouseModel", "wide", "I", true)
  | 1 => ("DraftHouseModel", "high", "I", true)
  | 2 => ("DraftHouseModel", "time", "I", false)
  | 3 => ("DraftHouseModel", "looked", "I", false)
  | 4 => ("DraftHouseModel", "entries", "I", false)
  | 5 => ("DraftHouseModel", "sort", "[I", true)
  | 6 => ("DraftHouseModel", "which", "[I", true)
  | 7 => ("DraftHouseModel", "told", "[I", true)
  | 8 => ("DraftHouseModel", "toldAt", "[I", true)
  | 9 => ("DraftHouseModel", "shaftOf", "[I", true)
  | 10 => ("DraftHouseModel", "tieOf", "[I", true)
  | 11 => ("DraftHouseModel", "treadOf", "[I", true)
  | 12 => ("DraftHouseModel", "liftOf", "[I", true)
  | 13 => ("DraftHouseModel", "rowOf", "[J", true)
  | 14 => ("DraftHouseModel", "columnOf", "[J", true)
  | 15 => ("DraftHouseModel", "tape", "[I", true)
  | 16 => ("DraftHouseModel", "taped", "I", false)
  | 17 => ("DraftHouseModel", "fault", "I", false)
  | 18 => ("DraftHouseModel", "faultPlace", "I", false)
  | 19 => ("DraftHouseModel", "at", "I", false)
  | 20 => ("DraftHouseModel", "place", "I", false)
  | 21 => ("DraftHouseModel", "token", "I", false)
  | 22 => ("DraftHouseModel", "number", "I", false)
  | 23 => ("DraftHouseModel", "lastPlace", "I", false)
  | 24 => ("DraftHouseModel", "errorAt", "I", false)
  | 25 => ("DraftHouseModel", "blockFrom", "[I", true)
  | 26 => ("DraftHouseModel", "blockMany", "[I", true)
  | 27 => ("DraftHouseModel", "blocks", "[I", true)
  | 28 => ("DraftHouseModel", "blockTop", "I", false)
  | 29 => ("DraftHouseModel", "row", "[I", true)
  | 30 => ("DraftHouseModel", "open", "[I", true)
  | 31 => ("DraftHouseModel", "adds", "[I", true)
  | 32 => ("DraftHouseModel", "starts", "[I", true)
  | 33 => ("DraftHouseModel", "top", "I", false)
  | 34 => ("DraftHouseModel", "depth", "I", false)
  | 35 => ("DraftHouseModel", "oneStart", "I", false)
  | 36 => ("DraftHouseModel", "fresh", "I", false)
  | 37 => ("DraftHouseModel", "freshSort", "[I", true)
  | 38 => ("DraftHouseModel", "freshWhich", "[I", true)
  | 39 => ("DraftHouseModel", "freshValue", "[I", true)
  | 40 => ("DraftHouseModel", "runs", "[I", true)
  | 41 => ("DraftHouseModel", "runCount", "I", false)
  | 42 => ("DraftHouseModel", "endsBelow", "[J", true)
  | 43 => ("DraftHouseModel", "picksBelow", "[J", true)
  | 44 => ("DraftHouseModel", "layerOf", "[I", true)
  | 45 => ("DraftHouseModel", "layerCount", "I", false)
  | 46 => ("DraftHouseModel", "field", "[I", true)
  | 47 => ("DraftHouseModel", "lifted", "[I", true)
  | 48 => ("DraftHouseModel", "liftCount", "I", false)
  | 49 => ("DraftHouseModel", "common", "[I", true)
  | 50 => ("DraftHouseModel", "commons", "I", false)
  | 51 => ("DraftHouseModel", "chosen", "[I", true)
  | 52 => ("DraftHouseModel", "seenRow", "[J", true)
  | 53 => ("DraftHouseModel", "mendCost", "I", false)
  | 54 => ("DraftHouseModel", "mendTreadle", "I", false)
  | _ => ("DraftHouseModel", "mendShaft", "I", false)
def tyX11 : Nat → FieldType := fun k => match k with
  | 0 => .int
  | 1 => .int
  | 2 => .int
  | 3 => .int
  | 4 => .int
  | 5 => .array .int
  | 6 => .array .int
  | 7 => .array .int
  | 8 => .array .int
  | 9 => .array .int
  | 10 => .array .int
  | 11 => .array .int
  | 12 => .array .int
  | 13 => .array .long
  | 14 => .array .long
  | 15 => .array .int
  | 16 => .int
  | 17 => .int
  | 18 => .int
  | 19 => .int
  | 20 => .int
  | 21 => .int
  | 22 => .int
  | 23 => .int
  | 24 => .int
  | 25 => .array .int
  | 26 => .array .int
  | 27 => .array .int
  | 28 => .int
  | 29 => .array .int
  | 30 => .array .int
  | 31 => .array .int
  | 32 => .array .int
  | 33 => .int
  | 34 => .int
  | 35 => .int
  | 36 => .int
  | 37 => .array .int
  | 38 => .array .int
  | 39 => .array .int
  | 40 => .array .int
  | 41 => .int
  | 42 => .array .long
  | 43 => .array .long
  | 44 => .array .int
  | 45 => .int
  | 46 => .array .int
  | 47 => .array .int
  | 48 => .int
  | 49 => .array .int
  | 50 => .int
  | 51 => .array .int
  | 52 => .array .long
  | 53 => .int
  | 54 => .int
  | _ => .int
abbrev wsX110 : List Cond := u_ws RX11 TX11 56
theorem nmX11 : ∀ a, a < 56 → ∀ b, b < 56 → a ≠ b → (TX11 a).2.1 ≠ (TX11 b).2.1 := by decide +kernel
theorem tyX11_ok : ∀ k, k < 56 → parseFieldDescriptor (TX11 k).2.2.1 = some (tyX11 k) := by decide +kernel
abbrev cX11_init : ByteArray := prog_13_method_1_code
def yX11_init : MethodName := ⟨RX11, "<init>", "(II)V"⟩
abbrev cX11_isIn : ByteArray := prog_13_method_2_code
def yX11_isIn : MethodName := ⟨RX11, "isIn", "(III)Z"⟩
abbrev cX11_isEnd : ByteArray := prog_13_method_3_code
def yX11_isEnd : MethodName := ⟨RX11, "isEnd", "(I)Z"⟩
abbrev cX11_isPick : ByteArray := prog_13_method_4_code
def yX11_isPick : MethodName := ⟨RX11, "isPick", "(I)Z"⟩
abbrev cX11_enter : ByteArray := prog_13_method_5_code
def yX11_enter : MethodName := ⟨RX11, "enter", "(III)V"⟩
abbrev cX11_telling : ByteArray := prog_13_method_6_code
def yX11_telling : MethodName := ⟨RX11, "telling", "(ZIII)I"⟩
abbrev cX11_passes : ByteArray := prog_13_method_7_code
def yX11_passes : MethodName := ⟨RX11, "passes", "()I"⟩
abbrev cX11_thread : ByteArray := prog_13_method_8_code
def yX11_thread : MethodName := ⟨RX11, "thread", "(II)I"⟩
abbrev cX11_tie : ByteArray := prog_13_method_9_code
def yX11_tie : MethodName := ⟨RX11, "tie", "(II)I"⟩
abbrev cX11_tread : ByteArray := prog_13_method_10_code
def yX11_tread : MethodName := ⟨RX11, "tread", "(II)I"⟩
abbrev cX11_colour : ByteArray := prog_13_method_11_code
def yX11_colour : MethodName := ⟨RX11, "colour", "(ZII)I"⟩
abbrev cX11_entryOf : ByteArray := prog_13_method_12_code
def yX11_entryOf : MethodName := ⟨RX11, "entryOf", "(II)I"⟩
abbrev cX11_valueOf : ByteArray := prog_13_method_13_code
def yX11_valueOf : MethodName := ⟨RX11, "valueOf", "(II)I"⟩
abbrev cX11_look : ByteArray := prog_13_method_14_code
def yX11_look : MethodName := ⟨RX11, "look", "(I)Z"⟩
abbrev cX11_draw : ByteArray := prog_13_method_15_code
def yX11_draw : MethodName := ⟨RX11, "draw", "()V"⟩
abbrev cX11_lifts : ByteArray := prog_13_method_16_code
def yX11_lifts : MethodName := ⟨RX11, "lifts", "()V"⟩
abbrev cX11_shaft : ByteArray := prog_13_method_17_code
def yX11_shaft : MethodName := ⟨RX11, "shaft", "(I)I"⟩
abbrev cX11_lift : ByteArray := prog_13_method_18_code
def yX11_lift : MethodName := ⟨RX11, "lift", "(I)I"⟩
abbrev cX11_row : ByteArray := prog_13_method_19_code
def yX11_row : MethodName := ⟨RX11, "row", "(I)J"⟩
abbrev cX11_lead : ByteArray := prog_13_method_20_code
def yX11_lead : MethodName := ⟨RX11, "lead", "(III)I"⟩
abbrev cX11_four : ByteArray := prog_13_method_21_code
def yX11_four : MethodName := ⟨RX11, "four", "(I)V"⟩
abbrev cX11_feed : ByteArray := prog_13_method_22_code
def yX11_feed : MethodName := ⟨RX11, "feed", "(IIIII)I"⟩
abbrev cX11_end : ByteArray := prog_13_method_23_code
def yX11_end : MethodName := ⟨RX11, "end", "(I)I"⟩
abbrev cX11_see : ByteArray := prog_13_method_24_code
def yX11_see : MethodName := ⟨RX11, "see", "(I)I"⟩
abbrev cX11_isLetter : ByteArray := prog_13_method_25_code
def yX11_isLetter : MethodName := ⟨RX11, "isLetter", "(I)Z"⟩
abbrev cX11_isDigit : ByteArray := prog_13_method_26_code
def yX11_isDigit : MethodName := ⟨RX11, "isDigit", "(I)Z"⟩
abbrev cX11_pack : ByteArray := prog_13_method_27_code
def yX11_pack : MethodName := ⟨RX11, "pack", "(IIIII)I"⟩
abbrev cX11_n : ByteArray := prog_13_method_28_code
def yX11_n : MethodName := ⟨RX11, "n", "(I)I"⟩
abbrev cX11_w : ByteArray := prog_13_method_29_code
def yX11_w : MethodName := ⟨RX11, "w", "(IIIII)I"⟩
abbrev cX11_wordOf : ByteArray := prog_13_method_30_code
def yX11_wordOf : MethodName := ⟨RX11, "wordOf", "(III)I"⟩
abbrev cX11_nextToken : ByteArray := prog_13_method_31_code
def yX11_nextToken : MethodName := ⟨RX11, "nextToken", "()V"⟩
abbrev cX11_fails : ByteArray := prog_13_method_32_code
def yX11_fails : MethodName := ⟨RX11, "fails", "(II)I"⟩
abbrev cX11_many : ByteArray := prog_13_method_33_code
def yX11_many : MethodName := ⟨RX11, "many", "()I"⟩
abbrev cX11_push : ByteArray := prog_13_method_34_code
def yX11_push : MethodName := ⟨RX11, "push", "(I)V"⟩
abbrev cX11_plainOne : ByteArray := prog_13_method_35_code
def yX11_plainOne : MethodName := ⟨RX11, "plainOne", "()I"⟩
abbrev cX11_opens : ByteArray := prog_13_method_36_code
def yX11_opens : MethodName := ⟨RX11, "opens", "()I"⟩
abbrev cX11_closes : ByteArray := prog_13_method_37_code
def yX11_closes : MethodName := ⟨RX11, "closes", "()I"⟩
abbrev cX11_times : ByteArray := prog_13_method_38_code
def yX11_times : MethodName := ⟨RX11, "times", "()I"⟩
abbrev cX11_readRow : ByteArray := prog_13_method_39_code
def yX11_readRow : MethodName := ⟨RX11, "readRow", "()I"⟩
abbrev cX11_block : ByteArray := prog_13_method_40_code
def yX11_block : MethodName := ⟨RX11, "block", "()I"⟩
abbrev cX11_bring : ByteArray := prog_13_method_41_code
def yX11_bring : MethodName := ⟨RX11, "bring", "(III)V"⟩
abbrev cX11_rowClause : ByteArray := prog_13_method_42_code
def yX11_rowClause : MethodName := ⟨RX11, "rowClause", "(I)I"⟩
abbrev cX11_readText : ByteArray := prog_13_method_43_code
def yX11_readText : MethodName := ⟨RX11, "readText", "()I"⟩
abbrev cX11_text : ByteArray := prog_13_method_44_code
def yX11_text : MethodName := ⟨RX11, "text", "()I"⟩
abbrev cX11_fault : ByteArray := prog_13_method_45_code
def yX11_fault : MethodName := ⟨RX11, "fault", "(I)I"⟩
abbrev cX11_runsOf : ByteArray := prog_13_method_46_code
def yX11_runsOf : MethodName := ⟨RX11, "runsOf", "(JIZZ)V"⟩
abbrev cX11_findRuns : ByteArray := prog_13_method_47_code
def yX11_findRuns : MethodName := ⟨RX11, "findRuns", "(ZZ)V"⟩
abbrev cX11_longest : ByteArray := prog_13_method_48_code
def yX11_longest : MethodName := ⟨RX11, "longest", "(ZZ)I"⟩
abbrev cX11_floats : ByteArray := prog_13_method_49_code
def yX11_floats : MethodName := ⟨RX11, "floats", "(ZZI)I"⟩
abbrev cX11_isPart : ByteArray := prog_13_method_50_code
def yX11_isPart : MethodName := ⟨RX11, "isPart", "(IIII)Z"⟩
abbrev cX11_span : ByteArray := prog_13_method_51_code
def yX11_span : MethodName := ⟨RX11, "span", "(II)J"⟩
abbrev cX11_reach : ByteArray := prog_13_method_52_code
def yX11_reach : MethodName := ⟨RX11, "reach", "(IIII)V"⟩
abbrev cX11_isStrand : ByteArray := prog_13_method_53_code
def yX11_isStrand : MethodName := ⟨RX11, "isStrand", "(IIIII)Z"⟩
abbrev cX11_isAbove : ByteArray := prog_13_method_54_code
def yX11_isAbove : MethodName := ⟨RX11, "isAbove", "(II)Z"⟩
abbrev cX11_number : ByteArray := prog_13_method_55_code
def yX11_number : MethodName := ⟨RX11, "number", "(IIII)V"⟩
abbrev cX11_isTop : ByteArray := prog_13_method_56_code
def yX11_isTop : MethodName := ⟨RX11, "isTop", "(IIIII)Z"⟩
abbrev cX11_layers : ByteArray := prog_13_method_57_code
def yX11_layers : MethodName := ⟨RX11, "layers", "(IIII)I"⟩
abbrev cX11_layer : ByteArray := prog_13_method_58_code
def yX11_layer : MethodName := ⟨RX11, "layer", "(IIIII)I"⟩
abbrev cX11_colourAt : ByteArray := prog_13_method_59_code
def yX11_colourAt : MethodName := ⟨RX11, "colourAt", "(II)I"⟩
abbrev cX11_seenColour : ByteArray := prog_13_method_60_code
def yX11_seenColour : MethodName := ⟨RX11, "seenColour", "(II)I"⟩
abbrev cX11_paint : ByteArray := prog_13_method_61_code
def yX11_paint : MethodName := ⟨RX11, "paint", "(Z)V"⟩
abbrev cX11_coloured : ByteArray := prog_13_method_62_code
def yX11_coloured : MethodName := ⟨RX11, "coloured", "(I)I"⟩
abbrev cX11_isAlike : ByteArray := prog_13_method_63_code
def yX11_isAlike : MethodName := ⟨RX11, "isAlike", "(ZI)Z"⟩
abbrev cX11_period : ByteArray := prog_13_method_64_code
def yX11_period : MethodName := ⟨RX11, "period", "(ZZ)I"⟩
abbrev cX11_fewestOf : ByteArray := prog_13_method_65_code
def yX11_fewestOf : MethodName := ⟨RX11, "fewestOf", "([JI)I"⟩
abbrev cX11_fewest : ByteArray := prog_13_method_66_code
def yX11_fewest : MethodName := ⟨RX11, "fewest", "(Z)I"⟩
abbrev cX11_usedShafts : ByteArray := prog_13_method_67_code
def yX11_usedShafts : MethodName := ⟨RX11, "usedShafts", "()I"⟩
abbrev cX11_bits : ByteArray := prog_13_method_68_code
def yX11_bits : MethodName := ⟨RX11, "bits", "(I)I"⟩
abbrev cX11_pegs : ByteArray := prog_13_method_69_code
def yX11_pegs : MethodName := ⟨RX11, "pegs", "(Z)I"⟩
abbrev cX11_gather : ByteArray := prog_13_method_70_code
def yX11_gather : MethodName := ⟨RX11, "gather", "()V"⟩
abbrev cX11_findCommons : ByteArray := prog_13_method_71_code
def yX11_findCommons : MethodName := ⟨RX11, "findCommons", "()V"⟩
abbrev cX11_covers : ByteArray := prog_13_method_72_code
def yX11_covers : MethodName := ⟨RX11, "covers", "(I)Z"⟩
abbrev cX11_chooses : ByteArray := prog_13_method_73_code
def yX11_chooses : MethodName := ⟨RX11, "chooses", "(I)Z"⟩
abbrev cX11_cover : ByteArray := prog_13_method_74_code
def yX11_cover : MethodName := ⟨RX11, "cover", "(I)I"⟩
abbrev cX11_seen : ByteArray := prog_13_method_75_code
def yX11_seen : MethodName := ⟨RX11, "seen", "(IJ)Z"⟩
abbrev cX11_seenColumn : ByteArray := prog_13_method_76_code
def yX11_seenColumn : MethodName := ⟨RX11, "seenColumn", "(I)J"⟩
abbrev cX11_columnBy : ByteArray := prog_13_method_77_code
def yX11_columnBy : MethodName := ⟨RX11, "columnBy", "(I)J"⟩
abbrev cX11_unlike : ByteArray := prog_13_method_78_code
def yX11_unlike : MethodName := ⟨RX11, "unlike", "(JJ)I"⟩
abbrev cX11_wrong : ByteArray := prog_13_method_79_code
def yX11_wrong : MethodName := ⟨RX11, "wrong", "(I)I"⟩
abbrev cX11_nearestOf : ByteArray := prog_13_method_80_code
def yX11_nearestOf : MethodName := ⟨RX11, "nearestOf", "(I)I"⟩
abbrev cX11_nearest : ByteArray := prog_13_method_81_code
def yX11_nearest : MethodName := ⟨RX11, "nearest", "(II)I"⟩
abbrev cX11_costOfEnds : ByteArray := prog_13_method_82_code
def yX11_costOfEnds : MethodName := ⟨RX11, "costOfEnds", "()I"⟩
abbrev cX11_mend : ByteArray := prog_13_method_83_code
def yX11_mend : MethodName := ⟨RX11, "mend", "()V"⟩
abbrev cX11_mended : ByteArray := prog_13_method_84_code
def yX11_mended : MethodName := ⟨RX11, "mended", "(I)I"⟩
abbrev cX11_mendedShaft : ByteArray := prog_13_method_85_code
def yX11_mendedShaft : MethodName := ⟨RX11, "mendedShaft", "(I)I"⟩
abbrev cX11_isMoved : ByteArray := prog_13_method_86_code
def yX11_isMoved : MethodName := ⟨RX11, "isMoved", "(II)Z"⟩
abbrev cX11_shifted : ByteArray := prog_13_method_87_code
def yX11_shifted : MethodName := ⟨RX11, "shifted", "(Z)I"⟩
abbrev cX11_about : ByteArray := prog_13_method_88_code
def yX11_about : MethodName := ⟨RX11, "about", "(I)I"⟩
def RJ6 : String := "java/lang/Integer"
def TJ6 : u_T := fun k => match k with
  | _ => ("", "", "", false)
def tyJ6 : Nat → FieldType := fun k => match k with
  | _ => .int
abbrev wsJ60 : List Cond := u_ws RJ6 TJ6 0
theorem nmJ6 : ∀ a, a < 0 → ∀ b, b < 0 → a ≠ b → (TJ6 a).2.1 ≠ (TJ6 b).2.1 := by decide +kernel
theorem tyJ6_ok : ∀ k, k < 0 → parseFieldDescriptor (TJ6 k).2.2.1 = some (tyJ6 k) := by decide +kernel
abbrev cJ6_numberOfTrailingZeros_0f7a4 : ByteArray := prog_14_method_48_code
def yJ6_numberOfTrailingZeros_0f7a4 : MethodName := ⟨RJ6, "numberOfTrailingZeros", "(I)I"⟩
abbrev cJ6_bitCount_0f7a4 : ByteArray := prog_14_method_49_code
def yJ6_bitCount_0f7a4 : MethodName := ⟨RJ6, "bitCount", "(I)I"⟩
def RJ13 : String := "java/lang/Long"
def TJ13 : u_T := fun k => match k with
  | _ => ("", "", "", false)
def tyJ13 : Nat → FieldType := fun k => match k with
  | _ => .int
abbrev wsJ130 : List Cond := u_ws RJ13 TJ13 0
theorem nmJ13 : ∀ a, a < 0 → ∀ b, b < 0 → a ≠ b → (TJ13 a).2.1 ≠ (TJ13 b).2.1 := by decide +kernel
theorem tyJ13_ok : ∀ k, k < 0 → parseFieldDescriptor (TJ13 k).2.2.1 = some (tyJ13 k) := by decide +kernel
abbrev cJ13_numberOfTrailingZeros_95d88 : ByteArray := prog_15_method_49_code
def yJ13_numberOfTrailingZeros_95d88 : MethodName := ⟨RJ13, "numberOfTrailingZeros", "(J)I"⟩
abbrev cJ13_bitCount_95d88 : ByteArray := prog_15_method_50_code
def yJ13_bitCount_95d88 : MethodName := ⟨RJ13, "bitCount", "(J)I"⟩
def RJ9 : String := "java/lang/Math"
def TJ9 : u_T := fun k => match k with
  | _ => ("", "", "", false)
def tyJ9 : Nat → FieldType := fun k => match k with
  | _ => .int
abbrev wsJ90 : List Cond := u_ws RJ9 TJ9 0
theorem nmJ9 : ∀ a, a < 0 → ∀ b, b < 0 → a ≠ b → (TJ9 a).2.1 ≠ (TJ9 b).2.1 := by decide +kernel
theorem tyJ9_ok : ∀ k, k < 0 → parseFieldDescriptor (TJ9 k).2.2.1 = some (tyJ9 k) := by decide +kernel
abbrev cJ9_abs_0f7a4 : ByteArray := prog_16_method_59_code
def yJ9_abs_0f7a4 : MethodName := ⟨RJ9, "abs", "(I)I"⟩
abbrev cJ9_max_7cf53 : ByteArray := prog_16_method_65_code
def yJ9_max_7cf53 : MethodName := ⟨RJ9, "max", "(II)I"⟩
abbrev cJ9_min_7cf53 : ByteArray := prog_16_method_69_code
def yJ9_min_7cf53 : MethodName := ⟨RJ9, "min", "(II)I"⟩
def RJ0 : String := "java/lang/String"
def TJ0 : u_T := fun k => match k with
  | _ => ("", "", "", false)
def tyJ0 : Nat → FieldType := fun k => match k with
  | _ => .int
abbrev wsJ00 : List Cond := u_ws RJ0 TJ0 0
theorem nmJ0 : ∀ a, a < 0 → ∀ b, b < 0 → a ≠ b → (TJ0 a).2.1 ≠ (TJ0 b).2.1 := by decide +kernel
theorem tyJ0_ok : ∀ k, k < 0 → parseFieldDescriptor (TJ0 k).2.2.1 = some (tyJ0 k) := by decide +kernel
abbrev cJ0_length_8abf5 : ByteArray := prog_17_method_54_code
def yJ0_length_8abf5 : MethodName := ⟨RJ0, "length", "()I"⟩
abbrev cJ0_charAt_5068e : ByteArray := prog_17_method_56_code
def yJ0_charAt_5068e : MethodName := ⟨RJ0, "charAt", "(I)C"⟩
abbrev cJ0_coder_7d493 : ByteArray := prog_17_method_152_code
def yJ0_coder_7d493 : MethodName := ⟨RJ0, "coder", "()B"⟩
abbrev cJ0_isLatin1_aae02 : ByteArray := prog_17_method_154_code
def yJ0_isLatin1_aae02 : MethodName := ⟨RJ0, "isLatin1", "()Z"⟩
abbrev cJ0_checkIndex_df160 : ByteArray := prog_17_method_155_code
def yJ0_checkIndex_df160 : MethodName := ⟨RJ0, "checkIndex", "(II)V"⟩
def RJ1 : String := "java/lang/StringLatin1"
def TJ1 : u_T := fun k => match k with
  | _ => ("", "", "", false)
def tyJ1 : Nat → FieldType := fun k => match k with
  | _ => .int
abbrev wsJ10 : List Cond := u_ws RJ1 TJ1 0
theorem nmJ1 : ∀ a, a < 0 → ∀ b, b < 0 → a ≠ b → (TJ1 a).2.1 ≠ (TJ1 b).2.1 := by decide +kernel
theorem tyJ1_ok : ∀ k, k < 0 → parseFieldDescriptor (TJ1 k).2.2.1 = some (tyJ1 k) := by decide +kernel
abbrev cJ1_charAt_3b067 : ByteArray := prog_18_method_2_code
def yJ1_charAt_3b067 : MethodName := ⟨RJ1, "charAt", "([BI)C"⟩
def RJ2 : String := "java/lang/StringUTF16"
def TJ2 : u_T := fun k => match k with
  | _ => ("", "", "", false)
def tyJ2 : Nat → FieldType := fun k => match k with
  | _ => .int
abbrev wsJ20 : List Cond := u_ws RJ2 TJ2 0
theorem nmJ2 : ∀ a, a < 0 → ∀ b, b < 0 → a ≠ b → (TJ2 a).2.1 ≠ (TJ2 b).2.1 := by decide +kernel
theorem tyJ2_ok : ∀ k, k < 0 → parseFieldDescriptor (TJ2 k).2.2.1 = some (tyJ2 k) := by decide +kernel
abbrev cJ2_getChar_3b067 : ByteArray := prog_19_method_5_code
def yJ2_getChar_3b067 : MethodName := ⟨RJ2, "getChar", "([BI)C"⟩
abbrev cJ2_length_9d52b : ByteArray := prog_19_method_6_code
def yJ2_length_9d52b : MethodName := ⟨RJ2, "length", "([B)I"⟩
abbrev cJ2_charAt_3b067 : ByteArray := prog_19_method_83_code
def yJ2_charAt_3b067 : MethodName := ⟨RJ2, "charAt", "([BI)C"⟩
abbrev cJ2_checkIndex_2214a : ByteArray := prog_19_method_91_code
def yJ2_checkIndex_2214a : MethodName := ⟨RJ2, "checkIndex", "(I[B)V"⟩
def RJ7 : String := "java/util/Arrays"
def TJ7 : u_T := fun k => match k with
  | _ => ("", "", "", false)
def tyJ7 : Nat → FieldType := fun k => match k with
  | _ => .int
abbrev wsJ70 : List Cond := u_ws RJ7 TJ7 0
theorem nmJ7 : ∀ a, a < 0 → ∀ b, b < 0 → a ≠ b → (TJ7 a).2.1 ≠ (TJ7 b).2.1 := by decide +kernel
theorem tyJ7_ok : ∀ k, k < 0 → parseFieldDescriptor (TJ7 k).2.2.1 = some (tyJ7 k) := by decide +kernel
abbrev cJ7_fill_d0a16 : ByteArray := prog_20_method_101_code
def yJ7_fill_d0a16 : MethodName := ⟨RJ7, "fill", "([JJ)V"⟩
abbrev cJ7_fill_53178 : ByteArray := prog_20_method_103_code
def yJ7_fill_53178 : MethodName := ⟨RJ7, "fill", "([II)V"⟩
def RJ3 : String := "jdk/internal/util/Preconditions"
def TJ3 : u_T := fun k => match k with
  | _ => ("", "", "", false)
def tyJ3 : Nat → FieldType := fun k => match k with
  | _ => .int
abbrev wsJ30 : List Cond := u_ws RJ3 TJ3 0
theorem nmJ3 : ∀ a, a < 0 → ∀ b, b < 0 → a ≠ b → (TJ3 a).2.1 ≠ (TJ3 b).2.1 := by decide +kernel
theorem tyJ3_ok : ∀ k, k < 0 → parseFieldDescriptor (TJ3 k).2.2.1 = some (tyJ3 k) := by decide +kernel
abbrev cJ3_checkIndex_8e157 : ByteArray := prog_21_method_11_code
def yJ3_checkIndex_8e157 : MethodName := ⟨RJ3, "checkIndex", "(IILjava/util/function/BiFunction;)I"⟩
def RL : String := "DraftHouseLaw"
abbrev cL_cell : ByteArray := method_2_code
def yL_cell : MethodName := ⟨RL, "cell", "([II)I"⟩
abbrev cL_law : ByteArray := code
def yL_law : MethodName := ⟨RL, "law", "([I)Z"⟩
abbrev vwCl : List vw_C := [(RX0, TX0, 12), (RX1, TX1, 13), (RX2, TX2, 14), (RX3, TX3, 10), (RX4, TX4, 15), (RX5, TX5, 4), (RX6, TX6, 20), (RX7, TX7, 2), (RX8, TX8, 4), (RX9, TX9, 6), (RX10, TX10, 12), (RX11, TX11, 56)]
end
section
/-! the program, for the simulator: links of each class, methods -/
def lkX0 : sm_LK := ([(9, 0, 4, 9), (15, 0, 5, 9), (19, 0, 6, 9), (22, 0, 7, 9), (25, 0, 8, 9), (28, 0, 9, 9), (31, 0, 0, 9), (35, 0, 1, 9), (39, 0, 2, 9), (46, 0, 3, 9), (50, 0, 11, 0), (53, 3, 9, 0), (82, 0, 10, 0)], [(3, 3, 0, 0, 0), (42, 0, 151, 1, 10), (56, 1, 3, 0, 0), (59, 1, 4, 0, 0), (62, 1, 5, 0, 0), (65, 1, 6, 0, 0), (68, 0, 254, 2, 0), (74, 1, 32, 1, 3), (78, 0, 150, 2, 10), (85, 1, 2, 1, 0)], [], [])
def lkIX0 : sm_LK := ([(9, 0, 4, 3), (15, 0, 5, 3), (19, 0, 6, 3), (22, 0, 7, 3), (25, 0, 8, 3), (28, 0, 9, 3), (31, 0, 0, 3), (35, 0, 1, 0), (39, 0, 2, 0), (46, 0, 3, 2), (50, 0, 11, 0), (53, 3, 9, 0), (82, 0, 10, 0)], [(3, 3, 0, 0, 0), (42, 0, 151, 1, 10), (56, 1, 3, 0, 0), (59, 1, 4, 0, 0), (62, 1, 5, 0, 0), (65, 1, 6, 0, 0), (68, 0, 254, 2, 0), (74, 1, 32, 1, 3), (78, 0, 150, 2, 10), (85, 1, 2, 1, 0)], [], [])
def lkX1 : sm_LK := ([(11, 1, 1, 9), (15, 1, 3, 9), (18, 1, 5, 9), (22, 1, 6, 9), (25, 1, 7, 9), (28, 1, 9, 9), (31, 1, 10, 9), (34, 1, 0, 9), (38, 1, 12, 0), (42, 0, 11, 0), (45, 1, 11, 0), (61, 1, 2, 0), (64, 0, 2, 9), (67, 0, 4, 9), (68, 0, 10, 0), (75, 1, 4, 0), (96, 1, 8, 0)], [(3, 3, 0, 0, 0), (48, 1, 10, 0, 1), (52, 1, 12, 0, 1), (55, 1, 14, 0, 1), (58, 1, 18, 0, 1), (71, 0, 11, 3, 1), (79, 0, 150, 2, 10), (83, 1, 13, 1, 1), (87, 1, 16, 0, 1), (90, 0, 254, 2, 0), (99, 1, 17, 2, 1), (103, 1, 15, 0, 1), (106, 1, 20, 3, 1), (110, 0, 252, 1, 0), (118, 0, 151, 1, 10), (122, 1, 19, 2, 1)], [(78, .int 65535), (116, .long (-1))], [])
def lkIX1 : sm_LK := ([(11, 1, 1, 3), (15, 1, 3, 3), (18, 1, 5, 3), (22, 1, 6, 3), (25, 1, 7, 3), (28, 1, 9, 3), (31, 1, 10, 3), (34, 1, 0, 3), (38, 1, 12, 0), (42, 0, 11, 0), (45, 1, 11, 0), (61, 1, 2, 0), (64, 0, 2, 9), (67, 0, 4, 9), (68, 0, 10, 0), (75, 1, 4, 0), (96, 1, 8, 0)], [(3, 3, 0, 0, 0), (48, 1, 10, 0, 1), (52, 1, 12, 0, 1), (55, 1, 14, 0, 1), (58, 1, 18, 0, 1), (71, 0, 11, 3, 1), (79, 0, 150, 2, 10), (83, 1, 13, 1, 1), (87, 1, 16, 0, 1), (90, 0, 254, 2, 0), (99, 1, 17, 2, 1), (103, 1, 15, 0, 1), (106, 1, 20, 3, 1), (110, 0, 252, 1, 0), (118, 0, 151, 1, 10), (122, 1, 19, 2, 1)], [(78, .int 65535), (116, .long (-1))], [])
def lkX2 : sm_LK := ([(11, 2, 1, 9), (15, 2, 2, 9), (18, 2, 3, 9), (21, 2, 4, 9), (24, 2, 5, 9), (28, 2, 0, 9), (32, 2, 7, 0), (36, 2, 8, 0), (39, 2, 9, 0), (42, 2, 10, 0), (45, 2, 13, 0), (48, 0, 11, 0), (66, 2, 11, 2), (70, 2, 12, 2), (83, 0, 6, 9), (86, 0, 5, 9), (93, 2, 6, 0)], [(3, 3, 0, 0, 0), (51, 5, 0, 0, 0), (57, 6, 0, 0, 0), (60, 0, 151, 1, 10), (73, 1, 24, 0, 2), (76, 1, 25, 2, 2), (80, 1, 27, 0, 2), (89, 1, 26, 3, 2), (96, 1, 28, 0, 2), (100, 1, 30, 1, 2), (104, 0, 150, 2, 10), (108, 1, 29, 1, 2)], [(64, .long (-1))], [])
def lkIX2 : sm_LK := ([(11, 2, 1, 3), (15, 2, 2, 3), (18, 2, 3, 3), (21, 2, 4, 3), (24, 2, 5, 3), (28, 2, 0, 3), (32, 2, 7, 0), (36, 2, 8, 0), (39, 2, 9, 0), (42, 2, 10, 0), (45, 2, 13, 0), (48, 0, 11, 0), (66, 2, 11, 2), (70, 2, 12, 2), (83, 0, 6, 9), (86, 0, 5, 9), (93, 2, 6, 0)], [(3, 3, 0, 0, 0), (51, 5, 0, 0, 0), (57, 6, 0, 0, 0), (60, 0, 151, 1, 10), (73, 1, 24, 0, 2), (76, 1, 25, 2, 2), (80, 1, 27, 0, 2), (89, 1, 26, 3, 2), (96, 1, 28, 0, 2), (100, 1, 30, 1, 2), (104, 0, 150, 2, 10), (108, 1, 29, 1, 2)], [(64, .long (-1))], [])
def lkX3 : sm_LK := ([(9, 3, 0, 9), (15, 3, 1, 9), (18, 3, 2, 9), (21, 3, 3, 9), (24, 3, 4, 9), (30, 3, 9, 0), (45, 3, 5, 0), (48, 3, 6, 0), (51, 3, 7, 0), (54, 3, 8, 0)], [(3, 3, 0, 0, 0), (27, 1, 39, 0, 3), (34, 1, 35, 0, 3), (37, 1, 36, 2, 3), (41, 1, 37, 0, 3), (57, 1, 40, 1, 3), (61, 0, 255, 2, 0), (67, 5, 0, 0, 0)], [], [])
def lkIX3 : sm_LK := ([(9, 3, 0, 3), (15, 3, 1, 3), (18, 3, 2, 3), (21, 3, 3, 3), (24, 3, 4, 3), (30, 3, 9, 0), (45, 3, 5, 0), (48, 3, 6, 0), (51, 3, 7, 0), (54, 3, 8, 0)], [(3, 3, 0, 0, 0), (27, 1, 39, 0, 3), (34, 1, 35, 0, 3), (37, 1, 36, 2, 3), (41, 1, 37, 0, 3), (57, 1, 40, 1, 3), (61, 0, 255, 2, 0), (67, 5, 0, 0, 0)], [], [])
def lkX4 : sm_LK := ([(9, 4, 3, 9), (15, 4, 12, 9), (19, 4, 0, 9), (23, 4, 1, 9), (27, 4, 2, 9), (31, 4, 13, 0), (35, 0, 11, 0), (40, 4, 14, 0), (43, 8, 3, 0), (63, 4, 4, 2), (67, 0, 3, 9), (70, 4, 6, 2), (73, 4, 7, 2), (76, 0, 8, 9), (79, 0, 7, 9), (84, 4, 5, 2), (87, 4, 8, 1), (97, 4, 9, 0), (100, 4, 10, 0), (103, 4, 11, 0), (120, 0, 9, 9), (123, 0, 1, 9)], [(3, 3, 0, 0, 0), (46, 1, 43, 0, 4), (49, 1, 44, 0, 4), (52, 1, 45, 2, 4), (56, 1, 47, 0, 4), (59, 1, 98, 1, 8), (91, 0, 253, 1, 0), (106, 1, 46, 2, 4), (110, 1, 32, 1, 3), (116, 0, 150, 2, 10), (126, 1, 48, 2, 4), (130, 1, 49, 1, 4)], [(82, .long (-1))], [])
def lkIX4 : sm_LK := ([(9, 4, 3, 3), (15, 4, 12, 3), (19, 4, 0, 3), (23, 4, 1, 3), (27, 4, 2, 3), (31, 4, 13, 0), (35, 0, 11, 0), (40, 4, 14, 0), (43, 8, 3, 0), (63, 4, 4, 2), (67, 0, 3, 9), (70, 4, 6, 2), (73, 4, 7, 2), (76, 0, 8, 9), (79, 0, 7, 9), (84, 4, 5, 2), (87, 4, 8, 1), (97, 4, 9, 0), (100, 4, 10, 0), (103, 4, 11, 0), (120, 0, 9, 9), (123, 0, 1, 9)], [(3, 3, 0, 0, 0), (46, 1, 43, 0, 4), (49, 1, 44, 0, 4), (52, 1, 45, 2, 4), (56, 1, 47, 0, 4), (59, 1, 98, 1, 8), (91, 0, 253, 1, 0), (106, 1, 46, 2, 4), (110, 1, 32, 1, 3), (116, 0, 150, 2, 10), (126, 1, 48, 2, 4), (130, 1, 49, 1, 4)], [(82, .long (-1))], [])
def lkX5 : sm_LK := ([(11, 5, 2, 9), (15, 5, 0, 9), (19, 5, 1, 9), (23, 5, 3, 0), (27, 0, 2, 9), (32, 0, 5, 9), (33, 0, 1, 9), (48, 0, 3, 9)], [(3, 3, 0, 0, 0), (36, 1, 32, 1, 3), (42, 0, 150, 2, 10), (52, 1, 55, 2, 5)], [(46, .long (-1))], [])
def lkIX5 : sm_LK := ([(11, 5, 2, 3), (15, 5, 0, 3), (19, 5, 1, 3), (23, 5, 3, 0), (27, 0, 2, 9), (32, 0, 5, 9), (33, 0, 1, 9), (48, 0, 3, 9)], [(3, 3, 0, 0, 0), (36, 1, 32, 1, 3), (42, 0, 150, 2, 10), (52, 1, 55, 2, 5)], [(46, .long (-1))], [])
def lkX6 : sm_LK := ([(11, 6, 4, 9), (15, 6, 5, 9), (18, 6, 6, 9), (21, 6, 7, 9), (24, 6, 8, 9), (27, 6, 9, 9), (30, 6, 18, 0), (34, 6, 19, 0), (37, 6, 0, 9), (41, 6, 1, 9), (45, 6, 2, 9), (48, 6, 3, 9), (67, 6, 12, 0), (79, 9, 3, 0), (85, 9, 4, 0), (123, 6, 13, 0), (129, 9, 5, 0), (136, 6, 14, 0), (143, 6, 11, 0), (146, 6, 10, 0), (159, 6, 15, 0), (162, 6, 16, 0), (165, 6, 17, 0)], [(3, 3, 0, 0, 0), (51, 0, 255, 2, 0), (57, 1, 35, 0, 3), (62, 1, 104, 0, 9), (70, 1, 105, 0, 9), (73, 1, 58, 0, 6), (76, 1, 61, 0, 6), (82, 1, 69, 0, 6), (88, 1, 60, 2, 6), (92, 1, 62, 0, 6), (95, 1, 63, 0, 6), (98, 1, 66, 1, 6), (102, 1, 64, 0, 6), (105, 1, 67, 0, 6), (108, 1, 70, 0, 6), (111, 1, 72, 0, 6), (114, 1, 73, 0, 6), (117, 1, 77, 0, 6), (120, 1, 78, 0, 6), (126, 1, 59, 1, 6), (132, 1, 88, 1, 6), (139, 1, 65, 2, 6), (149, 1, 83, 0, 6), (153, 1, 68, 0, 6), (156, 1, 71, 0, 6), (168, 1, 84, 1, 6), (172, 1, 85, 1, 6), (175, 7, 0, 0, 0), (180, 1, 89, 2, 6), (184, 5, 0, 0, 0), (187, 1, 86, 1, 6), (190, 1, 75, 2, 6), (193, 1, 76, 3, 6), (197, 1, 87, 2, 6), (200, 1, 74, 0, 6), (203, 1, 79, 0, 6), (206, 1, 80, 0, 6), (209, 1, 81, 2, 6), (212, 1, 82, 0, 6), (215, 6, 0, 0, 0), (218, 1, 36, 2, 3)], [], [])
def lkIX6 : sm_LK := ([(11, 6, 4, 3), (15, 6, 5, 3), (18, 6, 6, 3), (21, 6, 7, 3), (24, 6, 8, 3), (27, 6, 9, 3), (30, 6, 18, 0), (34, 6, 19, 0), (37, 6, 0, 3), (41, 6, 1, 3), (45, 6, 2, 0), (48, 6, 3, 0), (67, 6, 12, 0), (79, 9, 3, 0), (85, 9, 4, 0), (123, 6, 13, 0), (129, 9, 5, 0), (136, 6, 14, 0), (143, 6, 11, 0), (146, 6, 10, 0), (159, 6, 15, 0), (162, 6, 16, 0), (165, 6, 17, 0)], [(3, 3, 0, 0, 0), (51, 0, 255, 2, 0), (57, 1, 35, 0, 3), (62, 1, 104, 0, 9), (70, 1, 105, 0, 9), (73, 1, 58, 0, 6), (76, 1, 61, 0, 6), (82, 1, 69, 0, 6), (88, 1, 60, 2, 6), (92, 1, 62, 0, 6), (95, 1, 63, 0, 6), (98, 1, 66, 1, 6), (102, 1, 64, 0, 6), (105, 1, 67, 0, 6), (108, 1, 70, 0, 6), (111, 1, 72, 0, 6), (114, 1, 73, 0, 6), (117, 1, 77, 0, 6), (120, 1, 78, 0, 6), (126, 1, 59, 1, 6), (132, 1, 88, 1, 6), (139, 1, 65, 2, 6), (149, 1, 83, 0, 6), (153, 1, 68, 0, 6), (156, 1, 71, 0, 6), (168, 1, 84, 1, 6), (172, 1, 85, 1, 6), (175, 7, 0, 0, 0), (180, 1, 89, 2, 6), (184, 5, 0, 0, 0), (187, 1, 86, 1, 6), (190, 1, 75, 2, 6), (193, 1, 76, 3, 6), (197, 1, 87, 2, 6), (200, 1, 74, 0, 6), (203, 1, 79, 0, 6), (206, 1, 80, 0, 6), (209, 1, 81, 2, 6), (212, 1, 82, 0, 6), (215, 6, 0, 0, 0), (218, 1, 36, 2, 3)], [], [])
def lkX7 : sm_LK := ([(9, 7, 1, 9), (15, 7, 0, 9), (25, 0, 1, 9), (31, 0, 2, 9), (34, 0, 6, 9), (38, 0, 5, 9), (43, 0, 3, 9)], [(3, 3, 0, 0, 0), (19, 0, 255, 2, 0), (47, 0, 92, 2, 7), (51, 1, 93, 2, 7), (55, 0, 252, 1, 0), (61, 0, 152, 3, 10), (65, 0, 150, 2, 10)], [(41, .long (-1))], [])
def lkIX7 : sm_LK := ([(9, 7, 1, 3), (15, 7, 0, 3), (25, 0, 1, 9), (31, 0, 2, 9), (34, 0, 6, 9), (38, 0, 5, 9), (43, 0, 3, 9)], [(3, 3, 0, 0, 0), (19, 0, 255, 2, 0), (47, 0, 92, 2, 7), (51, 1, 93, 2, 7), (55, 0, 252, 1, 0), (61, 0, 152, 3, 10), (65, 0, 150, 2, 10)], [(41, .long (-1))], [])
def lkX8 : sm_LK := ([(9, 8, 1, 9), (15, 8, 2, 9), (18, 8, 0, 9), (22, 8, 3, 0), (26, 0, 1, 9), (37, 0, 2, 9), (48, 0, 5, 9)], [(3, 3, 0, 0, 0), (31, 0, 150, 2, 10), (40, 0, 100, 2, 8), (44, 0, 101, 2, 8), (49, 0, 152, 3, 10)], [(35, .long (-1))], [])
def lkIX8 : sm_LK := ([(9, 8, 1, 3), (15, 8, 2, 3), (18, 8, 0, 3), (22, 8, 3, 0), (26, 0, 1, 9), (37, 0, 2, 9), (48, 0, 5, 9)], [(3, 3, 0, 0, 0), (31, 0, 150, 2, 10), (40, 0, 100, 2, 8), (44, 0, 101, 2, 8), (49, 0, 152, 3, 10)], [(35, .long (-1))], [])
def lkX9 : sm_LK := ([(9, 9, 0, 9), (15, 9, 1, 0), (19, 9, 2, 0), (30, 9, 4, 0), (33, 9, 3, 0), (51, 9, 5, 0)], [(3, 3, 0, 0, 0), (22, 1, 106, 1, 9), (26, 0, 111, 1, 9), (36, 0, 112, 1, 9), (39, 1, 107, 0, 9), (42, 0, 113, 1, 9), (45, 1, 108, 0, 9), (48, 0, 114, 1, 9), (54, 6, 0, 0, 0), (60, 1, 109, 0, 9), (66, 1, 110, 1, 9), (84, 4, 900, 0, 0), (89, 4, 901, 1, 0)], [(64, .ref 1001), (70, .ref 1002), (72, .ref 1003), (74, .ref 1004), (76, .ref 1005), (78, .ref 1006), (80, .ref 1007), (82, .ref 1008)], [])
def lkIX9 : sm_LK := ([(9, 9, 0, 3), (15, 9, 1, 0), (19, 9, 2, 0), (30, 9, 4, 0), (33, 9, 3, 0), (51, 9, 5, 0)], [(3, 3, 0, 0, 0), (22, 1, 106, 1, 9), (26, 0, 111, 1, 9), (36, 0, 112, 1, 9), (39, 1, 107, 0, 9), (42, 0, 113, 1, 9), (45, 1, 108, 0, 9), (48, 0, 114, 1, 9), (54, 6, 0, 0, 0), (60, 1, 109, 0, 9), (66, 1, 110, 1, 9), (84, 4, 900, 0, 0), (89, 4, 901, 1, 0)], [(64, .ref 1001), (70, .ref 1002), (72, .ref 1003), (74, .ref 1004), (76, .ref 1005), (78, .ref 1006), (80, .ref 1007), (82, .ref 1008)], [])
def lkX10 : sm_LK := ([(18, 10, 0, 9), (22, 10, 1, 9), (28, 10, 2, 9), (37, 10, 3, 9), (44, 10, 4, 9), (53, 10, 5, 9), (62, 10, 6, 9), (71, 10, 7, 9), (78, 10, 8, 9), (85, 10, 9, 9), (92, 10, 10, 9), (101, 10, 11, 9), (119, 9, 1, 0), (129, 6, 18, 0), (136, 6, 19, 0), (139, 3, 7, 0), (152, 0, 4, 9), (156, 0, 5, 9), (186, 2, 6, 0), (222, 0, 6, 9), (225, 0, 10, 0), (235, 1, 11, 0), (239, 0, 3, 9), (247, 8, 2, 9), (255, 4, 8, 1), (259, 4, 9, 0), (262, 4, 10, 0), (265, 4, 11, 0), (268, 4, 12, 9), (271, 8, 1, 9), (286, 3, 8, 0), (289, 3, 5, 0)], [(3, 3, 0, 0, 0), (9, 6, 0, 0, 0), (15, 5, 0, 0, 0), (27, 2, 31, 0, 3), (34, 2, 0, 3, 0), (43, 2, 102, 0, 9), (50, 2, 56, 4, 6), (59, 2, 90, 1, 7), (68, 2, 50, 2, 5), (77, 2, 21, 1, 2), (84, 2, 7, 1, 1), (91, 2, 96, 1, 8), (98, 2, 41, 3, 4), (105, 1, 146, 1, 10), (109, 1, 34, 2, 3), (113, 1, 147, 1, 10), (116, 0, 149, 1, 10), (122, 1, 103, 1, 9), (126, 1, 57, 0, 6), (132, 1, 37, 0, 3), (142, 1, 38, 1, 3), (145, 1, 32, 1, 3), (149, 1, 1, 0, 0), (162, 1, 153, 2, 10), (165, 1, 33, 1, 3), (168, 1, 91, 2, 7), (172, 1, 94, 0, 7), (175, 1, 95, 1, 7), (178, 1, 148, 4, 10), (182, 1, 22, 4, 2), (189, 1, 23, 1, 2), (192, 0, 150, 2, 10), (196, 1, 154, 1, 10), (200, 0, 253, 1, 0), (206, 1, 52, 0, 5), (209, 1, 51, 0, 5), (212, 1, 53, 1, 5), (215, 1, 54, 1, 5), (218, 0, 155, 2, 10), (228, 0, 251, 1, 0), (232, 1, 8, 0, 1), (236, 1, 9, 1, 1), (243, 1, 97, 2, 8), (248, 1, 157, 1, 10), (251, 1, 156, 2, 10), (254, 1, 42, 0, 4), (272, 0, 159, 1, 10), (276, 1, 158, 0, 10), (279, 1, 160, 0, 10), (282, 1, 99, 3, 8), (292, 1, 161, 0, 10), (295, 0, 151, 1, 10), (298, 1, 2, 1, 0)], [(112, .int 65536), (160, .long (-1))], [(25, 3, [.null, .null, .null, .null, .null, .int 0, .int 0, .int 0, .int 0, .int 0]), (32, 0, [.null, .int 0, .int 0, .long 0, .null, .null, .null, .null, .null, .null, .int 0, .int 0]), (41, 9, [.null, .int 0, .int 0, .int 0, .int 0, .int 0]), (48, 6, [.null, .null, .int 0, .int 0, .null, .null, .null, .null, .null, .null, .int 0, .int 0, .int 0, .int 0, .int 0, .int 0, .int 0, .int 0, .int 0, .int 0]), (57, 7, [.null, .null]), (66, 5, [.null, .null, .null, .int 0]), (75, 2, [.null, .null, .null, .null, .null, .null, .int 0, .int 0, .int 0, .int 0, .int 0, .long 0, .long 0, .int 0]), (82, 1, [.null, .null, .int 0, .null, .int 0, .null, .null, .null, .int 0, .null, .null, .int 0, .int 0]), (89, 8, [.null, .null, .null, .int 0]), (96, 4, [.null, .null, .null, .null, .long 0, .long 0, .long 0, .long 0, .int 0, .int 0, .int 0, .int 0, .null, .int 0, .int 0])])
def lkIX10 : sm_LK := ([(18, 10, 0, 0), (22, 10, 1, 0), (28, 10, 2, 3), (37, 10, 3, 3), (44, 10, 4, 3), (53, 10, 5, 3), (62, 10, 6, 3), (71, 10, 7, 3), (78, 10, 8, 3), (85, 10, 9, 3), (92, 10, 10, 3), (101, 10, 11, 3), (119, 9, 1, 0), (129, 6, 18, 0), (136, 6, 19, 0), (139, 3, 7, 0), (152, 0, 4, 9), (156, 0, 5, 9), (186, 2, 6, 0), (222, 0, 6, 9), (225, 0, 10, 0), (235, 1, 11, 0), (239, 0, 3, 9), (247, 8, 2, 9), (255, 4, 8, 1), (259, 4, 9, 0), (262, 4, 10, 0), (265, 4, 11, 0), (268, 4, 12, 9), (271, 8, 1, 9), (286, 3, 8, 0), (289, 3, 5, 0)], [(3, 3, 0, 0, 0), (9, 6, 0, 0, 0), (15, 5, 0, 0, 0), (27, 2, 31, 0, 3), (34, 2, 0, 3, 0), (43, 2, 102, 0, 9), (50, 2, 56, 4, 6), (59, 2, 90, 1, 7), (68, 2, 50, 2, 5), (77, 2, 21, 1, 2), (84, 2, 7, 1, 1), (91, 2, 96, 1, 8), (98, 2, 41, 3, 4), (105, 1, 146, 1, 10), (109, 1, 34, 2, 3), (113, 1, 147, 1, 10), (116, 0, 149, 1, 10), (122, 1, 103, 1, 9), (126, 1, 57, 0, 6), (132, 1, 37, 0, 3), (142, 1, 38, 1, 3), (145, 1, 32, 1, 3), (149, 1, 1, 0, 0), (162, 1, 153, 2, 10), (165, 1, 33, 1, 3), (168, 1, 91, 2, 7), (172, 1, 94, 0, 7), (175, 1, 95, 1, 7), (178, 1, 148, 4, 10), (182, 1, 22, 4, 2), (189, 1, 23, 1, 2), (192, 0, 150, 2, 10), (196, 1, 154, 1, 10), (200, 0, 253, 1, 0), (206, 1, 52, 0, 5), (209, 1, 51, 0, 5), (212, 1, 53, 1, 5), (215, 1, 54, 1, 5), (218, 0, 155, 2, 10), (228, 0, 251, 1, 0), (232, 1, 8, 0, 1), (236, 1, 9, 1, 1), (243, 1, 97, 2, 8), (248, 1, 157, 1, 10), (251, 1, 156, 2, 10), (254, 1, 42, 0, 4), (272, 0, 159, 1, 10), (276, 1, 158, 0, 10), (279, 1, 160, 0, 10), (282, 1, 99, 3, 8), (292, 1, 161, 0, 10), (295, 0, 151, 1, 10), (298, 1, 2, 1, 0)], [(112, .int 65536), (160, .long (-1))], [(25, 3, [.null, .null, .null, .null, .null, .int 0, .int 0, .int 0, .int 0, .int 0]), (32, 0, [.null, .int 0, .int 0, .long 0, .null, .null, .null, .null, .null, .null, .int 0, .int 0]), (41, 9, [.null, .int 0, .int 0, .int 0, .int 0, .int 0]), (48, 6, [.null, .null, .int 0, .int 0, .null, .null, .null, .null, .null, .null, .int 0, .int 0, .int 0, .int 0, .int 0, .int 0, .int 0, .int 0, .int 0, .int 0]), (57, 7, [.null, .null]), (66, 5, [.null, .null, .null, .int 0]), (75, 2, [.null, .null, .null, .null, .null, .null, .int 0, .int 0, .int 0, .int 0, .int 0, .long 0, .long 0, .int 0]), (82, 1, [.null, .null, .int 0, .null, .int 0, .null, .null, .null, .int 0, .null, .null, .int 0, .int 0]), (89, 8, [.null, .null, .null, .int 0]), (96, 4, [.null, .null, .null, .null, .long 0, .long 0, .long 0, .long 0, .int 0, .int 0, .int 0, .int 0, .null, .int 0, .int 0])])
def lkX11 : sm_LK := ([(7, 11, 5, 9), (13, 11, 6, 9), (16, 11, 7, 9), (19, 11, 8, 9), (22, 11, 9, 9), (25, 11, 10, 9), (28, 11, 11, 9), (31, 11, 12, 9), (34, 11, 13, 9), (38, 11, 14, 9), (41, 11, 15, 9), (44, 11, 17, 0), (48, 11, 18, 0), (51, 11, 25, 9), (54, 11, 26, 9), (57, 11, 27, 9), (60, 11, 29, 9), (63, 11, 30, 9), (66, 11, 31, 9), (69, 11, 32, 9), (72, 11, 37, 9), (75, 11, 38, 9), (78, 11, 39, 9), (81, 11, 40, 9), (84, 11, 42, 9), (87, 11, 43, 9), (90, 11, 44, 9), (93, 11, 46, 9), (96, 11, 47, 9), (99, 11, 49, 9), (102, 11, 51, 9), (105, 11, 52, 9), (108, 11, 0, 9), (111, 11, 1, 9), (118, 11, 4, 0), (121, 11, 2, 0), (132, 11, 3, 0), (162, 11, 16, 0), (180, 11, 20, 0), (183, 11, 23, 0), (186, 11, 19, 0), (192, 11, 21, 0), (198, 11, 22, 0), (209, 11, 24, 0), (212, 11, 33, 0), (215, 11, 34, 0), (218, 11, 35, 0), (248, 11, 28, 0), (251, 11, 36, 0), (266, 11, 41, 0), (289, 11, 45, 0), (326, 11, 48, 0), (329, 11, 50, 0), (361, 11, 53, 0), (364, 11, 54, 0), (367, 11, 55, 0)], [(1, 3, 0, 0, 0), (114, 0, 163, 3, 11), (124, 1, 166, 3, 11), (128, 1, 168, 0, 11), (135, 1, 164, 1, 11), (139, 1, 167, 4, 11), (144, 1, 165, 1, 11), (147, 1, 173, 2, 11), (151, 1, 174, 2, 11), (154, 1, 177, 0, 11), (157, 1, 176, 0, 11), (165, 1, 182, 1, 11), (169, 0, 189, 1, 11), (173, 0, 188, 5, 11), (177, 0, 190, 5, 11), (189, 1, 185, 1, 11), (195, 0, 187, 1, 11), (202, 0, 186, 1, 11), (205, 1, 191, 3, 11), (221, 1, 193, 2, 11), (224, 1, 192, 0, 11), (227, 1, 194, 0, 11), (230, 1, 195, 1, 11), (233, 1, 197, 0, 11), (236, 1, 196, 0, 11), (239, 1, 199, 0, 11), (242, 1, 198, 0, 11), (245, 1, 200, 0, 11), (254, 1, 202, 3, 11), (257, 1, 201, 0, 11), (260, 1, 203, 1, 11), (263, 1, 204, 0, 11), (269, 1, 207, 4, 11), (273, 1, 208, 2, 11), (277, 0, 212, 2, 11), (281, 0, 214, 5, 11), (285, 1, 213, 4, 11), (292, 1, 217, 5, 11), (295, 1, 215, 2, 11), (299, 1, 211, 4, 11), (303, 1, 216, 4, 11), (305, 1, 220, 2, 11), (308, 1, 222, 1, 11), (312, 1, 224, 2, 11), (316, 0, 226, 2, 11), (320, 1, 228, 0, 11), (323, 0, 229, 1, 11), (332, 1, 233, 1, 11), (335, 1, 231, 0, 11), (338, 1, 232, 0, 11), (341, 1, 234, 1, 11), (344, 1, 237, 1, 11), (348, 0, 239, 2, 11), (352, 1, 238, 1, 11), (355, 1, 241, 1, 11), (358, 1, 243, 0, 11), (370, 1, 244, 0, 11), (373, 1, 247, 2, 11)], [(143, .int 65535), (160, .long (-1)), (201, .int 100000)], [])
def lkIX11 : sm_LK := ([(7, 11, 5, 3), (13, 11, 6, 3), (16, 11, 7, 3), (19, 11, 8, 3), (22, 11, 9, 3), (25, 11, 10, 3), (28, 11, 11, 3), (31, 11, 12, 3), (34, 11, 13, 3), (38, 11, 14, 3), (41, 11, 15, 3), (44, 11, 17, 0), (48, 11, 18, 0), (51, 11, 25, 3), (54, 11, 26, 3), (57, 11, 27, 3), (60, 11, 29, 3), (63, 11, 30, 3), (66, 11, 31, 3), (69, 11, 32, 3), (72, 11, 37, 3), (75, 11, 38, 3), (78, 11, 39, 3), (81, 11, 40, 3), (84, 11, 42, 3), (87, 11, 43, 3), (90, 11, 44, 3), (93, 11, 46, 3), (96, 11, 47, 3), (99, 11, 49, 3), (102, 11, 51, 3), (105, 11, 52, 3), (108, 11, 0, 0), (111, 11, 1, 0), (118, 11, 4, 0), (121, 11, 2, 0), (132, 11, 3, 0), (162, 11, 16, 0), (180, 11, 20, 0), (183, 11, 23, 0), (186, 11, 19, 0), (192, 11, 21, 0), (198, 11, 22, 0), (209, 11, 24, 0), (212, 11, 33, 0), (215, 11, 34, 0), (218, 11, 35, 0), (248, 11, 28, 0), (251, 11, 36, 0), (266, 11, 41, 0), (289, 11, 45, 0), (326, 11, 48, 0), (329, 11, 50, 0), (361, 11, 53, 0), (364, 11, 54, 0), (367, 11, 55, 0)], [(1, 3, 0, 0, 0), (114, 0, 163, 3, 11), (124, 1, 166, 3, 11), (128, 1, 168, 0, 11), (135, 1, 164, 1, 11), (139, 1, 167, 4, 11), (144, 1, 165, 1, 11), (147, 1, 173, 2, 11), (151, 1, 174, 2, 11), (154, 1, 177, 0, 11), (157, 1, 176, 0, 11), (165, 1, 182, 1, 11), (169, 0, 189, 1, 11), (173, 0, 188, 5, 11), (177, 0, 190, 5, 11), (189, 1, 185, 1, 11), (195, 0, 187, 1, 11), (202, 0, 186, 1, 11), (205, 1, 191, 3, 11), (221, 1, 193, 2, 11), (224, 1, 192, 0, 11), (227, 1, 194, 0, 11), (230, 1, 195, 1, 11), (233, 1, 197, 0, 11), (236, 1, 196, 0, 11), (239, 1, 199, 0, 11), (242, 1, 198, 0, 11), (245, 1, 200, 0, 11), (254, 1, 202, 3, 11), (257, 1, 201, 0, 11), (260, 1, 203, 1, 11), (263, 1, 204, 0, 11), (269, 1, 207, 4, 11), (273, 1, 208, 2, 11), (277, 0, 212, 2, 11), (281, 0, 214, 5, 11), (285, 1, 213, 4, 11), (292, 1, 217, 5, 11), (295, 1, 215, 2, 11), (299, 1, 211, 4, 11), (303, 1, 216, 4, 11), (305, 1, 220, 2, 11), (308, 1, 222, 1, 11), (312, 1, 224, 2, 11), (316, 0, 226, 2, 11), (320, 1, 228, 0, 11), (323, 0, 229, 1, 11), (332, 1, 233, 1, 11), (335, 1, 231, 0, 11), (338, 1, 232, 0, 11), (341, 1, 234, 1, 11), (344, 1, 237, 1, 11), (348, 0, 239, 2, 11), (352, 1, 238, 1, 11), (355, 1, 241, 1, 11), (358, 1, 243, 0, 11), (370, 1, 244, 0, 11), (373, 1, 247, 2, 11)], [(143, .int 65535), (160, .long (-1)), (201, .int 100000)], [])
def lkJ6 : sm_LK := ([], [], [(264, .int 65536), (265, .int 1431655765), (266, .int 858993459), (267, .int 252645135)], [])
def lkJ13 : sm_LK := ([], [(311, 0, 250, 1, 0)], [(314, .long 6148914691236517205), (316, .long 3689348814741910323), (318, .long 1085102592571150095)], [])
def lkJ7 : sm_LK := ([], [], [], [])
def lkL : sm_LK := ([], [(9, 0, 256, 2, 0), (15, 2, 115, 2, 10), (20, 2, 162, 2, 11), (21, 1, 116, 2, 10), (25, 1, 169, 2, 11), (26, 1, 117, 2, 10), (29, 1, 170, 2, 11), (30, 1, 118, 2, 10), (33, 1, 171, 2, 11), (34, 1, 119, 3, 10), (38, 1, 172, 3, 11), (39, 1, 120, 5, 10), (43, 1, 183, 5, 11), (44, 1, 121, 1, 10), (48, 1, 184, 1, 11), (49, 1, 122, 0, 10), (53, 1, 205, 0, 11), (54, 1, 123, 1, 10), (57, 1, 206, 1, 11), (58, 1, 124, 1, 10), (62, 1, 175, 1, 11), (63, 1, 125, 1, 10), (66, 1, 178, 1, 11), (67, 1, 126, 1, 10), (70, 1, 179, 1, 11), (71, 1, 127, 1, 10), (75, 1, 180, 1, 11), (76, 1, 128, 3, 10), (80, 1, 181, 3, 11), (81, 1, 129, 2, 10), (85, 1, 209, 2, 11), (86, 1, 130, 3, 10), (90, 1, 210, 3, 11), (91, 1, 131, 4, 10), (95, 1, 218, 4, 11), (96, 1, 132, 5, 10), (99, 1, 219, 5, 11), (100, 1, 133, 2, 10), (103, 1, 221, 2, 11), (104, 1, 134, 1, 10), (107, 1, 223, 1, 11), (108, 1, 135, 2, 10), (111, 1, 225, 2, 11), (112, 1, 136, 1, 10), (116, 1, 227, 1, 11), (117, 1, 137, 1, 10), (120, 1, 230, 1, 11), (121, 1, 138, 1, 10), (124, 1, 235, 1, 11), (127, 1, 139, 2, 10), (131, 1, 236, 2, 11), (132, 1, 140, 1, 10), (135, 1, 240, 1, 11), (136, 1, 141, 2, 10), (139, 1, 242, 2, 11), (140, 1, 142, 1, 10), (143, 1, 245, 1, 11), (144, 1, 143, 1, 10), (147, 1, 246, 1, 11), (148, 1, 144, 1, 10), (151, 1, 248, 1, 11), (152, 1, 145, 1, 10), (155, 1, 249, 1, 11)], [(125, .long 4294967295)], [(7, 10, [.int 0, .int 0, .null, .null, .null, .null, .null, .null, .null, .null, .null, .null]), (18, 11, [.int 0, .int 0, .int 0, .int 0, .int 0, .null, .null, .null, .null, .null, .null, .null, .null, .null, .null, .null, .int 0, .int 0, .int 0, .int 0, .int 0, .int 0, .int 0, .int 0, .int 0, .null, .null, .null, .int 0, .null, .null, .null, .null, .int 0, .int 0, .int 0, .int 0, .null, .null, .null, .null, .int 0, .null, .null, .null, .int 0, .null, .null, .int 0, .null, .int 0, .null, .null, .int 0, .int 0, .int 0])])
def miX0_init : sm_MI := (yX0_init, cX0_init, 4, none, [(0, .aload_n 0), (1, .invokespecial 3), (4, .aload_n 0), (5, .bipush 48), (7, .newarray .int), (9, .putfield 9), (12, .aload_n 0), (13, .bipush 48), (15, .newarray .long), (17, .putfield 15), (20, .aload_n 0), (21, .bipush 48), (23, .newarray .long), (25, .putfield 19), (28, .aload_n 0), (29, .bipush 16), (31, .newarray .long), (33, .putfield 22), (36, .aload_n 0), (37, .bipush 16), (39, .newarray .long), (41, .putfield 25), (44, .aload_n 0), (45, .bipush 16), (47, .newarray .long), (49, .putfield 28), (52, .aload_n 0), (53, .aload_n 1), (54, .putfield 31), (57, .aload_n 0), (58, .iload_n 2), (59, .putfield 35), (62, .aload_n 0), (63, .iload_n 3), (64, .putfield 39), (67, .aload_n 0), (68, .iload_n 2), (69, .invokestatic 42), (72, .putfield 46), (75, .return_)], [], lkIX0)
def miX0_weave : sm_MI := (yX0_weave, cX0_weave, 1, none, [(0, .aload_n 0), (1, .getfield 50), (4, .aload_n 0), (5, .getfield 31), (8, .getfield 53), (11, .if_icmp .ne 4), (14, .return_), (15, .aload_n 0), (16, .aload_n 0), (17, .getfield 31), (20, .getfield 53), (23, .putfield 50), (26, .aload_n 0), (27, .invokevirtual 56), (30, .aload_n 0), (31, .invokevirtual 59), (34, .aload_n 0), (35, .invokevirtual 62), (38, .aload_n 0), (39, .invokevirtual 65), (42, .return_)], [], lkX0)
def miX0_picksOf : sm_MI := (yX0_picksOf, cX0_picksOf, 2, (some .long), [(0, .iload_n 1), (1, .ifCond .lt 18), (4, .iload_n 1), (5, .bipush 16), (7, .if_icmp .ge 12), (10, .aload_n 0), (11, .getfield 25), (14, .iload_n 1), (15, .laload), (16, .goto 4), (19, .lconst 0), (20, .lreturn)], [], lkX0)
def miX0_press : sm_MI := (yX0_press, cX0_press, 5, none, [(0, .aload_n 0), (1, .getfield 28), (4, .lconst 0), (5, .invokestatic 68), (8, .iconst 0), (9, .istore_n 1), (10, .iload_n 1), (11, .aload_n 0), (12, .getfield 39), (15, .if_icmp .ge 84), (18, .aload_n 0), (19, .getfield 31), (22, .bipush 64), (24, .iload_n 1), (25, .iadd), (26, .invokevirtual 74), (29, .istore_n 2), (30, .iconst 0), (31, .istore_n 3), (32, .iconst 0), (33, .istore 4), (35, .iload 4), (37, .bipush 16), (39, .if_icmp .ge 47), (42, .iload_n 2), (43, .i2l), (44, .iload 4), (46, .invokestatic 78), (49, .ifCond .eq 31), (52, .aload_n 0), (53, .getfield 28), (56, .iload 4), (58, .dup2), (59, .laload), (60, .lconst 1), (61, .iload_n 1), (62, .lshl), (63, .lor), (64, .lastore), (65, .iload_n 3), (66, .aload_n 0), (67, .getfield 31), (70, .bipush 48), (72, .iload 4), (74, .iadd), (75, .invokevirtual 74), (78, .ior), (79, .istore_n 3), (80, .iinc 4 1), (83, .goto (-48)), (86, .aload_n 0), (87, .getfield 9), (90, .iload_n 1), (91, .iload_n 3), (92, .iastore), (93, .iinc 1 1), (96, .goto (-86)), (99, .return_)], [(10, [true, true, false, false, false]), (35, [true, true, true, true, true])], lkX0)
def miX0_raise : sm_MI := (yX0_raise, cX0_raise, 3, none, [(0, .aload_n 0), (1, .getfield 25), (4, .lconst 0), (5, .invokestatic 68), (8, .iconst 0), (9, .istore_n 1), (10, .iload_n 1), (11, .aload_n 0), (12, .getfield 39), (15, .if_icmp .ge 49), (18, .iconst 0), (19, .istore_n 2), (20, .iload_n 2), (21, .bipush 16), (23, .if_icmp .ge 35), (26, .aload_n 0), (27, .getfield 9), (30, .iload_n 1), (31, .iaload), (32, .i2l), (33, .iload_n 2), (34, .invokestatic 78), (37, .ifCond .eq 15), (40, .aload_n 0), (41, .getfield 25), (44, .iload_n 2), (45, .dup2), (46, .laload), (47, .lconst 1), (48, .iload_n 1), (49, .lshl), (50, .lor), (51, .lastore), (52, .iinc 2 1), (55, .goto (-35)), (58, .iinc 1 1), (61, .goto (-51)), (64, .return_)], [(10, [true, true, false]), (20, [true, true, true])], lkX0)
def miX0_hang : sm_MI := (yX0_hang, cX0_hang, 3, none, [(0, .aload_n 0), (1, .getfield 22), (4, .lconst 0), (5, .invokestatic 68), (8, .aload_n 0), (9, .iconst 0), (10, .putfield 82), (13, .iconst 0), (14, .istore_n 1), (15, .iload_n 1), (16, .aload_n 0), (17, .getfield 35), (20, .if_icmp .ge 65), (23, .aload_n 0), (24, .getfield 31), (27, .iconst 0), (28, .iload_n 1), (29, .iadd), (30, .invokevirtual 74), (33, .istore_n 2), (34, .aload_n 0), (35, .getfield 19), (38, .iload_n 1), (39, .aload_n 0), (40, .iload_n 2), (41, .invokevirtual 85), (44, .lastore), (45, .iload_n 2), (46, .ifCond .lt 33), (49, .iload_n 2), (50, .bipush 16), (52, .if_icmp .ge 27), (55, .aload_n 0), (56, .dup), (57, .getfield 82), (60, .iconst 1), (61, .iload_n 2), (62, .ishl), (63, .ior), (64, .putfield 82), (67, .aload_n 0), (68, .getfield 22), (71, .iload_n 2), (72, .dup2), (73, .laload), (74, .lconst 1), (75, .iload_n 1), (76, .lshl), (77, .lor), (78, .lastore), (79, .iinc 1 1), (82, .goto (-67)), (85, .return_)], [(15, [true, true, false])], lkX0)
def miX0_cross : sm_MI := (yX0_cross, cX0_cross, 5, none, [(0, .iconst 0), (1, .istore_n 1), (2, .iload_n 1), (3, .aload_n 0), (4, .getfield 39), (7, .if_icmp .ge 59), (10, .lconst 0), (11, .lstore_n 2), (12, .iconst 0), (13, .istore 4), (15, .iload 4), (17, .bipush 16), (19, .if_icmp .ge 34), (22, .aload_n 0), (23, .getfield 9), (26, .iload_n 1), (27, .iaload), (28, .i2l), (29, .iload 4), (31, .invokestatic 78), (34, .ifCond .eq 13), (37, .lload_n 2), (38, .aload_n 0), (39, .getfield 22), (42, .iload 4), (44, .laload), (45, .lor), (46, .lstore_n 2), (47, .iinc 4 1), (50, .goto (-35)), (53, .aload_n 0), (54, .getfield 15), (57, .iload_n 1), (58, .lload_n 2), (59, .lastore), (60, .iinc 1 1), (63, .goto (-61)), (66, .return_)], [(2, [true, true, false, false, false]), (15, [true, true, true, false, true])], lkX0)
def miX1_init : sm_MI := (yX1_init, cX1_init, 2, none, [(0, .aload_n 0), (1, .invokespecial 3), (4, .aload_n 0), (5, .iconst 5), (6, .newarray .int), (8, .putfield 11), (11, .aload_n 0), (12, .bipush 31), (14, .newarray .int), (16, .putfield 15), (19, .aload_n 0), (20, .bipush 31), (22, .newarray .long), (24, .putfield 18), (27, .aload_n 0), (28, .bipush 32), (30, .newarray .long), (32, .putfield 22), (35, .aload_n 0), (36, .bipush 55), (38, .newarray .long), (40, .putfield 25), (43, .aload_n 0), (44, .bipush 16), (46, .newarray .int), (48, .putfield 28), (51, .aload_n 0), (52, .iconst 5), (53, .newarray .int), (55, .putfield 31), (58, .aload_n 0), (59, .aload_n 1), (60, .putfield 34), (63, .return_)], [], lkIX1)
def miX1_find : sm_MI := (yX1_find, cX1_find, 1, none, [(0, .aload_n 0), (1, .getfield 38), (4, .aload_n 0), (5, .getfield 34), (8, .getfield 42), (11, .if_icmp .ne 4), (14, .return_), (15, .aload_n 0), (16, .aload_n 0), (17, .getfield 34), (20, .getfield 42), (23, .putfield 38), (26, .aload_n 0), (27, .iconst (-1)), (28, .putfield 45), (31, .aload_n 0), (32, .invokevirtual 48), (35, .ifCond .eq 15), (38, .aload_n 0), (39, .invokevirtual 52), (42, .aload_n 0), (43, .invokevirtual 55), (46, .aload_n 0), (47, .invokevirtual 58), (50, .return_)], [], lkX1)
def miX1_tieAt : sm_MI := (yX1_tieAt, cX1_tieAt, 2, (some .int), [(0, .iload_n 1), (1, .ifCond .lt 17), (4, .iload_n 1), (5, .iconst 5), (6, .if_icmp .ge 12), (9, .aload_n 0), (10, .getfield 31), (13, .iload_n 1), (14, .iaload), (15, .goto 4), (18, .iconst (-1)), (19, .ireturn)], [], lkX1)
def miX1_collectLifts : sm_MI := (yX1_collectLifts, cX1_collectLifts, 3, (some .boolean), [(0, .aload_n 0), (1, .iconst 0), (2, .putfield 61), (5, .iconst 0), (6, .istore_n 1), (7, .iload_n 1), (8, .aload_n 0), (9, .getfield 34), (12, .getfield 64), (15, .if_icmp .ge 82), (18, .iload_n 1), (19, .bipush 48), (21, .if_icmp .ge 76), (24, .aload_n 0), (25, .getfield 34), (28, .getfield 67), (31, .iload_n 1), (32, .iaload), (33, .aload_n 0), (34, .getfield 34), (37, .getfield 68), (40, .iand), (41, .istore_n 2), (42, .iload_n 2), (43, .ifCond .eq 48), (46, .aload_n 0), (47, .getfield 11), (50, .aload_n 0), (51, .getfield 61), (54, .iload_n 2), (55, .invokestatic 71), (58, .ifCond .ne 33), (61, .aload_n 0), (62, .getfield 61), (65, .iconst 5), (66, .if_icmp .lt 5), (69, .iconst 0), (70, .ireturn), (71, .aload_n 0), (72, .getfield 11), (75, .aload_n 0), (76, .getfield 61), (79, .iload_n 2), (80, .iastore), (81, .aload_n 0), (82, .dup), (83, .getfield 61), (86, .iconst 1), (87, .iadd), (88, .putfield 61), (91, .iinc 1 1), (94, .goto (-87)), (97, .iconst 1), (98, .ireturn)], [(7, [true, true, false])], lkX1)
def miX1_isIn : sm_MI := (yX1_isIn, cX1_isIn, 5, (some .boolean), [(0, .iconst 0), (1, .istore_n 3), (2, .iconst 0), (3, .istore 4), (5, .iload 4), (7, .iload_n 1), (8, .if_icmp .ge 34), (11, .iload 4), (13, .aload_n 0), (14, .arraylength), (15, .if_icmp .ge 27), (18, .iload_n 3), (19, .ifCond .ne 23), (22, .aload_n 0), (23, .iload 4), (25, .iaload), (26, .iload_n 2), (27, .if_icmp .ne 7), (30, .iconst 1), (31, .goto 4), (34, .iconst 0), (35, .istore_n 3), (36, .iinc 4 1), (39, .goto (-34)), (42, .iload_n 3), (43, .ireturn)], [(5, [true, true, true, true, true])], lkX1)
def miX1_collectTies : sm_MI := (yX1_collectTies, cX1_collectTies, 4, none, [(0, .aload_n 0), (1, .iconst 0), (2, .putfield 75), (5, .iconst 1), (6, .istore_n 1), (7, .iload_n 1), (8, .iconst 1), (9, .aload_n 0), (10, .getfield 61), (13, .ishl), (14, .if_icmp .ge 75), (17, .ldc 78), (19, .istore_n 2), (20, .iconst 0), (21, .istore_n 3), (22, .iload_n 3), (23, .aload_n 0), (24, .getfield 61), (27, .if_icmp .ge 32), (30, .iload_n 3), (31, .iconst 5), (32, .if_icmp .ge 27), (35, .iload_n 1), (36, .i2l), (37, .iload_n 3), (38, .invokestatic 79), (41, .ifCond .eq 12), (44, .iload_n 2), (45, .aload_n 0), (46, .getfield 11), (49, .iload_n 3), (50, .iaload), (51, .iand), (52, .istore_n 2), (53, .iinc 3 1), (56, .goto (-34)), (59, .iload_n 2), (60, .ifCond .eq 23), (63, .aload_n 0), (64, .getfield 15), (67, .aload_n 0), (68, .getfield 75), (71, .iload_n 2), (72, .invokestatic 71), (75, .ifCond .ne 8), (78, .aload_n 0), (79, .iload_n 2), (80, .invokevirtual 83), (83, .iinc 1 1), (86, .goto (-79)), (89, .return_)], [(7, [true, true, false, false]), (22, [true, true, true, true])], lkX1)
def miX1_insertTie : sm_MI := (yX1_insertTie, cX1_insertTie, 3, none, [(0, .aload_n 0), (1, .getfield 75), (4, .bipush 31), (6, .if_icmp .lt 4), (9, .return_), (10, .aload_n 0), (11, .getfield 75), (14, .istore_n 2), (15, .iload_n 2), (16, .ifCond .le 35), (19, .aload_n 0), (20, .getfield 15), (23, .iload_n 2), (24, .iconst 1), (25, .isub), (26, .iaload), (27, .iload_n 1), (28, .if_icmp .le 23), (31, .aload_n 0), (32, .getfield 15), (35, .iload_n 2), (36, .aload_n 0), (37, .getfield 15), (40, .iload_n 2), (41, .iconst 1), (42, .isub), (43, .iaload), (44, .iastore), (45, .iinc 2 (-1)), (48, .goto (-33)), (51, .aload_n 0), (52, .getfield 15), (55, .iload_n 2), (56, .iload_n 1), (57, .iastore), (58, .aload_n 0), (59, .dup), (60, .getfield 75), (63, .iconst 1), (64, .iadd), (65, .putfield 75), (68, .return_)], [(15, [true, true, true])], lkX1)
def miX1_markGifts : sm_MI := (yX1_markGifts, cX1_markGifts, 3, none, [(0, .aload_n 0), (1, .invokevirtual 87), (4, .aload_n 0), (5, .getfield 18), (8, .lconst 0), (9, .invokestatic 90), (12, .aload_n 0), (13, .iconst 0), (14, .putfield 96), (17, .iconst 0), (18, .istore_n 1), (19, .iload_n 1), (20, .aload_n 0), (21, .getfield 61), (24, .if_icmp .ge 80), (27, .iload_n 1), (28, .iconst 5), (29, .if_icmp .ge 75), (32, .iconst 0), (33, .istore_n 2), (34, .iload_n 2), (35, .bipush 16), (37, .if_icmp .ge 61), (40, .aload_n 0), (41, .getfield 11), (44, .iload_n 1), (45, .iaload), (46, .i2l), (47, .iload_n 2), (48, .invokestatic 79), (51, .ifCond .eq 41), (54, .aload_n 0), (55, .getfield 28), (58, .iload_n 2), (59, .aload_n 0), (60, .getfield 28), (63, .iload_n 2), (64, .iaload), (65, .invokestatic 71), (68, .ifCond .ne 24), (71, .aload_n 0), (72, .aload_n 0), (73, .getfield 11), (76, .iload_n 1), (77, .iaload), (78, .iload_n 2), (79, .invokevirtual 99), (82, .aload_n 0), (83, .dup), (84, .getfield 96), (87, .iconst 1), (88, .iadd), (89, .putfield 96), (92, .iinc 2 1), (95, .goto (-61)), (98, .iinc 1 1), (101, .goto (-82)), (104, .aload_n 0), (105, .invokevirtual 103), (108, .return_)], [(19, [true, true, false]), (34, [true, true, true])], lkX1)
def miX1_gatherGifts : sm_MI := (yX1_gatherGifts, cX1_gatherGifts, 3, none, [(0, .aload_n 0), (1, .getfield 22), (4, .lconst 0), (5, .invokestatic 90), (8, .aload_n 0), (9, .getfield 25), (12, .lconst 0), (13, .invokestatic 90), (16, .bipush 30), (18, .istore_n 1), (19, .iload_n 1), (20, .ifCond .lt 72), (23, .aload_n 0), (24, .getfield 22), (27, .iload_n 1), (28, .aload_n 0), (29, .getfield 22), (32, .iload_n 1), (33, .iconst 1), (34, .iadd), (35, .laload), (36, .aload_n 0), (37, .getfield 18), (40, .iload_n 1), (41, .laload), (42, .lor), (43, .lastore), (44, .iconst 0), (45, .istore_n 2), (46, .iload_n 2), (47, .bipush 55), (49, .if_icmp .ge 37), (52, .aload_n 0), (53, .getfield 18), (56, .iload_n 1), (57, .laload), (58, .iload_n 2), (59, .invokestatic 79), (62, .ifCond .eq 18), (65, .aload_n 0), (66, .getfield 25), (69, .iload_n 2), (70, .dup2), (71, .laload), (72, .aload_n 0), (73, .getfield 18), (76, .iload_n 1), (77, .laload), (78, .lor), (79, .lastore), (80, .iinc 2 1), (83, .goto (-37)), (86, .iinc 1 (-1)), (89, .goto (-70)), (92, .return_)], [(19, [true, true, false]), (46, [true, true, true])], lkX1)
def miX1_sortShafts : sm_MI := (yX1_sortShafts, cX1_sortShafts, 4, none, [(0, .iconst 0), (1, .istore_n 1), (2, .iload_n 1), (3, .bipush 16), (5, .if_icmp .ge 59), (8, .iconst 0), (9, .istore_n 2), (10, .iconst 0), (11, .istore_n 3), (12, .iload_n 3), (13, .aload_n 0), (14, .getfield 61), (17, .if_icmp .ge 34), (20, .iload_n 3), (21, .iconst 5), (22, .if_icmp .ge 29), (25, .aload_n 0), (26, .getfield 11), (29, .iload_n 3), (30, .iaload), (31, .i2l), (32, .iload_n 1), (33, .invokestatic 79), (36, .ifCond .eq 9), (39, .iload_n 2), (40, .iconst 1), (41, .iload_n 3), (42, .ishl), (43, .ior), (44, .istore_n 2), (45, .iinc 3 1), (48, .goto (-36)), (51, .aload_n 0), (52, .getfield 28), (55, .iload_n 1), (56, .iload_n 2), (57, .iastore), (58, .iinc 1 1), (61, .goto (-59)), (64, .return_)], [(2, [true, true, false, false]), (12, [true, true, true, true])], lkX1)
def miX1_markGift : sm_MI := (yX1_markGift, cX1_markGift, 4, none, [(0, .iconst 0), (1, .istore_n 3), (2, .iload_n 3), (3, .aload_n 0), (4, .getfield 75), (7, .if_icmp .ge 57), (10, .iload_n 3), (11, .bipush 31), (13, .if_icmp .ge 51), (16, .aload_n 0), (17, .getfield 15), (20, .iload_n 3), (21, .iaload), (22, .i2l), (23, .iload_n 2), (24, .invokestatic 79), (27, .ifCond .eq 31), (30, .aload_n 0), (31, .getfield 15), (34, .iload_n 3), (35, .iaload), (36, .iload_n 1), (37, .iconst (-1)), (38, .ixor), (39, .iand), (40, .ifCond .ne 18), (43, .aload_n 0), (44, .getfield 18), (47, .iload_n 3), (48, .dup2), (49, .laload), (50, .lconst 1), (51, .aload_n 0), (52, .getfield 96), (55, .lshl), (56, .lor), (57, .lastore), (58, .iinc 3 1), (61, .goto (-59)), (64, .return_)], [(2, [true, true, true, true])], lkX1)
def miX1_findLeast : sm_MI := (yX1_findLeast, cX1_findLeast, 3, none, [(0, .iconst 0), (1, .istore_n 1), (2, .iconst 0), (3, .istore_n 2), (4, .iload_n 2), (5, .aload_n 0), (6, .getfield 61), (9, .if_icmp .gt 26), (12, .iload_n 1), (13, .ifCond .ne 22), (16, .aload_n 0), (17, .iload_n 2), (18, .putfield 45), (21, .aload_n 0), (22, .iconst 0), (23, .iconst 0), (24, .lconst 0), (25, .invokevirtual 106), (28, .istore_n 1), (29, .iinc 2 1), (32, .goto (-28)), (35, .return_)], [(4, [true, true, true])], lkX1)
def miX1_needsMore : sm_MI := (yX1_needsMore, cX1_needsMore, 8, (some .boolean), [(0, .lload_n 1), (1, .lstore 4), (3, .iconst 0), (4, .istore 6), (6, .iload 6), (8, .iload_n 3), (9, .if_icmp .ge 46), (12, .lload 4), (14, .lconst 0), (15, .lcmp), (16, .ifCond .eq 39), (19, .lload 4), (21, .invokestatic 110), (24, .istore 7), (26, .iload 7), (28, .bipush 55), (30, .if_icmp .ge 19), (33, .lload 4), (35, .aload_n 0), (36, .getfield 25), (39, .iload 7), (41, .laload), (42, .ldc2_w 116), (45, .lxor), (46, .land), (47, .lstore 4), (49, .iinc 6 1), (52, .goto (-46)), (55, .lload 4), (57, .lconst 0), (58, .lcmp), (59, .ifCond .eq 7), (62, .iconst 1), (63, .goto 4), (66, .iconst 0), (67, .ireturn)], [(6, [true, false, false, true, true, false, true, false])], lkX1)
def miX1_choose : sm_MI := (yX1_choose, cX1_choose, 8, (some .boolean), [(0, .aload_n 0), (1, .getfield 96), (4, .invokestatic 118), (7, .lstore 5), (9, .iload_n 2), (10, .aload_n 0), (11, .getfield 45), (14, .if_icmp .ge 8), (17, .iload_n 2), (18, .iconst 5), (19, .if_icmp .lt 16), (22, .lload_n 3), (23, .lload 5), (25, .lcmp), (26, .ifCond .ne 7), (29, .iconst 1), (30, .goto 4), (33, .iconst 0), (34, .ireturn), (35, .aload_n 0), (36, .lload 5), (38, .lload_n 3), (39, .ldc2_w 116), (42, .lxor), (43, .land), (44, .aload_n 0), (45, .getfield 45), (48, .iload_n 2), (49, .isub), (50, .invokevirtual 122), (53, .ifCond .eq 5), (56, .iconst 0), (57, .ireturn), (58, .iload_n 1), (59, .istore 7), (61, .iload 7), (63, .aload_n 0), (64, .getfield 75), (67, .if_icmp .ge 71), (70, .iload 7), (72, .bipush 31), (74, .if_icmp .ge 64), (77, .lload_n 3), (78, .aload_n 0), (79, .getfield 22), (82, .iload 7), (84, .laload), (85, .lor), (86, .lload 5), (88, .lcmp), (89, .ifCond .eq 5), (92, .iconst 0), (93, .ireturn), (94, .aload_n 0), (95, .getfield 31), (98, .iload_n 2), (99, .aload_n 0), (100, .getfield 15), (103, .iload 7), (105, .iaload), (106, .iastore), (107, .aload_n 0), (108, .iload 7), (110, .iconst 1), (111, .iadd), (112, .iload_n 2), (113, .iconst 1), (114, .iadd), (115, .lload_n 3), (116, .aload_n 0), (117, .getfield 18), (120, .iload 7), (122, .laload), (123, .lor), (124, .invokevirtual 106), (127, .ifCond .eq 5), (130, .iconst 1), (131, .ireturn), (132, .iinc 7 1), (135, .goto (-74)), (138, .iconst 0), (139, .ireturn)], [(61, [true, false, true, true, false, true, false, true])], lkX1)
def miX2_init : sm_MI := (yX2_init, cX2_init, 2, none, [(0, .aload_n 0), (1, .invokespecial 3), (4, .aload_n 0), (5, .bipush 96), (7, .newarray .long), (9, .putfield 11), (12, .aload_n 0), (13, .bipush 96), (15, .newarray .long), (17, .putfield 15), (20, .aload_n 0), (21, .bipush 96), (23, .newarray .long), (25, .putfield 18), (28, .aload_n 0), (29, .bipush 96), (31, .newarray .long), (33, .putfield 21), (36, .aload_n 0), (37, .bipush 96), (39, .newarray .int), (41, .putfield 24), (44, .aload_n 0), (45, .aload_n 1), (46, .putfield 28), (49, .return_)], [], lkIX2)
def miX2_sortPart : sm_MI := (yX2_sortPart, cX2_sortPart, 6, none, [(0, .iload_n 1), (1, .aload_n 0), (2, .getfield 32), (5, .if_icmp .ne 32), (8, .iload_n 2), (9, .aload_n 0), (10, .getfield 36), (13, .if_icmp .ne 24), (16, .iload_n 3), (17, .aload_n 0), (18, .getfield 39), (21, .if_icmp .ne 16), (24, .iload 4), (26, .aload_n 0), (27, .getfield 42), (30, .if_icmp .ne 7), (33, .iconst 1), (34, .goto 4), (37, .iconst 0), (38, .istore 5), (40, .iload 5), (42, .ifCond .eq 18), (45, .aload_n 0), (46, .getfield 45), (49, .aload_n 0), (50, .getfield 28), (53, .getfield 48), (56, .if_icmp .ne 4), (59, .return_), (60, .aload_n 0), (61, .aload_n 0), (62, .getfield 28), (65, .getfield 48), (68, .putfield 45), (71, .aload_n 0), (72, .iconst 0), (73, .iload_n 1), (74, .invokestatic 51), (77, .putfield 32), (80, .aload_n 0), (81, .bipush 47), (83, .iload_n 2), (84, .invokestatic 57), (87, .putfield 36), (90, .aload_n 0), (91, .iconst 0), (92, .iload_n 3), (93, .invokestatic 51), (96, .putfield 39), (99, .aload_n 0), (100, .bipush 47), (102, .iload 4), (104, .invokestatic 57), (107, .putfield 42), (110, .aload_n 0), (111, .aload_n 0), (112, .getfield 36), (115, .iconst 1), (116, .iadd), (117, .invokestatic 60), (120, .aload_n 0), (121, .getfield 32), (124, .invokestatic 60), (127, .ldc2_w 64), (130, .lxor), (131, .land), (132, .putfield 66), (135, .aload_n 0), (136, .aload_n 0), (137, .getfield 42), (140, .iconst 1), (141, .iadd), (142, .invokestatic 60), (145, .aload_n 0), (146, .getfield 39), (149, .invokestatic 60), (152, .ldc2_w 64), (155, .lxor), (156, .land), (157, .putfield 70), (160, .aload_n 0), (161, .invokevirtual 73), (164, .aload_n 0), (165, .aload_n 0), (166, .getfield 11), (169, .aload_n 0), (170, .getfield 15), (173, .invokevirtual 76), (176, .aload_n 0), (177, .aload_n 0), (178, .getfield 18), (181, .aload_n 0), (182, .getfield 21), (185, .invokevirtual 76), (188, .aload_n 0), (189, .invokevirtual 80), (192, .return_)], [], lkX2)
def miX2_numberOf : sm_MI := (yX2_numberOf, cX2_numberOf, 2, (some .int), [(0, .iload_n 1), (1, .ifCond .lt 18), (4, .iload_n 1), (5, .bipush 96), (7, .if_icmp .ge 12), (10, .aload_n 0), (11, .getfield 24), (14, .iload_n 1), (15, .iaload), (16, .goto 4), (19, .iconst (-1)), (20, .ireturn)], [], lkX2)
def miX2_relate : sm_MI := (yX2_relate, cX2_relate, 3, none, [(0, .aload_n 0), (1, .getfield 32), (4, .istore_n 1), (5, .iload_n 1), (6, .aload_n 0), (7, .getfield 36), (10, .if_icmp .gt 67), (13, .aload_n 0), (14, .getfield 11), (17, .iload_n 1), (18, .lconst 0), (19, .lastore), (20, .aload_n 0), (21, .getfield 15), (24, .iload_n 1), (25, .aload_n 0), (26, .getfield 28), (29, .getfield 83), (32, .iload_n 1), (33, .laload), (34, .aload_n 0), (35, .getfield 70), (38, .land), (39, .lastore), (40, .aload_n 0), (41, .getfield 18), (44, .iload_n 1), (45, .lconst 0), (46, .lastore), (47, .aload_n 0), (48, .getfield 21), (51, .iload_n 1), (52, .aload_n 0), (53, .getfield 28), (56, .getfield 83), (59, .iload_n 1), (60, .laload), (61, .ldc2_w 64), (64, .lxor), (65, .aload_n 0), (66, .getfield 70), (69, .land), (70, .lastore), (71, .iinc 1 1), (74, .goto (-69)), (77, .aload_n 0), (78, .getfield 39), (81, .istore_n 1), (82, .iload_n 1), (83, .aload_n 0), (84, .getfield 42), (87, .if_icmp .gt 72), (90, .bipush 48), (92, .iload_n 1), (93, .iadd), (94, .istore_n 2), (95, .aload_n 0), (96, .getfield 11), (99, .iload_n 2), (100, .aload_n 0), (101, .getfield 28), (104, .getfield 86), (107, .iload_n 1), (108, .laload), (109, .ldc2_w 64), (112, .lxor), (113, .aload_n 0), (114, .getfield 66), (117, .land), (118, .lastore), (119, .aload_n 0), (120, .getfield 15), (123, .iload_n 2), (124, .lconst 0), (125, .lastore), (126, .aload_n 0), (127, .getfield 18), (130, .iload_n 2), (131, .aload_n 0), (132, .getfield 28), (135, .getfield 86), (138, .iload_n 1), (139, .laload), (140, .aload_n 0), (141, .getfield 66), (144, .land), (145, .lastore), (146, .aload_n 0), (147, .getfield 21), (150, .iload_n 2), (151, .lconst 0), (152, .lastore), (153, .iinc 1 1), (156, .goto (-74)), (159, .return_)], [(5, [true, true, false]), (82, [true, true, false])], lkX2)
def miX2_followChains : sm_MI := (yX2_followChains, cX2_followChains, 4, none, [(0, .aload_n 0), (1, .getfield 32), (4, .istore_n 3), (5, .iload_n 3), (6, .aload_n 0), (7, .getfield 36), (10, .if_icmp .gt 16), (13, .aload_n 0), (14, .aload_n 1), (15, .aload_n 2), (16, .iload_n 3), (17, .invokevirtual 89), (20, .iinc 3 1), (23, .goto (-18)), (26, .aload_n 0), (27, .getfield 39), (30, .istore_n 3), (31, .iload_n 3), (32, .aload_n 0), (33, .getfield 42), (36, .if_icmp .gt 19), (39, .aload_n 0), (40, .aload_n 1), (41, .aload_n 2), (42, .bipush 48), (44, .iload_n 3), (45, .iadd), (46, .invokevirtual 89), (49, .iinc 3 1), (52, .goto (-21)), (55, .return_)], [(5, [true, true, true, true]), (31, [true, true, true, true])], lkX2)
def miX2_followThrough : sm_MI := (yX2_followThrough, cX2_followThrough, 13, none, [(0, .iload_n 3), (1, .bipush 48), (3, .if_icmp .ge 7), (6, .iconst 1), (7, .goto 4), (10, .iconst 0), (11, .istore 4), (13, .iload 4), (15, .ifCond .eq 7), (18, .aload_n 1), (19, .goto 4), (22, .aload_n 2), (23, .astore 5), (25, .lconst 1), (26, .iload 4), (28, .ifCond .eq 7), (31, .iload_n 3), (32, .goto 7), (35, .iload_n 3), (36, .bipush 48), (38, .isub), (39, .lshl), (40, .lstore 6), (42, .aload_n 1), (43, .iload_n 3), (44, .laload), (45, .lstore 8), (47, .aload_n 2), (48, .iload_n 3), (49, .laload), (50, .lstore 10), (52, .aload_n 0), (53, .getfield 32), (56, .istore 12), (58, .iload 12), (60, .aload_n 0), (61, .getfield 36), (64, .if_icmp .gt 40), (67, .aload 5), (69, .iload 12), (71, .laload), (72, .lload 6), (74, .land), (75, .lconst 0), (76, .lcmp), (77, .ifCond .eq 21), (80, .aload_n 1), (81, .iload 12), (83, .dup2), (84, .laload), (85, .lload 8), (87, .lor), (88, .lastore), (89, .aload_n 2), (90, .iload 12), (92, .dup2), (93, .laload), (94, .lload 10), (96, .lor), (97, .lastore), (98, .iinc 12 1), (101, .goto (-43)), (104, .bipush 48), (106, .aload_n 0), (107, .getfield 39), (110, .iadd), (111, .istore 12), (113, .iload 12), (115, .bipush 48), (117, .aload_n 0), (118, .getfield 42), (121, .iadd), (122, .if_icmp .gt 40), (125, .aload 5), (127, .iload 12), (129, .laload), (130, .lload 6), (132, .land), (133, .lconst 0), (134, .lcmp), (135, .ifCond .eq 21), (138, .aload_n 1), (139, .iload 12), (141, .dup2), (142, .laload), (143, .lload 8), (145, .lor), (146, .lastore), (147, .aload_n 2), (148, .iload 12), (150, .dup2), (151, .laload), (152, .lload 10), (154, .lor), (155, .lastore), (156, .iinc 12 1), (159, .goto (-46)), (162, .return_)], [(58, [true, true, true, false, false, true, true, false, true, false, true, false, true]), (113, [true, true, true, false, false, true, true, false, true, false, true, false, true])], lkX2)
def miX2_numberAll : sm_MI := (yX2_numberAll, cX2_numberAll, 3, none, [(0, .aload_n 0), (1, .iconst 0), (2, .putfield 93), (5, .iconst 0), (6, .istore_n 1), (7, .iload_n 1), (8, .bipush 96), (10, .if_icmp .ge 43), (13, .aload_n 0), (14, .getfield 66), (17, .aload_n 0), (18, .getfield 70), (21, .lor), (22, .lconst 0), (23, .lcmp), (24, .ifCond .eq 29), (27, .aload_n 0), (28, .invokevirtual 96), (31, .istore_n 2), (32, .iload_n 2), (33, .ifCond .lt 14), (36, .iload_n 2), (37, .bipush 96), (39, .if_icmp .ge 8), (42, .aload_n 0), (43, .iload_n 2), (44, .invokevirtual 100), (47, .iinc 1 1), (50, .goto (-43)), (53, .return_)], [(7, [true, true, false])], lkX2)
def miX2_lowestOnTop : sm_MI := (yX2_lowestOnTop, cX2_lowestOnTop, 2, (some .int), [(0, .aload_n 0), (1, .getfield 32), (4, .istore_n 1), (5, .iload_n 1), (6, .aload_n 0), (7, .getfield 36), (10, .if_icmp .gt 30), (13, .aload_n 0), (14, .getfield 66), (17, .iload_n 1), (18, .invokestatic 104), (21, .ifCond .eq 13), (24, .aload_n 0), (25, .iload_n 1), (26, .invokevirtual 108), (29, .ifCond .eq 5), (32, .iload_n 1), (33, .ireturn), (34, .iinc 1 1), (37, .goto (-32)), (40, .aload_n 0), (41, .getfield 39), (44, .istore_n 1), (45, .iload_n 1), (46, .aload_n 0), (47, .getfield 42), (50, .if_icmp .gt 36), (53, .aload_n 0), (54, .getfield 70), (57, .iload_n 1), (58, .invokestatic 104), (61, .ifCond .eq 19), (64, .aload_n 0), (65, .bipush 48), (67, .iload_n 1), (68, .iadd), (69, .invokevirtual 108), (72, .ifCond .eq 8), (75, .bipush 48), (77, .iload_n 1), (78, .iadd), (79, .ireturn), (80, .iinc 1 1), (83, .goto (-38)), (86, .iconst (-1)), (87, .ireturn)], [(5, [true, true]), (45, [true, true])], lkX2)
def miX2_isOnTop : sm_MI := (yX2_isOnTop, cX2_isOnTop, 2, (some .boolean), [(0, .aload_n 0), (1, .getfield 18), (4, .iload_n 1), (5, .laload), (6, .aload_n 0), (7, .getfield 11), (10, .iload_n 1), (11, .laload), (12, .ldc2_w 64), (15, .lxor), (16, .land), (17, .aload_n 0), (18, .getfield 66), (21, .land), (22, .lconst 0), (23, .lcmp), (24, .ifCond .ne 34), (27, .aload_n 0), (28, .getfield 21), (31, .iload_n 1), (32, .laload), (33, .aload_n 0), (34, .getfield 15), (37, .iload_n 1), (38, .laload), (39, .ldc2_w 64), (42, .lxor), (43, .land), (44, .aload_n 0), (45, .getfield 70), (48, .land), (49, .lconst 0), (50, .lcmp), (51, .ifCond .ne 7), (54, .iconst 1), (55, .goto 4), (58, .iconst 0), (59, .ireturn)], [], lkX2)
def miX2_numberLayerOf : sm_MI := (yX2_numberLayerOf, cX2_numberLayerOf, 8, none, [(0, .iload_n 1), (1, .bipush 48), (3, .if_icmp .ge 7), (6, .iconst 1), (7, .goto 4), (10, .iconst 0), (11, .istore_n 2), (12, .aload_n 0), (13, .getfield 18), (16, .iload_n 1), (17, .laload), (18, .aload_n 0), (19, .getfield 11), (22, .iload_n 1), (23, .laload), (24, .land), (25, .iload_n 2), (26, .ifCond .eq 9), (29, .lconst 1), (30, .iload_n 1), (31, .lshl), (32, .goto 4), (35, .lconst 0), (36, .lor), (37, .lstore_n 3), (38, .aload_n 0), (39, .getfield 21), (42, .iload_n 1), (43, .laload), (44, .aload_n 0), (45, .getfield 15), (48, .iload_n 1), (49, .laload), (50, .land), (51, .iload_n 2), (52, .ifCond .eq 7), (55, .lconst 0), (56, .goto 9), (59, .lconst 1), (60, .iload_n 1), (61, .bipush 48), (63, .isub), (64, .lshl), (65, .lor), (66, .lstore 5), (68, .aload_n 0), (69, .getfield 32), (72, .istore 7), (74, .iload 7), (76, .aload_n 0), (77, .getfield 36), (80, .if_icmp .gt 29), (83, .lload_n 3), (84, .iload 7), (86, .invokestatic 104), (89, .ifCond .eq 14), (92, .aload_n 0), (93, .getfield 24), (96, .iload 7), (98, .aload_n 0), (99, .getfield 93), (102, .iastore), (103, .iinc 7 1), (106, .goto (-32)), (109, .aload_n 0), (110, .getfield 39), (113, .istore 7), (115, .iload 7), (117, .aload_n 0), (118, .getfield 42), (121, .if_icmp .gt 33), (124, .lload 5), (126, .iload 7), (128, .invokestatic 104), (131, .ifCond .eq 17), (134, .aload_n 0), (135, .getfield 24), (138, .bipush 48), (140, .iload 7), (142, .iadd), (143, .aload_n 0), (144, .getfield 93), (147, .iastore), (148, .iinc 7 1), (151, .goto (-36)), (154, .aload_n 0), (155, .dup), (156, .getfield 66), (159, .lload_n 3), (160, .ldc2_w 64), (163, .lxor), (164, .land), (165, .putfield 66), (168, .aload_n 0), (169, .dup), (170, .getfield 70), (173, .lload 5), (175, .ldc2_w 64), (178, .lxor), (179, .land), (180, .putfield 70), (183, .aload_n 0), (184, .dup), (185, .getfield 93), (188, .iconst 1), (189, .iadd), (190, .putfield 93), (193, .return_)], [(74, [true, false, false, true, false, true, false, true]), (115, [true, false, false, true, false, true, false, true])], lkX2)
def miX3_init : sm_MI := (yX3_init, cX3_init, 1, none, [(0, .aload_n 0), (1, .invokespecial 3), (4, .aload_n 0), (5, .sipush 2000), (8, .newarray .int), (10, .putfield 9), (13, .aload_n 0), (14, .sipush 2000), (17, .newarray .int), (19, .putfield 15), (22, .aload_n 0), (23, .sipush 2000), (26, .newarray .int), (28, .putfield 18), (31, .aload_n 0), (32, .sipush 208), (35, .newarray .int), (37, .putfield 21), (40, .aload_n 0), (41, .sipush 208), (44, .newarray .int), (46, .putfield 24), (49, .aload_n 0), (50, .invokevirtual 27), (53, .aload_n 0), (54, .iconst 1), (55, .putfield 30), (58, .return_)], [], lkIX3)
def miX3_valueOf : sm_MI := (yX3_valueOf, cX3_valueOf, 2, (some .int), [(0, .iload_n 1), (1, .ifCond .lt 19), (4, .iload_n 1), (5, .sipush 208), (8, .if_icmp .ge 12), (11, .aload_n 0), (12, .getfield 21), (15, .iload_n 1), (16, .iaload), (17, .goto 4), (20, .iconst 0), (21, .ireturn)], [], lkX3)
def miX3_timeOf : sm_MI := (yX3_timeOf, cX3_timeOf, 2, (some .int), [(0, .iload_n 1), (1, .ifCond .lt 19), (4, .iload_n 1), (5, .sipush 208), (8, .if_icmp .ge 12), (11, .aload_n 0), (12, .getfield 24), (15, .iload_n 1), (16, .iaload), (17, .goto 4), (20, .iconst (-1)), (21, .ireturn)], [], lkX3)
def miX3_tellOne : sm_MI := (yX3_tellOne, cX3_tellOne, 3, (some .int), [(0, .aload_n 0), (1, .invokevirtual 34), (4, .aload_n 0), (5, .iload_n 1), (6, .iload_n 2), (7, .invokevirtual 37), (10, .aload_n 0), (11, .invokevirtual 41), (14, .ireturn)], [], lkX3)
def miX3_dropStaged : sm_MI := (yX3_dropStaged, cX3_dropStaged, 1, none, [(0, .aload_n 0), (1, .aload_n 0), (2, .getfield 45), (5, .putfield 48), (8, .return_)], [], lkX3)
def miX3_stage : sm_MI := (yX3_stage, cX3_stage, 3, none, [(0, .aload_n 0), (1, .getfield 48), (4, .sipush 2000), (7, .if_icmp .ge 38), (10, .aload_n 0), (11, .getfield 9), (14, .aload_n 0), (15, .getfield 48), (18, .iload_n 1), (19, .iastore), (20, .aload_n 0), (21, .getfield 15), (24, .aload_n 0), (25, .getfield 48), (28, .iload_n 2), (29, .iastore), (30, .aload_n 0), (31, .getfield 18), (34, .aload_n 0), (35, .getfield 48), (38, .aload_n 0), (39, .getfield 51), (42, .iconst 1), (43, .iadd), (44, .iastore), (45, .aload_n 0), (46, .dup), (47, .getfield 48), (50, .iconst 1), (51, .iadd), (52, .putfield 48), (55, .return_)], [], lkX3)
def miX3_takeStaged : sm_MI := (yX3_takeStaged, cX3_takeStaged, 2, (some .int), [(0, .aload_n 0), (1, .getfield 51), (4, .sipush 400), (7, .if_icmp .ge 13), (10, .aload_n 0), (11, .getfield 48), (14, .sipush 2000), (17, .if_icmp .le 5), (20, .iconst (-1)), (21, .ireturn), (22, .aload_n 0), (23, .getfield 54), (26, .aload_n 0), (27, .getfield 51), (30, .if_icmp .ne 10), (33, .aload_n 0), (34, .getfield 45), (37, .goto 4), (40, .iconst 0), (41, .istore_n 1), (42, .aload_n 0), (43, .aload_n 0), (44, .getfield 48), (47, .putfield 45), (50, .aload_n 0), (51, .dup), (52, .getfield 51), (55, .iconst 1), (56, .iadd), (57, .putfield 51), (60, .aload_n 0), (61, .aload_n 0), (62, .getfield 51), (65, .putfield 54), (68, .aload_n 0), (69, .iload_n 1), (70, .invokevirtual 57), (73, .aload_n 0), (74, .getfield 51), (77, .ireturn)], [], lkX3)
def miX3_lookAt : sm_MI := (yX3_lookAt, cX3_lookAt, 2, none, [(0, .aload_n 0), (1, .iload_n 1), (2, .putfield 54), (5, .aload_n 0), (6, .iconst 0), (7, .invokevirtual 57), (10, .return_)], [], lkX3)
def miX3_forget : sm_MI := (yX3_forget, cX3_forget, 2, none, [(0, .aload_n 0), (1, .getfield 21), (4, .iconst 0), (5, .invokestatic 61), (8, .aload_n 0), (9, .getfield 24), (12, .iconst (-1)), (13, .invokestatic 61), (16, .iconst 0), (17, .istore_n 1), (18, .iload_n 1), (19, .bipush 48), (21, .if_icmp .ge 18), (24, .aload_n 0), (25, .getfield 21), (28, .iconst 0), (29, .iload_n 1), (30, .iadd), (31, .iconst (-1)), (32, .iastore), (33, .iinc 1 1), (36, .goto (-18)), (39, .return_)], [(18, [true, true])], lkX3)
def miX3_replay : sm_MI := (yX3_replay, cX3_replay, 4, none, [(0, .aload_n 0), (1, .dup), (2, .getfield 30), (5, .iconst 1), (6, .iadd), (7, .putfield 30), (10, .iload_n 1), (11, .ifCond .gt 7), (14, .aload_n 0), (15, .invokevirtual 27), (18, .iconst 0), (19, .iload_n 1), (20, .invokestatic 67), (23, .istore_n 2), (24, .iload_n 2), (25, .aload_n 0), (26, .getfield 45), (29, .if_icmp .ge 71), (32, .iload_n 2), (33, .sipush 2000), (36, .if_icmp .ge 64), (39, .aload_n 0), (40, .getfield 18), (43, .iload_n 2), (44, .iaload), (45, .aload_n 0), (46, .getfield 54), (49, .if_icmp .gt 51), (52, .aload_n 0), (53, .getfield 9), (56, .iload_n 2), (57, .iaload), (58, .istore_n 3), (59, .iload_n 3), (60, .ifCond .lt 34), (63, .iload_n 3), (64, .sipush 208), (67, .if_icmp .ge 27), (70, .aload_n 0), (71, .getfield 21), (74, .iload_n 3), (75, .aload_n 0), (76, .getfield 15), (79, .iload_n 2), (80, .iaload), (81, .iastore), (82, .aload_n 0), (83, .getfield 24), (86, .iload_n 3), (87, .aload_n 0), (88, .getfield 18), (91, .iload_n 2), (92, .iaload), (93, .iastore), (94, .iinc 2 1), (97, .goto (-73)), (100, .return_)], [(24, [true, false, true, false])], lkX3)
def miX4_init : sm_MI := (yX4_init, cX4_init, 4, none, [(0, .aload_n 0), (1, .invokespecial 3), (4, .aload_n 0), (5, .bipush 16), (7, .newarray .long), (9, .putfield 9), (12, .aload_n 0), (13, .bipush 48), (15, .newarray .int), (17, .putfield 15), (20, .aload_n 0), (21, .aload_n 1), (22, .putfield 19), (25, .aload_n 0), (26, .aload_n 2), (27, .putfield 23), (30, .aload_n 0), (31, .aload_n 3), (32, .putfield 27), (35, .return_)], [], lkIX4)
def miX4_find : sm_MI := (yX4_find, cX4_find, 3, none, [(0, .aload_n 0), (1, .getfield 31), (4, .aload_n 0), (5, .getfield 19), (8, .getfield 35), (11, .if_icmp .ne 18), (14, .aload_n 0), (15, .getfield 40), (18, .aload_n 0), (19, .getfield 27), (22, .getfield 43), (25, .if_icmp .ne 4), (28, .return_), (29, .aload_n 0), (30, .aload_n 0), (31, .getfield 19), (34, .getfield 35), (37, .putfield 31), (40, .aload_n 0), (41, .aload_n 0), (42, .getfield 27), (45, .getfield 43), (48, .putfield 40), (51, .aload_n 0), (52, .invokevirtual 46), (55, .aload_n 0), (56, .invokevirtual 49), (59, .iconst 0), (60, .istore_n 1), (61, .iload_n 1), (62, .bipush 16), (64, .if_icmp .ge 29), (67, .iconst 0), (68, .istore_n 2), (69, .iload_n 2), (70, .bipush 16), (72, .if_icmp .ge 15), (75, .aload_n 0), (76, .iload_n 1), (77, .iload_n 2), (78, .invokevirtual 52), (81, .iinc 2 1), (84, .goto (-15)), (87, .iinc 1 1), (90, .goto (-29)), (93, .aload_n 0), (94, .invokevirtual 56), (97, .return_)], [(61, [true, true, false]), (69, [true, true, true])], lkX4)
def miX4_fitEnds : sm_MI := (yX4_fitEnds, cX4_fitEnds, 10, none, [(0, .aload_n 0), (1, .aload_n 0), (2, .getfield 27), (5, .lconst 0), (6, .invokevirtual 59), (9, .putfield 63), (12, .aload_n 0), (13, .getfield 63), (16, .lstore_n 1), (17, .aload_n 0), (18, .getfield 19), (21, .getfield 67), (24, .lstore_n 3), (25, .aload_n 0), (26, .lconst 0), (27, .putfield 70), (30, .aload_n 0), (31, .lconst 0), (32, .putfield 73), (35, .iconst 0), (36, .istore 5), (38, .iload 5), (40, .bipush 16), (42, .if_icmp .ge 94), (45, .aload_n 0), (46, .getfield 27), (49, .aload_n 0), (50, .getfield 19), (53, .getfield 76), (56, .iload 5), (58, .laload), (59, .invokevirtual 59), (62, .lstore 6), (64, .aload_n 0), (65, .getfield 19), (68, .getfield 79), (71, .iload 5), (73, .laload), (74, .lstore 8), (76, .aload_n 0), (77, .getfield 9), (80, .iload 5), (82, .lload 6), (84, .lastore), (85, .aload_n 0), (86, .dup), (87, .getfield 70), (90, .lload_n 1), (91, .lload 6), (93, .land), (94, .lor), (95, .putfield 70), (98, .lload_n 1), (99, .lload 6), (101, .lor), (102, .lstore_n 1), (103, .aload_n 0), (104, .dup), (105, .getfield 73), (108, .lload 8), (110, .lload 6), (112, .ldc2_w 82), (115, .lxor), (116, .land), (117, .lor), (118, .putfield 73), (121, .lload_n 3), (122, .lload 8), (124, .ldc2_w 82), (127, .lxor), (128, .land), (129, .lstore_n 3), (130, .iinc 5 1), (133, .goto (-95)), (136, .aload_n 0), (137, .dup), (138, .getfield 73), (141, .lload_n 3), (142, .aload_n 0), (143, .getfield 63), (146, .ldc2_w 82), (149, .lxor), (150, .land), (151, .lor), (152, .putfield 73), (155, .aload_n 0), (156, .aload_n 0), (157, .getfield 19), (160, .getfield 67), (163, .lload_n 1), (164, .ldc2_w 82), (167, .lxor), (168, .land), (169, .putfield 84), (172, .return_)], [(38, [true, true, false, true, false, true, false, false, false, false])], lkX4)
def miX4_weighThreading : sm_MI := (yX4_weighThreading, cX4_weighThreading, 1, none, [(0, .aload_n 0), (1, .aload_n 0), (2, .getfield 84), (5, .lconst 0), (6, .lcmp), (7, .ifCond .ne 7), (10, .iconst 1), (11, .goto 4), (14, .iconst 0), (15, .putfield 87), (18, .aload_n 0), (19, .aload_n 0), (20, .getfield 73), (23, .invokestatic 91), (26, .putfield 97), (29, .aload_n 0), (30, .iconst (-1)), (31, .putfield 100), (34, .aload_n 0), (35, .iconst (-1)), (36, .putfield 103), (39, .return_)], [], lkX4)
def miX4_weighTie : sm_MI := (yX4_weighTie, cX4_weighTie, 10, none, [(0, .aload_n 0), (1, .getfield 27), (4, .aload_n 0), (5, .iload_n 1), (6, .iload_n 2), (7, .invokevirtual 106), (10, .invokevirtual 59), (13, .lstore_n 3), (14, .aload_n 0), (15, .getfield 9), (18, .iload_n 2), (19, .laload), (20, .aload_n 0), (21, .getfield 70), (24, .ldc2_w 82), (27, .lxor), (28, .land), (29, .lstore 5), (31, .aload_n 0), (32, .getfield 84), (35, .lload 5), (37, .lor), (38, .lload_n 3), (39, .ldc2_w 82), (42, .lxor), (43, .land), (44, .lconst 0), (45, .lcmp), (46, .ifCond .eq 4), (49, .return_), (50, .aload_n 0), (51, .getfield 19), (54, .getfield 79), (57, .iload_n 2), (58, .laload), (59, .lstore 7), (61, .iconst 1), (62, .aload_n 0), (63, .getfield 73), (66, .lload 7), (68, .ldc2_w 82), (71, .lxor), (72, .land), (73, .lload 7), (75, .lload_n 3), (76, .ldc2_w 82), (79, .lxor), (80, .land), (81, .lor), (82, .invokestatic 91), (85, .iadd), (86, .istore 9), (88, .aload_n 0), (89, .getfield 87), (92, .ifCond .eq 12), (95, .iload 9), (97, .aload_n 0), (98, .getfield 97), (101, .if_icmp .ge 24), (104, .aload_n 0), (105, .iconst 1), (106, .putfield 87), (109, .aload_n 0), (110, .iload 9), (112, .putfield 97), (115, .aload_n 0), (116, .iload_n 1), (117, .putfield 100), (120, .aload_n 0), (121, .iload_n 2), (122, .putfield 103), (125, .return_)], [], lkX4)
def miX4_picksAfter : sm_MI := (yX4_picksAfter, cX4_picksAfter, 7, (some .long), [(0, .lconst 0), (1, .lstore_n 3), (2, .iconst 0), (3, .istore 5), (5, .iload 5), (7, .bipush 16), (9, .if_icmp .ge 57), (12, .aload_n 0), (13, .getfield 23), (16, .bipush 48), (18, .iload 5), (20, .iadd), (21, .invokevirtual 110), (24, .i2l), (25, .iload_n 2), (26, .invokestatic 116), (29, .istore 6), (31, .iload 6), (33, .iload 5), (35, .iload_n 1), (36, .if_icmp .ne 7), (39, .iconst 1), (40, .goto 4), (43, .iconst 0), (44, .if_icmp .eq 16), (47, .lload_n 3), (48, .aload_n 0), (49, .getfield 19), (52, .getfield 120), (55, .iload 5), (57, .laload), (58, .lor), (59, .lstore_n 3), (60, .iinc 5 1), (63, .goto (-58)), (66, .lload_n 3), (67, .lreturn)], [(5, [true, true, true, true, false, true, false])], lkX4)
def miX4_settle : sm_MI := (yX4_settle, cX4_settle, 3, none, [(0, .aload_n 0), (1, .getfield 103), (4, .ifCond .lt 40), (7, .aload_n 0), (8, .getfield 103), (11, .bipush 16), (13, .if_icmp .ge 31), (16, .aload_n 0), (17, .getfield 9), (20, .aload_n 0), (21, .getfield 103), (24, .aload_n 0), (25, .getfield 27), (28, .aload_n 0), (29, .aload_n 0), (30, .getfield 100), (33, .aload_n 0), (34, .getfield 103), (37, .invokevirtual 106), (40, .invokevirtual 59), (43, .lastore), (44, .iconst 0), (45, .istore_n 1), (46, .iload_n 1), (47, .aload_n 0), (48, .getfield 19), (51, .getfield 123), (54, .if_icmp .ge 50), (57, .iload_n 1), (58, .bipush 48), (60, .if_icmp .ge 44), (63, .aload_n 0), (64, .getfield 23), (67, .iconst 0), (68, .iload_n 1), (69, .iadd), (70, .invokevirtual 110), (73, .istore_n 2), (74, .aload_n 0), (75, .getfield 15), (78, .iload_n 1), (79, .aload_n 0), (80, .iload_n 1), (81, .iload_n 2), (82, .invokevirtual 126), (85, .ifCond .eq 7), (88, .iload_n 2), (89, .goto 8), (92, .aload_n 0), (93, .iload_n 1), (94, .invokevirtual 130), (97, .iastore), (98, .iinc 1 1), (101, .goto (-55)), (104, .return_)], [(46, [true, true, false])], lkX4)
def miX4_fits : sm_MI := (yX4_fits, cX4_fits, 3, (some .boolean), [(0, .iload_n 2), (1, .ifCond .lt 18), (4, .iload_n 2), (5, .bipush 16), (7, .if_icmp .ge 12), (10, .aload_n 0), (11, .getfield 9), (14, .iload_n 2), (15, .laload), (16, .goto 7), (19, .aload_n 0), (20, .getfield 63), (23, .iload_n 1), (24, .invokestatic 116), (27, .ireturn)], [], lkX4)
def miX4_firstFitting : sm_MI := (yX4_firstFitting, cX4_firstFitting, 3, (some .int), [(0, .iconst (-1)), (1, .istore_n 2), (2, .iload_n 2), (3, .bipush 16), (5, .if_icmp .ge 20), (8, .aload_n 0), (9, .iload_n 1), (10, .iload_n 2), (11, .invokevirtual 126), (14, .ifCond .eq 5), (17, .iload_n 2), (18, .ireturn), (19, .iinc 2 1), (22, .goto (-20)), (25, .iconst (-1)), (26, .ireturn)], [(2, [true, true, true])], lkX4)
def miX5_init : sm_MI := (yX5_init, cX5_init, 3, none, [(0, .aload_n 0), (1, .invokespecial 3), (4, .aload_n 0), (5, .sipush 192), (8, .newarray .long), (10, .putfield 11), (13, .aload_n 0), (14, .aload_n 1), (15, .putfield 15), (18, .aload_n 0), (19, .aload_n 2), (20, .putfield 19), (23, .return_)], [], lkIX5)
def miX5_showCells : sm_MI := (yX5_showCells, cX5_showCells, 2, none, [(0, .aload_n 0), (1, .iconst 1), (2, .putfield 23), (5, .iconst 0), (6, .istore_n 1), (7, .iload_n 1), (8, .aload_n 0), (9, .getfield 15), (12, .getfield 27), (15, .if_icmp .ge 30), (18, .iload_n 1), (19, .bipush 48), (21, .if_icmp .ge 24), (24, .aload_n 0), (25, .getfield 11), (28, .iload_n 1), (29, .aload_n 0), (30, .getfield 15), (33, .getfield 32), (36, .iload_n 1), (37, .laload), (38, .lastore), (39, .iinc 1 1), (42, .goto (-35)), (45, .return_)], [(7, [true, true])], lkX5)
def miX5_showColours : sm_MI := (yX5_showColours, cX5_showColours, 8, none, [(0, .aload_n 0), (1, .iconst 4), (2, .putfield 23), (5, .iconst 0), (6, .istore_n 1), (7, .iload_n 1), (8, .iconst 4), (9, .if_icmp .ge 159), (12, .lconst 0), (13, .lstore_n 2), (14, .iconst 0), (15, .istore 4), (17, .iload 4), (19, .aload_n 0), (20, .getfield 15), (23, .getfield 33), (26, .if_icmp .ge 36), (29, .aload_n 0), (30, .getfield 19), (33, .bipush 112), (35, .iload 4), (37, .iadd), (38, .invokevirtual 36), (41, .i2l), (42, .iload_n 1), (43, .invokestatic 42), (46, .ifCond .eq 10), (49, .lload_n 2), (50, .lconst 1), (51, .iload 4), (53, .lshl), (54, .lor), (55, .lstore_n 2), (56, .iinc 4 1), (59, .goto (-42)), (62, .iconst 0), (63, .istore 4), (65, .iload 4), (67, .aload_n 0), (68, .getfield 15), (71, .getfield 27), (74, .if_icmp .ge 88), (77, .iload 4), (79, .bipush 48), (81, .if_icmp .ge 81), (84, .aload_n 0), (85, .getfield 15), (88, .getfield 32), (91, .iload 4), (93, .laload), (94, .lstore 5), (96, .aload_n 0), (97, .getfield 19), (100, .sipush 160), (103, .iload 4), (105, .iadd), (106, .invokevirtual 36), (109, .i2l), (110, .iload_n 1), (111, .invokestatic 42), (114, .istore 7), (116, .aload_n 0), (117, .getfield 11), (120, .iload_n 1), (121, .bipush 48), (123, .imul), (124, .iload 4), (126, .iadd), (127, .lload 5), (129, .lload_n 2), (130, .land), (131, .iload 7), (133, .ifCond .eq 20), (136, .lload 5), (138, .ldc2_w 46), (141, .lxor), (142, .aload_n 0), (143, .getfield 15), (146, .getfield 48), (149, .land), (150, .goto 4), (153, .lconst 0), (154, .lor), (155, .lastore), (156, .iinc 4 1), (159, .goto (-94)), (162, .iinc 1 1), (165, .goto (-158)), (168, .return_)], [(7, [true, true, false, false, false, false, false, false]), (17, [true, true, true, false, true, false, false, false]), (65, [true, true, true, false, true, false, false, false])], lkX5)
def miX5_likeAlongEnds : sm_MI := (yX5_likeAlongEnds, cX5_likeAlongEnds, 9, (some .boolean), [(0, .aload_n 0), (1, .getfield 15), (4, .getfield 48), (7, .iload_n 1), (8, .lushr), (9, .lstore_n 2), (10, .iconst 1), (11, .istore 4), (13, .iconst 0), (14, .istore 5), (16, .iload 5), (18, .aload_n 0), (19, .getfield 23), (22, .if_icmp .ge 66), (25, .iconst 0), (26, .istore 6), (28, .iload 6), (30, .aload_n 0), (31, .getfield 15), (34, .getfield 27), (37, .if_icmp .ge 45), (40, .iload 4), (42, .ifCond .eq 40), (45, .aload_n 0), (46, .iload 5), (48, .iload 6), (50, .invokevirtual 52), (53, .lstore 7), (55, .lload 7), (57, .lload 7), (59, .iload_n 1), (60, .lushr), (61, .lxor), (62, .lload_n 2), (63, .land), (64, .lconst 0), (65, .lcmp), (66, .ifCond .ne 7), (69, .iconst 1), (70, .goto 4), (73, .iconst 0), (74, .istore 4), (76, .iinc 6 1), (79, .goto (-51)), (82, .iinc 5 1), (85, .goto (-69)), (88, .iload 4), (90, .ireturn)], [(16, [true, true, true, false, true, true, false, false, false]), (28, [true, true, true, false, true, true, true, false, false])], lkX5)
def miX5_likeAlongPicks : sm_MI := (yX5_likeAlongPicks, cX5_likeAlongPicks, 5, (some .boolean), [(0, .iconst 1), (1, .istore_n 2), (2, .iconst 0), (3, .istore_n 3), (4, .iload_n 3), (5, .aload_n 0), (6, .getfield 23), (9, .if_icmp .ge 62), (12, .iconst 0), (13, .istore 4), (15, .iload 4), (17, .aload_n 0), (18, .getfield 15), (21, .getfield 27), (24, .iload_n 1), (25, .isub), (26, .if_icmp .ge 39), (29, .iload_n 2), (30, .ifCond .eq 35), (33, .aload_n 0), (34, .iload_n 3), (35, .iload 4), (37, .invokevirtual 52), (40, .aload_n 0), (41, .iload_n 3), (42, .iload 4), (44, .iload_n 1), (45, .iadd), (46, .invokevirtual 52), (49, .lcmp), (50, .ifCond .ne 7), (53, .iconst 1), (54, .goto 4), (57, .iconst 0), (58, .istore_n 2), (59, .iinc 4 1), (62, .goto (-47)), (65, .iinc 3 1), (68, .goto (-64)), (71, .iload_n 2), (72, .ireturn)], [(4, [true, true, true, true, false]), (15, [true, true, true, true, true])], lkX5)
def miX5_rowAt : sm_MI := (yX5_rowAt, cX5_rowAt, 4, (some .long), [(0, .iload_n 1), (1, .bipush 48), (3, .imul), (4, .iload_n 2), (5, .iadd), (6, .istore_n 3), (7, .iload_n 3), (8, .ifCond .lt 21), (11, .iload_n 3), (12, .aload_n 0), (13, .getfield 11), (16, .arraylength), (17, .if_icmp .ge 12), (20, .aload_n 0), (21, .getfield 11), (24, .iload_n 3), (25, .laload), (26, .goto 4), (29, .lconst 0), (30, .lreturn)], [], lkX5)
def miX6_init : sm_MI := (yX6_init, cX6_init, 5, none, [(0, .aload_n 0), (1, .invokespecial 3), (4, .aload_n 0), (5, .sipush 1800), (8, .newarray .int), (10, .putfield 11), (13, .aload_n 0), (14, .bipush 9), (16, .newarray .int), (18, .putfield 15), (21, .aload_n 0), (22, .bipush 9), (24, .newarray .int), (26, .putfield 18), (29, .aload_n 0), (30, .bipush 9), (32, .newarray .int), (34, .putfield 21), (37, .aload_n 0), (38, .sipush 1600), (41, .newarray .int), (43, .putfield 24), (46, .aload_n 0), (47, .bipush 8), (49, .newarray .int), (51, .putfield 27), (54, .aload_n 0), (55, .iconst (-1)), (56, .putfield 30), (59, .aload_n 0), (60, .iconst (-1)), (61, .putfield 34), (64, .aload_n 0), (65, .aload_n 1), (66, .putfield 37), (69, .aload_n 0), (70, .aload_n 2), (71, .putfield 41), (74, .aload_n 0), (75, .iload_n 3), (76, .putfield 45), (79, .aload_n 0), (80, .iload 4), (82, .putfield 48), (85, .return_)], [], lkIX6)
def miX6_readTape : sm_MI := (yX6_readTape, cX6_readTape, 2, none, [(0, .aload_n 0), (1, .iconst 0), (2, .putfield 30), (5, .aload_n 0), (6, .iconst (-1)), (7, .putfield 34), (10, .aload_n 0), (11, .getfield 27), (14, .iconst 0), (15, .invokestatic 51), (18, .aload_n 0), (19, .getfield 41), (22, .invokevirtual 57), (25, .aload_n 0), (26, .getfield 37), (29, .invokevirtual 62), (32, .aload_n 0), (33, .iconst 0), (34, .putfield 67), (37, .iconst 0), (38, .istore_n 1), (39, .iload_n 1), (40, .sipush 300), (43, .if_icmp .gt 33), (46, .aload_n 0), (47, .getfield 67), (50, .bipush 12), (52, .if_icmp .eq 24), (55, .aload_n 0), (56, .getfield 37), (59, .invokevirtual 70), (62, .aload_n 0), (63, .invokevirtual 73), (66, .aload_n 0), (67, .invokevirtual 76), (70, .iinc 1 1), (73, .goto (-34)), (76, .return_)], [(39, [true, true])], lkX6)
def miX6_endWhatCannotGoOn : sm_MI := (yX6_endWhatCannotGoOn, cX6_endWhatCannotGoOn, 1, none, [(0, .aload_n 0), (1, .getfield 67), (4, .iconst 5), (5, .if_icmp .ne 19), (8, .aload_n 0), (9, .getfield 37), (12, .getfield 79), (15, .bipush 8), (17, .if_icmp .eq 7), (20, .aload_n 0), (21, .invokevirtual 82), (24, .aload_n 0), (25, .getfield 67), (28, .bipush 9), (30, .if_icmp .ne 21), (33, .aload_n 0), (34, .getfield 37), (37, .getfield 79), (40, .bipush 42), (42, .if_icmp .eq 9), (45, .aload_n 0), (46, .bipush 11), (48, .putfield 67), (51, .return_)], [], lkX6)
def miX6_fail : sm_MI := (yX6_fail, cX6_fail, 2, none, [(0, .aload_n 0), (1, .iload_n 1), (2, .aload_n 0), (3, .getfield 37), (6, .getfield 85), (9, .invokevirtual 88), (12, .return_)], [], lkX6)
def miX6_failAt : sm_MI := (yX6_failAt, cX6_failAt, 3, none, [(0, .aload_n 0), (1, .iload_n 1), (2, .putfield 30), (5, .aload_n 0), (6, .iload_n 2), (7, .putfield 34), (10, .aload_n 0), (11, .bipush 12), (13, .putfield 67), (16, .return_)], [], lkX6)
def miX6_step : sm_MI := (yX6_step, cX6_step, 1, none, [(0, .aload_n 0), (1, .getfield 67), (4, .tableswitch 154 0 11 #[64, 71, 78, 87, 94, 101, 110, 117, 124, 131, 140, 147]), (68, .aload_n 0), (69, .invokevirtual 92), (72, .goto 86), (75, .aload_n 0), (76, .invokevirtual 95), (79, .goto 79), (82, .aload_n 0), (83, .bipush 61), (85, .invokevirtual 98), (88, .goto 70), (91, .aload_n 0), (92, .invokevirtual 102), (95, .goto 63), (98, .aload_n 0), (99, .invokevirtual 105), (102, .goto 56), (105, .aload_n 0), (106, .bipush 6), (108, .putfield 67), (111, .goto 47), (114, .aload_n 0), (115, .invokevirtual 108), (118, .goto 40), (121, .aload_n 0), (122, .invokevirtual 111), (125, .goto 33), (128, .aload_n 0), (129, .invokevirtual 114), (132, .goto 26), (135, .aload_n 0), (136, .bipush 10), (138, .putfield 67), (141, .goto 17), (144, .aload_n 0), (145, .invokevirtual 117), (148, .goto 10), (151, .aload_n 0), (152, .invokevirtual 120), (155, .goto 3), (158, .return_)], [], lkX6)
def miX6_startClause : sm_MI := (yX6_startClause, cX6_startClause, 1, none, [(0, .aload_n 0), (1, .aload_n 0), (2, .getfield 37), (5, .getfield 79), (8, .putfield 123), (11, .aload_n 0), (12, .getfield 123), (15, .tableswitch 81 0 7 #[45, 81, 81, 81, 54, 70, 70, 62]), (60, .aload_n 0), (61, .bipush 12), (63, .putfield 67), (66, .goto 35), (69, .aload_n 0), (70, .iconst 1), (71, .putfield 67), (74, .goto 27), (77, .aload_n 0), (78, .iconst 3), (79, .putfield 67), (82, .goto 19), (85, .aload_n 0), (86, .aload_n 0), (87, .getfield 123), (90, .invokevirtual 98), (93, .goto 8), (96, .aload_n 0), (97, .iconst 1), (98, .invokevirtual 126), (101, .return_)], [], lkX6)
def miX6_nameBlock : sm_MI := (yX6_nameBlock, cX6_nameBlock, 1, none, [(0, .aload_n 0), (1, .getfield 37), (4, .getfield 79), (7, .iconst 3), (8, .if_icmp .eq 11), (11, .aload_n 0), (12, .iconst 1), (13, .invokevirtual 126), (16, .goto 41), (19, .aload_n 0), (20, .aload_n 0), (21, .getfield 37), (24, .getfield 129), (27, .invokevirtual 132), (30, .ifCond .eq 11), (33, .aload_n 0), (34, .iconst 4), (35, .invokevirtual 126), (38, .goto 19), (41, .aload_n 0), (42, .aload_n 0), (43, .getfield 37), (46, .getfield 129), (49, .putfield 136), (52, .aload_n 0), (53, .iconst 2), (54, .putfield 67), (57, .return_)], [], lkX6)
def miX6_nameTreadle : sm_MI := (yX6_nameTreadle, cX6_nameTreadle, 1, none, [(0, .aload_n 0), (1, .iconst 0), (2, .bipush 15), (4, .invokevirtual 139), (7, .ifCond .eq 19), (10, .aload_n 0), (11, .aload_n 0), (12, .getfield 37), (15, .getfield 129), (18, .putfield 136), (21, .aload_n 0), (22, .iconst 2), (23, .invokevirtual 98), (26, .return_)], [], lkX6)
def miX6_isNumber : sm_MI := (yX6_isNumber, cX6_isNumber, 3, (some .boolean), [(0, .aload_n 0), (1, .getfield 37), (4, .getfield 79), (7, .iconst 2), (8, .if_icmp .eq 10), (11, .aload_n 0), (12, .iconst 1), (13, .invokevirtual 126), (16, .iconst 0), (17, .ireturn), (18, .aload_n 0), (19, .getfield 37), (22, .getfield 129), (25, .iload_n 1), (26, .if_icmp .lt 14), (29, .aload_n 0), (30, .getfield 37), (33, .getfield 129), (36, .iload_n 2), (37, .if_icmp .le 10), (40, .aload_n 0), (41, .iconst 2), (42, .invokevirtual 126), (45, .iconst 0), (46, .ireturn), (47, .iconst 1), (48, .ireturn)], [], lkX6)
def miX6_openFirstRow : sm_MI := (yX6_openFirstRow, cX6_openFirstRow, 2, none, [(0, .aload_n 0), (1, .getfield 37), (4, .getfield 79), (7, .iload_n 1), (8, .if_icmp .eq 9), (11, .aload_n 0), (12, .iconst 1), (13, .invokevirtual 126), (16, .return_), (17, .aload_n 0), (18, .iconst 0), (19, .putfield 143), (22, .aload_n 0), (23, .iconst 0), (24, .putfield 146), (27, .aload_n 0), (28, .getfield 15), (31, .iconst 0), (32, .iconst 0), (33, .iastore), (34, .aload_n 0), (35, .iconst 4), (36, .putfield 67), (39, .return_)], [], lkX6)
def miX6_startOne : sm_MI := (yX6_startOne, cX6_startOne, 1, none, [(0, .aload_n 0), (1, .getfield 18), (4, .aload_n 0), (5, .invokevirtual 149), (8, .aload_n 0), (9, .getfield 146), (12, .iastore), (13, .aload_n 0), (14, .getfield 37), (17, .getfield 79), (20, .lookupswitch 125 #[(2, 60), (3, 67), (9, 86), (10, 101), (11, 116), (40, 74)]), (80, .aload_n 0), (81, .invokevirtual 153), (84, .goto 66), (87, .aload_n 0), (88, .invokevirtual 156), (91, .goto 59), (94, .aload_n 0), (95, .iconst 0), (96, .putfield 159), (99, .aload_n 0), (100, .invokevirtual 114), (103, .goto 47), (106, .aload_n 0), (107, .bipush 16), (109, .putfield 159), (112, .aload_n 0), (113, .bipush 8), (115, .putfield 67), (118, .goto 32), (121, .aload_n 0), (122, .bipush 17), (124, .putfield 159), (127, .aload_n 0), (128, .bipush 8), (130, .putfield 67), (133, .goto 17), (136, .aload_n 0), (137, .bipush 7), (139, .putfield 67), (142, .goto 8), (145, .aload_n 0), (146, .iconst 1), (147, .invokevirtual 126), (150, .return_)], [], lkX6)
def miX6_holdNumber : sm_MI := (yX6_holdNumber, cX6_holdNumber, 1, none, [(0, .aload_n 0), (1, .iconst 0), (2, .bipush 15), (4, .invokevirtual 139), (7, .ifCond .eq 30), (10, .aload_n 0), (11, .aload_n 0), (12, .getfield 37), (15, .getfield 129), (18, .putfield 162), (21, .aload_n 0), (22, .aload_n 0), (23, .getfield 37), (26, .getfield 85), (29, .putfield 165), (32, .aload_n 0), (33, .iconst 5), (34, .putfield 67), (37, .return_)], [], lkX6)
def miX6_endNumber : sm_MI := (yX6_endNumber, cX6_endNumber, 1, none, [(0, .aload_n 0), (1, .iconst 1), (2, .invokevirtual 168), (5, .ifCond .eq 20), (8, .aload_n 0), (9, .aload_n 0), (10, .getfield 162), (13, .invokevirtual 172), (16, .aload_n 0), (17, .bipush 9), (19, .putfield 67), (22, .goto 12), (25, .aload_n 0), (26, .iconst 5), (27, .aload_n 0), (28, .getfield 165), (31, .invokevirtual 88), (34, .return_)], [], lkX6)
def miX6_endRange : sm_MI := (yX6_endRange, cX6_endRange, 4, none, [(0, .aload_n 0), (1, .iconst 0), (2, .bipush 15), (4, .invokevirtual 139), (7, .ifCond .ne 4), (10, .return_), (11, .aload_n 0), (12, .getfield 37), (15, .getfield 129), (18, .aload_n 0), (19, .getfield 162), (22, .isub), (23, .invokestatic 175), (26, .istore_n 1), (27, .aload_n 0), (28, .iload_n 1), (29, .iconst 1), (30, .iadd), (31, .invokevirtual 168), (34, .ifCond .ne 9), (37, .aload_n 0), (38, .iconst 5), (39, .invokevirtual 126), (42, .return_), (43, .aload_n 0), (44, .getfield 37), (47, .getfield 129), (50, .aload_n 0), (51, .getfield 162), (54, .if_icmp .ge 7), (57, .iconst (-1)), (58, .goto 4), (61, .iconst 1), (62, .istore_n 2), (63, .iconst 0), (64, .istore_n 3), (65, .iload_n 3), (66, .iload_n 1), (67, .if_icmp .gt 21), (70, .aload_n 0), (71, .aload_n 0), (72, .getfield 162), (75, .iload_n 3), (76, .iload_n 2), (77, .imul), (78, .iadd), (79, .invokevirtual 172), (82, .iinc 3 1), (85, .goto (-20)), (88, .aload_n 0), (89, .bipush 9), (91, .putfield 67), (94, .return_)], [(65, [true, true, true, true])], lkX6)
def miX6_addBlock : sm_MI := (yX6_addBlock, cX6_addBlock, 4, none, [(0, .aload_n 0), (1, .getfield 37), (4, .getfield 129), (7, .istore_n 1), (8, .aload_n 0), (9, .iload_n 1), (10, .invokevirtual 132), (13, .istore_n 2), (14, .iload_n 2), (15, .ifCond .ne 11), (18, .aload_n 0), (19, .iconst 4), (20, .invokevirtual 126), (23, .goto 48), (26, .aload_n 0), (27, .iload_n 2), (28, .invokevirtual 168), (31, .ifCond .ne 11), (34, .aload_n 0), (35, .iconst 5), (36, .invokevirtual 126), (39, .goto 32), (42, .iconst 0), (43, .istore_n 3), (44, .iload_n 3), (45, .iload_n 2), (46, .if_icmp .ge 19), (49, .aload_n 0), (50, .aload_n 0), (51, .iload_n 1), (52, .iload_n 3), (53, .invokevirtual 180), (56, .invokevirtual 172), (59, .iinc 3 1), (62, .goto (-18)), (65, .aload_n 0), (66, .bipush 9), (68, .putfield 67), (71, .return_)], [(44, [true, true, true, true])], lkX6)
def miX6_nameSum : sm_MI := (yX6_nameSum, cX6_nameSum, 1, none, [(0, .aload_n 0), (1, .iconst 0), (2, .bipush 15), (4, .invokevirtual 139), (7, .ifCond .eq 20), (10, .aload_n 0), (11, .aload_n 0), (12, .getfield 37), (15, .getfield 129), (18, .putfield 159), (21, .aload_n 0), (22, .bipush 8), (24, .putfield 67), (27, .return_)], [], lkX6)
def miX6_openBracket : sm_MI := (yX6_openBracket, cX6_openBracket, 2, none, [(0, .aload_n 0), (1, .getfield 37), (4, .getfield 79), (7, .bipush 40), (9, .if_icmp .eq 11), (12, .aload_n 0), (13, .iconst 1), (14, .invokevirtual 126), (17, .goto 60), (20, .aload_n 0), (21, .getfield 143), (24, .bipush 8), (26, .if_icmp .lt 11), (29, .aload_n 0), (30, .iconst 3), (31, .invokevirtual 126), (34, .goto 43), (37, .aload_n 0), (38, .dup), (39, .getfield 143), (42, .iconst 1), (43, .iadd), (44, .putfield 143), (47, .aload_n 0), (48, .invokevirtual 149), (51, .istore_n 1), (52, .aload_n 0), (53, .getfield 15), (56, .iload_n 1), (57, .aload_n 0), (58, .getfield 146), (61, .iastore), (62, .aload_n 0), (63, .getfield 21), (66, .iload_n 1), (67, .aload_n 0), (68, .getfield 159), (71, .iastore), (72, .aload_n 0), (73, .iconst 4), (74, .putfield 67), (77, .return_)], [], lkX6)
def miX6_closeBracket : sm_MI := (yX6_closeBracket, cX6_closeBracket, 7, none, [(0, .aload_n 0), (1, .invokevirtual 149), (4, .istore_n 1), (5, .aload_n 0), (6, .getfield 15), (9, .iload_n 1), (10, .iaload), (11, .istore_n 2), (12, .aload_n 0), (13, .getfield 146), (16, .istore_n 3), (17, .aload_n 0), (18, .getfield 21), (21, .iload_n 1), (22, .iaload), (23, .istore 4), (25, .aload_n 0), (26, .dup), (27, .getfield 143), (30, .iconst 1), (31, .isub), (32, .putfield 143), (35, .iload 4), (37, .bipush 16), (39, .if_icmp .ne 15), (42, .iconst 0), (43, .iload_n 3), (44, .iload_n 2), (45, .isub), (46, .iconst 2), (47, .isub), (48, .invokestatic 184), (51, .goto 4), (54, .iconst 0), (55, .istore 5), (57, .aload_n 0), (58, .iload 5), (60, .invokevirtual 168), (63, .ifCond .ne 9), (66, .aload_n 0), (67, .iconst 5), (68, .invokevirtual 126), (71, .return_), (72, .iload 4), (74, .bipush 16), (76, .if_icmp .ne 33), (79, .iload_n 3), (80, .iconst 2), (81, .isub), (82, .istore 6), (84, .iload 6), (86, .iload_n 2), (87, .if_icmp .le 19), (90, .aload_n 0), (91, .aload_n 0), (92, .iload 6), (94, .invokevirtual 187), (97, .invokevirtual 172), (100, .iinc 6 (-1)), (103, .goto (-19)), (106, .goto 27), (109, .iload 4), (111, .bipush 17), (113, .if_icmp .ne 12), (116, .aload_n 0), (117, .iload_n 2), (118, .iload_n 3), (119, .invokevirtual 190), (122, .goto 11), (125, .aload_n 0), (126, .iload_n 2), (127, .iload_n 3), (128, .iload 4), (130, .invokevirtual 193), (133, .aload_n 0), (134, .bipush 9), (136, .putfield 67), (139, .return_)], [(84, [true, false, true, false, false, false, true])], lkX6)
def miX6_turnBack : sm_MI := (yX6_turnBack, cX6_turnBack, 6, none, [(0, .iload_n 1), (1, .istore_n 3), (2, .iload_n 2), (3, .iconst 1), (4, .isub), (5, .istore 4), (7, .iload_n 3), (8, .iload 4), (10, .if_icmp .ge 38), (13, .aload_n 0), (14, .iload_n 3), (15, .invokevirtual 187), (18, .istore 5), (20, .aload_n 0), (21, .iload_n 3), (22, .aload_n 0), (23, .iload 4), (25, .invokevirtual 187), (28, .invokevirtual 197), (31, .aload_n 0), (32, .iload 4), (34, .iload 5), (36, .invokevirtual 197), (39, .iinc 3 1), (42, .iinc 4 (-1)), (45, .goto (-38)), (48, .return_)], [(7, [true, false, false, true, true, false])], lkX6)
def miX6_raiseNumbers : sm_MI := (yX6_raiseNumbers, cX6_raiseNumbers, 5, none, [(0, .iload_n 1), (1, .istore 4), (3, .iload 4), (5, .iload_n 2), (6, .if_icmp .ge 26), (9, .aload_n 0), (10, .iload 4), (12, .aload_n 0), (13, .iload 4), (15, .invokevirtual 187), (18, .iload_n 3), (19, .iadd), (20, .bipush 15), (22, .iand), (23, .invokevirtual 197), (26, .iinc 4 1), (29, .goto (-26)), (32, .return_)], [(3, [true, false, true, true, true])], lkX6)
def miX6_copyItem : sm_MI := (yX6_copyItem, cX6_copyItem, 4, none, [(0, .aload_n 0), (1, .iconst 1), (2, .bipush 48), (4, .invokevirtual 139), (7, .ifCond .ne 4), (10, .return_), (11, .aload_n 0), (12, .getfield 18), (15, .aload_n 0), (16, .invokevirtual 149), (19, .iaload), (20, .istore_n 1), (21, .aload_n 0), (22, .getfield 146), (25, .iload_n 1), (26, .isub), (27, .aload_n 0), (28, .getfield 37), (31, .getfield 129), (34, .iconst 1), (35, .isub), (36, .imul), (37, .istore_n 2), (38, .aload_n 0), (39, .iload_n 2), (40, .invokevirtual 168), (43, .ifCond .ne 9), (46, .aload_n 0), (47, .iconst 5), (48, .invokevirtual 126), (51, .return_), (52, .iconst 0), (53, .istore_n 3), (54, .iload_n 3), (55, .iload_n 2), (56, .if_icmp .ge 20), (59, .aload_n 0), (60, .aload_n 0), (61, .iload_n 1), (62, .iload_n 3), (63, .iadd), (64, .invokevirtual 187), (67, .invokevirtual 172), (70, .iinc 3 1), (73, .goto (-19)), (76, .aload_n 0), (77, .bipush 11), (79, .putfield 67), (82, .return_)], [(54, [true, true, true, true])], lkX6)
def miX6_goOnBehindItem : sm_MI := (yX6_goOnBehindItem, cX6_goOnBehindItem, 1, none, [(0, .aload_n 0), (1, .getfield 37), (4, .getfield 79), (7, .bipush 44), (9, .if_icmp .ne 11), (12, .aload_n 0), (13, .iconst 4), (14, .putfield 67), (17, .goto 60), (20, .aload_n 0), (21, .getfield 37), (24, .getfield 79), (27, .bipush 41), (29, .if_icmp .ne 17), (32, .aload_n 0), (33, .getfield 143), (36, .ifCond .le 10), (39, .aload_n 0), (40, .invokevirtual 200), (43, .goto 34), (46, .aload_n 0), (47, .getfield 37), (50, .getfield 79), (53, .bipush 59), (55, .if_icmp .ne 17), (58, .aload_n 0), (59, .getfield 143), (62, .ifCond .ne 10), (65, .aload_n 0), (66, .invokevirtual 203), (69, .goto 8), (72, .aload_n 0), (73, .iconst 1), (74, .invokevirtual 126), (77, .return_)], [], lkX6)
def miX6_endClause : sm_MI := (yX6_endClause, cX6_endClause, 1, none, [(0, .aload_n 0), (1, .iconst 0), (2, .putfield 67), (5, .aload_n 0), (6, .getfield 123), (9, .tableswitch 59 4 6 #[27, 34, 46]), (36, .aload_n 0), (37, .invokevirtual 206), (40, .goto 32), (43, .aload_n 0), (44, .iconst 0), (45, .aload_n 0), (46, .getfield 45), (49, .invokevirtual 209), (52, .goto 20), (55, .aload_n 0), (56, .bipush 64), (58, .aload_n 0), (59, .getfield 48), (62, .invokevirtual 209), (65, .goto 7), (68, .aload_n 0), (69, .invokevirtual 212), (72, .return_)], [], lkX6)
def miX6_keepBlock : sm_MI := (yX6_keepBlock, cX6_keepBlock, 2, none, [(0, .aload_n 0), (1, .getfield 136), (4, .ifCond .lt 12), (7, .aload_n 0), (8, .getfield 136), (11, .bipush 8), (13, .if_icmp .lt 4), (16, .return_), (17, .aload_n 0), (18, .getfield 27), (21, .aload_n 0), (22, .getfield 136), (25, .aload_n 0), (26, .getfield 146), (29, .sipush 200), (32, .invokestatic 215), (35, .iastore), (36, .iconst 0), (37, .istore_n 1), (38, .iload_n 1), (39, .aload_n 0), (40, .getfield 146), (43, .if_icmp .ge 36), (46, .iload_n 1), (47, .sipush 200), (50, .if_icmp .ge 29), (53, .aload_n 0), (54, .getfield 24), (57, .aload_n 0), (58, .getfield 136), (61, .sipush 200), (64, .imul), (65, .iload_n 1), (66, .iadd), (67, .aload_n 0), (68, .iload_n 1), (69, .invokevirtual 187), (72, .iastore), (73, .iinc 1 1), (76, .goto (-38)), (79, .return_)], [(38, [true, true])], lkX6)
def miX6_stageAlong : sm_MI := (yX6_stageAlong, cX6_stageAlong, 6, none, [(0, .iconst 0), (1, .istore_n 3), (2, .iconst 0), (3, .istore 4), (5, .iload 4), (7, .iload_n 2), (8, .if_icmp .ge 63), (11, .aload_n 0), (12, .iload_n 3), (13, .invokevirtual 187), (16, .istore 5), (18, .aload_n 0), (19, .getfield 41), (22, .iload_n 1), (23, .iload 4), (25, .iadd), (26, .aload_n 0), (27, .getfield 123), (30, .bipush 6), (32, .if_icmp .ne 10), (35, .iconst 1), (36, .iload 5), (38, .ishl), (39, .goto 5), (42, .iload 5), (44, .invokevirtual 218), (47, .iload_n 3), (48, .iconst 1), (49, .iadd), (50, .aload_n 0), (51, .getfield 146), (54, .if_icmp .ge 9), (57, .iload_n 3), (58, .iconst 1), (59, .iadd), (60, .goto 4), (63, .iconst 0), (64, .istore_n 3), (65, .iinc 4 1), (68, .goto (-63)), (71, .return_)], [(5, [true, true, true, true, true, false])], lkX6)
def miX6_stageTie : sm_MI := (yX6_stageTie, cX6_stageTie, 3, none, [(0, .iconst 0), (1, .istore_n 1), (2, .iconst 0), (3, .istore_n 2), (4, .iload_n 2), (5, .aload_n 0), (6, .getfield 146), (9, .if_icmp .ge 19), (12, .iload_n 1), (13, .iconst 1), (14, .aload_n 0), (15, .iload_n 2), (16, .invokevirtual 187), (19, .ishl), (20, .ior), (21, .istore_n 1), (22, .iinc 2 1), (25, .goto (-21)), (28, .aload_n 0), (29, .getfield 41), (32, .bipush 48), (34, .aload_n 0), (35, .getfield 136), (38, .iadd), (39, .iload_n 1), (40, .invokevirtual 218), (43, .return_)], [(4, [true, true, true])], lkX6)
def miX6_openRow : sm_MI := (yX6_openRow, cX6_openRow, 1, (some .int), [(0, .iconst 0), (1, .bipush 8), (3, .aload_n 0), (4, .getfield 143), (7, .invokestatic 215), (10, .invokestatic 184), (13, .ireturn)], [], lkX6)
def miX6_hasRoom : sm_MI := (yX6_hasRoom, cX6_hasRoom, 2, (some .boolean), [(0, .aload_n 0), (1, .getfield 146), (4, .aload_n 0), (5, .getfield 15), (8, .aload_n 0), (9, .invokevirtual 149), (12, .iaload), (13, .isub), (14, .iload_n 1), (15, .iadd), (16, .sipush 200), (19, .if_icmp .gt 7), (22, .iconst 1), (23, .goto 4), (26, .iconst 0), (27, .ireturn)], [], lkX6)
def miX6_add : sm_MI := (yX6_add, cX6_add, 2, none, [(0, .aload_n 0), (1, .getfield 146), (4, .ifCond .lt 35), (7, .aload_n 0), (8, .getfield 146), (11, .aload_n 0), (12, .getfield 11), (15, .arraylength), (16, .if_icmp .ge 23), (19, .aload_n 0), (20, .getfield 11), (23, .aload_n 0), (24, .getfield 146), (27, .iload_n 1), (28, .iastore), (29, .aload_n 0), (30, .dup), (31, .getfield 146), (34, .iconst 1), (35, .iadd), (36, .putfield 146), (39, .return_)], [], lkX6)
def miX6_numberAt : sm_MI := (yX6_numberAt, cX6_numberAt, 2, (some .int), [(0, .iload_n 1), (1, .ifCond .lt 21), (4, .iload_n 1), (5, .aload_n 0), (6, .getfield 11), (9, .arraylength), (10, .if_icmp .ge 12), (13, .aload_n 0), (14, .getfield 11), (17, .iload_n 1), (18, .iaload), (19, .goto 4), (22, .iconst 0), (23, .ireturn)], [], lkX6)
def miX6_put : sm_MI := (yX6_put, cX6_put, 3, none, [(0, .iload_n 1), (1, .ifCond .lt 19), (4, .iload_n 1), (5, .aload_n 0), (6, .getfield 11), (9, .arraylength), (10, .if_icmp .ge 10), (13, .aload_n 0), (14, .getfield 11), (17, .iload_n 1), (18, .iload_n 2), (19, .iastore), (20, .return_)], [], lkX6)
def miX6_blockSize : sm_MI := (yX6_blockSize, cX6_blockSize, 2, (some .int), [(0, .iload_n 1), (1, .ifCond .lt 18), (4, .iload_n 1), (5, .bipush 8), (7, .if_icmp .ge 12), (10, .aload_n 0), (11, .getfield 27), (14, .iload_n 1), (15, .iaload), (16, .goto 4), (19, .iconst 0), (20, .ireturn)], [], lkX6)
def miX6_blockNumber : sm_MI := (yX6_blockNumber, cX6_blockNumber, 4, (some .int), [(0, .iload_n 1), (1, .sipush 200), (4, .imul), (5, .iload_n 2), (6, .iadd), (7, .istore_n 3), (8, .iload_n 3), (9, .ifCond .lt 21), (12, .iload_n 3), (13, .aload_n 0), (14, .getfield 24), (17, .arraylength), (18, .if_icmp .ge 12), (21, .aload_n 0), (22, .getfield 24), (25, .iload_n 3), (26, .iaload), (27, .goto 4), (30, .iconst 0), (31, .ireturn)], [], lkX6)
def miX7_init : sm_MI := (yX7_init, cX7_init, 2, none, [(0, .aload_n 0), (1, .invokespecial 3), (4, .aload_n 0), (5, .bipush 49), (7, .newarray .int), (9, .putfield 9), (12, .aload_n 0), (13, .aload_n 1), (14, .putfield 15), (17, .return_)], [], lkIX7)
def miX7_countFloats : sm_MI := (yX7_countFloats, cX7_countFloats, 8, none, [(0, .aload_n 0), (1, .getfield 9), (4, .iconst 0), (5, .invokestatic 19), (8, .iload_n 1), (9, .ifCond .eq 13), (12, .aload_n 0), (13, .getfield 15), (16, .getfield 25), (19, .goto 10), (22, .aload_n 0), (23, .getfield 15), (26, .getfield 31), (29, .istore_n 3), (30, .iload_n 1), (31, .ifCond .eq 13), (34, .aload_n 0), (35, .getfield 15), (38, .getfield 31), (41, .goto 10), (44, .aload_n 0), (45, .getfield 15), (48, .getfield 25), (51, .istore 4), (53, .iconst 0), (54, .istore 5), (56, .iload 5), (58, .iload_n 3), (59, .if_icmp .ge 79), (62, .iload 5), (64, .bipush 48), (66, .if_icmp .ge 72), (69, .iload_n 1), (70, .ifCond .eq 16), (73, .aload_n 0), (74, .getfield 15), (77, .getfield 34), (80, .iload 5), (82, .laload), (83, .goto 25), (86, .aload_n 0), (87, .getfield 15), (90, .getfield 38), (93, .iload 5), (95, .laload), (96, .ldc2_w 41), (99, .lxor), (100, .aload_n 0), (101, .getfield 15), (104, .getfield 43), (107, .land), (108, .lstore 6), (110, .aload_n 0), (111, .iload_n 2), (112, .ifCond .eq 13), (115, .lload 6), (117, .iload 4), (119, .invokestatic 47), (122, .goto 5), (125, .lload 6), (127, .iload 4), (129, .invokevirtual 51), (132, .iinc 5 1), (135, .goto (-79)), (138, .return_)], [(56, [true, true, true, true, true, true, false, false])], lkX7)
def miX7_cutOpen : sm_MI := (yX7_cutOpen, cX7_cutOpen, 4, (some .long), [(0, .lload_n 0), (1, .ldc2_w 41), (4, .lxor), (5, .invokestatic 55), (8, .istore_n 3), (9, .iload_n 3), (10, .iload_n 2), (11, .if_icmp .ge 14), (14, .lload_n 0), (15, .iload_n 2), (16, .iload_n 2), (17, .iload_n 3), (18, .isub), (19, .invokestatic 61), (22, .goto 4), (25, .lload_n 0), (26, .lreturn)], [], lkX7)
def miX7_countLine : sm_MI := (yX7_countLine, cX7_countLine, 6, none, [(0, .iconst 0), (1, .istore 4), (3, .iconst 0), (4, .istore 5), (6, .iload 5), (8, .iload_n 3), (9, .if_icmp .gt 56), (12, .iload 5), (14, .iload_n 3), (15, .if_icmp .ge 18), (18, .lload_n 1), (19, .iload 5), (21, .invokestatic 65), (24, .ifCond .eq 9), (27, .iinc 4 1), (30, .goto 29), (33, .iload 4), (35, .ifCond .le 21), (38, .iload 4), (40, .bipush 48), (42, .if_icmp .gt 14), (45, .aload_n 0), (46, .getfield 9), (49, .iload 4), (51, .dup2), (52, .iaload), (53, .iconst 1), (54, .iadd), (55, .iastore), (56, .iconst 0), (57, .istore 4), (59, .iinc 5 1), (62, .goto (-56)), (65, .return_)], [(6, [true, true, false, true, true, true])], lkX7)
def miX7_longestOne : sm_MI := (yX7_longestOne, cX7_longestOne, 2, (some .int), [(0, .bipush 48), (2, .istore_n 1), (3, .iload_n 1), (4, .ifCond .le 20), (7, .aload_n 0), (8, .getfield 9), (11, .iload_n 1), (12, .iaload), (13, .ifCond .le 5), (16, .iload_n 1), (17, .ireturn), (18, .iinc 1 (-1)), (21, .goto (-18)), (24, .iconst 0), (25, .ireturn)], [(3, [true, true])], lkX7)
def miX7_longerThan : sm_MI := (yX7_longerThan, cX7_longerThan, 4, (some .int), [(0, .iconst 0), (1, .istore_n 2), (2, .iconst 1), (3, .istore_n 3), (4, .iload_n 3), (5, .bipush 48), (7, .if_icmp .gt 23), (10, .iload_n 3), (11, .iload_n 1), (12, .if_icmp .le 12), (15, .iload_n 2), (16, .aload_n 0), (17, .getfield 9), (20, .iload_n 3), (21, .iaload), (22, .iadd), (23, .istore_n 2), (24, .iinc 3 1), (27, .goto (-23)), (30, .iload_n 2), (31, .ireturn)], [(4, [true, true, true, true])], lkX7)
def miX8_init : sm_MI := (yX8_init, cX8_init, 2, none, [(0, .aload_n 0), (1, .invokespecial 3), (4, .aload_n 0), (5, .bipush 48), (7, .newarray .long), (9, .putfield 9), (12, .aload_n 0), (13, .bipush 48), (15, .newarray .long), (17, .putfield 15), (20, .aload_n 0), (21, .aload_n 1), (22, .putfield 18), (25, .return_)], [], lkIX8)
def miX8_noteRow : sm_MI := (yX8_noteRow, cX8_noteRow, 7, none, [(0, .iload_n 1), (1, .ifCond .lt 9), (4, .iload_n 1), (5, .bipush 48), (7, .if_icmp .lt 4), (10, .return_), (11, .aload_n 0), (12, .dup), (13, .getfield 22), (16, .iconst 1), (17, .iadd), (18, .putfield 22), (21, .aload_n 0), (22, .getfield 9), (25, .iload_n 1), (26, .lload_n 2), (27, .lastore), (28, .lconst 1), (29, .iload_n 1), (30, .lshl), (31, .lstore 4), (33, .iconst 0), (34, .istore 6), (36, .iload 6), (38, .aload_n 0), (39, .getfield 18), (42, .getfield 26), (45, .if_icmp .ge 59), (48, .iload 6), (50, .bipush 48), (52, .if_icmp .ge 52), (55, .aload_n 0), (56, .getfield 15), (59, .iload 6), (61, .lload_n 2), (62, .iload 6), (64, .invokestatic 31), (67, .ifCond .eq 16), (70, .aload_n 0), (71, .getfield 15), (74, .iload 6), (76, .laload), (77, .lload 4), (79, .lor), (80, .goto 17), (83, .aload_n 0), (84, .getfield 15), (87, .iload 6), (89, .laload), (90, .lload 4), (92, .ldc2_w 35), (95, .lxor), (96, .land), (97, .lastore), (98, .iinc 6 1), (101, .goto (-65)), (104, .return_)], [(36, [true, false, true, false, true, false, true])], lkX8)
def miX8_endsLike : sm_MI := (yX8_endsLike, cX8_endsLike, 6, (some .long), [(0, .lconst 0), (1, .lstore_n 3), (2, .iconst 0), (3, .istore 5), (5, .iload 5), (7, .aload_n 0), (8, .getfield 18), (11, .getfield 26), (14, .if_icmp .ge 35), (17, .iload 5), (19, .bipush 48), (21, .if_icmp .ge 28), (24, .aload_n 0), (25, .getfield 15), (28, .iload 5), (30, .laload), (31, .lload_n 1), (32, .lcmp), (33, .ifCond .ne 10), (36, .lload_n 3), (37, .lconst 1), (38, .iload 5), (40, .lshl), (41, .lor), (42, .lstore_n 3), (43, .iinc 5 1), (46, .goto (-41)), (49, .lload_n 3), (50, .lreturn)], [(5, [true, true, false, true, false, true])], lkX8)
def miX8_isMoved : sm_MI := (yX8_isMoved, cX8_isMoved, 9, (some .boolean), [(0, .iconst 1), (1, .istore 4), (3, .aload_n 0), (4, .getfield 18), (7, .getfield 37), (10, .istore 5), (12, .iconst 0), (13, .istore 6), (15, .iload 6), (17, .iload 5), (19, .if_icmp .ge 79), (22, .iload 4), (24, .ifCond .eq 74), (27, .iload_n 1), (28, .iload 6), (30, .iadd), (31, .iload 5), (33, .invokestatic 40), (36, .istore 7), (38, .iload 7), (40, .iload_n 3), (41, .iadd), (42, .iload 5), (44, .invokestatic 40), (47, .istore 8), (49, .aload_n 0), (50, .getfield 9), (53, .iload 8), (55, .invokestatic 44), (58, .aload_n 0), (59, .getfield 18), (62, .getfield 48), (65, .iload 7), (67, .invokestatic 44), (70, .aload_n 0), (71, .getfield 18), (74, .getfield 26), (77, .iload_n 2), (78, .invokestatic 49), (81, .lcmp), (82, .ifCond .ne 7), (85, .iconst 1), (86, .goto 4), (89, .iconst 0), (90, .istore 4), (92, .iinc 6 1), (95, .goto (-80)), (98, .iload 4), (100, .ireturn)], [(15, [true, true, true, true, true, true, true, false, false])], lkX8)
def miX8_wrapped : sm_MI := (yX8_wrapped, cX8_wrapped, 2, (some .int), [(0, .iload_n 0), (1, .iload_n 1), (2, .if_icmp .ge 7), (5, .iload_n 0), (6, .goto 6), (9, .iload_n 0), (10, .iload_n 1), (11, .isub), (12, .ireturn)], [], lkX8)
def miX8_rowAt : sm_MI := (yX8_rowAt, cX8_rowAt, 2, (some .long), [(0, .iload_n 1), (1, .ifCond .lt 15), (4, .iload_n 1), (5, .aload_n 0), (6, .arraylength), (7, .if_icmp .ge 9), (10, .aload_n 0), (11, .iload_n 1), (12, .laload), (13, .goto 4), (16, .lconst 0), (17, .lreturn)], [], lkX8)
def miX9_init : sm_MI := (yX9_init, cX9_init, 1, none, [(0, .aload_n 0), (1, .invokespecial 3), (4, .aload_n 0), (5, .sipush 300), (8, .newarray .int), (10, .putfield 9), (13, .return_)], [], lkIX9)
def miX9_appendWord : sm_MI := (yX9_appendWord, cX9_appendWord, 3, none, [(0, .bipush 24), (2, .istore_n 2), (3, .iload_n 2), (4, .ifCond .lt 45), (7, .aload_n 0), (8, .getfield 15), (11, .sipush 300), (14, .if_icmp .ge 35), (17, .aload_n 0), (18, .getfield 9), (21, .aload_n 0), (22, .getfield 15), (25, .iload_n 1), (26, .iload_n 2), (27, .iushr), (28, .sipush 255), (31, .iand), (32, .iastore), (33, .aload_n 0), (34, .dup), (35, .getfield 15), (38, .iconst 1), (39, .iadd), (40, .putfield 15), (43, .iinc 2 (-8)), (46, .goto (-43)), (49, .return_)], [(3, [true, true, true])], lkX9)
def miX9_rewind : sm_MI := (yX9_rewind, cX9_rewind, 1, none, [(0, .aload_n 0), (1, .iconst 0), (2, .putfield 19), (5, .return_)], [], lkX9)
def miX9_advance : sm_MI := (yX9_advance, cX9_advance, 2, none, [(0, .aload_n 0), (1, .getfield 19), (4, .aload_n 0), (5, .getfield 15), (8, .if_icmp .ge 30), (11, .aload_n 0), (12, .aload_n 0), (13, .getfield 19), (16, .invokevirtual 22), (19, .invokestatic 26), (22, .ifCond .eq 16), (25, .aload_n 0), (26, .dup), (27, .getfield 19), (30, .iconst 1), (31, .iadd), (32, .putfield 19), (35, .goto (-35)), (38, .aload_n 0), (39, .aload_n 0), (40, .getfield 19), (43, .putfield 30), (46, .aload_n 0), (47, .aload_n 0), (48, .getfield 19), (51, .invokevirtual 22), (54, .istore_n 1), (55, .iload_n 1), (56, .iconst (-1)), (57, .if_icmp .ne 11), (60, .aload_n 0), (61, .iconst 0), (62, .putfield 33), (65, .goto 57), (68, .iload_n 1), (69, .invokestatic 36), (72, .ifCond .eq 10), (75, .aload_n 0), (76, .invokevirtual 39), (79, .goto 43), (82, .iload_n 1), (83, .invokestatic 42), (86, .ifCond .eq 10), (89, .aload_n 0), (90, .invokevirtual 45), (93, .goto 29), (96, .aload_n 0), (97, .dup), (98, .getfield 19), (101, .iconst 1), (102, .iadd), (103, .putfield 19), (106, .aload_n 0), (107, .iload_n 1), (108, .invokestatic 48), (111, .ifCond .eq 7), (114, .iload_n 1), (115, .goto 4), (118, .iconst 1), (119, .putfield 33), (122, .return_)], [(0, [true, false])], lkX9)
def miX9_byteAt : sm_MI := (yX9_byteAt, cX9_byteAt, 2, (some .int), [(0, .iload_n 1), (1, .ifCond .lt 27), (4, .iload_n 1), (5, .aload_n 0), (6, .getfield 15), (9, .if_icmp .ge 19), (12, .iload_n 1), (13, .sipush 300), (16, .if_icmp .ge 12), (19, .aload_n 0), (20, .getfield 9), (23, .iload_n 1), (24, .iaload), (25, .goto 4), (28, .iconst (-1)), (29, .ireturn)], [], lkX9)
def miX9_readNumber : sm_MI := (yX9_readNumber, cX9_readNumber, 1, none, [(0, .aload_n 0), (1, .iconst 2), (2, .putfield 33), (5, .aload_n 0), (6, .iconst 0), (7, .putfield 51), (10, .aload_n 0), (11, .getfield 19), (14, .aload_n 0), (15, .getfield 15), (18, .if_icmp .ge 59), (21, .aload_n 0), (22, .aload_n 0), (23, .getfield 19), (26, .invokevirtual 22), (29, .invokestatic 36), (32, .ifCond .eq 45), (35, .aload_n 0), (36, .sipush 999), (39, .aload_n 0), (40, .getfield 51), (43, .bipush 10), (45, .imul), (46, .aload_n 0), (47, .aload_n 0), (48, .getfield 19), (51, .invokevirtual 22), (54, .iadd), (55, .bipush 48), (57, .isub), (58, .invokestatic 54), (61, .putfield 51), (64, .aload_n 0), (65, .dup), (66, .getfield 19), (69, .iconst 1), (70, .iadd), (71, .putfield 19), (74, .goto (-64)), (77, .return_)], [(10, [true])], lkX9)
def miX9_readWord : sm_MI := (yX9_readWord, cX9_readWord, 2, none, [(0, .aload_n 0), (1, .getfield 19), (4, .aload_n 0), (5, .getfield 15), (8, .if_icmp .ge 30), (11, .aload_n 0), (12, .aload_n 0), (13, .getfield 19), (16, .invokevirtual 22), (19, .invokestatic 42), (22, .ifCond .eq 16), (25, .aload_n 0), (26, .dup), (27, .getfield 19), (30, .iconst 1), (31, .iadd), (32, .putfield 19), (35, .goto (-35)), (38, .aload_n 0), (39, .aload_n 0), (40, .getfield 30), (43, .invokevirtual 22), (46, .istore_n 1), (47, .aload_n 0), (48, .getfield 19), (51, .aload_n 0), (52, .getfield 30), (55, .iconst 1), (56, .iadd), (57, .if_icmp .ne 31), (60, .iload_n 1), (61, .bipush 65), (63, .if_icmp .lt 25), (66, .iload_n 1), (67, .bipush 72), (69, .if_icmp .gt 19), (72, .aload_n 0), (73, .iconst 3), (74, .putfield 33), (77, .aload_n 0), (78, .iload_n 1), (79, .bipush 65), (81, .isub), (82, .putfield 51), (85, .goto 11), (88, .aload_n 0), (89, .aload_n 0), (90, .invokevirtual 60), (93, .putfield 33), (96, .return_)], [(0, [true, false])], lkX9)
def miX9_kindOfWord : sm_MI := (yX9_kindOfWord, cX9_kindOfWord, 1, (some .int), [(0, .aload_n 0), (1, .ldc 64), (3, .invokevirtual 66), (6, .ifCond .eq 5), (9, .iconst 4), (10, .ireturn), (11, .aload_n 0), (12, .ldc 70), (14, .invokevirtual 66), (17, .ifCond .eq 5), (20, .iconst 5), (21, .ireturn), (22, .aload_n 0), (23, .ldc 72), (25, .invokevirtual 66), (28, .ifCond .eq 6), (31, .bipush 6), (33, .ireturn), (34, .aload_n 0), (35, .ldc 74), (37, .invokevirtual 66), (40, .ifCond .eq 6), (43, .bipush 7), (45, .ireturn), (46, .aload_n 0), (47, .ldc 76), (49, .invokevirtual 66), (52, .ifCond .eq 6), (55, .bipush 8), (57, .ireturn), (58, .aload_n 0), (59, .ldc 78), (61, .invokevirtual 66), (64, .ifCond .eq 6), (67, .bipush 9), (69, .ireturn), (70, .aload_n 0), (71, .ldc 80), (73, .invokevirtual 66), (76, .ifCond .eq 6), (79, .bipush 10), (81, .ireturn), (82, .aload_n 0), (83, .ldc 82), (85, .invokevirtual 66), (88, .ifCond .eq 8), (91, .bipush 11), (93, .goto 4), (96, .iconst 1), (97, .ireturn)], [], lkX9)
def miX9_isWord : sm_MI := (yX9_isWord, cX9_isWord, 4, (some .boolean), [(0, .aload_n 0), (1, .getfield 19), (4, .aload_n 0), (5, .getfield 30), (8, .isub), (9, .aload_n 1), (10, .invokevirtual 84), (13, .if_icmp .ne 7), (16, .iconst 1), (17, .goto 4), (20, .iconst 0), (21, .istore_n 2), (22, .iconst 0), (23, .istore_n 3), (24, .iload_n 3), (25, .aload_n 1), (26, .invokevirtual 84), (29, .if_icmp .ge 37), (32, .iload_n 2), (33, .ifCond .eq 33), (36, .aload_n 0), (37, .aload_n 0), (38, .getfield 30), (41, .iload_n 3), (42, .iadd), (43, .invokevirtual 22), (46, .aload_n 1), (47, .iload_n 3), (48, .invokevirtual 89), (51, .if_icmp .ne 7), (54, .iconst 1), (55, .goto 4), (58, .iconst 0), (59, .istore_n 2), (60, .iinc 3 1), (63, .goto (-39)), (66, .iload_n 2), (67, .ireturn)], [(24, [true, true, true, true])], lkX9)
def miX9_isBlank : sm_MI := (yX9_isBlank, cX9_isBlank, 1, (some .boolean), [(0, .iload_n 0), (1, .bipush 32), (3, .if_icmp .eq 9), (6, .iload_n 0), (7, .bipush 10), (9, .if_icmp .ne 7), (12, .iconst 1), (13, .goto 4), (16, .iconst 0), (17, .ireturn)], [], lkX9)
def miX9_isDigit : sm_MI := (yX9_isDigit, cX9_isDigit, 1, (some .boolean), [(0, .iload_n 0), (1, .bipush 48), (3, .if_icmp .lt 13), (6, .iload_n 0), (7, .bipush 57), (9, .if_icmp .gt 7), (12, .iconst 1), (13, .goto 4), (16, .iconst 0), (17, .ireturn)], [], lkX9)
def miX9_isAlphabetic : sm_MI := (yX9_isAlphabetic, cX9_isAlphabetic, 1, (some .boolean), [(0, .iload_n 0), (1, .bipush 97), (3, .if_icmp .lt 9), (6, .iload_n 0), (7, .bipush 122), (9, .if_icmp .le 15), (12, .iload_n 0), (13, .bipush 65), (15, .if_icmp .lt 13), (18, .iload_n 0), (19, .bipush 90), (21, .if_icmp .gt 7), (24, .iconst 1), (25, .goto 4), (28, .iconst 0), (29, .ireturn)], [], lkX9)
def miX9_isSign : sm_MI := (yX9_isSign, cX9_isSign, 1, (some .boolean), [(0, .iload_n 0), (1, .bipush 61), (3, .if_icmp .eq 33), (6, .iload_n 0), (7, .bipush 44), (9, .if_icmp .eq 27), (12, .iload_n 0), (13, .bipush 59), (15, .if_icmp .eq 21), (18, .iload_n 0), (19, .bipush 42), (21, .if_icmp .eq 15), (24, .iload_n 0), (25, .bipush 40), (27, .if_icmp .eq 9), (30, .iload_n 0), (31, .bipush 41), (33, .if_icmp .ne 7), (36, .iconst 1), (37, .goto 4), (40, .iconst 0), (41, .ireturn)], [], lkX9)
def miX10_init : sm_MI := (yX10_init, cX10_init, 3, none, [(0, .aload_n 0), (1, .invokespecial 3), (4, .aload_n 0), (5, .iconst 1), (6, .bipush 48), (8, .iload_n 1), (9, .invokestatic 9), (12, .invokestatic 15), (15, .putfield 18), (18, .aload_n 0), (19, .iconst 1), (20, .bipush 48), (22, .iload_n 2), (23, .invokestatic 9), (26, .invokestatic 15), (29, .putfield 22), (32, .aload_n 0), (33, .new 25), (36, .dup), (37, .invokespecial 27), (40, .putfield 28), (43, .aload_n 0), (44, .new 32), (47, .dup), (48, .aload_n 0), (49, .getfield 28), (52, .aload_n 0), (53, .getfield 18), (56, .aload_n 0), (57, .getfield 22), (60, .invokespecial 34), (63, .putfield 37), (66, .aload_n 0), (67, .new 41), (70, .dup), (71, .invokespecial 43), (74, .putfield 44), (77, .aload_n 0), (78, .new 48), (81, .dup), (82, .aload_n 0), (83, .getfield 44), (86, .aload_n 0), (87, .getfield 28), (90, .aload_n 0), (91, .getfield 18), (94, .aload_n 0), (95, .getfield 22), (98, .invokespecial 50), (101, .putfield 53), (104, .aload_n 0), (105, .new 57), (108, .dup), (109, .aload_n 0), (110, .getfield 37), (113, .invokespecial 59), (116, .putfield 62), (119, .aload_n 0), (120, .new 66), (123, .dup), (124, .aload_n 0), (125, .getfield 37), (128, .aload_n 0), (129, .getfield 28), (132, .invokespecial 68), (135, .putfield 71), (138, .aload_n 0), (139, .new 75), (142, .dup), (143, .aload_n 0), (144, .getfield 37), (147, .invokespecial 77), (150, .putfield 78), (153, .aload_n 0), (154, .new 82), (157, .dup), (158, .aload_n 0), (159, .getfield 37), (162, .invokespecial 84), (165, .putfield 85), (168, .aload_n 0), (169, .new 89), (172, .dup), (173, .aload_n 0), (174, .getfield 37), (177, .invokespecial 91), (180, .putfield 92), (183, .aload_n 0), (184, .new 96), (187, .dup), (188, .aload_n 0), (189, .getfield 37), (192, .aload_n 0), (193, .getfield 28), (196, .aload_n 0), (197, .getfield 92), (200, .invokespecial 98), (203, .putfield 101), (206, .return_)], [], lkIX10)
def miX10_thread : sm_MI := (yX10_thread, cX10_thread, 3, (some .int), [(0, .aload_n 0), (1, .iload_n 1), (2, .invokevirtual 105), (5, .ifCond .eq 14), (8, .iload_n 2), (9, .iconst (-1)), (10, .if_icmp .lt 9), (13, .iload_n 2), (14, .bipush 16), (16, .if_icmp .lt 5), (19, .iconst (-1)), (20, .ireturn), (21, .aload_n 0), (22, .getfield 28), (25, .iconst 0), (26, .iload_n 1), (27, .iadd), (28, .iload_n 2), (29, .invokevirtual 109), (32, .ireturn)], [], lkX10)
def miX10_tie : sm_MI := (yX10_tie, cX10_tie, 3, (some .int), [(0, .iload_n 1), (1, .ifCond .lt 19), (4, .iload_n 1), (5, .bipush 16), (7, .if_icmp .ge 13), (10, .iload_n 2), (11, .ifCond .lt 9), (14, .iload_n 2), (15, .ldc 112), (17, .if_icmp .lt 5), (20, .iconst (-1)), (21, .ireturn), (22, .aload_n 0), (23, .getfield 28), (26, .bipush 48), (28, .iload_n 1), (29, .iadd), (30, .iload_n 2), (31, .invokevirtual 109), (34, .ireturn)], [], lkX10)
def miX10_tread : sm_MI := (yX10_tread, cX10_tread, 3, (some .int), [(0, .aload_n 0), (1, .iload_n 1), (2, .invokevirtual 113), (5, .ifCond .eq 13), (8, .iload_n 2), (9, .ifCond .lt 9), (12, .iload_n 2), (13, .ldc 112), (15, .if_icmp .lt 5), (18, .iconst (-1)), (19, .ireturn), (20, .aload_n 0), (21, .getfield 28), (24, .bipush 64), (26, .iload_n 1), (27, .iadd), (28, .iload_n 2), (29, .invokevirtual 109), (32, .ireturn)], [], lkX10)
def miX10_colour : sm_MI := (yX10_colour, cX10_colour, 5, (some .int), [(0, .iload_n 1), (1, .ifCond .eq 11), (4, .aload_n 0), (5, .iload_n 2), (6, .invokevirtual 105), (9, .goto 8), (12, .aload_n 0), (13, .iload_n 2), (14, .invokevirtual 113), (17, .istore 4), (19, .iload 4), (21, .ifCond .eq 10), (24, .iload_n 3), (25, .invokestatic 116), (28, .ifCond .ne 5), (31, .iconst (-1)), (32, .ireturn), (33, .aload_n 0), (34, .getfield 28), (37, .iload_n 1), (38, .ifCond .eq 8), (41, .bipush 112), (43, .goto 6), (46, .sipush 160), (49, .iload_n 2), (50, .iadd), (51, .iload_n 3), (52, .invokevirtual 109), (55, .ireturn)], [], lkX10)
def miX10_feed : sm_MI := (yX10_feed, cX10_feed, 6, (some .int), [(0, .aload_n 0), (1, .getfield 44), (4, .getfield 119), (7, .bipush 20), (9, .iadd), (10, .sipush 300), (13, .if_icmp .le 5), (16, .iconst (-1)), (17, .ireturn), (18, .aload_n 0), (19, .getfield 44), (22, .iload_n 1), (23, .invokevirtual 122), (26, .aload_n 0), (27, .getfield 44), (30, .iload_n 2), (31, .invokevirtual 122), (34, .aload_n 0), (35, .getfield 44), (38, .iload_n 3), (39, .invokevirtual 122), (42, .aload_n 0), (43, .getfield 44), (46, .iload 4), (48, .invokevirtual 122), (51, .aload_n 0), (52, .getfield 44), (55, .iload 5), (57, .invokevirtual 122), (60, .aload_n 0), (61, .getfield 44), (64, .getfield 119), (67, .ireturn)], [], lkX10)
def miX10_end : sm_MI := (yX10_end, cX10_end, 2, (some .int), [(0, .iload_n 1), (1, .ifCond .lt 14), (4, .iload_n 1), (5, .aload_n 0), (6, .getfield 44), (9, .getfield 119), (12, .if_icmp .le 5), (15, .iconst (-1)), (16, .ireturn), (17, .aload_n 0), (18, .getfield 44), (21, .iload_n 1), (22, .putfield 119), (25, .iload_n 1), (26, .ireturn)], [], lkX10)
def miX10_text : sm_MI := (yX10_text, cX10_text, 1, (some .int), [(0, .aload_n 0), (1, .getfield 53), (4, .invokevirtual 126), (7, .aload_n 0), (8, .getfield 44), (11, .iconst 0), (12, .putfield 119), (15, .aload_n 0), (16, .getfield 53), (19, .getfield 129), (22, .ifCond .ne 13), (25, .aload_n 0), (26, .getfield 28), (29, .invokevirtual 132), (32, .goto 4), (35, .iconst (-1)), (36, .ireturn)], [], lkX10)
def miX10_fault : sm_MI := (yX10_fault, cX10_fault, 2, (some .int), [(0, .iload_n 1), (1, .ifCond .ne 11), (4, .aload_n 0), (5, .getfield 53), (8, .getfield 129), (11, .ireturn), (12, .iload_n 1), (13, .iconst 1), (14, .if_icmp .ne 13), (17, .aload_n 0), (18, .getfield 53), (21, .getfield 136), (24, .goto 4), (27, .iconst (-1)), (28, .ireturn)], [], lkX10)
def miX10_look : sm_MI := (yX10_look, cX10_look, 2, (some .boolean), [(0, .iload_n 1), (1, .ifCond .lt 14), (4, .iload_n 1), (5, .aload_n 0), (6, .getfield 28), (9, .getfield 139), (12, .if_icmp .le 5), (15, .iconst 0), (16, .ireturn), (17, .aload_n 0), (18, .getfield 28), (21, .iload_n 1), (22, .invokevirtual 142), (25, .iconst 1), (26, .ireturn)], [], lkX10)
def miX10_shaft : sm_MI := (yX10_shaft, cX10_shaft, 2, (some .int), [(0, .aload_n 0), (1, .iload_n 1), (2, .invokevirtual 105), (5, .ifCond .eq 16), (8, .aload_n 0), (9, .getfield 28), (12, .iconst 0), (13, .iload_n 1), (14, .iadd), (15, .invokevirtual 145), (18, .goto 4), (21, .iconst (-1)), (22, .ireturn)], [], lkX10)
def miX10_lift : sm_MI := (yX10_lift, cX10_lift, 2, (some .int), [(0, .aload_n 0), (1, .getfield 37), (4, .invokevirtual 149), (7, .aload_n 0), (8, .iload_n 1), (9, .invokevirtual 113), (12, .ifCond .eq 15), (15, .aload_n 0), (16, .getfield 37), (19, .getfield 152), (22, .iload_n 1), (23, .iaload), (24, .goto 4), (27, .iconst (-1)), (28, .ireturn)], [], lkX10)
def miX10_row : sm_MI := (yX10_row, cX10_row, 2, (some .long), [(0, .aload_n 0), (1, .getfield 37), (4, .invokevirtual 149), (7, .aload_n 0), (8, .iload_n 1), (9, .invokevirtual 113), (12, .ifCond .eq 15), (15, .aload_n 0), (16, .getfield 37), (19, .getfield 156), (22, .iload_n 1), (23, .laload), (24, .goto 6), (27, .ldc2_w 160), (30, .lreturn)], [], lkX10)
def miX10_lead : sm_MI := (yX10_lead, cX10_lead, 4, (some .int), [(0, .aload_n 0), (1, .iload_n 1), (2, .invokevirtual 105), (5, .ifCond .eq 11), (8, .aload_n 0), (9, .iload_n 2), (10, .invokevirtual 113), (13, .ifCond .ne 5), (16, .iconst (-1)), (17, .ireturn), (18, .iload_n 3), (19, .tableswitch 79 0 3 #[29, 40, 56, 67]), (48, .aload_n 0), (49, .getfield 28), (52, .iconst 0), (53, .iload_n 1), (54, .iadd), (55, .invokevirtual 145), (58, .ireturn), (59, .aload_n 0), (60, .aload_n 0), (61, .getfield 28), (64, .iconst 0), (65, .iload_n 1), (66, .iadd), (67, .invokevirtual 145), (70, .iload_n 2), (71, .invokevirtual 162), (74, .ireturn), (75, .aload_n 0), (76, .getfield 28), (79, .iconst 0), (80, .iload_n 1), (81, .iadd), (82, .invokevirtual 165), (85, .ireturn), (86, .aload_n 0), (87, .getfield 28), (90, .bipush 64), (92, .iload_n 2), (93, .iadd), (94, .invokevirtual 165), (97, .ireturn), (98, .iconst (-1)), (99, .ireturn)], [], lkX10)
def miX10_longest : sm_MI := (yX10_longest, cX10_longest, 3, (some .int), [(0, .aload_n 0), (1, .getfield 37), (4, .invokevirtual 149), (7, .aload_n 0), (8, .getfield 62), (11, .iload_n 1), (12, .iload_n 2), (13, .invokevirtual 168), (16, .aload_n 0), (17, .getfield 62), (20, .invokevirtual 172), (23, .ireturn)], [], lkX10)
def miX10_floats : sm_MI := (yX10_floats, cX10_floats, 4, (some .int), [(0, .aload_n 0), (1, .getfield 37), (4, .invokevirtual 149), (7, .aload_n 0), (8, .getfield 62), (11, .iload_n 1), (12, .iload_n 2), (13, .invokevirtual 168), (16, .aload_n 0), (17, .getfield 62), (20, .iload_n 3), (21, .invokevirtual 175), (24, .ireturn)], [], lkX10)
def miX10_layers : sm_MI := (yX10_layers, cX10_layers, 5, (some .int), [(0, .aload_n 0), (1, .iload_n 1), (2, .iload_n 2), (3, .iload_n 3), (4, .iload 4), (6, .invokevirtual 178), (9, .ifCond .ne 5), (12, .iconst (-1)), (13, .ireturn), (14, .aload_n 0), (15, .getfield 37), (18, .invokevirtual 149), (21, .aload_n 0), (22, .getfield 78), (25, .iload_n 1), (26, .iload_n 2), (27, .iload_n 3), (28, .iload 4), (30, .invokevirtual 182), (33, .aload_n 0), (34, .getfield 78), (37, .getfield 186), (40, .ireturn)], [], lkX10)
def miX10_layer : sm_MI := (yX10_layer, cX10_layer, 6, (some .int), [(0, .aload_n 0), (1, .iload_n 1), (2, .iload_n 2), (3, .iload_n 3), (4, .iload 4), (6, .invokevirtual 178), (9, .ifCond .ne 5), (12, .iconst (-1)), (13, .ireturn), (14, .aload_n 0), (15, .getfield 37), (18, .invokevirtual 149), (21, .aload_n 0), (22, .getfield 78), (25, .iload_n 1), (26, .iload_n 2), (27, .iload_n 3), (28, .iload 4), (30, .invokevirtual 182), (33, .iload 5), (35, .iload_n 1), (36, .if_icmp .lt 19), (39, .iload 5), (41, .iload_n 2), (42, .if_icmp .gt 13), (45, .aload_n 0), (46, .getfield 78), (49, .iload 5), (51, .invokevirtual 189), (54, .ireturn), (55, .iload 5), (57, .aload_n 0), (58, .getfield 18), (61, .iload_n 3), (62, .iadd), (63, .if_icmp .lt 33), (66, .iload 5), (68, .aload_n 0), (69, .getfield 18), (72, .iload 4), (74, .iadd), (75, .if_icmp .gt 21), (78, .aload_n 0), (79, .getfield 78), (82, .bipush 48), (84, .iload 5), (86, .iadd), (87, .aload_n 0), (88, .getfield 18), (91, .isub), (92, .invokevirtual 189), (95, .ireturn), (96, .iconst (-1)), (97, .ireturn)], [], lkX10)
def miX10_seenColour : sm_MI := (yX10_seenColour, cX10_seenColour, 4, (some .int), [(0, .aload_n 0), (1, .iload_n 1), (2, .invokevirtual 105), (5, .ifCond .eq 11), (8, .aload_n 0), (9, .iload_n 2), (10, .invokevirtual 113), (13, .ifCond .ne 5), (16, .iconst (-1)), (17, .ireturn), (18, .aload_n 0), (19, .getfield 37), (22, .invokevirtual 149), (25, .aload_n 0), (26, .getfield 37), (29, .getfield 156), (32, .iload_n 2), (33, .laload), (34, .iload_n 1), (35, .invokestatic 192), (38, .istore_n 3), (39, .aload_n 0), (40, .getfield 28), (43, .iload_n 3), (44, .ifCond .eq 10), (47, .bipush 112), (49, .iload_n 1), (50, .iadd), (51, .goto 8), (54, .sipush 160), (57, .iload_n 2), (58, .iadd), (59, .invokevirtual 145), (62, .ireturn)], [], lkX10)
def miX10_coloured : sm_MI := (yX10_coloured, cX10_coloured, 8, (some .int), [(0, .iload_n 1), (1, .invokestatic 116), (4, .ifCond .ne 5), (7, .iconst (-1)), (8, .ireturn), (9, .aload_n 0), (10, .getfield 37), (13, .invokevirtual 149), (16, .aload_n 0), (17, .iload_n 1), (18, .invokevirtual 196), (21, .lstore_n 2), (22, .iconst 0), (23, .istore 4), (25, .iconst 0), (26, .istore 5), (28, .iload 5), (30, .aload_n 0), (31, .getfield 22), (34, .if_icmp .ge 65), (37, .aload_n 0), (38, .getfield 37), (41, .getfield 156), (44, .iload 5), (46, .laload), (47, .lstore 6), (49, .iload 4), (51, .lload 6), (53, .lload_n 2), (54, .land), (55, .invokestatic 200), (58, .iadd), (59, .istore 4), (61, .aload_n 0), (62, .getfield 28), (65, .sipush 160), (68, .iload 5), (70, .iadd), (71, .invokevirtual 145), (74, .iload_n 1), (75, .if_icmp .ne 18), (78, .iload 4), (80, .aload_n 0), (81, .getfield 18), (84, .lload 6), (86, .invokestatic 200), (89, .isub), (90, .iadd), (91, .istore 4), (93, .iinc 5 1), (96, .goto (-68)), (99, .iload 4), (101, .ireturn)], [(28, [true, true, true, false, true, true, false, false])], lkX10)
def miX10_period : sm_MI := (yX10_period, cX10_period, 5, (some .int), [(0, .aload_n 0), (1, .getfield 37), (4, .invokevirtual 149), (7, .iload_n 2), (8, .ifCond .eq 13), (11, .aload_n 0), (12, .getfield 71), (15, .invokevirtual 206), (18, .goto 10), (21, .aload_n 0), (22, .getfield 71), (25, .invokevirtual 209), (28, .iload_n 1), (29, .ifCond .eq 10), (32, .aload_n 0), (33, .getfield 18), (36, .goto 7), (39, .aload_n 0), (40, .getfield 22), (43, .istore_n 3), (44, .iconst 1), (45, .istore 4), (47, .iload 4), (49, .iload_n 3), (50, .if_icmp .ge 43), (53, .iload_n 1), (54, .ifCond .eq 18), (57, .aload_n 0), (58, .getfield 71), (61, .iload 4), (63, .invokevirtual 212), (66, .ifCond .eq 21), (69, .goto 15), (72, .aload_n 0), (73, .getfield 71), (76, .iload 4), (78, .invokevirtual 215), (81, .ifCond .eq 6), (84, .iload 4), (86, .ireturn), (87, .iinc 4 1), (90, .goto (-43)), (93, .iload_n 3), (94, .ireturn)], [(47, [true, true, false, true, true])], lkX10)
def miX10_fewest : sm_MI := (yX10_fewest, cX10_fewest, 2, (some .int), [(0, .aload_n 0), (1, .getfield 37), (4, .invokevirtual 149), (7, .iload_n 1), (8, .ifCond .eq 20), (11, .aload_n 0), (12, .getfield 37), (15, .getfield 156), (18, .aload_n 0), (19, .getfield 22), (22, .invokestatic 218), (25, .goto 17), (28, .aload_n 0), (29, .getfield 37), (32, .getfield 222), (35, .aload_n 0), (36, .getfield 18), (39, .invokestatic 218), (42, .ireturn)], [], lkX10)
def miX10_pegs : sm_MI := (yX10_pegs, cX10_pegs, 5, (some .int), [(0, .aload_n 0), (1, .getfield 37), (4, .invokevirtual 149), (7, .iconst 0), (8, .istore_n 2), (9, .iconst 0), (10, .istore_n 3), (11, .iload_n 3), (12, .aload_n 0), (13, .getfield 22), (16, .if_icmp .ge 47), (19, .aload_n 0), (20, .getfield 37), (23, .getfield 152), (26, .iload_n 3), (27, .iaload), (28, .istore 4), (30, .iload_n 2), (31, .iload_n 1), (32, .ifCond .eq 18), (35, .aload_n 0), (36, .getfield 37), (39, .getfield 225), (42, .iload 4), (44, .iconst (-1)), (45, .ixor), (46, .iand), (47, .goto 5), (50, .iload 4), (52, .invokestatic 228), (55, .iadd), (56, .istore_n 2), (57, .iinc 3 1), (60, .goto (-49)), (63, .iload_n 2), (64, .ireturn)], [(11, [true, true, true, true, false])], lkX10)
def miX10_cover : sm_MI := (yX10_cover, cX10_cover, 2, (some .int), [(0, .aload_n 0), (1, .getfield 37), (4, .invokevirtual 149), (7, .aload_n 0), (8, .getfield 85), (11, .invokevirtual 232), (14, .iload_n 1), (15, .iconst (-1)), (16, .if_icmp .ne 11), (19, .aload_n 0), (20, .getfield 85), (23, .getfield 235), (26, .ireturn), (27, .iload_n 1), (28, .ifCond .lt 25), (31, .iload_n 1), (32, .aload_n 0), (33, .getfield 85), (36, .getfield 235), (39, .if_icmp .ge 14), (42, .aload_n 0), (43, .getfield 85), (46, .iload_n 1), (47, .invokevirtual 236), (50, .goto 4), (53, .iconst (-1)), (54, .ireturn)], [], lkX10)
def miX10_seen : sm_MI := (yX10_seen, cX10_seen, 4, (some .boolean), [(0, .aload_n 0), (1, .iload_n 1), (2, .invokevirtual 113), (5, .ifCond .ne 5), (8, .iconst 0), (9, .ireturn), (10, .aload_n 0), (11, .getfield 92), (14, .iload_n 1), (15, .lload_n 2), (16, .aload_n 0), (17, .getfield 37), (20, .getfield 239), (23, .land), (24, .invokevirtual 243), (27, .iconst 1), (28, .ireturn)], [], lkX10)
def miX10_wrong : sm_MI := (yX10_wrong, cX10_wrong, 2, (some .int), [(0, .aload_n 0), (1, .getfield 37), (4, .invokevirtual 149), (7, .aload_n 0), (8, .iload_n 1), (9, .invokevirtual 105), (12, .ifCond .eq 28), (15, .aload_n 0), (16, .getfield 37), (19, .getfield 222), (22, .iload_n 1), (23, .laload), (24, .aload_n 0), (25, .getfield 92), (28, .getfield 247), (31, .iload_n 1), (32, .laload), (33, .lxor), (34, .invokestatic 200), (37, .goto 4), (40, .iconst (-1)), (41, .ireturn)], [], lkX10)
def miX10_nearest : sm_MI := (yX10_nearest, cX10_nearest, 4, (some .int), [(0, .aload_n 0), (1, .iload_n 1), (2, .invokevirtual 105), (5, .ifCond .eq 12), (8, .iload_n 2), (9, .ifCond .lt 8), (12, .iload_n 2), (13, .iconst 1), (14, .if_icmp .le 6), (17, .bipush (-2)), (19, .ireturn), (20, .aload_n 0), (21, .iload_n 1), (22, .invokevirtual 248), (25, .istore_n 3), (26, .iload_n 2), (27, .ifCond .ne 7), (30, .iload_n 3), (31, .goto 9), (34, .aload_n 0), (35, .iload_n 1), (36, .iload_n 3), (37, .invokevirtual 251), (40, .ireturn)], [], lkX10)
def miX10_mended : sm_MI := (yX10_mended, cX10_mended, 2, (some .int), [(0, .aload_n 0), (1, .getfield 37), (4, .invokevirtual 149), (7, .aload_n 0), (8, .getfield 101), (11, .invokevirtual 254), (14, .aload_n 0), (15, .getfield 101), (18, .getfield 255), (21, .ifCond .ne 6), (24, .bipush (-2)), (26, .ireturn), (27, .iload_n 1), (28, .tableswitch 52 0 2 #[28, 36, 44]), (56, .aload_n 0), (57, .getfield 101), (60, .getfield 259), (63, .ireturn), (64, .aload_n 0), (65, .getfield 101), (68, .getfield 262), (71, .ireturn), (72, .aload_n 0), (73, .getfield 101), (76, .getfield 265), (79, .ireturn), (80, .bipush (-2)), (82, .ireturn)], [], lkX10)
def miX10_mendedShaft : sm_MI := (yX10_mendedShaft, cX10_mendedShaft, 2, (some .int), [(0, .aload_n 0), (1, .iload_n 1), (2, .invokevirtual 105), (5, .ifCond .ne 6), (8, .bipush (-2)), (10, .ireturn), (11, .aload_n 0), (12, .getfield 37), (15, .invokevirtual 149), (18, .aload_n 0), (19, .getfield 101), (22, .invokevirtual 254), (25, .aload_n 0), (26, .getfield 101), (29, .getfield 255), (32, .ifCond .eq 15), (35, .aload_n 0), (36, .getfield 101), (39, .getfield 268), (42, .iload_n 1), (43, .iaload), (44, .goto 5), (47, .bipush (-2)), (49, .ireturn)], [], lkX10)
def miX10_shifted : sm_MI := (yX10_shifted, cX10_shifted, 5, (some .int), [(0, .aload_n 0), (1, .getfield 92), (4, .getfield 271), (7, .invokestatic 272), (10, .aload_n 0), (11, .invokevirtual 276), (14, .if_icmp .eq 5), (17, .iconst (-1)), (18, .ireturn), (19, .aload_n 0), (20, .invokevirtual 279), (23, .istore_n 2), (24, .iconst 0), (25, .istore_n 3), (26, .iload_n 3), (27, .aload_n 0), (28, .getfield 22), (31, .if_icmp .ge 52), (34, .iconst 0), (35, .istore 4), (37, .iload 4), (39, .aload_n 0), (40, .getfield 18), (43, .if_icmp .ge 34), (46, .aload_n 0), (47, .getfield 92), (50, .iload_n 2), (51, .iload 4), (53, .iload_n 3), (54, .invokevirtual 282), (57, .ifCond .eq 14), (60, .iload_n 1), (61, .ifCond .eq 8), (64, .iload 4), (66, .goto 4), (69, .iload_n 3), (70, .ireturn), (71, .iinc 4 1), (74, .goto (-37)), (77, .iinc 3 1), (80, .goto (-54)), (83, .iconst (-1)), (84, .ireturn)], [(26, [true, true, true, true, false]), (37, [true, true, true, true, true])], lkX10)
def miX10_about : sm_MI := (yX10_about, cX10_about, 2, (some .int), [(0, .iload_n 1), (1, .tableswitch 99 0 7 #[47, 52, 57, 65, 73, 81, 86, 94]), (48, .aload_n 0), (49, .getfield 18), (52, .ireturn), (53, .aload_n 0), (54, .getfield 22), (57, .ireturn), (58, .aload_n 0), (59, .getfield 28), (62, .getfield 139), (65, .ireturn), (66, .aload_n 0), (67, .getfield 28), (70, .getfield 286), (73, .ireturn), (74, .aload_n 0), (75, .getfield 28), (78, .getfield 289), (81, .ireturn), (82, .aload_n 0), (83, .invokevirtual 276), (86, .ireturn), (87, .aload_n 0), (88, .getfield 44), (91, .getfield 119), (94, .ireturn), (95, .aload_n 0), (96, .invokevirtual 292), (99, .ireturn), (100, .iconst (-1)), (101, .ireturn)], [], lkX10)
def miX10_isEnd : sm_MI := (yX10_isEnd, cX10_isEnd, 2, (some .boolean), [(0, .iload_n 1), (1, .ifCond .lt 15), (4, .iload_n 1), (5, .aload_n 0), (6, .getfield 18), (9, .if_icmp .ge 7), (12, .iconst 1), (13, .goto 4), (16, .iconst 0), (17, .ireturn)], [], lkX10)
def miX10_isPick : sm_MI := (yX10_isPick, cX10_isPick, 2, (some .boolean), [(0, .iload_n 1), (1, .ifCond .lt 15), (4, .iload_n 1), (5, .aload_n 0), (6, .getfield 22), (9, .if_icmp .ge 7), (12, .iconst 1), (13, .goto 4), (16, .iconst 0), (17, .ireturn)], [], lkX10)
def miX10_isPart : sm_MI := (yX10_isPart, cX10_isPart, 5, (some .boolean), [(0, .aload_n 0), (1, .iload_n 1), (2, .invokevirtual 105), (5, .ifCond .eq 43), (8, .aload_n 0), (9, .iload_n 2), (10, .invokevirtual 105), (13, .ifCond .eq 35), (16, .iload_n 1), (17, .iload_n 2), (18, .if_icmp .gt 30), (21, .aload_n 0), (22, .iload_n 3), (23, .invokevirtual 113), (26, .ifCond .eq 22), (29, .aload_n 0), (30, .iload 4), (32, .invokevirtual 113), (35, .ifCond .eq 13), (38, .iload_n 3), (39, .iload 4), (41, .if_icmp .gt 7), (44, .iconst 1), (45, .goto 4), (48, .iconst 0), (49, .ireturn)], [], lkX10)
def miX10_isColour : sm_MI := (yX10_isColour, cX10_isColour, 1, (some .boolean), [(0, .iload_n 0), (1, .ifCond .lt 13), (4, .iload_n 0), (5, .bipush 10), (7, .if_icmp .ge 7), (10, .iconst 1), (11, .goto 4), (14, .iconst 0), (15, .ireturn)], [], lkX10)
def miX10_has : sm_MI := (yX10_has, cX10_has, 3, (some .boolean), [(0, .lload_n 0), (1, .iload_n 2), (2, .lushr), (3, .lconst 1), (4, .land), (5, .lconst 0), (6, .lcmp), (7, .ifCond .eq 7), (10, .iconst 1), (11, .goto 4), (14, .iconst 0), (15, .ireturn)], [], lkX10)
def miX10_firstBits : sm_MI := (yX10_firstBits, cX10_firstBits, 1, (some .long), [(0, .lconst 1), (1, .iload_n 0), (2, .lshl), (3, .lconst 1), (4, .lsub), (5, .lreturn)], [], lkX10)
def miX10_moved : sm_MI := (yX10_moved, cX10_moved, 4, (some .long), [(0, .lload_n 0), (1, .iload_n 3), (2, .lshl), (3, .lload_n 0), (4, .iload_n 2), (5, .iload_n 3), (6, .isub), (7, .lushr), (8, .lor), (9, .iload_n 2), (10, .invokestatic 295), (13, .land), (14, .lreturn)], [], lkX10)
def miX10_lowestTreadle : sm_MI := (yX10_lowestTreadle, cX10_lowestTreadle, 5, (some .int), [(0, .iload_n 1), (1, .ifCond .ge 5), (4, .iconst (-1)), (5, .ireturn), (6, .aload_n 0), (7, .getfield 28), (10, .bipush 64), (12, .iload_n 2), (13, .iadd), (14, .invokevirtual 145), (17, .istore_n 3), (18, .iconst 0), (19, .istore 4), (21, .iload 4), (23, .bipush 16), (25, .if_icmp .ge 42), (28, .iload_n 3), (29, .i2l), (30, .iload 4), (32, .invokestatic 192), (35, .ifCond .eq 26), (38, .aload_n 0), (39, .getfield 28), (42, .bipush 48), (44, .iload 4), (46, .iadd), (47, .invokevirtual 145), (50, .i2l), (51, .iload_n 1), (52, .invokestatic 192), (55, .ifCond .eq 6), (58, .iload 4), (60, .ireturn), (61, .iinc 4 1), (64, .goto (-43)), (67, .iconst (-1)), (68, .ireturn)], [(21, [true, true, false, true, true])], lkX10)
def miX10_endsOfColour : sm_MI := (yX10_endsOfColour, cX10_endsOfColour, 5, (some .long), [(0, .lconst 0), (1, .lstore_n 2), (2, .iconst 0), (3, .istore 4), (5, .iload 4), (7, .aload_n 0), (8, .getfield 18), (11, .if_icmp .ge 32), (14, .aload_n 0), (15, .getfield 28), (18, .bipush 112), (20, .iload 4), (22, .iadd), (23, .invokevirtual 145), (26, .iload_n 1), (27, .if_icmp .ne 10), (30, .lload_n 2), (31, .lconst 1), (32, .iload 4), (34, .lshl), (35, .lor), (36, .lstore_n 2), (37, .iinc 4 1), (40, .goto (-35)), (43, .lload_n 2), (44, .lreturn)], [(5, [true, true, true, false, true])], lkX10)
def miX10_unlikeLines : sm_MI := (yX10_unlikeLines, cX10_unlikeLines, 6, (some .int), [(0, .iconst 0), (1, .istore_n 2), (2, .iconst 0), (3, .istore_n 3), (4, .iload_n 3), (5, .iload_n 1), (6, .if_icmp .ge 76), (9, .iload_n 3), (10, .aload_n 0), (11, .arraylength), (12, .if_icmp .ge 70), (15, .aload_n 0), (16, .iload_n 3), (17, .laload), (18, .lconst 0), (19, .lcmp), (20, .ifCond .eq 7), (23, .iconst 1), (24, .goto 4), (27, .iconst 0), (28, .istore 4), (30, .iconst 0), (31, .istore 5), (33, .iload 5), (35, .iload_n 3), (36, .if_icmp .ge 32), (39, .iload 4), (41, .ifCond .eq 27), (44, .aload_n 0), (45, .iload 5), (47, .laload), (48, .aload_n 0), (49, .iload_n 3), (50, .laload), (51, .lcmp), (52, .ifCond .eq 7), (55, .iconst 1), (56, .goto 4), (59, .iconst 0), (60, .istore 4), (62, .iinc 5 1), (65, .goto (-32)), (68, .iload 4), (70, .ifCond .eq 6), (73, .iinc 2 1), (76, .iinc 3 1), (79, .goto (-75)), (82, .iload_n 2), (83, .ireturn)], [(4, [true, true, true, true, false, false]), (33, [true, true, true, true, true, true])], lkX10)
def miX10_unlikePicks : sm_MI := (yX10_unlikePicks, cX10_unlikePicks, 3, (some .int), [(0, .aload_n 0), (1, .getfield 37), (4, .iload_n 2), (5, .invokevirtual 298), (8, .aload_n 0), (9, .getfield 92), (12, .getfield 247), (15, .iload_n 1), (16, .laload), (17, .lxor), (18, .invokestatic 200), (21, .ireturn)], [], lkX10)
def miX10_nearestShaft : sm_MI := (yX10_nearestShaft, cX10_nearestShaft, 6, (some .int), [(0, .aload_n 0), (1, .getfield 37), (4, .invokevirtual 149), (7, .aload_n 0), (8, .getfield 28), (11, .iconst 0), (12, .iload_n 1), (13, .iadd), (14, .invokevirtual 145), (17, .istore_n 2), (18, .aload_n 0), (19, .iload_n 1), (20, .iload_n 2), (21, .invokevirtual 251), (24, .istore_n 3), (25, .iconst (-1)), (26, .istore 4), (28, .iload 4), (30, .bipush 16), (32, .if_icmp .ge 30), (35, .aload_n 0), (36, .iload_n 1), (37, .iload 4), (39, .invokevirtual 251), (42, .istore 5), (44, .iload 5), (46, .iload_n 3), (47, .if_icmp .ge 9), (50, .iload 5), (52, .istore_n 3), (53, .iload 4), (55, .istore_n 2), (56, .iinc 4 1), (59, .goto (-31)), (62, .iload_n 2), (63, .ireturn)], [(28, [true, true, true, true, true, false])], lkX10)
def miX10_cellsUp : sm_MI := (yX10_cellsUp, cX10_cellsUp, 1, (some .int), [(0, .aload_n 0), (1, .getfield 37), (4, .invokevirtual 149), (7, .aload_n 0), (8, .getfield 37), (11, .getfield 156), (14, .invokestatic 272), (17, .ireturn)], [], lkX10)
def miX10_countCells : sm_MI := (yX10_countCells, cX10_countCells, 7, (some .int), [(0, .iconst 0), (1, .istore_n 1), (2, .aload_n 0), (3, .astore_n 2), (4, .aload_n 2), (5, .arraylength), (6, .istore_n 3), (7, .iconst 0), (8, .istore 4), (10, .iload 4), (12, .iload_n 3), (13, .if_icmp .ge 23), (16, .aload_n 2), (17, .iload 4), (19, .laload), (20, .lstore 5), (22, .iload_n 1), (23, .lload 5), (25, .invokestatic 200), (28, .iadd), (29, .istore_n 1), (30, .iinc 4 1), (33, .goto (-23)), (36, .iload_n 1), (37, .ireturn)], [(10, [false, true, true, true, true, false, false])], lkX10)
def miX10_firstMixedPick : sm_MI := (yX10_firstMixedPick, cX10_firstMixedPick, 2, (some .int), [(0, .iconst 0), (1, .istore_n 1), (2, .iload_n 1), (3, .aload_n 0), (4, .getfield 22), (7, .if_icmp .ge 45), (10, .aload_n 0), (11, .getfield 37), (14, .getfield 156), (17, .iload_n 1), (18, .laload), (19, .lconst 0), (20, .lcmp), (21, .ifCond .eq 25), (24, .aload_n 0), (25, .getfield 37), (28, .getfield 156), (31, .iload_n 1), (32, .laload), (33, .aload_n 0), (34, .getfield 37), (37, .getfield 239), (40, .lcmp), (41, .ifCond .eq 5), (44, .iload_n 1), (45, .ireturn), (46, .iinc 1 1), (49, .goto (-47)), (52, .iconst 0), (53, .ireturn)], [(2, [true, true])], lkX10)
def miX10_threadedEnds : sm_MI := (yX10_threadedEnds, cX10_threadedEnds, 3, (some .int), [(0, .iconst 0), (1, .istore_n 1), (2, .iconst 0), (3, .istore_n 2), (4, .iload_n 2), (5, .aload_n 0), (6, .getfield 18), (9, .if_icmp .ge 26), (12, .aload_n 0), (13, .getfield 28), (16, .iconst 0), (17, .iload_n 2), (18, .iadd), (19, .invokevirtual 145), (22, .iconst (-1)), (23, .if_icmp .eq 6), (26, .iinc 1 1), (29, .iinc 2 1), (32, .goto (-28)), (35, .iload_n 1), (36, .ireturn)], [(4, [true, true, true])], lkX10)
def miX11_init : sm_MI := (yX11_init, cX11_init, 3, none, [(0, .aload_n 0), (1, .invokespecial 1), (4, .aload_n 0), (5, .sipush 2000), (8, .newarray .int), (10, .putfield 7), (13, .aload_n 0), (14, .sipush 2000), (17, .newarray .int), (19, .putfield 13), (22, .aload_n 0), (23, .sipush 2000), (26, .newarray .int), (28, .putfield 16), (31, .aload_n 0), (32, .sipush 2000), (35, .newarray .int), (37, .putfield 19), (40, .aload_n 0), (41, .bipush 48), (43, .newarray .int), (45, .putfield 22), (48, .aload_n 0), (49, .bipush 16), (51, .newarray .int), (53, .putfield 25), (56, .aload_n 0), (57, .bipush 48), (59, .newarray .int), (61, .putfield 28), (64, .aload_n 0), (65, .bipush 48), (67, .newarray .int), (69, .putfield 31), (72, .aload_n 0), (73, .bipush 48), (75, .newarray .long), (77, .putfield 34), (80, .aload_n 0), (81, .bipush 48), (83, .newarray .long), (85, .putfield 38), (88, .aload_n 0), (89, .sipush 300), (92, .newarray .int), (94, .putfield 41), (97, .aload_n 0), (98, .iconst (-1)), (99, .putfield 44), (102, .aload_n 0), (103, .iconst (-1)), (104, .putfield 48), (107, .aload_n 0), (108, .bipush 8), (110, .newarray .int), (112, .putfield 51), (115, .aload_n 0), (116, .bipush 8), (118, .newarray .int), (120, .putfield 54), (123, .aload_n 0), (124, .sipush 1600), (127, .newarray .int), (129, .putfield 57), (132, .aload_n 0), (133, .sipush 4000), (136, .newarray .int), (138, .putfield 60), (141, .aload_n 0), (142, .bipush 9), (144, .newarray .int), (146, .putfield 63), (149, .aload_n 0), (150, .bipush 9), (152, .newarray .int), (154, .putfield 66), (157, .aload_n 0), (158, .bipush 10), (160, .newarray .int), (162, .putfield 69), (165, .aload_n 0), (166, .sipush 5000), (169, .newarray .int), (171, .putfield 72), (174, .aload_n 0), (175, .sipush 5000), (178, .newarray .int), (180, .putfield 75), (183, .aload_n 0), (184, .sipush 5000), (187, .newarray .int), (189, .putfield 78), (192, .aload_n 0), (193, .sipush 2400), (196, .newarray .int), (198, .putfield 81), (201, .aload_n 0), (202, .bipush 96), (204, .newarray .long), (206, .putfield 84), (209, .aload_n 0), (210, .bipush 96), (212, .newarray .long), (214, .putfield 87), (217, .aload_n 0), (218, .bipush 96), (220, .newarray .int), (222, .putfield 90), (225, .aload_n 0), (226, .sipush 2304), (229, .newarray .int), (231, .putfield 93), (234, .aload_n 0), (235, .bipush 7), (237, .newarray .int), (239, .putfield 96), (242, .aload_n 0), (243, .bipush 64), (245, .newarray .int), (247, .putfield 99), (250, .aload_n 0), (251, .bipush 6), (253, .newarray .int), (255, .putfield 102), (258, .aload_n 0), (259, .bipush 48), (261, .newarray .long), (263, .putfield 105), (266, .aload_n 0), (267, .iload_n 1), (268, .iconst 1), (269, .if_icmp .ge 7), (272, .iconst 1), (273, .goto 15), (276, .iload_n 1), (277, .bipush 48), (279, .if_icmp .le 8), (282, .bipush 48), (284, .goto 4), (287, .iload_n 1), (288, .putfield 108), (291, .aload_n 0), (292, .iload_n 2), (293, .iconst 1), (294, .if_icmp .ge 7), (297, .iconst 1), (298, .goto 15), (301, .iload_n 2), (302, .bipush 48), (304, .if_icmp .le 8), (307, .bipush 48), (309, .goto 4), (312, .iload_n 2), (313, .putfield 111), (316, .return_)], [], lkIX11)
def miX11_isIn : sm_MI := (yX11_isIn, cX11_isIn, 3, (some .boolean), [(0, .iload_n 0), (1, .iload_n 1), (2, .if_icmp .lt 12), (5, .iload_n 0), (6, .iload_n 2), (7, .if_icmp .gt 7), (10, .iconst 1), (11, .goto 4), (14, .iconst 0), (15, .ireturn)], [], lkX11)
def miX11_isEnd : sm_MI := (yX11_isEnd, cX11_isEnd, 2, (some .boolean), [(0, .iload_n 1), (1, .iconst 0), (2, .aload_n 0), (3, .getfield 108), (6, .iconst 1), (7, .isub), (8, .invokestatic 114), (11, .ireturn)], [], lkX11)
def miX11_isPick : sm_MI := (yX11_isPick, cX11_isPick, 2, (some .boolean), [(0, .iload_n 1), (1, .iconst 0), (2, .aload_n 0), (3, .getfield 111), (6, .iconst 1), (7, .isub), (8, .invokestatic 114), (11, .ireturn)], [], lkX11)
def miX11_enter : sm_MI := (yX11_enter, cX11_enter, 4, none, [(0, .aload_n 0), (1, .getfield 7), (4, .aload_n 0), (5, .getfield 118), (8, .iload_n 1), (9, .iastore), (10, .aload_n 0), (11, .getfield 13), (14, .aload_n 0), (15, .getfield 118), (18, .iload_n 2), (19, .iastore), (20, .aload_n 0), (21, .getfield 16), (24, .aload_n 0), (25, .getfield 118), (28, .iload_n 3), (29, .iastore), (30, .aload_n 0), (31, .getfield 19), (34, .aload_n 0), (35, .getfield 118), (38, .aload_n 0), (39, .getfield 121), (42, .iconst 1), (43, .iadd), (44, .iastore), (45, .aload_n 0), (46, .dup), (47, .getfield 118), (50, .iconst 1), (51, .iadd), (52, .putfield 118), (55, .return_)], [], lkX11)
def miX11_telling : sm_MI := (yX11_telling, cX11_telling, 5, (some .int), [(0, .iload_n 1), (1, .ifCond .eq 23), (4, .aload_n 0), (5, .getfield 121), (8, .sipush 400), (11, .if_icmp .eq 13), (14, .aload_n 0), (15, .getfield 118), (18, .sipush 2000), (21, .if_icmp .ne 5), (24, .iconst (-1)), (25, .ireturn), (26, .aload_n 0), (27, .iload_n 2), (28, .iload_n 3), (29, .iload 4), (31, .invokevirtual 124), (34, .aload_n 0), (35, .invokevirtual 128), (38, .ireturn)], [], lkX11)
def miX11_passes : sm_MI := (yX11_passes, cX11_passes, 1, (some .int), [(0, .aload_n 0), (1, .dup), (2, .getfield 121), (5, .iconst 1), (6, .iadd), (7, .putfield 121), (10, .aload_n 0), (11, .aload_n 0), (12, .getfield 121), (15, .putfield 132), (18, .aload_n 0), (19, .getfield 121), (22, .ireturn)], [], lkX11)
def miX11_thread : sm_MI := (yX11_thread, cX11_thread, 3, (some .int), [(0, .aload_n 0), (1, .aload_n 0), (2, .iload_n 1), (3, .invokevirtual 135), (6, .ifCond .eq 17), (9, .iload_n 2), (10, .iconst (-1)), (11, .bipush 15), (13, .invokestatic 114), (16, .ifCond .eq 7), (19, .iconst 1), (20, .goto 4), (23, .iconst 0), (24, .iconst 0), (25, .iload_n 1), (26, .iload_n 2), (27, .invokevirtual 139), (30, .ireturn)], [], lkX11)
def miX11_tie : sm_MI := (yX11_tie, cX11_tie, 3, (some .int), [(0, .aload_n 0), (1, .iload_n 1), (2, .iconst 0), (3, .bipush 15), (5, .invokestatic 114), (8, .ifCond .eq 17), (11, .iload_n 2), (12, .iconst 0), (13, .ldc 143), (15, .invokestatic 114), (18, .ifCond .eq 7), (21, .iconst 1), (22, .goto 4), (25, .iconst 0), (26, .iconst 1), (27, .iload_n 1), (28, .iload_n 2), (29, .invokevirtual 139), (32, .ireturn)], [], lkX11)
def miX11_tread : sm_MI := (yX11_tread, cX11_tread, 3, (some .int), [(0, .aload_n 0), (1, .aload_n 0), (2, .iload_n 1), (3, .invokevirtual 144), (6, .ifCond .eq 17), (9, .iload_n 2), (10, .iconst 0), (11, .ldc 143), (13, .invokestatic 114), (16, .ifCond .eq 7), (19, .iconst 1), (20, .goto 4), (23, .iconst 0), (24, .iconst 2), (25, .iload_n 1), (26, .iload_n 2), (27, .invokevirtual 139), (30, .ireturn)], [], lkX11)
def miX11_colour : sm_MI := (yX11_colour, cX11_colour, 4, (some .int), [(0, .aload_n 0), (1, .iload_n 1), (2, .ifCond .eq 14), (5, .aload_n 0), (6, .iload_n 2), (7, .invokevirtual 135), (10, .ifCond .eq 28), (13, .goto 11), (16, .aload_n 0), (17, .iload_n 2), (18, .invokevirtual 144), (21, .ifCond .eq 17), (24, .iload_n 3), (25, .iconst 0), (26, .bipush 9), (28, .invokestatic 114), (31, .ifCond .eq 7), (34, .iconst 1), (35, .goto 4), (38, .iconst 0), (39, .iload_n 1), (40, .ifCond .eq 7), (43, .iconst 3), (44, .goto 4), (47, .iconst 4), (48, .iload_n 2), (49, .iload_n 3), (50, .invokevirtual 139), (53, .ireturn)], [], lkX11)
def miX11_entryOf : sm_MI := (yX11_entryOf, cX11_entryOf, 4, (some .int), [(0, .aload_n 0), (1, .getfield 118), (4, .iconst 1), (5, .isub), (6, .istore_n 3), (7, .iload_n 3), (8, .ifCond .lt 44), (11, .aload_n 0), (12, .getfield 7), (15, .iload_n 3), (16, .iaload), (17, .iload_n 1), (18, .if_icmp .ne 28), (21, .aload_n 0), (22, .getfield 13), (25, .iload_n 3), (26, .iaload), (27, .iload_n 2), (28, .if_icmp .ne 18), (31, .aload_n 0), (32, .getfield 19), (35, .iload_n 3), (36, .iaload), (37, .aload_n 0), (38, .getfield 132), (41, .if_icmp .gt 5), (44, .iload_n 3), (45, .ireturn), (46, .iinc 3 (-1)), (49, .goto (-42)), (52, .iconst (-1)), (53, .ireturn)], [(7, [true, true, true, true])], lkX11)
def miX11_valueOf : sm_MI := (yX11_valueOf, cX11_valueOf, 4, (some .int), [(0, .aload_n 0), (1, .iload_n 1), (2, .iload_n 2), (3, .invokevirtual 147), (6, .istore_n 3), (7, .iload_n 3), (8, .ifCond .lt 12), (11, .aload_n 0), (12, .getfield 16), (15, .iload_n 3), (16, .iaload), (17, .goto 12), (20, .iload_n 1), (21, .ifCond .ne 7), (24, .iconst (-1)), (25, .goto 4), (28, .iconst 0), (29, .ireturn)], [], lkX11)
def miX11_look : sm_MI := (yX11_look, cX11_look, 2, (some .boolean), [(0, .iload_n 1), (1, .iconst 0), (2, .aload_n 0), (3, .getfield 121), (6, .invokestatic 114), (9, .ifCond .ne 5), (12, .iconst 0), (13, .ireturn), (14, .aload_n 0), (15, .iload_n 1), (16, .putfield 132), (19, .iconst 1), (20, .ireturn)], [], lkX11)
def miX11_draw : sm_MI := (yX11_draw, cX11_draw, 3, none, [(0, .iconst 0), (1, .istore_n 1), (2, .iload_n 1), (3, .aload_n 0), (4, .getfield 108), (7, .if_icmp .ge 21), (10, .aload_n 0), (11, .getfield 22), (14, .iload_n 1), (15, .aload_n 0), (16, .iconst 0), (17, .iload_n 1), (18, .invokevirtual 151), (21, .iastore), (22, .iinc 1 1), (25, .goto (-23)), (28, .iconst 0), (29, .istore_n 1), (30, .iload_n 1), (31, .bipush 16), (33, .if_icmp .ge 21), (36, .aload_n 0), (37, .getfield 25), (40, .iload_n 1), (41, .aload_n 0), (42, .iconst 1), (43, .iload_n 1), (44, .invokevirtual 151), (47, .iastore), (48, .iinc 1 1), (51, .goto (-21)), (54, .iconst 0), (55, .istore_n 1), (56, .iload_n 1), (57, .aload_n 0), (58, .getfield 111), (61, .if_icmp .ge 21), (64, .aload_n 0), (65, .getfield 28), (68, .iload_n 1), (69, .aload_n 0), (70, .iconst 2), (71, .iload_n 1), (72, .invokevirtual 151), (75, .iastore), (76, .iinc 1 1), (79, .goto (-23)), (82, .aload_n 0), (83, .invokevirtual 154), (86, .iconst 0), (87, .istore_n 1), (88, .iload_n 1), (89, .aload_n 0), (90, .getfield 108), (93, .if_icmp .ge 16), (96, .aload_n 0), (97, .getfield 38), (100, .iload_n 1), (101, .lconst 0), (102, .lastore), (103, .iinc 1 1), (106, .goto (-18)), (109, .iconst 0), (110, .istore_n 1), (111, .iload_n 1), (112, .aload_n 0), (113, .getfield 111), (116, .if_icmp .ge 86), (119, .aload_n 0), (120, .getfield 34), (123, .iload_n 1), (124, .lconst 0), (125, .lastore), (126, .iconst 0), (127, .istore_n 2), (128, .iload_n 2), (129, .aload_n 0), (130, .getfield 108), (133, .if_icmp .ge 63), (136, .aload_n 0), (137, .getfield 22), (140, .iload_n 2), (141, .iaload), (142, .ifCond .lt 48), (145, .aload_n 0), (146, .getfield 31), (149, .iload_n 1), (150, .iaload), (151, .aload_n 0), (152, .getfield 22), (155, .iload_n 2), (156, .iaload), (157, .ishr), (158, .iconst 1), (159, .iand), (160, .ifCond .ne 6), (163, .goto 27), (166, .aload_n 0), (167, .getfield 34), (170, .iload_n 1), (171, .dup2), (172, .laload), (173, .lconst 1), (174, .iload_n 2), (175, .lshl), (176, .lor), (177, .lastore), (178, .aload_n 0), (179, .getfield 38), (182, .iload_n 2), (183, .dup2), (184, .laload), (185, .lconst 1), (186, .iload_n 1), (187, .lshl), (188, .lor), (189, .lastore), (190, .iinc 2 1), (193, .goto (-65)), (196, .iinc 1 1), (199, .goto (-88)), (202, .return_)], [(2, [true, true, false]), (30, [true, true, false]), (56, [true, true, false]), (88, [true, true, false]), (111, [true, true, false]), (128, [true, true, true])], lkX11)
def miX11_lifts : sm_MI := (yX11_lifts, cX11_lifts, 3, none, [(0, .iconst 0), (1, .istore_n 1), (2, .iload_n 1), (3, .aload_n 0), (4, .getfield 111), (7, .if_icmp .ge 59), (10, .aload_n 0), (11, .getfield 31), (14, .iload_n 1), (15, .iconst 0), (16, .iastore), (17, .iconst 0), (18, .istore_n 2), (19, .iload_n 2), (20, .bipush 16), (22, .if_icmp .ge 38), (25, .aload_n 0), (26, .getfield 28), (29, .iload_n 1), (30, .iaload), (31, .iload_n 2), (32, .ishr), (33, .iconst 1), (34, .iand), (35, .iconst 1), (36, .if_icmp .ne 18), (39, .aload_n 0), (40, .getfield 31), (43, .iload_n 1), (44, .dup2), (45, .iaload), (46, .aload_n 0), (47, .getfield 25), (50, .iload_n 2), (51, .iaload), (52, .ior), (53, .iastore), (54, .iinc 2 1), (57, .goto (-38)), (60, .iinc 1 1), (63, .goto (-61)), (66, .return_)], [(2, [true, true, false]), (19, [true, true, true])], lkX11)
def miX11_shaft : sm_MI := (yX11_shaft, cX11_shaft, 2, (some .int), [(0, .aload_n 0), (1, .iload_n 1), (2, .invokevirtual 135), (5, .ifCond .eq 12), (8, .aload_n 0), (9, .iconst 0), (10, .iload_n 1), (11, .invokevirtual 151), (14, .goto 4), (17, .iconst (-1)), (18, .ireturn)], [], lkX11)
def miX11_lift : sm_MI := (yX11_lift, cX11_lift, 2, (some .int), [(0, .aload_n 0), (1, .iload_n 1), (2, .invokevirtual 144), (5, .ifCond .ne 5), (8, .iconst (-1)), (9, .ireturn), (10, .aload_n 0), (11, .invokevirtual 157), (14, .aload_n 0), (15, .getfield 31), (18, .iload_n 1), (19, .iaload), (20, .ireturn)], [], lkX11)
def miX11_row : sm_MI := (yX11_row, cX11_row, 2, (some .long), [(0, .aload_n 0), (1, .iload_n 1), (2, .invokevirtual 144), (5, .ifCond .ne 7), (8, .ldc2_w 160), (11, .lreturn), (12, .aload_n 0), (13, .invokevirtual 157), (16, .aload_n 0), (17, .getfield 34), (20, .iload_n 1), (21, .laload), (22, .lreturn)], [], lkX11)
def miX11_lead : sm_MI := (yX11_lead, cX11_lead, 6, (some .int), [(0, .aload_n 0), (1, .iload_n 1), (2, .invokevirtual 135), (5, .ifCond .eq 20), (8, .aload_n 0), (9, .iload_n 2), (10, .invokevirtual 144), (13, .ifCond .eq 12), (16, .iload_n 3), (17, .iconst 0), (18, .iconst 3), (19, .invokestatic 114), (22, .ifCond .ne 5), (25, .iconst (-1)), (26, .ireturn), (27, .aload_n 0), (28, .invokevirtual 157), (31, .aload_n 0), (32, .getfield 22), (35, .iload_n 1), (36, .iaload), (37, .istore 4), (39, .iload_n 3), (40, .ifCond .ne 6), (43, .iload 4), (45, .ireturn), (46, .iload_n 3), (47, .iconst 1), (48, .if_icmp .le 42), (51, .iload_n 3), (52, .iconst 2), (53, .if_icmp .ne 12), (56, .aload_n 0), (57, .iconst 0), (58, .iload_n 1), (59, .invokevirtual 147), (62, .goto 9), (65, .aload_n 0), (66, .iconst 2), (67, .iload_n 2), (68, .invokevirtual 147), (71, .istore 5), (73, .iload 5), (75, .ifCond .ge 7), (78, .iconst (-1)), (79, .goto 10), (82, .aload_n 0), (83, .getfield 19), (86, .iload 5), (88, .iaload), (89, .ireturn), (90, .iconst 0), (91, .istore 5), (93, .iload 5), (95, .bipush 16), (97, .if_icmp .ge 48), (100, .iload 4), (102, .ifCond .lt 43), (105, .aload_n 0), (106, .getfield 28), (109, .iload_n 2), (110, .iaload), (111, .iload 5), (113, .ishr), (114, .iconst 1), (115, .iand), (116, .iconst 1), (117, .if_icmp .ne 22), (120, .aload_n 0), (121, .getfield 25), (124, .iload 5), (126, .iaload), (127, .iload 4), (129, .ishr), (130, .iconst 1), (131, .iand), (132, .iconst 1), (133, .if_icmp .ne 6), (136, .iload 5), (138, .ireturn), (139, .iinc 5 1), (142, .goto (-49)), (145, .iconst (-1)), (146, .ireturn)], [(93, [true, false, true, false, true, true])], lkX11)
def miX11_four : sm_MI := (yX11_four, cX11_four, 3, none, [(0, .bipush 24), (2, .istore_n 2), (3, .iload_n 2), (4, .ifCond .lt 35), (7, .aload_n 0), (8, .getfield 41), (11, .aload_n 0), (12, .getfield 162), (15, .iload_n 1), (16, .iload_n 2), (17, .ishr), (18, .sipush 255), (21, .iand), (22, .iastore), (23, .aload_n 0), (24, .dup), (25, .getfield 162), (28, .iconst 1), (29, .iadd), (30, .putfield 162), (33, .iinc 2 (-8)), (36, .goto (-33)), (39, .return_)], [(3, [true, true, true])], lkX11)
def miX11_feed : sm_MI := (yX11_feed, cX11_feed, 6, (some .int), [(0, .aload_n 0), (1, .getfield 162), (4, .bipush 20), (6, .iadd), (7, .sipush 300), (10, .if_icmp .le 5), (13, .iconst (-1)), (14, .ireturn), (15, .aload_n 0), (16, .iload_n 1), (17, .invokevirtual 165), (20, .aload_n 0), (21, .iload_n 2), (22, .invokevirtual 165), (25, .aload_n 0), (26, .iload_n 3), (27, .invokevirtual 165), (30, .aload_n 0), (31, .iload 4), (33, .invokevirtual 165), (36, .aload_n 0), (37, .iload 5), (39, .invokevirtual 165), (42, .aload_n 0), (43, .getfield 162), (46, .ireturn)], [], lkX11)
def miX11_end : sm_MI := (yX11_end, cX11_end, 2, (some .int), [(0, .iload_n 1), (1, .iconst 0), (2, .aload_n 0), (3, .getfield 162), (6, .invokestatic 114), (9, .ifCond .ne 5), (12, .iconst (-1)), (13, .ireturn), (14, .aload_n 0), (15, .iload_n 1), (16, .putfield 162), (19, .iload_n 1), (20, .ireturn)], [], lkX11)
def miX11_see : sm_MI := (yX11_see, cX11_see, 2, (some .int), [(0, .iload_n 1), (1, .aload_n 0), (2, .getfield 162), (5, .if_icmp .ge 12), (8, .aload_n 0), (9, .getfield 41), (12, .iload_n 1), (13, .iaload), (14, .goto 4), (17, .iconst (-1)), (18, .ireturn)], [], lkX11)
def miX11_isLetter : sm_MI := (yX11_isLetter, cX11_isLetter, 1, (some .boolean), [(0, .iload_n 0), (1, .bipush 97), (3, .bipush 122), (5, .invokestatic 114), (8, .ifCond .ne 14), (11, .iload_n 0), (12, .bipush 65), (14, .bipush 90), (16, .invokestatic 114), (19, .ifCond .eq 7), (22, .iconst 1), (23, .goto 4), (26, .iconst 0), (27, .ireturn)], [], lkX11)
def miX11_isDigit : sm_MI := (yX11_isDigit, cX11_isDigit, 1, (some .boolean), [(0, .iload_n 0), (1, .bipush 48), (3, .bipush 57), (5, .invokestatic 114), (8, .ireturn)], [], lkX11)
def miX11_pack : sm_MI := (yX11_pack, cX11_pack, 5, (some .int), [(0, .iload_n 0), (1, .bipush 58), (3, .imul), (4, .iload_n 1), (5, .iadd), (6, .bipush 58), (8, .imul), (9, .iload_n 2), (10, .iadd), (11, .bipush 58), (13, .imul), (14, .iload_n 3), (15, .iadd), (16, .bipush 58), (18, .imul), (19, .iload 4), (21, .iadd), (22, .ireturn)], [], lkX11)
def miX11_n : sm_MI := (yX11_n, cX11_n, 1, (some .int), [(0, .iload_n 0), (1, .ifCond .ne 7), (4, .iconst 0), (5, .goto 7), (8, .iload_n 0), (9, .bipush 64), (11, .isub), (12, .ireturn)], [], lkX11)
def miX11_w : sm_MI := (yX11_w, cX11_w, 5, (some .int), [(0, .iload_n 0), (1, .invokestatic 169), (4, .iload_n 1), (5, .invokestatic 169), (8, .iload_n 2), (9, .invokestatic 169), (12, .iload_n 3), (13, .invokestatic 169), (16, .iload 4), (18, .invokestatic 169), (21, .invokestatic 173), (24, .ireturn)], [], lkX11)
def miX11_wordOf : sm_MI := (yX11_wordOf, cX11_wordOf, 4, (some .int), [(0, .iload_n 1), (1, .iconst 1), (2, .if_icmp .ne 34), (5, .iload_n 2), (6, .iconst 0), (7, .iconst 0), (8, .iconst 0), (9, .iconst 0), (10, .bipush 65), (12, .invokestatic 177), (15, .iconst 0), (16, .iconst 0), (17, .iconst 0), (18, .iconst 0), (19, .bipush 72), (21, .invokestatic 177), (24, .invokestatic 114), (27, .ifCond .eq 7), (30, .iconst 2), (31, .goto 4), (34, .iconst 3), (35, .ireturn), (36, .iload_n 1), (37, .iconst 2), (38, .if_icmp .ne 24), (41, .iload_n 2), (42, .iconst 0), (43, .iconst 0), (44, .iconst 0), (45, .bipush 116), (47, .bipush 111), (49, .invokestatic 177), (52, .if_icmp .ne 8), (55, .bipush 8), (57, .goto 4), (60, .iconst 3), (61, .ireturn), (62, .iload_n 1), (63, .iconst 3), (64, .if_icmp .ne 25), (67, .iload_n 2), (68, .iconst 0), (69, .iconst 0), (70, .bipush 116), (72, .bipush 105), (74, .bipush 101), (76, .invokestatic 177), (79, .if_icmp .ne 8), (82, .bipush 7), (84, .goto 4), (87, .iconst 3), (88, .ireturn), (89, .iload_n 1), (90, .iconst 4), (91, .if_icmp .ne 47), (94, .iload_n 2), (95, .iconst 0), (96, .bipush 98), (98, .bipush 97), (100, .bipush 99), (102, .bipush 107), (104, .invokestatic 177), (107, .if_icmp .ne 8), (110, .bipush 10), (112, .goto 25), (115, .iload_n 2), (116, .iconst 0), (117, .bipush 112), (119, .bipush 108), (121, .bipush 117), (123, .bipush 115), (125, .invokestatic 177), (128, .if_icmp .ne 8), (131, .bipush 11), (133, .goto 4), (136, .iconst 3), (137, .ireturn), (138, .iload_n 1), (139, .iconst 5), (140, .if_icmp .ne 48), (143, .iload_n 2), (144, .bipush 98), (146, .bipush 108), (148, .bipush 111), (150, .bipush 99), (152, .bipush 107), (154, .invokestatic 177), (157, .if_icmp .ne 7), (160, .iconst 4), (161, .goto 26), (164, .iload_n 2), (165, .bipush 116), (167, .bipush 114), (169, .bipush 101), (171, .bipush 97), (173, .bipush 100), (175, .invokestatic 177), (178, .if_icmp .ne 8), (181, .bipush 6), (183, .goto 4), (186, .iconst 3), (187, .ireturn), (188, .iload_n 1), (189, .bipush 6), (191, .if_icmp .eq 5), (194, .iconst 3), (195, .ireturn), (196, .iload_n 2), (197, .bipush 116), (199, .bipush 104), (201, .bipush 114), (203, .bipush 101), (205, .bipush 97), (207, .invokestatic 177), (210, .if_icmp .ne 13), (213, .iload_n 3), (214, .bipush 100), (216, .if_icmp .ne 7), (219, .iconst 5), (220, .goto 32), (223, .iload_n 2), (224, .bipush 109), (226, .bipush 105), (228, .bipush 114), (230, .bipush 114), (232, .bipush 111), (234, .invokestatic 177), (237, .if_icmp .ne 14), (240, .iload_n 3), (241, .bipush 114), (243, .if_icmp .ne 8), (246, .bipush 9), (248, .goto 4), (251, .iconst 3), (252, .ireturn)], [], lkX11)
def miX11_nextToken : sm_MI := (yX11_nextToken, cX11_nextToken, 4, none, [(0, .aload_n 0), (1, .aload_n 0), (2, .getfield 180), (5, .putfield 183), (8, .aload_n 0), (9, .aload_n 0), (10, .getfield 186), (13, .invokevirtual 189), (16, .bipush 32), (18, .if_icmp .eq 16), (21, .aload_n 0), (22, .aload_n 0), (23, .getfield 186), (26, .invokevirtual 189), (29, .bipush 10), (31, .if_icmp .ne 16), (34, .aload_n 0), (35, .dup), (36, .getfield 186), (39, .iconst 1), (40, .iadd), (41, .putfield 186), (44, .goto (-36)), (47, .aload_n 0), (48, .aload_n 0), (49, .getfield 186), (52, .putfield 180), (55, .aload_n 0), (56, .aload_n 0), (57, .getfield 186), (60, .invokevirtual 189), (63, .istore_n 1), (64, .iload_n 1), (65, .ifCond .ge 11), (68, .aload_n 0), (69, .iconst 0), (70, .putfield 192), (73, .goto 234), (76, .iload_n 1), (77, .invokestatic 195), (80, .ifCond .eq 72), (83, .aload_n 0), (84, .iconst 1), (85, .putfield 192), (88, .aload_n 0), (89, .iconst 0), (90, .putfield 198), (93, .aload_n 0), (94, .aload_n 0), (95, .getfield 186), (98, .invokevirtual 189), (101, .invokestatic 195), (104, .ifCond .eq 203), (107, .aload_n 0), (108, .getfield 198), (111, .ldc 201), (113, .if_icmp .ge 26), (116, .aload_n 0), (117, .bipush 10), (119, .aload_n 0), (120, .getfield 198), (123, .imul), (124, .aload_n 0), (125, .aload_n 0), (126, .getfield 186), (129, .invokevirtual 189), (132, .iadd), (133, .bipush 48), (135, .isub), (136, .putfield 198), (139, .aload_n 0), (140, .dup), (141, .getfield 186), (144, .iconst 1), (145, .iadd), (146, .putfield 186), (149, .goto (-56)), (152, .iload_n 1), (153, .invokestatic 202), (156, .ifCond .eq 96), (159, .iconst 0), (160, .istore_n 2), (161, .iconst 0), (162, .istore_n 3), (163, .aload_n 0), (164, .aload_n 0), (165, .getfield 186), (168, .invokevirtual 189), (171, .invokestatic 202), (174, .ifCond .eq 48), (177, .aload_n 0), (178, .aload_n 0), (179, .getfield 186), (182, .invokevirtual 189), (185, .istore_n 3), (186, .aload_n 0), (187, .getfield 186), (190, .aload_n 0), (191, .getfield 180), (194, .isub), (195, .iconst 5), (196, .if_icmp .ge 13), (199, .iload_n 2), (200, .bipush 58), (202, .imul), (203, .iload_n 3), (204, .invokestatic 169), (207, .iadd), (208, .istore_n 2), (209, .aload_n 0), (210, .dup), (211, .getfield 186), (214, .iconst 1), (215, .iadd), (216, .putfield 186), (219, .goto (-56)), (222, .aload_n 0), (223, .aload_n 0), (224, .aload_n 0), (225, .getfield 186), (228, .aload_n 0), (229, .getfield 180), (232, .isub), (233, .iload_n 2), (234, .iload_n 3), (235, .invokevirtual 205), (238, .putfield 192), (241, .aload_n 0), (242, .iload_n 1), (243, .bipush 65), (245, .isub), (246, .putfield 198), (249, .goto 58), (252, .aload_n 0), (253, .iload_n 1), (254, .bipush 61), (256, .if_icmp .eq 33), (259, .iload_n 1), (260, .bipush 44), (262, .if_icmp .eq 27), (265, .iload_n 1), (266, .bipush 59), (268, .if_icmp .eq 21), (271, .iload_n 1), (272, .bipush 42), (274, .if_icmp .eq 15), (277, .iload_n 1), (278, .bipush 40), (280, .if_icmp .eq 9), (283, .iload_n 1), (284, .bipush 41), (286, .if_icmp .ne 7), (289, .iload_n 1), (290, .goto 4), (293, .iconst 3), (294, .putfield 192), (297, .aload_n 0), (298, .dup), (299, .getfield 186), (302, .iconst 1), (303, .iadd), (304, .putfield 186), (307, .return_)], [(8, [true, false, false, false]), (93, [true, false, false, false]), (163, [true, true, true, true])], lkX11)
def miX11_fails : sm_MI := (yX11_fails, cX11_fails, 3, (some .int), [(0, .aload_n 0), (1, .iload_n 2), (2, .putfield 209), (5, .iload_n 1), (6, .ireturn)], [], lkX11)
def miX11_many : sm_MI := (yX11_many, cX11_many, 1, (some .int), [(0, .aload_n 0), (1, .getfield 212), (4, .aload_n 0), (5, .getfield 69), (8, .aload_n 0), (9, .getfield 215), (12, .iaload), (13, .isub), (14, .ireturn)], [], lkX11)
def miX11_push : sm_MI := (yX11_push, cX11_push, 2, none, [(0, .aload_n 0), (1, .getfield 60), (4, .aload_n 0), (5, .getfield 212), (8, .iload_n 1), (9, .iastore), (10, .aload_n 0), (11, .dup), (12, .getfield 212), (15, .iconst 1), (16, .iadd), (17, .putfield 212), (20, .return_)], [], lkX11)
def miX11_plainOne : sm_MI := (yX11_plainOne, cX11_plainOne, 6, (some .int), [(0, .aload_n 0), (1, .aload_n 0), (2, .getfield 212), (5, .putfield 218), (8, .aload_n 0), (9, .getfield 192), (12, .iconst 2), (13, .if_icmp .ne 97), (16, .aload_n 0), (17, .getfield 198), (20, .istore_n 1), (21, .aload_n 0), (22, .getfield 54), (25, .iload_n 1), (26, .iaload), (27, .ifCond .ge 13), (30, .aload_n 0), (31, .iconst 4), (32, .aload_n 0), (33, .getfield 180), (36, .invokevirtual 221), (39, .ireturn), (40, .aload_n 0), (41, .getfield 180), (44, .istore_n 2), (45, .aload_n 0), (46, .invokevirtual 224), (49, .aload_n 0), (50, .invokevirtual 227), (53, .aload_n 0), (54, .getfield 54), (57, .iload_n 1), (58, .iaload), (59, .iadd), (60, .sipush 200), (63, .if_icmp .le 10), (66, .aload_n 0), (67, .iconst 5), (68, .iload_n 2), (69, .invokevirtual 221), (72, .ireturn), (73, .iconst 0), (74, .istore_n 3), (75, .iload_n 3), (76, .aload_n 0), (77, .getfield 54), (80, .iload_n 1), (81, .iaload), (82, .if_icmp .ge 26), (85, .aload_n 0), (86, .aload_n 0), (87, .getfield 57), (90, .aload_n 0), (91, .getfield 51), (94, .iload_n 1), (95, .iaload), (96, .iload_n 3), (97, .iadd), (98, .iaload), (99, .invokevirtual 230), (102, .iinc 3 1), (105, .goto (-30)), (108, .iconst 0), (109, .ireturn), (110, .aload_n 0), (111, .getfield 192), (114, .iconst 1), (115, .if_icmp .eq 13), (118, .aload_n 0), (119, .iconst 1), (120, .aload_n 0), (121, .getfield 180), (124, .invokevirtual 221), (127, .ireturn), (128, .aload_n 0), (129, .getfield 198), (132, .bipush 15), (134, .if_icmp .le 13), (137, .aload_n 0), (138, .iconst 2), (139, .aload_n 0), (140, .getfield 180), (143, .invokevirtual 221), (146, .ireturn), (147, .aload_n 0), (148, .getfield 198), (151, .istore_n 1), (152, .iload_n 1), (153, .istore_n 2), (154, .aload_n 0), (155, .getfield 180), (158, .istore_n 3), (159, .aload_n 0), (160, .invokevirtual 224), (163, .aload_n 0), (164, .getfield 192), (167, .bipush 8), (169, .if_icmp .ne 58), (172, .aload_n 0), (173, .invokevirtual 224), (176, .aload_n 0), (177, .getfield 192), (180, .iconst 1), (181, .if_icmp .eq 13), (184, .aload_n 0), (185, .iconst 1), (186, .aload_n 0), (187, .getfield 180), (190, .invokevirtual 221), (193, .ireturn), (194, .aload_n 0), (195, .getfield 198), (198, .bipush 15), (200, .if_icmp .le 13), (203, .aload_n 0), (204, .iconst 2), (205, .aload_n 0), (206, .getfield 180), (209, .invokevirtual 221), (212, .ireturn), (213, .aload_n 0), (214, .getfield 198), (217, .istore_n 2), (218, .aload_n 0), (219, .getfield 180), (222, .istore_n 3), (223, .aload_n 0), (224, .invokevirtual 224), (227, .iload_n 1), (228, .iload_n 2), (229, .if_icmp .ge 9), (232, .iload_n 2), (233, .iload_n 1), (234, .isub), (235, .goto 6), (238, .iload_n 1), (239, .iload_n 2), (240, .isub), (241, .istore 4), (243, .aload_n 0), (244, .invokevirtual 227), (247, .iconst 1), (248, .iadd), (249, .iload 4), (251, .iadd), (252, .sipush 200), (255, .if_icmp .le 10), (258, .aload_n 0), (259, .iconst 5), (260, .iload_n 3), (261, .invokevirtual 221), (264, .ireturn), (265, .iload_n 1), (266, .istore 5), (268, .iload 5), (270, .iload_n 2), (271, .if_icmp .eq 27), (274, .aload_n 0), (275, .iload 5), (277, .invokevirtual 230), (280, .iload 5), (282, .iload_n 1), (283, .iload_n 2), (284, .if_icmp .ge 7), (287, .iconst 1), (288, .goto 4), (291, .iconst (-1)), (292, .iadd), (293, .istore 5), (295, .goto (-27)), (298, .aload_n 0), (299, .iload_n 2), (300, .invokevirtual 230), (303, .iconst 0), (304, .ireturn)], [(75, [true, true, false, true, false, false]), (268, [true, true, true, false, false, true])], lkX11)
def miX11_opens : sm_MI := (yX11_opens, cX11_opens, 3, (some .int), [(0, .aload_n 0), (1, .getfield 192), (4, .bipush 9), (6, .if_icmp .eq 21), (9, .aload_n 0), (10, .getfield 192), (13, .bipush 10), (15, .if_icmp .eq 12), (18, .aload_n 0), (19, .getfield 192), (22, .bipush 11), (24, .if_icmp .ne 10), (27, .aload_n 0), (28, .getfield 192), (31, .goto 4), (34, .iconst 0), (35, .istore_n 1), (36, .iconst 0), (37, .istore_n 2), (38, .iload_n 1), (39, .ifCond .le 7), (42, .aload_n 0), (43, .invokevirtual 224), (46, .iload_n 1), (47, .bipush 11), (49, .if_icmp .ne 49), (52, .aload_n 0), (53, .getfield 192), (56, .iconst 1), (57, .if_icmp .eq 13), (60, .aload_n 0), (61, .iconst 1), (62, .aload_n 0), (63, .getfield 180), (66, .invokevirtual 221), (69, .ireturn), (70, .aload_n 0), (71, .getfield 198), (74, .bipush 15), (76, .if_icmp .le 13), (79, .aload_n 0), (80, .iconst 2), (81, .aload_n 0), (82, .getfield 180), (85, .invokevirtual 221), (88, .ireturn), (89, .aload_n 0), (90, .getfield 198), (93, .istore_n 2), (94, .aload_n 0), (95, .invokevirtual 224), (98, .aload_n 0), (99, .getfield 192), (102, .bipush 40), (104, .if_icmp .eq 13), (107, .aload_n 0), (108, .iconst 1), (109, .aload_n 0), (110, .getfield 180), (113, .invokevirtual 221), (116, .ireturn), (117, .aload_n 0), (118, .getfield 215), (121, .bipush 8), (123, .if_icmp .ne 13), (126, .aload_n 0), (127, .iconst 3), (128, .aload_n 0), (129, .getfield 180), (132, .invokevirtual 221), (135, .ireturn), (136, .aload_n 0), (137, .getfield 63), (140, .aload_n 0), (141, .getfield 215), (144, .iload_n 1), (145, .iastore), (146, .aload_n 0), (147, .getfield 66), (150, .aload_n 0), (151, .getfield 215), (154, .iload_n 2), (155, .iastore), (156, .aload_n 0), (157, .dup), (158, .getfield 215), (161, .iconst 1), (162, .iadd), (163, .putfield 215), (166, .aload_n 0), (167, .getfield 69), (170, .aload_n 0), (171, .getfield 215), (174, .aload_n 0), (175, .getfield 212), (178, .iastore), (179, .aload_n 0), (180, .invokevirtual 224), (183, .iconst 0), (184, .ireturn)], [], lkX11)
def miX11_closes : sm_MI := (yX11_closes, cX11_closes, 7, (some .int), [(0, .aload_n 0), (1, .getfield 180), (4, .istore_n 1), (5, .aload_n 0), (6, .invokevirtual 224), (9, .aload_n 0), (10, .dup), (11, .getfield 215), (14, .iconst 1), (15, .isub), (16, .putfield 215), (19, .aload_n 0), (20, .aload_n 0), (21, .getfield 69), (24, .aload_n 0), (25, .getfield 215), (28, .iconst 1), (29, .iadd), (30, .iaload), (31, .putfield 218), (34, .aload_n 0), (35, .getfield 212), (38, .aload_n 0), (39, .getfield 218), (42, .isub), (43, .istore_n 2), (44, .aload_n 0), (45, .getfield 63), (48, .aload_n 0), (49, .getfield 215), (52, .iaload), (53, .istore_n 3), (54, .iload_n 3), (55, .bipush 9), (57, .if_icmp .ne 16), (60, .iload_n 2), (61, .iconst 2), (62, .if_icmp .le 11), (65, .iconst 2), (66, .iload_n 2), (67, .imul), (68, .iconst 2), (69, .isub), (70, .goto 4), (73, .iload_n 2), (74, .istore 4), (76, .aload_n 0), (77, .getfield 218), (80, .aload_n 0), (81, .getfield 69), (84, .aload_n 0), (85, .getfield 215), (88, .iaload), (89, .isub), (90, .iload 4), (92, .iadd), (93, .sipush 200), (96, .if_icmp .le 10), (99, .aload_n 0), (100, .iconst 5), (101, .iload_n 1), (102, .invokevirtual 221), (105, .ireturn), (106, .iload_n 3), (107, .bipush 9), (109, .if_icmp .ne 35), (112, .iload_n 2), (113, .iconst 2), (114, .isub), (115, .istore 5), (117, .iload 5), (119, .ifCond .le 25), (122, .aload_n 0), (123, .aload_n 0), (124, .getfield 60), (127, .aload_n 0), (128, .getfield 218), (131, .iload 5), (133, .iadd), (134, .iaload), (135, .invokevirtual 230), (138, .iinc 5 (-1)), (141, .goto (-24)), (144, .iload_n 3), (145, .bipush 10), (147, .if_icmp .ne 76), (150, .iconst 0), (151, .istore 5), (153, .iload 5), (155, .iload_n 2), (156, .iconst 2), (157, .idiv), (158, .if_icmp .ge 65), (161, .aload_n 0), (162, .getfield 60), (165, .aload_n 0), (166, .getfield 218), (169, .iload 5), (171, .iadd), (172, .iaload), (173, .istore 6), (175, .aload_n 0), (176, .getfield 60), (179, .aload_n 0), (180, .getfield 218), (183, .iload 5), (185, .iadd), (186, .aload_n 0), (187, .getfield 60), (190, .aload_n 0), (191, .getfield 212), (194, .iconst 1), (195, .isub), (196, .iload 5), (198, .isub), (199, .iaload), (200, .iastore), (201, .aload_n 0), (202, .getfield 60), (205, .aload_n 0), (206, .getfield 212), (209, .iconst 1), (210, .isub), (211, .iload 5), (213, .isub), (214, .iload 6), (216, .iastore), (217, .iinc 5 1), (220, .goto (-67)), (223, .iload_n 3), (224, .bipush 11), (226, .if_icmp .ne 51), (229, .aload_n 0), (230, .getfield 218), (233, .istore 5), (235, .iload 5), (237, .aload_n 0), (238, .getfield 212), (241, .if_icmp .ge 36), (244, .aload_n 0), (245, .getfield 60), (248, .iload 5), (250, .aload_n 0), (251, .getfield 60), (254, .iload 5), (256, .iaload), (257, .aload_n 0), (258, .getfield 66), (261, .aload_n 0), (262, .getfield 215), (265, .iaload), (266, .iadd), (267, .bipush 16), (269, .irem), (270, .iastore), (271, .iinc 5 1), (274, .goto (-39)), (277, .iconst 0), (278, .ireturn)], [(117, [true, false, true, true, false, true, false]), (153, [true, false, true, true, false, true, false]), (235, [true, false, false, false, false, true, false])], lkX11)
def miX11_times : sm_MI := (yX11_times, cX11_times, 3, (some .int), [(0, .aload_n 0), (1, .invokevirtual 224), (4, .aload_n 0), (5, .getfield 192), (8, .iconst 1), (9, .if_icmp .eq 13), (12, .aload_n 0), (13, .iconst 1), (14, .aload_n 0), (15, .getfield 180), (18, .invokevirtual 221), (21, .ireturn), (22, .aload_n 0), (23, .getfield 198), (26, .iconst 1), (27, .bipush 48), (29, .invokestatic 114), (32, .ifCond .ne 13), (35, .aload_n 0), (36, .iconst 2), (37, .aload_n 0), (38, .getfield 180), (41, .invokevirtual 221), (44, .ireturn), (45, .aload_n 0), (46, .getfield 212), (49, .aload_n 0), (50, .getfield 218), (53, .isub), (54, .istore_n 1), (55, .aload_n 0), (56, .invokevirtual 227), (59, .aload_n 0), (60, .getfield 198), (63, .iconst 1), (64, .isub), (65, .iload_n 1), (66, .imul), (67, .iadd), (68, .sipush 200), (71, .if_icmp .le 13), (74, .aload_n 0), (75, .iconst 5), (76, .aload_n 0), (77, .getfield 180), (80, .invokevirtual 221), (83, .ireturn), (84, .iconst 0), (85, .istore_n 2), (86, .iload_n 2), (87, .aload_n 0), (88, .getfield 198), (91, .iconst 1), (92, .isub), (93, .iload_n 1), (94, .imul), (95, .if_icmp .ge 24), (98, .aload_n 0), (99, .aload_n 0), (100, .getfield 60), (103, .aload_n 0), (104, .getfield 218), (107, .iload_n 2), (108, .iadd), (109, .iaload), (110, .invokevirtual 230), (113, .iinc 2 1), (116, .goto (-30)), (119, .aload_n 0), (120, .invokevirtual 224), (123, .iconst 0), (124, .ireturn)], [(86, [true, true, true])], lkX11)
def miX11_readRow : sm_MI := (yX11_readRow, cX11_readRow, 5, (some .int), [(0, .aload_n 0), (1, .iconst 0), (2, .putfield 212), (5, .aload_n 0), (6, .iconst 0), (7, .putfield 215), (10, .aload_n 0), (11, .getfield 69), (14, .iconst 0), (15, .iconst 0), (16, .iastore), (17, .iconst 0), (18, .istore_n 1), (19, .iconst 0), (20, .istore_n 2), (21, .iconst 1), (22, .istore_n 3), (23, .iload_n 3), (24, .ifCond .eq 141), (27, .iconst 0), (28, .istore 4), (30, .iload_n 1), (31, .ifCond .ne 35), (34, .aload_n 0), (35, .getfield 192), (38, .bipush 40), (40, .if_icmp .eq 17), (43, .aload_n 0), (44, .getfield 192), (47, .bipush 9), (49, .bipush 11), (51, .invokestatic 114), (54, .ifCond .eq 12), (57, .aload_n 0), (58, .invokevirtual 233), (61, .istore 4), (63, .goto 91), (66, .iload_n 1), (67, .ifCond .ne 16), (70, .aload_n 0), (71, .invokevirtual 236), (74, .istore 4), (76, .iconst 1), (77, .istore_n 1), (78, .iconst 0), (79, .istore_n 2), (80, .goto 74), (83, .aload_n 0), (84, .getfield 192), (87, .bipush 42), (89, .if_icmp .ne 18), (92, .iload_n 2), (93, .ifCond .ne 14), (96, .aload_n 0), (97, .invokevirtual 239), (100, .istore 4), (102, .iconst 1), (103, .istore_n 2), (104, .goto 50), (107, .aload_n 0), (108, .getfield 192), (111, .bipush 44), (113, .if_icmp .ne 12), (116, .aload_n 0), (117, .invokevirtual 224), (120, .iconst 0), (121, .istore_n 1), (122, .goto 32), (125, .aload_n 0), (126, .getfield 192), (129, .bipush 41), (131, .if_icmp .ne 21), (134, .aload_n 0), (135, .getfield 215), (138, .ifCond .le 14), (141, .aload_n 0), (142, .invokevirtual 242), (145, .istore 4), (147, .iconst 0), (148, .istore_n 2), (149, .goto 5), (152, .iconst 0), (153, .istore_n 3), (154, .iload 4), (156, .ifCond .eq 6), (159, .iload 4), (161, .ireturn), (162, .goto (-139)), (165, .aload_n 0), (166, .getfield 215), (169, .ifCond .le 15), (172, .aload_n 0), (173, .iconst 1), (174, .aload_n 0), (175, .getfield 180), (178, .invokevirtual 221), (181, .goto 4), (184, .iconst 0), (185, .ireturn)], [(23, [true, true, true, true, false])], lkX11)
def miX11_block : sm_MI := (yX11_block, cX11_block, 4, (some .int), [(0, .aload_n 0), (1, .invokevirtual 224), (4, .aload_n 0), (5, .getfield 192), (8, .iconst 2), (9, .if_icmp .eq 13), (12, .aload_n 0), (13, .iconst 1), (14, .aload_n 0), (15, .getfield 180), (18, .invokevirtual 221), (21, .ireturn), (22, .aload_n 0), (23, .getfield 198), (26, .istore_n 1), (27, .aload_n 0), (28, .getfield 54), (31, .iload_n 1), (32, .iaload), (33, .ifCond .lt 13), (36, .aload_n 0), (37, .iconst 4), (38, .aload_n 0), (39, .getfield 180), (42, .invokevirtual 221), (45, .ireturn), (46, .aload_n 0), (47, .invokevirtual 224), (50, .aload_n 0), (51, .getfield 192), (54, .bipush 61), (56, .if_icmp .eq 13), (59, .aload_n 0), (60, .iconst 1), (61, .aload_n 0), (62, .getfield 180), (65, .invokevirtual 221), (68, .ireturn), (69, .aload_n 0), (70, .invokevirtual 224), (73, .aload_n 0), (74, .invokevirtual 245), (77, .istore_n 2), (78, .iload_n 2), (79, .ifCond .eq 5), (82, .iload_n 2), (83, .ireturn), (84, .aload_n 0), (85, .getfield 192), (88, .bipush 59), (90, .if_icmp .eq 13), (93, .aload_n 0), (94, .iconst 1), (95, .aload_n 0), (96, .getfield 180), (99, .invokevirtual 221), (102, .ireturn), (103, .aload_n 0), (104, .getfield 51), (107, .iload_n 1), (108, .aload_n 0), (109, .getfield 248), (112, .iastore), (113, .aload_n 0), (114, .getfield 54), (117, .iload_n 1), (118, .aload_n 0), (119, .getfield 212), (122, .iastore), (123, .iconst 0), (124, .istore_n 3), (125, .iload_n 3), (126, .aload_n 0), (127, .getfield 212), (130, .if_icmp .ge 26), (133, .aload_n 0), (134, .getfield 57), (137, .aload_n 0), (138, .getfield 248), (141, .iload_n 3), (142, .iadd), (143, .aload_n 0), (144, .getfield 60), (147, .iload_n 3), (148, .iaload), (149, .iastore), (150, .iinc 3 1), (153, .goto (-28)), (156, .aload_n 0), (157, .dup), (158, .getfield 248), (161, .aload_n 0), (162, .getfield 212), (165, .iadd), (166, .putfield 248), (169, .iconst 0), (170, .ireturn)], [(125, [true, false, false, true])], lkX11)
def miX11_bring : sm_MI := (yX11_bring, cX11_bring, 4, none, [(0, .aload_n 0), (1, .getfield 72), (4, .aload_n 0), (5, .getfield 251), (8, .iload_n 1), (9, .iastore), (10, .aload_n 0), (11, .getfield 75), (14, .aload_n 0), (15, .getfield 251), (18, .iload_n 2), (19, .iastore), (20, .aload_n 0), (21, .getfield 78), (24, .aload_n 0), (25, .getfield 251), (28, .iload_n 3), (29, .iastore), (30, .aload_n 0), (31, .dup), (32, .getfield 251), (35, .iconst 1), (36, .iadd), (37, .putfield 251), (40, .return_)], [], lkX11)
def miX11_rowClause : sm_MI := (yX11_rowClause, cX11_rowClause, 6, (some .int), [(0, .iconst 0), (1, .istore_n 2), (2, .aload_n 0), (3, .invokevirtual 224), (6, .iload_n 1), (7, .iconst 1), (8, .if_icmp .ne 49), (11, .aload_n 0), (12, .getfield 192), (15, .iconst 1), (16, .if_icmp .eq 13), (19, .aload_n 0), (20, .iconst 1), (21, .aload_n 0), (22, .getfield 180), (25, .invokevirtual 221), (28, .ireturn), (29, .aload_n 0), (30, .getfield 198), (33, .bipush 15), (35, .if_icmp .le 13), (38, .aload_n 0), (39, .iconst 2), (40, .aload_n 0), (41, .getfield 180), (44, .invokevirtual 221), (47, .ireturn), (48, .aload_n 0), (49, .getfield 198), (52, .istore_n 2), (53, .aload_n 0), (54, .invokevirtual 224), (57, .aload_n 0), (58, .invokevirtual 245), (61, .istore_n 3), (62, .iload_n 3), (63, .ifCond .eq 5), (66, .iload_n 3), (67, .ireturn), (68, .aload_n 0), (69, .getfield 192), (72, .bipush 59), (74, .if_icmp .eq 13), (77, .aload_n 0), (78, .iconst 1), (79, .aload_n 0), (80, .getfield 180), (83, .invokevirtual 221), (86, .ireturn), (87, .iconst 0), (88, .istore 4), (90, .iconst 0), (91, .istore 5), (93, .iload 5), (95, .aload_n 0), (96, .getfield 212), (99, .if_icmp .ge 23), (102, .iload 4), (104, .iconst 1), (105, .aload_n 0), (106, .getfield 60), (109, .iload 5), (111, .iaload), (112, .ishl), (113, .ior), (114, .istore 4), (116, .iinc 5 1), (119, .goto (-26)), (122, .iload_n 1), (123, .iconst 1), (124, .if_icmp .ne 11), (127, .aload_n 0), (128, .iconst 1), (129, .iload_n 2), (130, .iload 4), (132, .invokevirtual 254), (135, .iconst 0), (136, .istore 5), (138, .iload_n 1), (139, .ifCond .ne 37), (142, .iload 5), (144, .aload_n 0), (145, .getfield 108), (148, .if_icmp .ge 28), (151, .aload_n 0), (152, .iconst 0), (153, .iload 5), (155, .aload_n 0), (156, .getfield 60), (159, .iload 5), (161, .aload_n 0), (162, .getfield 212), (165, .irem), (166, .iaload), (167, .invokevirtual 254), (170, .iinc 5 1), (173, .goto (-35)), (176, .iconst 0), (177, .istore 5), (179, .iload_n 1), (180, .iconst 2), (181, .if_icmp .ne 39), (184, .iload 5), (186, .aload_n 0), (187, .getfield 111), (190, .if_icmp .ge 30), (193, .aload_n 0), (194, .iconst 2), (195, .iload 5), (197, .iconst 1), (198, .aload_n 0), (199, .getfield 60), (202, .iload 5), (204, .aload_n 0), (205, .getfield 212), (208, .irem), (209, .iaload), (210, .ishl), (211, .invokevirtual 254), (214, .iinc 5 1), (217, .goto (-38)), (220, .iconst 0), (221, .ireturn)], [(93, [true, true, true, false, true, true]), (138, [true, true, false, false, false, true]), (179, [true, true, false, false, false, true])], lkX11)
def miX11_readText : sm_MI := (yX11_readText, cX11_readText, 2, (some .int), [(0, .aload_n 0), (1, .iconst 0), (2, .putfield 251), (5, .aload_n 0), (6, .iconst 0), (7, .putfield 248), (10, .iconst 0), (11, .istore_n 1), (12, .iload_n 1), (13, .bipush 8), (15, .if_icmp .ge 16), (18, .aload_n 0), (19, .getfield 54), (22, .iload_n 1), (23, .iconst (-1)), (24, .iastore), (25, .iinc 1 1), (28, .goto (-16)), (31, .aload_n 0), (32, .iconst 0), (33, .putfield 186), (36, .aload_n 0), (37, .invokevirtual 224), (40, .aload_n 0), (41, .getfield 192), (44, .ifCond .eq 91), (47, .aload_n 0), (48, .getfield 192), (51, .iconst 4), (52, .if_icmp .ne 10), (55, .aload_n 0), (56, .invokevirtual 257), (59, .goto 62), (62, .aload_n 0), (63, .getfield 192), (66, .iconst 5), (67, .if_icmp .ne 11), (70, .aload_n 0), (71, .iconst 0), (72, .invokevirtual 260), (75, .goto 46), (78, .aload_n 0), (79, .getfield 192), (82, .bipush 6), (84, .if_icmp .ne 11), (87, .aload_n 0), (88, .iconst 2), (89, .invokevirtual 260), (92, .goto 29), (95, .aload_n 0), (96, .getfield 192), (99, .bipush 7), (101, .if_icmp .ne 11), (104, .aload_n 0), (105, .iconst 1), (106, .invokevirtual 260), (109, .goto 12), (112, .aload_n 0), (113, .iconst 1), (114, .aload_n 0), (115, .getfield 180), (118, .invokevirtual 221), (121, .istore_n 1), (122, .iload_n 1), (123, .ifCond .eq 5), (126, .iload_n 1), (127, .ireturn), (128, .aload_n 0), (129, .invokevirtual 224), (132, .goto (-92)), (135, .iconst 0), (136, .ireturn)], [(12, [true, true]), (40, [true, false])], lkX11)
def miX11_text : sm_MI := (yX11_text, cX11_text, 2, (some .int), [(0, .aload_n 0), (1, .aload_n 0), (2, .invokevirtual 263), (5, .putfield 44), (8, .aload_n 0), (9, .aload_n 0), (10, .getfield 44), (13, .ifCond .ne 7), (16, .iconst (-1)), (17, .goto 7), (20, .aload_n 0), (21, .getfield 209), (24, .putfield 48), (27, .aload_n 0), (28, .iconst 0), (29, .putfield 162), (32, .aload_n 0), (33, .getfield 44), (36, .ifCond .ne 28), (39, .aload_n 0), (40, .getfield 121), (43, .sipush 400), (46, .if_icmp .eq 18), (49, .aload_n 0), (50, .getfield 118), (53, .aload_n 0), (54, .getfield 251), (57, .iadd), (58, .sipush 2000), (61, .if_icmp .le 5), (64, .iconst (-1)), (65, .ireturn), (66, .iconst 0), (67, .istore_n 1), (68, .iload_n 1), (69, .aload_n 0), (70, .getfield 251), (73, .if_icmp .ge 31), (76, .aload_n 0), (77, .aload_n 0), (78, .getfield 72), (81, .iload_n 1), (82, .iaload), (83, .aload_n 0), (84, .getfield 75), (87, .iload_n 1), (88, .iaload), (89, .aload_n 0), (90, .getfield 78), (93, .iload_n 1), (94, .iaload), (95, .invokevirtual 124), (98, .iinc 1 1), (101, .goto (-33)), (104, .aload_n 0), (105, .invokevirtual 128), (108, .ireturn)], [(68, [true, true])], lkX11)
def miX11_fault : sm_MI := (yX11_fault, cX11_fault, 2, (some .int), [(0, .iload_n 1), (1, .ifCond .ne 10), (4, .aload_n 0), (5, .getfield 44), (8, .goto 16), (11, .iload_n 1), (12, .iconst 1), (13, .if_icmp .ne 10), (16, .aload_n 0), (17, .getfield 48), (20, .goto 4), (23, .iconst (-1)), (24, .ireturn)], [], lkX11)
def miX11_runsOf : sm_MI := (yX11_runsOf, cX11_runsOf, 10, none, [(0, .iconst 0), (1, .istore 6), (3, .iload 5), (5, .ifCond .eq 36), (8, .iload 6), (10, .iload_n 3), (11, .if_icmp .ge 30), (14, .lload_n 1), (15, .iload 6), (17, .lshr), (18, .lconst 1), (19, .land), (20, .lconst 1), (21, .lcmp), (22, .ifCond .ne 7), (25, .iconst 1), (26, .goto 4), (29, .iconst 0), (30, .iload 4), (32, .if_icmp .ne 9), (35, .iinc 6 1), (38, .goto (-35)), (41, .iload 5), (43, .ifCond .eq 30), (46, .iload 6), (48, .iload_n 3), (49, .if_icmp .ne 24), (52, .aload_n 0), (53, .getfield 81), (56, .aload_n 0), (57, .getfield 266), (60, .iload_n 3), (61, .iastore), (62, .aload_n 0), (63, .dup), (64, .getfield 266), (67, .iconst 1), (68, .iadd), (69, .putfield 266), (72, .return_), (73, .iconst 0), (74, .istore 7), (76, .iconst 0), (77, .istore 8), (79, .iload 8), (81, .iload_n 3), (82, .if_icmp .gt 88), (85, .iload 8), (87, .iload_n 3), (88, .if_icmp .ge 33), (91, .lload_n 1), (92, .iload 6), (94, .iload 8), (96, .iadd), (97, .iload_n 3), (98, .irem), (99, .lshr), (100, .lconst 1), (101, .land), (102, .lconst 1), (103, .lcmp), (104, .ifCond .ne 7), (107, .iconst 1), (108, .goto 4), (111, .iconst 0), (112, .iload 4), (114, .if_icmp .ne 7), (117, .iconst 1), (118, .goto 4), (121, .iconst 0), (122, .istore 9), (124, .iload 9), (126, .ifCond .eq 9), (129, .iinc 7 1), (132, .goto 32), (135, .iload 7), (137, .ifCond .le 24), (140, .aload_n 0), (141, .getfield 81), (144, .aload_n 0), (145, .getfield 266), (148, .iload 7), (150, .iastore), (151, .aload_n 0), (152, .dup), (153, .getfield 266), (156, .iconst 1), (157, .iadd), (158, .putfield 266), (161, .iconst 0), (162, .istore 7), (164, .iinc 8 1), (167, .goto (-88)), (170, .return_)], [(3, [true, true, false, true, true, true, true, false, false, false]), (79, [true, true, false, true, true, false, true, true, true, false])], lkX11)
def miX11_findRuns : sm_MI := (yX11_findRuns, cX11_findRuns, 4, none, [(0, .aload_n 0), (1, .invokevirtual 157), (4, .aload_n 0), (5, .iconst 0), (6, .putfield 266), (9, .iconst 0), (10, .istore_n 3), (11, .iload_n 1), (12, .ifCond .eq 33), (15, .iload_n 3), (16, .aload_n 0), (17, .getfield 108), (20, .if_icmp .ge 25), (23, .aload_n 0), (24, .aload_n 0), (25, .getfield 38), (28, .iload_n 3), (29, .laload), (30, .aload_n 0), (31, .getfield 111), (34, .iconst 1), (35, .iload_n 2), (36, .invokevirtual 269), (39, .iinc 3 1), (42, .goto (-31)), (45, .iconst 0), (46, .istore_n 3), (47, .iload_n 1), (48, .ifCond .ne 33), (51, .iload_n 3), (52, .aload_n 0), (53, .getfield 111), (56, .if_icmp .ge 25), (59, .aload_n 0), (60, .aload_n 0), (61, .getfield 34), (64, .iload_n 3), (65, .laload), (66, .aload_n 0), (67, .getfield 108), (70, .iconst 0), (71, .iload_n 2), (72, .invokevirtual 269), (75, .iinc 3 1), (78, .goto (-31)), (81, .return_)], [(11, [true, true, true, true]), (47, [true, true, true, true])], lkX11)
def miX11_longest : sm_MI := (yX11_longest, cX11_longest, 5, (some .int), [(0, .aload_n 0), (1, .iload_n 1), (2, .iload_n 2), (3, .invokevirtual 273), (6, .iconst 0), (7, .istore_n 3), (8, .iconst 0), (9, .istore 4), (11, .iload 4), (13, .aload_n 0), (14, .getfield 266), (17, .if_icmp .ge 28), (20, .aload_n 0), (21, .getfield 81), (24, .iload 4), (26, .iaload), (27, .iload_n 3), (28, .if_icmp .le 11), (31, .aload_n 0), (32, .getfield 81), (35, .iload 4), (37, .iaload), (38, .istore_n 3), (39, .iinc 4 1), (42, .goto (-31)), (45, .iload_n 3), (46, .ireturn)], [(11, [true, false, false, true, true])], lkX11)
def miX11_floats : sm_MI := (yX11_floats, cX11_floats, 6, (some .int), [(0, .aload_n 0), (1, .iload_n 1), (2, .iload_n 2), (3, .invokevirtual 273), (6, .iconst 0), (7, .istore 4), (9, .iconst 0), (10, .istore 5), (12, .iload 5), (14, .aload_n 0), (15, .getfield 266), (18, .if_icmp .ge 30), (21, .iload 4), (23, .aload_n 0), (24, .getfield 81), (27, .iload 5), (29, .iaload), (30, .iload_n 3), (31, .if_icmp .le 7), (34, .iconst 1), (35, .goto 4), (38, .iconst 0), (39, .iadd), (40, .istore 4), (42, .iinc 5 1), (45, .goto (-33)), (48, .iload 4), (50, .ireturn)], [(12, [true, false, false, true, true, true])], lkX11)
def miX11_isPart : sm_MI := (yX11_isPart, cX11_isPart, 5, (some .boolean), [(0, .iload_n 1), (1, .iconst 0), (2, .aload_n 0), (3, .getfield 108), (6, .iconst 1), (7, .isub), (8, .invokestatic 114), (11, .ifCond .eq 50), (14, .iload_n 2), (15, .iload_n 1), (16, .aload_n 0), (17, .getfield 108), (20, .iconst 1), (21, .isub), (22, .invokestatic 114), (25, .ifCond .eq 36), (28, .iload_n 3), (29, .iconst 0), (30, .aload_n 0), (31, .getfield 111), (34, .iconst 1), (35, .isub), (36, .invokestatic 114), (39, .ifCond .eq 22), (42, .iload 4), (44, .iload_n 3), (45, .aload_n 0), (46, .getfield 111), (49, .iconst 1), (50, .isub), (51, .invokestatic 114), (54, .ifCond .eq 7), (57, .iconst 1), (58, .goto 4), (61, .iconst 0), (62, .ireturn)], [], lkX11)
def miX11_span : sm_MI := (yX11_span, cX11_span, 2, (some .long), [(0, .lconst 1), (1, .iload_n 1), (2, .iload_n 0), (3, .isub), (4, .iconst 1), (5, .iadd), (6, .lshl), (7, .lconst 1), (8, .lsub), (9, .iload_n 0), (10, .lshl), (11, .lreturn)], [], lkX11)
def miX11_reach : sm_MI := (yX11_reach, cX11_reach, 12, none, [(0, .iload_n 1), (1, .istore 5), (3, .iload 5), (5, .iload_n 2), (6, .if_icmp .gt 41), (9, .aload_n 0), (10, .getfield 84), (13, .iload 5), (15, .lconst 1), (16, .iload 5), (18, .lshl), (19, .lastore), (20, .aload_n 0), (21, .getfield 87), (24, .iload 5), (26, .aload_n 0), (27, .getfield 38), (30, .iload 5), (32, .laload), (33, .iload_n 3), (34, .iload 4), (36, .invokestatic 277), (39, .land), (40, .lastore), (41, .iinc 5 1), (44, .goto (-41)), (47, .iload_n 3), (48, .istore 5), (50, .iload 5), (52, .iload 4), (54, .if_icmp .gt 50), (57, .aload_n 0), (58, .getfield 84), (61, .bipush 48), (63, .iload 5), (65, .iadd), (66, .aload_n 0), (67, .getfield 34), (70, .iload 5), (72, .laload), (73, .ldc2_w 160), (76, .lxor), (77, .iload_n 1), (78, .iload_n 2), (79, .invokestatic 277), (82, .land), (83, .lastore), (84, .aload_n 0), (85, .getfield 87), (88, .bipush 48), (90, .iload 5), (92, .iadd), (93, .lconst 1), (94, .iload 5), (96, .lshl), (97, .lastore), (98, .iinc 5 1), (101, .goto (-51)), (104, .iconst 1), (105, .istore 5), (107, .iload 5), (109, .ifCond .eq 240), (112, .iconst 0), (113, .istore 5), (115, .iconst 0), (116, .istore 6), (118, .iload 6), (120, .bipush 96), (122, .if_icmp .ge 224), (125, .iload 6), (127, .iload_n 1), (128, .iload_n 2), (129, .iload_n 3), (130, .iload 4), (132, .invokestatic 281), (135, .ifCond .ne 6), (138, .goto 202), (141, .aload_n 0), (142, .getfield 84), (145, .iload 6), (147, .laload), (148, .lstore 7), (150, .aload_n 0), (151, .getfield 87), (154, .iload 6), (156, .laload), (157, .lstore 9), (159, .iload_n 1), (160, .istore 11), (162, .iload 11), (164, .iload_n 2), (165, .if_icmp .gt 53), (168, .aload_n 0), (169, .getfield 84), (172, .iload 6), (174, .laload), (175, .iload 11), (177, .lshr), (178, .lconst 1), (179, .land), (180, .lconst 0), (181, .lcmp), (182, .ifCond .ne 6), (185, .goto 27), (188, .lload 7), (190, .aload_n 0), (191, .getfield 84), (194, .iload 11), (196, .laload), (197, .lor), (198, .lstore 7), (200, .lload 9), (202, .aload_n 0), (203, .getfield 87), (206, .iload 11), (208, .laload), (209, .lor), (210, .lstore 9), (212, .iinc 11 1), (215, .goto (-53)), (218, .iload_n 3), (219, .istore 11), (221, .iload 11), (223, .iload 4), (225, .if_icmp .gt 59), (228, .aload_n 0), (229, .getfield 87), (232, .iload 6), (234, .laload), (235, .iload 11), (237, .lshr), (238, .lconst 1), (239, .land), (240, .lconst 0), (241, .lcmp), (242, .ifCond .ne 6), (245, .goto 33), (248, .lload 7), (250, .aload_n 0), (251, .getfield 84), (254, .bipush 48), (256, .iload 11), (258, .iadd), (259, .laload), (260, .lor), (261, .lstore 7), (263, .lload 9), (265, .aload_n 0), (266, .getfield 87), (269, .bipush 48), (271, .iload 11), (273, .iadd), (274, .laload), (275, .lor), (276, .lstore 9), (278, .iinc 11 1), (281, .goto (-60)), (284, .iload 5), (286, .ifCond .ne 29), (289, .lload 7), (291, .aload_n 0), (292, .getfield 84), (295, .iload 6), (297, .laload), (298, .lcmp), (299, .ifCond .ne 16), (302, .lload 9), (304, .aload_n 0), (305, .getfield 87), (308, .iload 6), (310, .laload), (311, .lcmp), (312, .ifCond .eq 7), (315, .iconst 1), (316, .goto 4), (319, .iconst 0), (320, .istore 5), (322, .aload_n 0), (323, .getfield 84), (326, .iload 6), (328, .lload 7), (330, .lastore), (331, .aload_n 0), (332, .getfield 87), (335, .iload 6), (337, .lload 9), (339, .lastore), (340, .iinc 6 1), (343, .goto (-225)), (346, .goto (-239)), (349, .return_)], [(3, [true, true, true, true, true, true, false, false, false, false, false, false]), (50, [true, true, true, true, true, true, false, false, false, false, false, false]), (107, [true, true, true, true, true, true, false, false, false, false, false, false]), (118, [true, true, true, true, true, true, true, false, false, false, false, false]), (162, [true, true, true, true, true, true, true, true, false, true, false, true]), (221, [true, true, true, true, true, true, true, true, false, true, false, true])], lkX11)
def miX11_isStrand : sm_MI := (yX11_isStrand, cX11_isStrand, 5, (some .boolean), [(0, .iload_n 0), (1, .bipush 48), (3, .if_icmp .ge 12), (6, .iload_n 0), (7, .iload_n 1), (8, .iload_n 2), (9, .invokestatic 114), (12, .goto 13), (15, .iload_n 0), (16, .bipush 48), (18, .isub), (19, .iload_n 3), (20, .iload 4), (22, .invokestatic 114), (25, .ireturn)], [], lkX11)
def miX11_isAbove : sm_MI := (yX11_isAbove, cX11_isAbove, 3, (some .boolean), [(0, .iload_n 2), (1, .bipush 48), (3, .if_icmp .ge 16), (6, .aload_n 0), (7, .getfield 84), (10, .iload_n 1), (11, .laload), (12, .iload_n 2), (13, .lshr), (14, .lconst 1), (15, .land), (16, .goto 16), (19, .aload_n 0), (20, .getfield 87), (23, .iload_n 1), (24, .laload), (25, .iload_n 2), (26, .bipush 48), (28, .isub), (29, .lshr), (30, .lconst 1), (31, .land), (32, .lconst 1), (33, .lcmp), (34, .ifCond .ne 7), (37, .iconst 1), (38, .goto 4), (41, .iconst 0), (42, .ireturn)], [], lkX11)
def miX11_number : sm_MI := (yX11_number, cX11_number, 8, none, [(0, .aload_n 0), (1, .invokevirtual 157), (4, .aload_n 0), (5, .iload_n 1), (6, .iload_n 2), (7, .iload_n 3), (8, .iload 4), (10, .invokevirtual 285), (13, .aload_n 0), (14, .iconst 0), (15, .putfield 289), (18, .iconst 0), (19, .istore 5), (21, .iload 5), (23, .bipush 96), (25, .if_icmp .ge 17), (28, .aload_n 0), (29, .getfield 90), (32, .iload 5), (34, .iconst (-1)), (35, .iastore), (36, .iinc 5 1), (39, .goto (-18)), (42, .iconst 1), (43, .istore 5), (45, .iload 5), (47, .ifCond .eq 165), (50, .iconst (-1)), (51, .istore 6), (53, .iconst 0), (54, .istore 7), (56, .iload 7), (58, .bipush 96), (60, .if_icmp .ge 55), (63, .iload 6), (65, .ifCond .ge 50), (68, .iload 7), (70, .iload_n 1), (71, .iload_n 2), (72, .iload_n 3), (73, .iload 4), (75, .invokestatic 281), (78, .ifCond .eq 31), (81, .aload_n 0), (82, .getfield 90), (85, .iload 7), (87, .iaload), (88, .ifCond .ge 21), (91, .aload_n 0), (92, .iload 7), (94, .iload_n 1), (95, .iload_n 2), (96, .iload_n 3), (97, .iload 4), (99, .invokevirtual 292), (102, .ifCond .eq 7), (105, .iload 7), (107, .istore 6), (109, .iinc 7 1), (112, .goto (-56)), (115, .iload 6), (117, .ifCond .lt 7), (120, .iconst 1), (121, .goto 4), (124, .iconst 0), (125, .istore 5), (127, .iconst 0), (128, .istore 7), (130, .iload 7), (132, .bipush 96), (134, .if_icmp .ge 60), (137, .iload 5), (139, .ifCond .eq 55), (142, .iload 7), (144, .iload_n 1), (145, .iload_n 2), (146, .iload_n 3), (147, .iload 4), (149, .invokestatic 281), (152, .ifCond .eq 36), (155, .aload_n 0), (156, .iload 6), (158, .iload 7), (160, .invokevirtual 295), (163, .ifCond .eq 25), (166, .aload_n 0), (167, .iload 7), (169, .iload 6), (171, .invokevirtual 295), (174, .ifCond .eq 14), (177, .aload_n 0), (178, .getfield 90), (181, .iload 7), (183, .aload_n 0), (184, .getfield 289), (187, .iastore), (188, .iinc 7 1), (191, .goto (-61)), (194, .iload 5), (196, .ifCond .eq 13), (199, .aload_n 0), (200, .dup), (201, .getfield 289), (204, .iconst 1), (205, .iadd), (206, .putfield 289), (209, .goto (-164)), (212, .return_)], [(21, [true, true, true, true, true, true, false, false]), (45, [true, true, true, true, true, true, false, false]), (56, [true, true, true, true, true, false, true, true]), (130, [true, true, true, true, true, true, true, true])], lkX11)
def miX11_isTop : sm_MI := (yX11_isTop, cX11_isTop, 7, (some .boolean), [(0, .iconst 0), (1, .istore 6), (3, .iload 6), (5, .bipush 96), (7, .if_icmp .ge 55), (10, .iload 6), (12, .iload_n 2), (13, .iload_n 3), (14, .iload 4), (16, .iload 5), (18, .invokestatic 281), (21, .ifCond .eq 35), (24, .aload_n 0), (25, .getfield 90), (28, .iload 6), (30, .iaload), (31, .ifCond .ge 25), (34, .aload_n 0), (35, .iload 6), (37, .iload_n 1), (38, .invokevirtual 295), (41, .ifCond .eq 15), (44, .aload_n 0), (45, .iload_n 1), (46, .iload 6), (48, .invokevirtual 295), (51, .ifCond .ne 5), (54, .iconst 0), (55, .ireturn), (56, .iinc 6 1), (59, .goto (-56)), (62, .iconst 1), (63, .ireturn)], [(3, [true, true, true, true, true, true, true])], lkX11)
def miX11_layers : sm_MI := (yX11_layers, cX11_layers, 5, (some .int), [(0, .aload_n 0), (1, .iload_n 1), (2, .iload_n 2), (3, .iload_n 3), (4, .iload 4), (6, .invokevirtual 299), (9, .ifCond .ne 5), (12, .iconst (-1)), (13, .ireturn), (14, .aload_n 0), (15, .iload_n 1), (16, .iload_n 2), (17, .iload_n 3), (18, .iload 4), (20, .invokevirtual 303), (23, .aload_n 0), (24, .getfield 289), (27, .ireturn)], [], lkX11)
def miX11_layer : sm_MI := (yX11_layer, cX11_layer, 6, (some .int), [(0, .aload_n 0), (1, .iload_n 1), (2, .iload_n 2), (3, .iload_n 3), (4, .iload 4), (6, .invokevirtual 299), (9, .ifCond .eq 23), (12, .iload 5), (14, .iconst 0), (15, .aload_n 0), (16, .getfield 108), (19, .aload_n 0), (20, .getfield 111), (23, .iadd), (24, .iconst 1), (25, .isub), (26, .invokestatic 114), (29, .ifCond .ne 5), (32, .iconst (-1)), (33, .ireturn), (34, .aload_n 0), (35, .iload_n 1), (36, .iload_n 2), (37, .iload_n 3), (38, .iload 4), (40, .invokevirtual 303), (43, .aload_n 0), (44, .getfield 90), (47, .iload 5), (49, .aload_n 0), (50, .getfield 108), (53, .if_icmp .ge 8), (56, .iload 5), (58, .goto 13), (61, .bipush 48), (63, .iload 5), (65, .iadd), (66, .aload_n 0), (67, .getfield 108), (70, .isub), (71, .iaload), (72, .ireturn)], [], lkX11)
def miX11_colourAt : sm_MI := (yX11_colourAt, cX11_colourAt, 3, (some .int), [(0, .aload_n 0), (1, .getfield 34), (4, .iload_n 2), (5, .laload), (6, .iload_n 1), (7, .lshr), (8, .lconst 1), (9, .land), (10, .lconst 1), (11, .lcmp), (12, .ifCond .ne 12), (15, .aload_n 0), (16, .iconst 3), (17, .iload_n 1), (18, .invokevirtual 151), (21, .goto 9), (24, .aload_n 0), (25, .iconst 4), (26, .iload_n 2), (27, .invokevirtual 151), (30, .ireturn)], [], lkX11)
def miX11_seenColour : sm_MI := (yX11_seenColour, cX11_seenColour, 3, (some .int), [(0, .aload_n 0), (1, .iload_n 1), (2, .invokevirtual 135), (5, .ifCond .eq 11), (8, .aload_n 0), (9, .iload_n 2), (10, .invokevirtual 144), (13, .ifCond .ne 5), (16, .iconst (-1)), (17, .ireturn), (18, .aload_n 0), (19, .invokevirtual 157), (22, .aload_n 0), (23, .iload_n 1), (24, .iload_n 2), (25, .invokevirtual 305), (28, .ireturn)], [], lkX11)
def miX11_paint : sm_MI := (yX11_paint, cX11_paint, 6, none, [(0, .aload_n 0), (1, .invokevirtual 157), (4, .iconst 0), (5, .istore_n 2), (6, .iload_n 2), (7, .aload_n 0), (8, .getfield 108), (11, .if_icmp .ge 96), (14, .aload_n 0), (15, .iconst 3), (16, .iload_n 2), (17, .invokevirtual 151), (20, .istore_n 3), (21, .iconst 0), (22, .istore 4), (24, .iload 4), (26, .aload_n 0), (27, .getfield 111), (30, .if_icmp .ge 71), (33, .aload_n 0), (34, .getfield 34), (37, .iload 4), (39, .laload), (40, .iload_n 2), (41, .lshr), (42, .lconst 1), (43, .land), (44, .lconst 1), (45, .lcmp), (46, .ifCond .ne 7), (49, .iconst 1), (50, .goto 4), (53, .iconst 0), (54, .istore 5), (56, .aload_n 0), (57, .getfield 93), (60, .bipush 48), (62, .iload 4), (64, .imul), (65, .iload_n 2), (66, .iadd), (67, .iload_n 1), (68, .ifCond .ne 16), (71, .iload 5), (73, .ifCond .eq 7), (76, .iconst 1), (77, .goto 17), (80, .iconst 0), (81, .goto 13), (84, .iload 5), (86, .ifCond .eq 7), (89, .iload_n 3), (90, .goto 4), (93, .iconst (-1)), (94, .iastore), (95, .iinc 4 1), (98, .goto (-74)), (101, .iinc 2 1), (104, .goto (-98)), (107, .iconst 0), (108, .istore_n 2), (109, .iload_n 1), (110, .ifCond .eq 70), (113, .iload_n 2), (114, .aload_n 0), (115, .getfield 111), (118, .if_icmp .ge 62), (121, .aload_n 0), (122, .iconst 4), (123, .iload_n 2), (124, .invokevirtual 151), (127, .istore_n 3), (128, .iconst 0), (129, .istore 4), (131, .iload 4), (133, .aload_n 0), (134, .getfield 108), (137, .if_icmp .ge 37), (140, .aload_n 0), (141, .getfield 93), (144, .bipush 48), (146, .iload_n 2), (147, .imul), (148, .iload 4), (150, .iadd), (151, .iaload), (152, .ifCond .ge 16), (155, .aload_n 0), (156, .getfield 93), (159, .bipush 48), (161, .iload_n 2), (162, .imul), (163, .iload 4), (165, .iadd), (166, .iload_n 3), (167, .iastore), (168, .iinc 4 1), (171, .goto (-40)), (174, .iinc 2 1), (177, .goto (-68)), (180, .return_)], [(6, [true, true, true, false, false, false]), (24, [true, true, true, true, true, false]), (109, [true, true, true, false, false, false]), (131, [true, true, true, true, true, false])], lkX11)
def miX11_coloured : sm_MI := (yX11_coloured, cX11_coloured, 5, (some .int), [(0, .iload_n 1), (1, .iconst 0), (2, .bipush 9), (4, .invokestatic 114), (7, .ifCond .ne 5), (10, .iconst (-1)), (11, .ireturn), (12, .aload_n 0), (13, .iconst 1), (14, .invokevirtual 308), (17, .iconst 0), (18, .istore_n 2), (19, .iconst 0), (20, .istore_n 3), (21, .iload_n 3), (22, .aload_n 0), (23, .getfield 108), (26, .if_icmp .ge 51), (29, .iconst 0), (30, .istore 4), (32, .iload 4), (34, .aload_n 0), (35, .getfield 111), (38, .if_icmp .ge 33), (41, .iload_n 2), (42, .aload_n 0), (43, .getfield 93), (46, .bipush 48), (48, .iload 4), (50, .imul), (51, .iload_n 3), (52, .iadd), (53, .iaload), (54, .iload_n 1), (55, .if_icmp .ne 7), (58, .iconst 1), (59, .goto 4), (62, .iconst 0), (63, .iadd), (64, .istore_n 2), (65, .iinc 4 1), (68, .goto (-36)), (71, .iinc 3 1), (74, .goto (-53)), (77, .iload_n 2), (78, .ireturn)], [(21, [true, true, true, true, false]), (32, [true, true, true, true, true])], lkX11)
def miX11_isAlike : sm_MI := (yX11_isAlike, cX11_isAlike, 5, (some .boolean), [(0, .iconst 0), (1, .istore_n 3), (2, .iload_n 3), (3, .aload_n 0), (4, .getfield 108), (7, .iload_n 1), (8, .ifCond .eq 7), (11, .iload_n 2), (12, .goto 4), (15, .iconst 0), (16, .isub), (17, .if_icmp .ge 87), (20, .iconst 0), (21, .istore 4), (23, .iload 4), (25, .aload_n 0), (26, .getfield 111), (29, .iload_n 1), (30, .ifCond .eq 7), (33, .iconst 0), (34, .goto 4), (37, .iload_n 2), (38, .isub), (39, .if_icmp .ge 59), (42, .aload_n 0), (43, .getfield 93), (46, .bipush 48), (48, .iload 4), (50, .imul), (51, .iload_n 3), (52, .iadd), (53, .iaload), (54, .aload_n 0), (55, .getfield 93), (58, .bipush 48), (60, .iload_n 1), (61, .ifCond .eq 8), (64, .iload 4), (66, .goto 7), (69, .iload 4), (71, .iload_n 2), (72, .iadd), (73, .imul), (74, .iload_n 1), (75, .ifCond .eq 9), (78, .iload_n 3), (79, .iload_n 2), (80, .iadd), (81, .goto 4), (84, .iload_n 3), (85, .iadd), (86, .iaload), (87, .if_icmp .eq 5), (90, .iconst 0), (91, .ireturn), (92, .iinc 4 1), (95, .goto (-72)), (98, .iinc 3 1), (101, .goto (-99)), (104, .iconst 1), (105, .ireturn)], [(2, [true, true, true, true, false]), (23, [true, true, true, true, true])], lkX11)
def miX11_period : sm_MI := (yX11_period, cX11_period, 5, (some .int), [(0, .aload_n 0), (1, .iload_n 2), (2, .invokevirtual 308), (5, .iload_n 1), (6, .ifCond .eq 10), (9, .aload_n 0), (10, .getfield 108), (13, .goto 7), (16, .aload_n 0), (17, .getfield 111), (20, .istore_n 3), (21, .iconst 1), (22, .istore 4), (24, .iload 4), (26, .iload_n 3), (27, .if_icmp .ge 19), (30, .aload_n 0), (31, .iload_n 1), (32, .iload 4), (34, .invokevirtual 312), (37, .ifCond .ne 9), (40, .iinc 4 1), (43, .goto (-19)), (46, .iload 4), (48, .ireturn)], [(24, [true, true, false, true, true])], lkX11)
def miX11_fewestOf : sm_MI := (yX11_fewestOf, cX11_fewestOf, 6, (some .int), [(0, .iconst 0), (1, .istore_n 2), (2, .iconst 0), (3, .istore_n 3), (4, .iload_n 3), (5, .iload_n 1), (6, .if_icmp .ge 75), (9, .aload_n 0), (10, .iload_n 3), (11, .laload), (12, .lconst 0), (13, .lcmp), (14, .ifCond .eq 7), (17, .iconst 1), (18, .goto 4), (21, .iconst 0), (22, .istore 4), (24, .iconst 0), (25, .istore 5), (27, .iload 5), (29, .iload_n 3), (30, .if_icmp .ge 32), (33, .iload 4), (35, .ifCond .eq 27), (38, .aload_n 0), (39, .iload 5), (41, .laload), (42, .aload_n 0), (43, .iload_n 3), (44, .laload), (45, .lcmp), (46, .ifCond .eq 7), (49, .iconst 1), (50, .goto 4), (53, .iconst 0), (54, .istore 4), (56, .iinc 5 1), (59, .goto (-32)), (62, .iload_n 2), (63, .iload 4), (65, .ifCond .eq 7), (68, .iconst 1), (69, .goto 4), (72, .iconst 0), (73, .iadd), (74, .istore_n 2), (75, .iinc 3 1), (78, .goto (-74)), (81, .iload_n 2), (82, .ireturn)], [(4, [true, true, true, true, false, false]), (27, [true, true, true, true, true, true])], lkX11)
def miX11_fewest : sm_MI := (yX11_fewest, cX11_fewest, 2, (some .int), [(0, .aload_n 0), (1, .invokevirtual 157), (4, .iload_n 1), (5, .ifCond .eq 17), (8, .aload_n 0), (9, .getfield 34), (12, .aload_n 0), (13, .getfield 111), (16, .invokestatic 316), (19, .goto 14), (22, .aload_n 0), (23, .getfield 38), (26, .aload_n 0), (27, .getfield 108), (30, .invokestatic 316), (33, .ireturn)], [], lkX11)
def miX11_usedShafts : sm_MI := (yX11_usedShafts, cX11_usedShafts, 3, (some .int), [(0, .iconst 0), (1, .istore_n 1), (2, .iconst 0), (3, .istore_n 2), (4, .iload_n 2), (5, .aload_n 0), (6, .getfield 108), (9, .if_icmp .ge 29), (12, .aload_n 0), (13, .getfield 22), (16, .iload_n 2), (17, .iaload), (18, .ifCond .lt 14), (21, .iload_n 1), (22, .iconst 1), (23, .aload_n 0), (24, .getfield 22), (27, .iload_n 2), (28, .iaload), (29, .ishl), (30, .ior), (31, .istore_n 1), (32, .iinc 2 1), (35, .goto (-31)), (38, .iload_n 1), (39, .ireturn)], [(4, [true, true, true])], lkX11)
def miX11_bits : sm_MI := (yX11_bits, cX11_bits, 3, (some .int), [(0, .iconst 0), (1, .istore_n 1), (2, .iconst 0), (3, .istore_n 2), (4, .iload_n 2), (5, .bipush 16), (7, .if_icmp .ge 17), (10, .iload_n 1), (11, .iload_n 0), (12, .iload_n 2), (13, .ishr), (14, .iconst 1), (15, .iand), (16, .iadd), (17, .istore_n 1), (18, .iinc 2 1), (21, .goto (-17)), (24, .iload_n 1), (25, .ireturn)], [(4, [true, true, true])], lkX11)
def miX11_pegs : sm_MI := (yX11_pegs, cX11_pegs, 5, (some .int), [(0, .aload_n 0), (1, .invokevirtual 157), (4, .aload_n 0), (5, .invokevirtual 320), (8, .istore_n 2), (9, .iconst 0), (10, .istore_n 3), (11, .iconst 0), (12, .istore 4), (14, .iload 4), (16, .aload_n 0), (17, .getfield 111), (20, .if_icmp .ge 43), (23, .iload_n 3), (24, .iload_n 1), (25, .ifCond .eq 20), (28, .iload_n 2), (29, .aload_n 0), (30, .getfield 31), (33, .iload 4), (35, .iaload), (36, .iconst (-1)), (37, .ixor), (38, .iand), (39, .invokestatic 323), (42, .goto 13), (45, .aload_n 0), (46, .getfield 31), (49, .iload 4), (51, .iaload), (52, .invokestatic 323), (55, .iadd), (56, .istore_n 3), (57, .iinc 4 1), (60, .goto (-46)), (63, .iload_n 3), (64, .ireturn)], [(14, [true, true, true, true, true])], lkX11)
def miX11_gather : sm_MI := (yX11_gather, cX11_gather, 6, none, [(0, .aload_n 0), (1, .invokevirtual 157), (4, .aload_n 0), (5, .invokevirtual 320), (8, .istore_n 1), (9, .aload_n 0), (10, .iconst 0), (11, .putfield 326), (14, .iconst 0), (15, .istore_n 2), (16, .iload_n 2), (17, .aload_n 0), (18, .getfield 111), (21, .if_icmp .ge 106), (24, .aload_n 0), (25, .getfield 326), (28, .iconst 5), (29, .if_icmp .gt 98), (32, .aload_n 0), (33, .getfield 31), (36, .iload_n 2), (37, .iaload), (38, .iload_n 1), (39, .iand), (40, .istore_n 3), (41, .iload_n 3), (42, .ifCond .eq 7), (45, .iconst 1), (46, .goto 4), (49, .iconst 0), (50, .istore 4), (52, .iconst 0), (53, .istore 5), (55, .iload 5), (57, .aload_n 0), (58, .getfield 326), (61, .if_icmp .ge 32), (64, .iload 4), (66, .ifCond .eq 27), (69, .aload_n 0), (70, .getfield 96), (73, .iload 5), (75, .iaload), (76, .iload_n 3), (77, .if_icmp .eq 7), (80, .iconst 1), (81, .goto 4), (84, .iconst 0), (85, .istore 4), (87, .iinc 5 1), (90, .goto (-35)), (93, .iload 4), (95, .ifCond .ne 6), (98, .goto 23), (101, .aload_n 0), (102, .getfield 96), (105, .aload_n 0), (106, .getfield 326), (109, .iload_n 3), (110, .iastore), (111, .aload_n 0), (112, .dup), (113, .getfield 326), (116, .iconst 1), (117, .iadd), (118, .putfield 326), (121, .iinc 2 1), (124, .goto (-108)), (127, .return_)], [(16, [true, true, true, false, false, false]), (55, [true, true, true, true, true, true])], lkX11)
def miX11_findCommons : sm_MI := (yX11_findCommons, cX11_findCommons, 5, none, [(0, .aload_n 0), (1, .iconst 0), (2, .putfield 329), (5, .iconst 1), (6, .istore_n 1), (7, .iload_n 1), (8, .iconst 1), (9, .aload_n 0), (10, .getfield 326), (13, .ishl), (14, .if_icmp .ge 148), (17, .ldc 143), (19, .istore_n 2), (20, .iconst 0), (21, .istore_n 3), (22, .iload_n 3), (23, .aload_n 0), (24, .getfield 326), (27, .if_icmp .ge 27), (30, .iload_n 1), (31, .iload_n 3), (32, .ishr), (33, .iconst 1), (34, .iand), (35, .iconst 1), (36, .if_icmp .ne 12), (39, .iload_n 2), (40, .aload_n 0), (41, .getfield 96), (44, .iload_n 3), (45, .iaload), (46, .iand), (47, .istore_n 2), (48, .iinc 3 1), (51, .goto (-29)), (54, .iconst 0), (55, .istore_n 3), (56, .iload_n 3), (57, .aload_n 0), (58, .getfield 329), (61, .if_icmp .ge 19), (64, .aload_n 0), (65, .getfield 99), (68, .iload_n 3), (69, .iaload), (70, .iload_n 2), (71, .if_icmp .ge 9), (74, .iinc 3 1), (77, .goto (-21)), (80, .iload_n 2), (81, .ifCond .eq 75), (84, .iload_n 3), (85, .aload_n 0), (86, .getfield 329), (89, .if_icmp .ge 16), (92, .aload_n 0), (93, .getfield 99), (96, .iload_n 3), (97, .iaload), (98, .iload_n 2), (99, .if_icmp .ne 6), (102, .goto 54), (105, .aload_n 0), (106, .getfield 329), (109, .istore 4), (111, .iload 4), (113, .iload_n 3), (114, .if_icmp .le 25), (117, .aload_n 0), (118, .getfield 99), (121, .iload 4), (123, .aload_n 0), (124, .getfield 99), (127, .iload 4), (129, .iconst 1), (130, .isub), (131, .iaload), (132, .iastore), (133, .iinc 4 (-1)), (136, .goto (-25)), (139, .aload_n 0), (140, .getfield 99), (143, .iload_n 3), (144, .iload_n 2), (145, .iastore), (146, .aload_n 0), (147, .dup), (148, .getfield 329), (151, .iconst 1), (152, .iadd), (153, .putfield 329), (156, .iinc 1 1), (159, .goto (-152)), (162, .return_)], [(7, [true, true, false, false, false]), (22, [true, true, true, true, false]), (56, [true, true, true, true, false]), (111, [true, true, true, true, true])], lkX11)
def miX11_covers : sm_MI := (yX11_covers, cX11_covers, 5, (some .boolean), [(0, .iconst 0), (1, .istore_n 2), (2, .iload_n 2), (3, .aload_n 0), (4, .getfield 326), (7, .if_icmp .ge 77), (10, .iconst 0), (11, .istore_n 3), (12, .iconst 0), (13, .istore 4), (15, .iload 4), (17, .iload_n 1), (18, .if_icmp .ge 48), (21, .aload_n 0), (22, .getfield 99), (25, .aload_n 0), (26, .getfield 102), (29, .iload 4), (31, .iaload), (32, .iaload), (33, .aload_n 0), (34, .getfield 96), (37, .iload_n 2), (38, .iaload), (39, .iconst (-1)), (40, .ixor), (41, .iand), (42, .ifCond .ne 18), (45, .iload_n 3), (46, .aload_n 0), (47, .getfield 99), (50, .aload_n 0), (51, .getfield 102), (54, .iload 4), (56, .iaload), (57, .iaload), (58, .ior), (59, .istore_n 3), (60, .iinc 4 1), (63, .goto (-48)), (66, .iload_n 3), (67, .aload_n 0), (68, .getfield 96), (71, .iload_n 2), (72, .iaload), (73, .if_icmp .eq 5), (76, .iconst 0), (77, .ireturn), (78, .iinc 2 1), (81, .goto (-79)), (84, .iconst 1), (85, .ireturn)], [(2, [true, true, true, false, false]), (15, [true, true, true, true, true])], lkX11)
def miX11_chooses : sm_MI := (yX11_chooses, cX11_chooses, 5, (some .boolean), [(0, .iload_n 1), (1, .aload_n 0), (2, .getfield 329), (5, .if_icmp .le 5), (8, .iconst 0), (9, .ireturn), (10, .iconst 0), (11, .istore_n 2), (12, .iload_n 2), (13, .iload_n 1), (14, .if_icmp .ge 16), (17, .aload_n 0), (18, .getfield 102), (21, .iload_n 2), (22, .iload_n 2), (23, .iastore), (24, .iinc 2 1), (27, .goto (-15)), (30, .iconst 1), (31, .istore_n 2), (32, .iload_n 2), (33, .ifCond .eq 106), (36, .aload_n 0), (37, .iload_n 1), (38, .invokevirtual 332), (41, .ifCond .eq 5), (44, .iconst 1), (45, .ireturn), (46, .iload_n 1), (47, .iconst 1), (48, .isub), (49, .istore_n 3), (50, .iload_n 3), (51, .ifCond .lt 26), (54, .aload_n 0), (55, .getfield 102), (58, .iload_n 3), (59, .iaload), (60, .aload_n 0), (61, .getfield 329), (64, .iload_n 1), (65, .isub), (66, .iload_n 3), (67, .iadd), (68, .if_icmp .ne 9), (71, .iinc 3 (-1)), (74, .goto (-24)), (77, .iload_n 3), (78, .ifCond .lt 7), (81, .iconst 1), (82, .goto 4), (85, .iconst 0), (86, .istore_n 2), (87, .iload_n 2), (88, .ifCond .eq 48), (91, .aload_n 0), (92, .getfield 102), (95, .iload_n 3), (96, .dup2), (97, .iaload), (98, .iconst 1), (99, .iadd), (100, .iastore), (101, .iload_n 3), (102, .iconst 1), (103, .iadd), (104, .istore 4), (106, .iload 4), (108, .iload_n 1), (109, .if_icmp .ge 27), (112, .aload_n 0), (113, .getfield 102), (116, .iload 4), (118, .aload_n 0), (119, .getfield 102), (122, .iload 4), (124, .iconst 1), (125, .isub), (126, .iaload), (127, .iconst 1), (128, .iadd), (129, .iastore), (130, .iinc 4 1), (133, .goto (-27)), (136, .goto (-104)), (139, .iconst 0), (140, .ireturn)], [(12, [true, true, true, false, false]), (32, [true, true, true, false, false]), (50, [true, true, false, true, false]), (106, [true, true, true, false, true])], lkX11)
def miX11_cover : sm_MI := (yX11_cover, cX11_cover, 3, (some .int), [(0, .aload_n 0), (1, .invokevirtual 335), (4, .aload_n 0), (5, .getfield 326), (8, .iconst 5), (9, .if_icmp .le 5), (12, .iconst (-1)), (13, .ireturn), (14, .aload_n 0), (15, .invokevirtual 338), (18, .iconst 0), (19, .istore_n 2), (20, .aload_n 0), (21, .iload_n 2), (22, .invokevirtual 341), (25, .ifCond .ne 9), (28, .iinc 2 1), (31, .goto (-11)), (34, .iload_n 1), (35, .iconst (-1)), (36, .if_icmp .ne 7), (39, .iload_n 2), (40, .goto 29), (43, .iload_n 1), (44, .iconst 0), (45, .iload_n 2), (46, .iconst 1), (47, .isub), (48, .invokestatic 114), (51, .ifCond .eq 17), (54, .aload_n 0), (55, .getfield 99), (58, .aload_n 0), (59, .getfield 102), (62, .iload_n 1), (63, .iaload), (64, .iaload), (65, .goto 4), (68, .iconst (-1)), (69, .ireturn)], [(20, [true, true, true])], lkX11)
def miX11_seen : sm_MI := (yX11_seen, cX11_seen, 4, (some .boolean), [(0, .aload_n 0), (1, .iload_n 1), (2, .invokevirtual 144), (5, .ifCond .ne 5), (8, .iconst 0), (9, .ireturn), (10, .aload_n 0), (11, .getfield 105), (14, .iload_n 1), (15, .lload_n 2), (16, .iconst 0), (17, .aload_n 0), (18, .getfield 108), (21, .iconst 1), (22, .isub), (23, .invokestatic 277), (26, .land), (27, .lastore), (28, .iconst 1), (29, .ireturn)], [], lkX11)
def miX11_seenColumn : sm_MI := (yX11_seenColumn, cX11_seenColumn, 5, (some .long), [(0, .lconst 0), (1, .lstore_n 2), (2, .iconst 0), (3, .istore 4), (5, .iload 4), (7, .aload_n 0), (8, .getfield 111), (11, .if_icmp .ge 26), (14, .lload_n 2), (15, .aload_n 0), (16, .getfield 105), (19, .iload 4), (21, .laload), (22, .iload_n 1), (23, .lshr), (24, .lconst 1), (25, .land), (26, .iload 4), (28, .lshl), (29, .lor), (30, .lstore_n 2), (31, .iinc 4 1), (34, .goto (-29)), (37, .lload_n 2), (38, .lreturn)], [(5, [true, true, true, false, true])], lkX11)
def miX11_columnBy : sm_MI := (yX11_columnBy, cX11_columnBy, 5, (some .long), [(0, .lconst 0), (1, .lstore_n 2), (2, .iconst 0), (3, .istore 4), (5, .iload 4), (7, .aload_n 0), (8, .getfield 111), (11, .if_icmp .ge 31), (14, .iload_n 1), (15, .ifCond .lt 27), (18, .lload_n 2), (19, .aload_n 0), (20, .getfield 31), (23, .iload 4), (25, .iaload), (26, .iload_n 1), (27, .ishr), (28, .iconst 1), (29, .iand), (30, .i2l), (31, .iload 4), (33, .lshl), (34, .lor), (35, .lstore_n 2), (36, .iinc 4 1), (39, .goto (-34)), (42, .lload_n 2), (43, .lreturn)], [(5, [true, true, true, false, true])], lkX11)
def miX11_unlike : sm_MI := (yX11_unlike, cX11_unlike, 7, (some .int), [(0, .iconst 0), (1, .istore 4), (3, .lload_n 0), (4, .lload_n 2), (5, .lxor), (6, .lstore 5), (8, .lload 5), (10, .lconst 0), (11, .lcmp), (12, .ifCond .eq 18), (15, .iinc 4 1), (18, .lload 5), (20, .lload 5), (22, .lconst 1), (23, .lsub), (24, .land), (25, .lstore 5), (27, .goto (-19)), (30, .iload 4), (32, .ireturn)], [(8, [false, false, false, false, true, true, false])], lkX11)
def miX11_wrong : sm_MI := (yX11_wrong, cX11_wrong, 2, (some .int), [(0, .aload_n 0), (1, .iload_n 1), (2, .invokevirtual 135), (5, .ifCond .ne 5), (8, .iconst (-1)), (9, .ireturn), (10, .aload_n 0), (11, .invokevirtual 157), (14, .aload_n 0), (15, .getfield 38), (18, .iload_n 1), (19, .laload), (20, .aload_n 0), (21, .iload_n 1), (22, .invokevirtual 344), (25, .invokestatic 348), (28, .ireturn)], [], lkX11)
def miX11_nearestOf : sm_MI := (yX11_nearestOf, cX11_nearestOf, 6, (some .int), [(0, .aload_n 0), (1, .iload_n 1), (2, .invokevirtual 344), (5, .lstore_n 2), (6, .aload_n 0), (7, .getfield 22), (10, .iload_n 1), (11, .iaload), (12, .istore 4), (14, .aload_n 0), (15, .iconst (-1)), (16, .invokevirtual 352), (19, .lload_n 2), (20, .invokestatic 348), (23, .aload_n 0), (24, .iload 4), (26, .invokevirtual 352), (29, .lload_n 2), (30, .invokestatic 348), (33, .if_icmp .ge 6), (36, .iconst (-1)), (37, .istore 4), (39, .iconst 0), (40, .istore 5), (42, .iload 5), (44, .bipush 16), (46, .if_icmp .ge 36), (49, .aload_n 0), (50, .iload 5), (52, .invokevirtual 352), (55, .lload_n 2), (56, .invokestatic 348), (59, .aload_n 0), (60, .iload 4), (62, .invokevirtual 352), (65, .lload_n 2), (66, .invokestatic 348), (69, .if_icmp .ge 7), (72, .iload 5), (74, .istore 4), (76, .iinc 5 1), (79, .goto (-37)), (82, .iload 4), (84, .ireturn)], [(42, [true, false, true, false, true, true])], lkX11)
def miX11_nearest : sm_MI := (yX11_nearest, cX11_nearest, 4, (some .int), [(0, .aload_n 0), (1, .iload_n 1), (2, .invokevirtual 135), (5, .ifCond .eq 12), (8, .iload_n 2), (9, .iconst 0), (10, .iconst 1), (11, .invokestatic 114), (14, .ifCond .ne 6), (17, .bipush (-2)), (19, .ireturn), (20, .aload_n 0), (21, .invokevirtual 157), (24, .aload_n 0), (25, .iload_n 1), (26, .invokevirtual 355), (29, .istore_n 3), (30, .iload_n 2), (31, .ifCond .ne 7), (34, .iload_n 3), (35, .goto 16), (38, .aload_n 0), (39, .iload_n 3), (40, .invokevirtual 352), (43, .aload_n 0), (44, .iload_n 1), (45, .invokevirtual 344), (48, .invokestatic 348), (51, .ireturn)], [], lkX11)
def miX11_costOfEnds : sm_MI := (yX11_costOfEnds, cX11_costOfEnds, 4, (some .int), [(0, .iconst 0), (1, .istore_n 1), (2, .iconst 0), (3, .istore_n 2), (4, .iload_n 2), (5, .aload_n 0), (6, .getfield 108), (9, .if_icmp .ge 51), (12, .aload_n 0), (13, .iload_n 2), (14, .invokevirtual 355), (17, .istore_n 3), (18, .aload_n 0), (19, .iload_n 3), (20, .invokevirtual 352), (23, .aload_n 0), (24, .iload_n 2), (25, .invokevirtual 344), (28, .invokestatic 348), (31, .ifCond .le 5), (34, .iconst (-1)), (35, .ireturn), (36, .iload_n 1), (37, .iload_n 3), (38, .aload_n 0), (39, .getfield 22), (42, .iload_n 2), (43, .iaload), (44, .if_icmp .eq 7), (47, .iconst 1), (48, .goto 4), (51, .iconst 0), (52, .iadd), (53, .istore_n 1), (54, .iinc 2 1), (57, .goto (-53)), (60, .iload_n 1), (61, .ireturn)], [(4, [true, true, true, false])], lkX11)
def miX11_mend : sm_MI := (yX11_mend, cX11_mend, 4, none, [(0, .aload_n 0), (1, .invokevirtual 157), (4, .aload_n 0), (5, .aload_n 0), (6, .invokevirtual 358), (9, .putfield 361), (12, .aload_n 0), (13, .iconst (-1)), (14, .putfield 364), (17, .aload_n 0), (18, .iconst (-1)), (19, .putfield 367), (22, .iconst 0), (23, .istore_n 1), (24, .iload_n 1), (25, .bipush 16), (27, .if_icmp .ge 97), (30, .iconst 0), (31, .istore_n 2), (32, .iload_n 2), (33, .bipush 16), (35, .if_icmp .ge 83), (38, .aload_n 0), (39, .getfield 25), (42, .iload_n 1), (43, .dup2), (44, .iaload), (45, .iconst 1), (46, .iload_n 2), (47, .ishl), (48, .ixor), (49, .iastore), (50, .aload_n 0), (51, .invokevirtual 154), (54, .aload_n 0), (55, .invokevirtual 358), (58, .istore_n 3), (59, .aload_n 0), (60, .getfield 25), (63, .iload_n 1), (64, .dup2), (65, .iaload), (66, .iconst 1), (67, .iload_n 2), (68, .ishl), (69, .ixor), (70, .iastore), (71, .iload_n 3), (72, .ifCond .lt 40), (75, .aload_n 0), (76, .getfield 361), (79, .ifCond .lt 16), (82, .iload_n 3), (83, .iconst 1), (84, .iadd), (85, .aload_n 0), (86, .getfield 361), (89, .if_icmp .lt 6), (92, .goto 20), (95, .aload_n 0), (96, .iload_n 3), (97, .iconst 1), (98, .iadd), (99, .putfield 361), (102, .aload_n 0), (103, .iload_n 1), (104, .putfield 364), (107, .aload_n 0), (108, .iload_n 2), (109, .putfield 367), (112, .iinc 2 1), (115, .goto (-83)), (118, .iinc 1 1), (121, .goto (-97)), (124, .aload_n 0), (125, .invokevirtual 154), (128, .return_)], [(24, [true, true, false, false]), (32, [true, true, true, false])], lkX11)
def miX11_mended : sm_MI := (yX11_mended, cX11_mended, 2, (some .int), [(0, .iload_n 1), (1, .iconst 0), (2, .iconst 2), (3, .invokestatic 114), (6, .ifCond .ne 6), (9, .bipush (-2)), (11, .ireturn), (12, .aload_n 0), (13, .invokevirtual 370), (16, .aload_n 0), (17, .getfield 361), (20, .ifCond .ge 8), (23, .bipush (-2)), (25, .goto 30), (28, .iload_n 1), (29, .ifCond .ne 10), (32, .aload_n 0), (33, .getfield 361), (36, .goto 19), (39, .iload_n 1), (40, .iconst 1), (41, .if_icmp .ne 10), (44, .aload_n 0), (45, .getfield 364), (48, .goto 7), (51, .aload_n 0), (52, .getfield 367), (55, .ireturn)], [], lkX11)
def miX11_mendedShaft : sm_MI := (yX11_mendedShaft, cX11_mendedShaft, 2, (some .int), [(0, .aload_n 0), (1, .iload_n 1), (2, .invokevirtual 135), (5, .ifCond .ne 6), (8, .bipush (-2)), (10, .ireturn), (11, .aload_n 0), (12, .invokevirtual 370), (15, .aload_n 0), (16, .getfield 361), (19, .ifCond .ge 6), (22, .bipush (-2)), (24, .ireturn), (25, .aload_n 0), (26, .getfield 364), (29, .ifCond .lt 21), (32, .aload_n 0), (33, .getfield 25), (36, .aload_n 0), (37, .getfield 364), (40, .dup2), (41, .iaload), (42, .iconst 1), (43, .aload_n 0), (44, .getfield 367), (47, .ishl), (48, .ixor), (49, .iastore), (50, .aload_n 0), (51, .invokevirtual 154), (54, .aload_n 0), (55, .iload_n 1), (56, .invokevirtual 355), (59, .ireturn)], [], lkX11)
def miX11_isMoved : sm_MI := (yX11_isMoved, cX11_isMoved, 7, (some .boolean), [(0, .iconst 0), (1, .istore_n 3), (2, .iload_n 3), (3, .aload_n 0), (4, .getfield 111), (7, .if_icmp .ge 83), (10, .aload_n 0), (11, .getfield 34), (14, .iload_n 3), (15, .iload_n 2), (16, .isub), (17, .aload_n 0), (18, .getfield 111), (21, .iadd), (22, .aload_n 0), (23, .getfield 111), (26, .irem), (27, .laload), (28, .lstore 4), (30, .iconst 0), (31, .istore 6), (33, .iload 6), (35, .aload_n 0), (36, .getfield 108), (39, .if_icmp .ge 45), (42, .aload_n 0), (43, .getfield 105), (46, .iload_n 3), (47, .laload), (48, .iload 6), (50, .lshr), (51, .lconst 1), (52, .land), (53, .lload 4), (55, .iload 6), (57, .iload_n 1), (58, .isub), (59, .aload_n 0), (60, .getfield 108), (63, .iadd), (64, .aload_n 0), (65, .getfield 108), (68, .irem), (69, .lshr), (70, .lconst 1), (71, .land), (72, .lcmp), (73, .ifCond .eq 5), (76, .iconst 0), (77, .ireturn), (78, .iinc 6 1), (81, .goto (-48)), (84, .iinc 3 1), (87, .goto (-85)), (90, .iconst 1), (91, .ireturn)], [(2, [true, true, true, true, false, false, false]), (33, [true, true, true, true, true, false, true])], lkX11)
def miX11_shifted : sm_MI := (yX11_shifted, cX11_shifted, 4, (some .int), [(0, .aload_n 0), (1, .invokevirtual 157), (4, .iconst 0), (5, .istore_n 2), (6, .iload_n 2), (7, .aload_n 0), (8, .getfield 111), (11, .if_icmp .ge 44), (14, .iconst 0), (15, .istore_n 3), (16, .iload_n 3), (17, .aload_n 0), (18, .getfield 108), (21, .if_icmp .ge 28), (24, .aload_n 0), (25, .iload_n 3), (26, .iload_n 2), (27, .invokevirtual 373), (30, .ifCond .eq 13), (33, .iload_n 1), (34, .ifCond .eq 7), (37, .iload_n 3), (38, .goto 4), (41, .iload_n 2), (42, .ireturn), (43, .iinc 3 1), (46, .goto (-30)), (49, .iinc 2 1), (52, .goto (-46)), (55, .iconst (-1)), (56, .ireturn)], [(6, [true, true, true, false]), (16, [true, true, true, true])], lkX11)
def miX11_about : sm_MI := (yX11_about, cX11_about, 4, (some .int), [(0, .aload_n 0), (1, .invokevirtual 157), (4, .iconst 0), (5, .istore_n 2), (6, .iload_n 1), (7, .tableswitch 141 0 7 #[45, 50, 55, 60, 65, 70, 101, 106]), (52, .aload_n 0), (53, .getfield 108), (56, .ireturn), (57, .aload_n 0), (58, .getfield 111), (61, .ireturn), (62, .aload_n 0), (63, .getfield 121), (66, .ireturn), (67, .aload_n 0), (68, .getfield 132), (71, .ireturn), (72, .aload_n 0), (73, .getfield 118), (76, .ireturn), (77, .iconst 0), (78, .istore_n 3), (79, .iload_n 3), (80, .aload_n 0), (81, .getfield 108), (84, .if_icmp .ge 22), (87, .iload_n 2), (88, .aload_n 0), (89, .getfield 38), (92, .iload_n 3), (93, .laload), (94, .lconst 0), (95, .invokestatic 348), (98, .iadd), (99, .istore_n 2), (100, .iinc 3 1), (103, .goto (-24)), (106, .iload_n 2), (107, .ireturn), (108, .aload_n 0), (109, .getfield 162), (112, .ireturn), (113, .iconst 0), (114, .istore_n 3), (115, .iload_n 3), (116, .aload_n 0), (117, .getfield 108), (120, .if_icmp .ge 26), (123, .iload_n 2), (124, .aload_n 0), (125, .getfield 22), (128, .iload_n 3), (129, .iaload), (130, .ifCond .lt 7), (133, .iconst 1), (134, .goto 4), (137, .iconst 0), (138, .iadd), (139, .istore_n 2), (140, .iinc 3 1), (143, .goto (-28)), (146, .iload_n 2), (147, .ireturn), (148, .iconst (-1)), (149, .ireturn)], [(79, [true, false, true, true]), (115, [true, false, true, true])], lkX11)
def miJ6_numberOfTrailingZeros_0f7a4 : sm_MI := (yJ6_numberOfTrailingZeros_0f7a4, cJ6_numberOfTrailingZeros_0f7a4, 2, (some .int), [(0, .iload_n 0), (1, .iconst (-1)), (2, .ixor), (3, .iload_n 0), (4, .iconst 1), (5, .isub), (6, .iand), (7, .istore_n 0), (8, .iload_n 0), (9, .ifCond .gt 8), (12, .iload_n 0), (13, .bipush 32), (15, .iand), (16, .ireturn), (17, .iconst 1), (18, .istore_n 1), (19, .iload_n 0), (20, .ldc_w 264), (23, .if_icmp .le 11), (26, .iinc 1 16), (29, .iload_n 0), (30, .bipush 16), (32, .iushr), (33, .istore_n 0), (34, .iload_n 0), (35, .sipush 256), (38, .if_icmp .le 11), (41, .iinc 1 8), (44, .iload_n 0), (45, .bipush 8), (47, .iushr), (48, .istore_n 0), (49, .iload_n 0), (50, .bipush 16), (52, .if_icmp .le 10), (55, .iinc 1 4), (58, .iload_n 0), (59, .iconst 4), (60, .iushr), (61, .istore_n 0), (62, .iload_n 0), (63, .iconst 4), (64, .if_icmp .le 10), (67, .iinc 1 2), (70, .iload_n 0), (71, .iconst 2), (72, .iushr), (73, .istore_n 0), (74, .iload_n 1), (75, .iload_n 0), (76, .iconst 1), (77, .iushr), (78, .iadd), (79, .ireturn)], [], lkJ6)
def miJ6_bitCount_0f7a4 : sm_MI := (yJ6_bitCount_0f7a4, cJ6_bitCount_0f7a4, 1, (some .int), [(0, .iload_n 0), (1, .iload_n 0), (2, .iconst 1), (3, .iushr), (4, .ldc_w 265), (7, .iand), (8, .isub), (9, .istore_n 0), (10, .iload_n 0), (11, .ldc_w 266), (14, .iand), (15, .iload_n 0), (16, .iconst 2), (17, .iushr), (18, .ldc_w 266), (21, .iand), (22, .iadd), (23, .istore_n 0), (24, .iload_n 0), (25, .iload_n 0), (26, .iconst 4), (27, .iushr), (28, .iadd), (29, .ldc_w 267), (32, .iand), (33, .istore_n 0), (34, .iload_n 0), (35, .iload_n 0), (36, .bipush 8), (38, .iushr), (39, .iadd), (40, .istore_n 0), (41, .iload_n 0), (42, .iload_n 0), (43, .bipush 16), (45, .iushr), (46, .iadd), (47, .istore_n 0), (48, .iload_n 0), (49, .bipush 63), (51, .iand), (52, .ireturn)], [], lkJ6)
def miJ13_numberOfTrailingZeros_95d88 : sm_MI := (yJ13_numberOfTrailingZeros_95d88, cJ13_numberOfTrailingZeros_95d88, 3, (some .int), [(0, .lload_n 0), (1, .l2i), (2, .istore_n 2), (3, .iload_n 2), (4, .ifCond .ne 17), (7, .bipush 32), (9, .lload_n 0), (10, .bipush 32), (12, .lushr), (13, .l2i), (14, .invokestatic 311), (17, .iadd), (18, .goto 7), (21, .iload_n 2), (22, .invokestatic 311), (25, .ireturn)], [], lkJ13)
def miJ13_bitCount_95d88 : sm_MI := (yJ13_bitCount_95d88, cJ13_bitCount_95d88, 2, (some .int), [(0, .lload_n 0), (1, .lload_n 0), (2, .iconst 1), (3, .lushr), (4, .ldc2_w 314), (7, .land), (8, .lsub), (9, .lstore_n 0), (10, .lload_n 0), (11, .ldc2_w 316), (14, .land), (15, .lload_n 0), (16, .iconst 2), (17, .lushr), (18, .ldc2_w 316), (21, .land), (22, .ladd), (23, .lstore_n 0), (24, .lload_n 0), (25, .lload_n 0), (26, .iconst 4), (27, .lushr), (28, .ladd), (29, .ldc2_w 318), (32, .land), (33, .lstore_n 0), (34, .lload_n 0), (35, .lload_n 0), (36, .bipush 8), (38, .lushr), (39, .ladd), (40, .lstore_n 0), (41, .lload_n 0), (42, .lload_n 0), (43, .bipush 16), (45, .lushr), (46, .ladd), (47, .lstore_n 0), (48, .lload_n 0), (49, .lload_n 0), (50, .bipush 32), (52, .lushr), (53, .ladd), (54, .lstore_n 0), (55, .lload_n 0), (56, .l2i), (57, .bipush 127), (59, .iand), (60, .ireturn)], [], lkJ13)
def miJ7_fill_d0a16 : sm_MI := (yJ7_fill_d0a16, cJ7_fill_d0a16, 5, none, [(0, .iconst 0), (1, .istore_n 3), (2, .aload_n 0), (3, .arraylength), (4, .istore 4), (6, .iload_n 3), (7, .iload 4), (9, .if_icmp .ge 13), (12, .aload_n 0), (13, .iload_n 3), (14, .lload_n 1), (15, .lastore), (16, .iinc 3 1), (19, .goto (-13)), (22, .return_)], [(6, [true, true, false, true, true])], lkJ7)
def miJ7_fill_53178 : sm_MI := (yJ7_fill_53178, cJ7_fill_53178, 4, none, [(0, .iconst 0), (1, .istore_n 2), (2, .aload_n 0), (3, .arraylength), (4, .istore_n 3), (5, .iload_n 2), (6, .iload_n 3), (7, .if_icmp .ge 13), (10, .aload_n 0), (11, .iload_n 2), (12, .iload_n 1), (13, .iastore), (14, .iinc 2 1), (17, .goto (-12)), (20, .return_)], [(5, [true, true, true, true])], lkJ7)
def miL_cell : sm_MI := (yL_cell, cL_cell, 2, (some .int), [(0, .iload_n 1), (1, .aload_n 0), (2, .arraylength), (3, .if_icmp .ge 9), (6, .aload_n 0), (7, .iload_n 1), (8, .iaload), (9, .goto 4), (12, .iconst 0), (13, .ireturn)], [], lkL)
def tbL_law_0 : List (Nat × Instr) := [(0, .new 7), (3, .dup), (4, .aload_n 0), (5, .iconst 0), (6, .invokestatic 9), (9, .aload_n 0), (10, .iconst 1), (11, .invokestatic 9), (14, .invokespecial 15), (17, .astore_n 1), (18, .new 18), (21, .dup), (22, .aload_n 0), (23, .iconst 0), (24, .invokestatic 9), (27, .aload_n 0), (28, .iconst 1), (29, .invokestatic 9), (32, .invokespecial 20), (35, .astore_n 2), (36, .iconst 2), (37, .istore_n 3), (38, .iload_n 3), (39, .aload_n 0), (40, .arraylength), (41, .bipush 6), (43, .isub), (44, .if_icmp .gt 1271), (47, .aload_n 0), (48, .iload_n 3), (49, .iaload), (50, .bipush 31), (52, .iand), (53, .tableswitch 1256 0 29 #[135, 168, 201, 234, 293, 356, 379, 392, 415, 438, 461, 484, 508, 551, 616, 691, 744, 807, 840, 863, 928, 967, 1006, 1029, 1092, 1115, 1148, 1171, 1194, 1233]), (188, .aload_n 1), (189, .aload_n 0), (190, .iload_n 3), (191, .iconst 1), (192, .iadd), (193, .iaload), (194, .aload_n 0), (195, .iload_n 3), (196, .iconst 2), (197, .iadd), (198, .iaload), (199, .invokevirtual 21), (202, .aload_n 2), (203, .aload_n 0), (204, .iload_n 3), (205, .iconst 1), (206, .iadd), (207, .iaload), (208, .aload_n 0), (209, .iload_n 3), (210, .iconst 2), (211, .iadd), (212, .iaload), (213, .invokevirtual 25), (216, .if_icmp .eq 1093), (219, .iconst 0)]
def tbL_law_1 : List (Nat × Instr) := [(220, .ireturn), (221, .aload_n 1), (222, .aload_n 0), (223, .iload_n 3), (224, .iconst 1), (225, .iadd), (226, .iaload), (227, .aload_n 0), (228, .iload_n 3), (229, .iconst 2), (230, .iadd), (231, .iaload), (232, .invokevirtual 26), (235, .aload_n 2), (236, .aload_n 0), (237, .iload_n 3), (238, .iconst 1), (239, .iadd), (240, .iaload), (241, .aload_n 0), (242, .iload_n 3), (243, .iconst 2), (244, .iadd), (245, .iaload), (246, .invokevirtual 29), (249, .if_icmp .eq 1060), (252, .iconst 0), (253, .ireturn), (254, .aload_n 1), (255, .aload_n 0), (256, .iload_n 3), (257, .iconst 1), (258, .iadd), (259, .iaload), (260, .aload_n 0), (261, .iload_n 3), (262, .iconst 2), (263, .iadd), (264, .iaload), (265, .invokevirtual 30), (268, .aload_n 2), (269, .aload_n 0), (270, .iload_n 3), (271, .iconst 1), (272, .iadd), (273, .iaload), (274, .aload_n 0), (275, .iload_n 3), (276, .iconst 2), (277, .iadd), (278, .iaload), (279, .invokevirtual 33), (282, .if_icmp .eq 1027), (285, .iconst 0), (286, .ireturn), (287, .aload_n 1), (288, .aload_n 0), (289, .iload_n 3), (290, .iconst 1), (291, .iadd)]
def tbL_law_2 : List (Nat × Instr) := [(292, .iaload), (293, .ifCond .eq 7), (296, .iconst 1), (297, .goto 4), (300, .iconst 0), (301, .aload_n 0), (302, .iload_n 3), (303, .iconst 2), (304, .iadd), (305, .iaload), (306, .aload_n 0), (307, .iload_n 3), (308, .iconst 3), (309, .iadd), (310, .iaload), (311, .invokevirtual 34), (314, .aload_n 2), (315, .aload_n 0), (316, .iload_n 3), (317, .iconst 1), (318, .iadd), (319, .iaload), (320, .ifCond .eq 7), (323, .iconst 1), (324, .goto 4), (327, .iconst 0), (328, .aload_n 0), (329, .iload_n 3), (330, .iconst 2), (331, .iadd), (332, .iaload), (333, .aload_n 0), (334, .iload_n 3), (335, .iconst 3), (336, .iadd), (337, .iaload), (338, .invokevirtual 38), (341, .if_icmp .eq 968), (344, .iconst 0), (345, .ireturn), (346, .aload_n 1), (347, .aload_n 0), (348, .iload_n 3), (349, .iconst 1), (350, .iadd), (351, .iaload), (352, .aload_n 0), (353, .iload_n 3), (354, .iconst 2), (355, .iadd), (356, .iaload), (357, .aload_n 0), (358, .iload_n 3), (359, .iconst 3), (360, .iadd), (361, .iaload), (362, .aload_n 0), (363, .iload_n 3), (364, .iconst 4), (365, .iadd)]
def tbL_law_3 : List (Nat × Instr) := [(366, .iaload), (367, .aload_n 0), (368, .iload_n 3), (369, .iconst 5), (370, .iadd), (371, .iaload), (372, .invokevirtual 39), (375, .aload_n 2), (376, .aload_n 0), (377, .iload_n 3), (378, .iconst 1), (379, .iadd), (380, .iaload), (381, .aload_n 0), (382, .iload_n 3), (383, .iconst 2), (384, .iadd), (385, .iaload), (386, .aload_n 0), (387, .iload_n 3), (388, .iconst 3), (389, .iadd), (390, .iaload), (391, .aload_n 0), (392, .iload_n 3), (393, .iconst 4), (394, .iadd), (395, .iaload), (396, .aload_n 0), (397, .iload_n 3), (398, .iconst 5), (399, .iadd), (400, .iaload), (401, .invokevirtual 43), (404, .if_icmp .eq 905), (407, .iconst 0), (408, .ireturn), (409, .aload_n 1), (410, .aload_n 0), (411, .iload_n 3), (412, .iconst 1), (413, .iadd), (414, .iaload), (415, .invokevirtual 44), (418, .aload_n 2), (419, .aload_n 0), (420, .iload_n 3), (421, .iconst 1), (422, .iadd), (423, .iaload), (424, .invokevirtual 48), (427, .if_icmp .eq 882), (430, .iconst 0), (431, .ireturn), (432, .aload_n 1), (433, .invokevirtual 49), (436, .aload_n 2), (437, .invokevirtual 53), (440, .if_icmp .eq 869), (443, .iconst 0)]
def tbL_law_4 : List (Nat × Instr) := [(444, .ireturn), (445, .aload_n 1), (446, .aload_n 0), (447, .iload_n 3), (448, .iconst 1), (449, .iadd), (450, .iaload), (451, .invokevirtual 54), (454, .aload_n 2), (455, .aload_n 0), (456, .iload_n 3), (457, .iconst 1), (458, .iadd), (459, .iaload), (460, .invokevirtual 57), (463, .if_icmp .eq 846), (466, .iconst 0), (467, .ireturn), (468, .aload_n 1), (469, .aload_n 0), (470, .iload_n 3), (471, .iconst 1), (472, .iadd), (473, .iaload), (474, .invokevirtual 58), (477, .aload_n 2), (478, .aload_n 0), (479, .iload_n 3), (480, .iconst 1), (481, .iadd), (482, .iaload), (483, .invokevirtual 62), (486, .if_icmp .eq 823), (489, .iconst 0), (490, .ireturn), (491, .aload_n 1), (492, .aload_n 0), (493, .iload_n 3), (494, .iconst 1), (495, .iadd), (496, .iaload), (497, .invokevirtual 63), (500, .aload_n 2), (501, .aload_n 0), (502, .iload_n 3), (503, .iconst 1), (504, .iadd), (505, .iaload), (506, .invokevirtual 66), (509, .if_icmp .eq 800), (512, .iconst 0), (513, .ireturn), (514, .aload_n 1), (515, .aload_n 0), (516, .iload_n 3), (517, .iconst 1), (518, .iadd), (519, .iaload), (520, .invokevirtual 67), (523, .aload_n 2)]
def tbL_law_5 : List (Nat × Instr) := [(524, .aload_n 0), (525, .iload_n 3), (526, .iconst 1), (527, .iadd), (528, .iaload), (529, .invokevirtual 70), (532, .if_icmp .eq 777), (535, .iconst 0), (536, .ireturn), (537, .aload_n 1), (538, .aload_n 0), (539, .iload_n 3), (540, .iconst 1), (541, .iadd), (542, .iaload), (543, .invokevirtual 71), (546, .aload_n 2), (547, .aload_n 0), (548, .iload_n 3), (549, .iconst 1), (550, .iadd), (551, .iaload), (552, .invokevirtual 75), (555, .lcmp), (556, .ifCond .eq 753), (559, .iconst 0), (560, .ireturn), (561, .aload_n 1), (562, .aload_n 0), (563, .iload_n 3), (564, .iconst 1), (565, .iadd), (566, .iaload), (567, .aload_n 0), (568, .iload_n 3), (569, .iconst 2), (570, .iadd), (571, .iaload), (572, .aload_n 0), (573, .iload_n 3), (574, .iconst 3), (575, .iadd), (576, .iaload), (577, .invokevirtual 76), (580, .aload_n 2), (581, .aload_n 0), (582, .iload_n 3), (583, .iconst 1), (584, .iadd), (585, .iaload), (586, .aload_n 0), (587, .iload_n 3), (588, .iconst 2), (589, .iadd), (590, .iaload), (591, .aload_n 0), (592, .iload_n 3), (593, .iconst 3), (594, .iadd), (595, .iaload)]
def tbL_law_6 : List (Nat × Instr) := [(596, .invokevirtual 80), (599, .if_icmp .eq 710), (602, .iconst 0), (603, .ireturn), (604, .aload_n 1), (605, .aload_n 0), (606, .iload_n 3), (607, .iconst 1), (608, .iadd), (609, .iaload), (610, .ifCond .eq 7), (613, .iconst 1), (614, .goto 4), (617, .iconst 0), (618, .aload_n 0), (619, .iload_n 3), (620, .iconst 2), (621, .iadd), (622, .iaload), (623, .ifCond .eq 7), (626, .iconst 1), (627, .goto 4), (630, .iconst 0), (631, .invokevirtual 81), (634, .aload_n 2), (635, .aload_n 0), (636, .iload_n 3), (637, .iconst 1), (638, .iadd), (639, .iaload), (640, .ifCond .eq 7), (643, .iconst 1), (644, .goto 4), (647, .iconst 0), (648, .aload_n 0), (649, .iload_n 3), (650, .iconst 2), (651, .iadd), (652, .iaload), (653, .ifCond .eq 7), (656, .iconst 1), (657, .goto 4), (660, .iconst 0), (661, .invokevirtual 85), (664, .if_icmp .eq 645), (667, .iconst 0), (668, .ireturn), (669, .aload_n 1), (670, .aload_n 0), (671, .iload_n 3), (672, .iconst 1), (673, .iadd), (674, .iaload), (675, .ifCond .eq 7), (678, .iconst 1), (679, .goto 4), (682, .iconst 0), (683, .aload_n 0), (684, .iload_n 3), (685, .iconst 2)]
def tbL_law_7 : List (Nat × Instr) := [(686, .iadd), (687, .iaload), (688, .ifCond .eq 7), (691, .iconst 1), (692, .goto 4), (695, .iconst 0), (696, .aload_n 0), (697, .iload_n 3), (698, .iconst 3), (699, .iadd), (700, .iaload), (701, .invokevirtual 86), (704, .aload_n 2), (705, .aload_n 0), (706, .iload_n 3), (707, .iconst 1), (708, .iadd), (709, .iaload), (710, .ifCond .eq 7), (713, .iconst 1), (714, .goto 4), (717, .iconst 0), (718, .aload_n 0), (719, .iload_n 3), (720, .iconst 2), (721, .iadd), (722, .iaload), (723, .ifCond .eq 7), (726, .iconst 1), (727, .goto 4), (730, .iconst 0), (731, .aload_n 0), (732, .iload_n 3), (733, .iconst 3), (734, .iadd), (735, .iaload), (736, .invokevirtual 90), (739, .if_icmp .eq 570), (742, .iconst 0), (743, .ireturn), (744, .aload_n 1), (745, .aload_n 0), (746, .iload_n 3), (747, .iconst 1), (748, .iadd), (749, .iaload), (750, .aload_n 0), (751, .iload_n 3), (752, .iconst 2), (753, .iadd), (754, .iaload), (755, .aload_n 0), (756, .iload_n 3), (757, .iconst 3), (758, .iadd), (759, .iaload), (760, .aload_n 0), (761, .iload_n 3), (762, .iconst 4), (763, .iadd)]
def tbL_law_8 : List (Nat × Instr) := [(764, .iaload), (765, .invokevirtual 91), (768, .aload_n 2), (769, .aload_n 0), (770, .iload_n 3), (771, .iconst 1), (772, .iadd), (773, .iaload), (774, .aload_n 0), (775, .iload_n 3), (776, .iconst 2), (777, .iadd), (778, .iaload), (779, .aload_n 0), (780, .iload_n 3), (781, .iconst 3), (782, .iadd), (783, .iaload), (784, .aload_n 0), (785, .iload_n 3), (786, .iconst 4), (787, .iadd), (788, .iaload), (789, .invokevirtual 95), (792, .if_icmp .eq 517), (795, .iconst 0), (796, .ireturn), (797, .aload_n 1), (798, .aload_n 0), (799, .iload_n 3), (800, .iconst 1), (801, .iadd), (802, .iaload), (803, .aload_n 0), (804, .iload_n 3), (805, .iconst 2), (806, .iadd), (807, .iaload), (808, .aload_n 0), (809, .iload_n 3), (810, .iconst 3), (811, .iadd), (812, .iaload), (813, .aload_n 0), (814, .iload_n 3), (815, .iconst 4), (816, .iadd), (817, .iaload), (818, .aload_n 0), (819, .iload_n 3), (820, .iconst 5), (821, .iadd), (822, .iaload), (823, .invokevirtual 96), (826, .aload_n 2), (827, .aload_n 0), (828, .iload_n 3), (829, .iconst 1), (830, .iadd), (831, .iaload)]
def tbL_law_9 : List (Nat × Instr) := [(832, .aload_n 0), (833, .iload_n 3), (834, .iconst 2), (835, .iadd), (836, .iaload), (837, .aload_n 0), (838, .iload_n 3), (839, .iconst 3), (840, .iadd), (841, .iaload), (842, .aload_n 0), (843, .iload_n 3), (844, .iconst 4), (845, .iadd), (846, .iaload), (847, .aload_n 0), (848, .iload_n 3), (849, .iconst 5), (850, .iadd), (851, .iaload), (852, .invokevirtual 99), (855, .if_icmp .eq 454), (858, .iconst 0), (859, .ireturn), (860, .aload_n 1), (861, .aload_n 0), (862, .iload_n 3), (863, .iconst 1), (864, .iadd), (865, .iaload), (866, .aload_n 0), (867, .iload_n 3), (868, .iconst 2), (869, .iadd), (870, .iaload), (871, .invokevirtual 100), (874, .aload_n 2), (875, .aload_n 0), (876, .iload_n 3), (877, .iconst 1), (878, .iadd), (879, .iaload), (880, .aload_n 0), (881, .iload_n 3), (882, .iconst 2), (883, .iadd), (884, .iaload), (885, .invokevirtual 103), (888, .if_icmp .eq 421), (891, .iconst 0), (892, .ireturn), (893, .aload_n 1), (894, .aload_n 0), (895, .iload_n 3), (896, .iconst 1), (897, .iadd), (898, .iaload), (899, .invokevirtual 104), (902, .aload_n 2), (903, .aload_n 0)]
def tbL_law_10 : List (Nat × Instr) := [(904, .iload_n 3), (905, .iconst 1), (906, .iadd), (907, .iaload), (908, .invokevirtual 107), (911, .if_icmp .eq 398), (914, .iconst 0), (915, .ireturn), (916, .aload_n 1), (917, .aload_n 0), (918, .iload_n 3), (919, .iconst 1), (920, .iadd), (921, .iaload), (922, .ifCond .eq 7), (925, .iconst 1), (926, .goto 4), (929, .iconst 0), (930, .aload_n 0), (931, .iload_n 3), (932, .iconst 2), (933, .iadd), (934, .iaload), (935, .ifCond .eq 7), (938, .iconst 1), (939, .goto 4), (942, .iconst 0), (943, .invokevirtual 108), (946, .aload_n 2), (947, .aload_n 0), (948, .iload_n 3), (949, .iconst 1), (950, .iadd), (951, .iaload), (952, .ifCond .eq 7), (955, .iconst 1), (956, .goto 4), (959, .iconst 0), (960, .aload_n 0), (961, .iload_n 3), (962, .iconst 2), (963, .iadd), (964, .iaload), (965, .ifCond .eq 7), (968, .iconst 1), (969, .goto 4), (972, .iconst 0), (973, .invokevirtual 111), (976, .if_icmp .eq 333), (979, .iconst 0), (980, .ireturn), (981, .aload_n 1), (982, .aload_n 0), (983, .iload_n 3), (984, .iconst 1), (985, .iadd), (986, .iaload), (987, .ifCond .eq 7), (990, .iconst 1), (991, .goto 4)]
def tbL_law_11 : List (Nat × Instr) := [(994, .iconst 0), (995, .invokevirtual 112), (998, .aload_n 2), (999, .aload_n 0), (1000, .iload_n 3), (1001, .iconst 1), (1002, .iadd), (1003, .iaload), (1004, .ifCond .eq 7), (1007, .iconst 1), (1008, .goto 4), (1011, .iconst 0), (1012, .invokevirtual 116), (1015, .if_icmp .eq 294), (1018, .iconst 0), (1019, .ireturn), (1020, .aload_n 1), (1021, .aload_n 0), (1022, .iload_n 3), (1023, .iconst 1), (1024, .iadd), (1025, .iaload), (1026, .ifCond .eq 7), (1029, .iconst 1), (1030, .goto 4), (1033, .iconst 0), (1034, .invokevirtual 117), (1037, .aload_n 2), (1038, .aload_n 0), (1039, .iload_n 3), (1040, .iconst 1), (1041, .iadd), (1042, .iaload), (1043, .ifCond .eq 7), (1046, .iconst 1), (1047, .goto 4), (1050, .iconst 0), (1051, .invokevirtual 120), (1054, .if_icmp .eq 255), (1057, .iconst 0), (1058, .ireturn), (1059, .aload_n 1), (1060, .aload_n 0), (1061, .iload_n 3), (1062, .iconst 1), (1063, .iadd), (1064, .iaload), (1065, .invokevirtual 121), (1068, .aload_n 2), (1069, .aload_n 0), (1070, .iload_n 3), (1071, .iconst 1), (1072, .iadd), (1073, .iaload), (1074, .invokevirtual 124), (1077, .if_icmp .eq 232), (1080, .iconst 0), (1081, .ireturn), (1082, .aload_n 1), (1083, .aload_n 0)]
def tbL_law_12 : List (Nat × Instr) := [(1084, .iload_n 3), (1085, .iconst 1), (1086, .iadd), (1087, .iaload), (1088, .aload_n 0), (1089, .iload_n 3), (1090, .iconst 2), (1091, .iadd), (1092, .iaload), (1093, .i2l), (1094, .bipush 32), (1096, .lshl), (1097, .aload_n 0), (1098, .iload_n 3), (1099, .iconst 3), (1100, .iadd), (1101, .iaload), (1102, .i2l), (1103, .ldc2_w 125), (1106, .land), (1107, .lor), (1108, .invokevirtual 127), (1111, .aload_n 2), (1112, .aload_n 0), (1113, .iload_n 3), (1114, .iconst 1), (1115, .iadd), (1116, .iaload), (1117, .aload_n 0), (1118, .iload_n 3), (1119, .iconst 2), (1120, .iadd), (1121, .iaload), (1122, .i2l), (1123, .bipush 32), (1125, .lshl), (1126, .aload_n 0), (1127, .iload_n 3), (1128, .iconst 3), (1129, .iadd), (1130, .iaload), (1131, .i2l), (1132, .ldc2_w 125), (1135, .land), (1136, .lor), (1137, .invokevirtual 131), (1140, .if_icmp .eq 169), (1143, .iconst 0), (1144, .ireturn), (1145, .aload_n 1), (1146, .aload_n 0), (1147, .iload_n 3), (1148, .iconst 1), (1149, .iadd), (1150, .iaload), (1151, .invokevirtual 132), (1154, .aload_n 2), (1155, .aload_n 0), (1156, .iload_n 3), (1157, .iconst 1)]
def tbL_law_13 : List (Nat × Instr) := [(1158, .iadd), (1159, .iaload), (1160, .invokevirtual 135), (1163, .if_icmp .eq 146), (1166, .iconst 0), (1167, .ireturn), (1168, .aload_n 1), (1169, .aload_n 0), (1170, .iload_n 3), (1171, .iconst 1), (1172, .iadd), (1173, .iaload), (1174, .aload_n 0), (1175, .iload_n 3), (1176, .iconst 2), (1177, .iadd), (1178, .iaload), (1179, .invokevirtual 136), (1182, .aload_n 2), (1183, .aload_n 0), (1184, .iload_n 3), (1185, .iconst 1), (1186, .iadd), (1187, .iaload), (1188, .aload_n 0), (1189, .iload_n 3), (1190, .iconst 2), (1191, .iadd), (1192, .iaload), (1193, .invokevirtual 139), (1196, .if_icmp .eq 113), (1199, .iconst 0), (1200, .ireturn), (1201, .aload_n 1), (1202, .aload_n 0), (1203, .iload_n 3), (1204, .iconst 1), (1205, .iadd), (1206, .iaload), (1207, .invokevirtual 140), (1210, .aload_n 2), (1211, .aload_n 0), (1212, .iload_n 3), (1213, .iconst 1), (1214, .iadd), (1215, .iaload), (1216, .invokevirtual 143), (1219, .if_icmp .eq 90), (1222, .iconst 0), (1223, .ireturn), (1224, .aload_n 1), (1225, .aload_n 0), (1226, .iload_n 3), (1227, .iconst 1), (1228, .iadd), (1229, .iaload), (1230, .invokevirtual 144), (1233, .aload_n 2), (1234, .aload_n 0), (1235, .iload_n 3)]
def tbL_law_14 : List (Nat × Instr) := [(1236, .iconst 1), (1237, .iadd), (1238, .iaload), (1239, .invokevirtual 147), (1242, .if_icmp .eq 67), (1245, .iconst 0), (1246, .ireturn), (1247, .aload_n 1), (1248, .aload_n 0), (1249, .iload_n 3), (1250, .iconst 1), (1251, .iadd), (1252, .iaload), (1253, .ifCond .eq 7), (1256, .iconst 1), (1257, .goto 4), (1260, .iconst 0), (1261, .invokevirtual 148), (1264, .aload_n 2), (1265, .aload_n 0), (1266, .iload_n 3), (1267, .iconst 1), (1268, .iadd), (1269, .iaload), (1270, .ifCond .eq 7), (1273, .iconst 1), (1274, .goto 4), (1277, .iconst 0), (1278, .invokevirtual 151), (1281, .if_icmp .eq 28), (1284, .iconst 0), (1285, .ireturn), (1286, .aload_n 1), (1287, .aload_n 0), (1288, .iload_n 3), (1289, .iconst 1), (1290, .iadd), (1291, .iaload), (1292, .invokevirtual 152), (1295, .aload_n 2), (1296, .aload_n 0), (1297, .iload_n 3), (1298, .iconst 1), (1299, .iadd), (1300, .iaload), (1301, .invokevirtual 155), (1304, .if_icmp .eq 5), (1307, .iconst 0), (1308, .ireturn), (1309, .iinc 3 6), (1312, .goto (-1274)), (1315, .iconst 1), (1316, .ireturn)]
def miL_law : sm_MI := (yL_law, cL_law, 4, (some .boolean), tbL_law_0 ++ (tbL_law_1 ++ (tbL_law_2 ++ (tbL_law_3 ++ (tbL_law_4 ++ (tbL_law_5 ++ (tbL_law_6 ++ (tbL_law_7 ++ (tbL_law_8 ++ (tbL_law_9 ++ (tbL_law_10 ++ (tbL_law_11 ++ (tbL_law_12 ++ (tbL_law_13 ++ (tbL_law_14)))))))))))))), [(38, [true, true, true, true])], lkL)
def sm_pg : List (Nat × sm_MI) := [(0, miX0_init), (1, miX0_weave), (2, miX0_picksOf), (3, miX0_press), (4, miX0_raise), (5, miX0_hang), (6, miX0_cross), (7, miX1_init), (8, miX1_find), (9, miX1_tieAt), (10, miX1_collectLifts), (11, miX1_isIn), (12, miX1_collectTies), (13, miX1_insertTie), (14, miX1_markGifts), (15, miX1_gatherGifts), (16, miX1_sortShafts), (17, miX1_markGift), (18, miX1_findLeast), (19, miX1_needsMore), (20, miX1_choose), (21, miX2_init), (22, miX2_sortPart), (23, miX2_numberOf), (24, miX2_relate), (25, miX2_followChains), (26, miX2_followThrough), (27, miX2_numberAll), (28, miX2_lowestOnTop), (29, miX2_isOnTop), (30, miX2_numberLayerOf), (31, miX3_init), (32, miX3_valueOf), (33, miX3_timeOf), (34, miX3_tellOne), (35, miX3_dropStaged), (36, miX3_stage), (37, miX3_takeStaged), (38, miX3_lookAt), (39, miX3_forget), (40, miX3_replay), (41, miX4_init), (42, miX4_find), (43, miX4_fitEnds), (44, miX4_weighThreading), (45, miX4_weighTie), (46, miX4_picksAfter), (47, miX4_settle), (48, miX4_fits), (49, miX4_firstFitting), (50, miX5_init), (51, miX5_showCells), (52, miX5_showColours), (53, miX5_likeAlongEnds), (54, miX5_likeAlongPicks), (55, miX5_rowAt), (56, miX6_init), (57, miX6_readTape), (58, miX6_endWhatCannotGoOn), (59, miX6_fail), (60, miX6_failAt), (61, miX6_step), (62, miX6_startClause), (63, miX6_nameBlock), (64, miX6_nameTreadle), (65, miX6_isNumber), (66, miX6_openFirstRow), (67, miX6_startOne), (68, miX6_holdNumber), (69, miX6_endNumber), (70, miX6_endRange), (71, miX6_addBlock), (72, miX6_nameSum), (73, miX6_openBracket), (74, miX6_closeBracket), (75, miX6_turnBack), (76, miX6_raiseNumbers), (77, miX6_copyItem), (78, miX6_goOnBehindItem), (79, miX6_endClause), (80, miX6_keepBlock), (81, miX6_stageAlong), (82, miX6_stageTie), (83, miX6_openRow), (84, miX6_hasRoom), (85, miX6_add), (86, miX6_numberAt), (87, miX6_put), (88, miX6_blockSize), (89, miX6_blockNumber), (90, miX7_init), (91, miX7_countFloats), (92, miX7_cutOpen), (93, miX7_countLine), (94, miX7_longestOne), (95, miX7_longerThan), (96, miX8_init), (97, miX8_noteRow), (98, miX8_endsLike), (99, miX8_isMoved), (100, miX8_wrapped), (101, miX8_rowAt), (102, miX9_init), (103, miX9_appendWord), (104, miX9_rewind), (105, miX9_advance), (106, miX9_byteAt), (107, miX9_readNumber), (108, miX9_readWord), (109, miX9_kindOfWord), (110, miX9_isWord), (111, miX9_isBlank), (112, miX9_isDigit), (113, miX9_isAlphabetic), (114, miX9_isSign), (115, miX10_init), (116, miX10_thread), (117, miX10_tie), (118, miX10_tread), (119, miX10_colour), (120, miX10_feed), (121, miX10_end), (122, miX10_text), (123, miX10_fault), (124, miX10_look), (125, miX10_shaft), (126, miX10_lift), (127, miX10_row), (128, miX10_lead), (129, miX10_longest), (130, miX10_floats), (131, miX10_layers), (132, miX10_layer), (133, miX10_seenColour), (134, miX10_coloured), (135, miX10_period), (136, miX10_fewest), (137, miX10_pegs), (138, miX10_cover), (139, miX10_seen), (140, miX10_wrong), (141, miX10_nearest), (142, miX10_mended), (143, miX10_mendedShaft), (144, miX10_shifted), (145, miX10_about), (146, miX10_isEnd), (147, miX10_isPick), (148, miX10_isPart), (149, miX10_isColour), (150, miX10_has), (151, miX10_firstBits), (152, miX10_moved), (153, miX10_lowestTreadle), (154, miX10_endsOfColour), (155, miX10_unlikeLines), (156, miX10_unlikePicks), (157, miX10_nearestShaft), (158, miX10_cellsUp), (159, miX10_countCells), (160, miX10_firstMixedPick), (161, miX10_threadedEnds), (162, miX11_init), (163, miX11_isIn), (164, miX11_isEnd), (165, miX11_isPick), (166, miX11_enter), (167, miX11_telling), (168, miX11_passes), (169, miX11_thread), (170, miX11_tie), (171, miX11_tread), (172, miX11_colour), (173, miX11_entryOf), (174, miX11_valueOf), (175, miX11_look), (176, miX11_draw), (177, miX11_lifts), (178, miX11_shaft), (179, miX11_lift), (180, miX11_row), (181, miX11_lead), (182, miX11_four), (183, miX11_feed), (184, miX11_end), (185, miX11_see), (186, miX11_isLetter), (187, miX11_isDigit), (188, miX11_pack), (189, miX11_n), (190, miX11_w), (191, miX11_wordOf), (192, miX11_nextToken), (193, miX11_fails), (194, miX11_many), (195, miX11_push), (196, miX11_plainOne), (197, miX11_opens), (198, miX11_closes), (199, miX11_times), (200, miX11_readRow), (201, miX11_block), (202, miX11_bring), (203, miX11_rowClause), (204, miX11_readText), (205, miX11_text), (206, miX11_fault), (207, miX11_runsOf), (208, miX11_findRuns), (209, miX11_longest), (210, miX11_floats), (211, miX11_isPart), (212, miX11_span), (213, miX11_reach), (214, miX11_isStrand), (215, miX11_isAbove), (216, miX11_number), (217, miX11_isTop), (218, miX11_layers), (219, miX11_layer), (220, miX11_colourAt), (221, miX11_seenColour), (222, miX11_paint), (223, miX11_coloured), (224, miX11_isAlike), (225, miX11_period), (226, miX11_fewestOf), (227, miX11_fewest), (228, miX11_usedShafts), (229, miX11_bits), (230, miX11_pegs), (231, miX11_gather), (232, miX11_findCommons), (233, miX11_covers), (234, miX11_chooses), (235, miX11_cover), (236, miX11_seen), (237, miX11_seenColumn), (238, miX11_columnBy), (239, miX11_unlike), (240, miX11_wrong), (241, miX11_nearestOf), (242, miX11_nearest), (243, miX11_costOfEnds), (244, miX11_mend), (245, miX11_mended), (246, miX11_mendedShaft), (247, miX11_isMoved), (248, miX11_shifted), (249, miX11_about), (250, miJ6_numberOfTrailingZeros_0f7a4), (251, miJ6_bitCount_0f7a4), (252, miJ13_numberOfTrailingZeros_95d88), (253, miJ13_bitCount_95d88), (254, miJ7_fill_d0a16), (255, miJ7_fill_53178), (256, miL_cell)]
def sm_hds : sm_HD := sm_pg.map (fun q => (q.1, q.2.1, q.2.2.1, q.2.2.2.1, q.2.2.2.2.1)) ++ [(900, yJ0_length_8abf5, cJ0_length_8abf5, 1, (some .int)), (901, yJ0_charAt_5068e, cJ0_charAt_5068e, 2, (some .char))]
def sm_sks : sm_SKt := [("DraftHouse$Tape", 64, "block", 1001), ("DraftHouse$Tape", 70, "thread", 1002), ("DraftHouse$Tape", 72, "tread", 1003), ("DraftHouse$Tape", 74, "tie", 1004), ("DraftHouse$Tape", 76, "to", 1005), ("DraftHouse$Tape", 78, "mirror", 1006), ("DraftHouse$Tape", 80, "back", 1007), ("DraftHouse$Tape", 82, "plus", 1008)]
end
section
/-! CHECKERS: what the simulator's soundness asks of the program as data, as programs that answer true -/
def sm_nst : Cond → Bool
  | .fieldLinkNest _ _ _ _ _ _ => true
  | .methodLinkNest _ _ _ _ => true
  | _ => false
def sm_TB : List Cond := lw_tbl.filter goodWord
def sm_NB : List Cond := lw_tbl.filter sm_nst
theorem sm_inT {w : Cond} (h : w ∈ lw_tbl) (hg : goodWord w = true) : w ∈ sm_TB := List.mem_filter.mpr ⟨h, hg⟩
theorem sm_inN {w : Cond} (h : w ∈ lw_tbl) (hg : sm_nst w = true) : w ∈ sm_NB := List.mem_filter.mpr ⟨h, hg⟩
theorem sm_inL {w : Cond} (h : w ∈ tables_1) : w ∈ lw_tbl := List.mem_append_right _ h
theorem sm_fd_mem {α : Type} : ∀ {l : List (Nat × α)} {k : Nat} {a : α}, sm_fd l k = some a → (k, a) ∈ l := by
  intro l
  induction l with
  | nil => intro k a h; cases h
  | cons q t ih =>
    intro k a h
    obtain ⟨j, b⟩ := q
    simp only [sm_fd] at h
    split at h
    · rename_i hb
      cases h
      rw [Nat.eq_of_beq_eq_true hb]
      exact List.mem_cons_self
    · exact List.mem_cons_of_mem _ (ih h)
/-- decoding -/
def sm_bT1 (cc : ByteArray) (q : Nat × Instr) : Bool := match decode cc q.1 with
  | .ok (i, len) => decide (i = q.2) && (Nat.beq len (sm_ln i) || Nat.beq (sm_ln i) 0)
  | _ => false
def sm_bT (mi : sm_MI) : Bool := mi.2.2.2.2.1.all (sm_bT1 mi.2.1)
theorem sm_bT_app {cc : ByteArray} {a b : List (Nat × Instr)} (ha : a.all (sm_bT1 cc) = true) (hb : b.all (sm_bT1 cc) = true) : (a ++ b).all (sm_bT1 cc) = true := by rw [List.all_append, ha, hb]; rfl
theorem sm_bT_ok {mi : sm_MI} (h : sm_bT mi = true) : sm_okT mi := by
  intro pc i hi
  have h2 := List.all_eq_true.mp h _ (sm_fd_mem hi)
  unfold sm_bT1 at h2
  dsimp only at h2
  split at h2
  · rename_i j len hd
    simp only [Bool.and_eq_true, Bool.or_eq_true, decide_eq_true_eq] at h2
    obtain ⟨rfl, h3⟩ := h2
    exact ⟨len, hd, h3.imp Nat.eq_of_beq_eq_true Nat.eq_of_beq_eq_true⟩
  · cases h2
/-- classes: their fields as the tables lay them -/
def sm_clk (q : vw_C) : Prop := (∀ w ∈ u_ws q.1 q.2.1 q.2.2, w ∈ sm_TB) ∧ (∃ ty0 : Nat → FieldType, ∀ k, k < q.2.2 → parseFieldDescriptor (q.2.1 k).2.2.1 = some (ty0 k)) ∧ (∀ a, a < q.2.2 → ∀ b, b < q.2.2 → a ≠ b → (q.2.1 a).2.1 ≠ (q.2.1 b).2.1)
def sm_kdb (t : Nat) (ty : Option FieldType) : Bool := match t, ty with
  | 0, some .int => true
  | 1, some .boolean => true
  | 2, some .long => true
  | 3, some (.object _) => true
  | 3, some (.array _) => true
  | _ + 4, _ => true
  | _, _ => false
theorem sm_kdb_ok {t : Nat} {ty : FieldType} (h : sm_kdb t (some ty) = true) : sm_kd t ty := by
  unfold sm_kdb at h
  split at h
  · rename_i e; cases e; exact ⟨fun _ => rfl, fun z => (by cases z), fun z => (by cases z), fun z => (by cases z)⟩
  · rename_i e; cases e; exact ⟨fun z => (by cases z), fun _ => rfl, fun z => (by cases z), fun z => (by cases z)⟩
  · rename_i e; cases e; exact ⟨fun z => (by cases z), fun z => (by cases z), fun _ => rfl, fun z => (by cases z)⟩
  · rename_i e; cases e; exact ⟨fun z => (by cases z), fun z => (by cases z), fun z => (by cases z), fun _ => Or.inl ⟨_, rfl⟩⟩
  · rename_i e; cases e; exact ⟨fun z => (by cases z), fun z => (by cases z), fun z => (by cases z), fun _ => Or.inr ⟨_, rfl⟩⟩
  · exact ⟨fun z => (by omega), fun z => (by omega), fun z => (by omega), fun z => (by omega)⟩
  · cases h
def sm_PF (own nm : String) (q : Nat × Nat × Nat × Nat) : Prop := ∃ (C : String) (T : u_T) (N : Nat), vwCl[q.2.1]? = some (C, T, N) ∧ q.2.2.1 < N ∧ (T q.2.2.1).1 = C ∧ sm_kdb q.2.2.2 (parseFieldDescriptor (T q.2.2.1).2.2.1) = true ∧ ((Cond.fieldLink own q.1 C (T q.2.2.1).2.1 (T q.2.2.1).2.2.1 ∈ sm_TB ∧ (3 < q.2.2.2 ∨ (T q.2.2.1).2.2.2 = false ∨ ((T q.2.2.1).2.2.2 = true ∧ nm = "<init>" ∧ (T q.2.2.1).1 = own))) ∨ (∃ host, Cond.fieldLinkNest own q.1 C (T q.2.2.1).2.1 (T q.2.2.1).2.2.1 host ∈ sm_NB ∧ (3 < q.2.2.2 ∨ (T q.2.2.1).2.2.2 = false)))
theorem sm_PF_ok (hcl : ∀ q ∈ vwCl, sm_clk q) {mi : sm_MI} (h : ∀ q ∈ mi.2.2.2.2.2.2.1, sm_PF mi.1.cls mi.1.name q) : sm_okF vwCl sm_TB sm_NB mi := by
  intro x ci j t hf
  obtain ⟨C, T, N, hc, hj, hTC, hkd, hlk⟩ := h _ (sm_fd_mem hf)
  dsimp only at hc hj hTC hkd hlk
  obtain ⟨k1, ⟨ty0, k2⟩, k3⟩ := hcl _ (List.mem_of_getElem? hc)
  have hjt := k2 j hj
  dsimp only at hjt
  rw [hjt] at hkd
  exact ⟨C, T, N, ty0, hc, hj, k1, k2, k3, hTC, sm_kdb_ok hkd, hlk⟩
def sm_PM (own : String) (q : Nat × Nat × Nat × Nat × Nat) : Prop :=
  (q.2.1 = 0 → ∃ yN bytes mL rt, sm_fd sm_hds q.2.2.1 = some (yN, bytes, mL, rt) ∧ sm_hdk sm_TB yN bytes mL rt q.2.2.2.1 ∧ sm_lnk sm_TB sm_NB own q.1 yN ∧ Cond.static yN ∈ sm_TB) ∧
  (q.2.1 = 1 → ∃ yN bytes mL rt C T N, sm_fd sm_hds q.2.2.1 = some (yN, bytes, mL, rt) ∧ sm_hdk sm_TB yN bytes mL rt q.2.2.2.1 ∧ sm_lnk sm_TB sm_NB own q.1 yN ∧ Cond.instanceMethod yN ∈ sm_TB ∧ Cond.selects C yN yN ∈ sm_TB ∧ vwCl[q.2.2.2.2]? = some (C, T, N)) ∧
  (q.2.1 = 2 → ∃ yN bytes mL, sm_fd sm_hds q.2.2.1 = some (yN, bytes, mL, none) ∧ sm_hdk sm_TB yN bytes mL none q.2.2.2.1 ∧ sm_lnk sm_TB sm_NB own q.1 yN ∧ Cond.instanceMethod yN ∈ sm_TB ∧ yN.name = "<init>") ∧
  (q.2.1 = 3 → Cond.methodLink own q.1 Lib.objectInit ∈ sm_TB ∧ Cond.instanceMethod Lib.objectInit ∈ sm_TB ∧ Cond.code Lib.objectInit ⟨#[0xb1]⟩ 1 none ∈ sm_TB) ∧
  (q.2.1 = 4 → ∃ yN bytes mL rt, sm_fd sm_hds q.2.2.1 = some (yN, bytes, mL, rt) ∧ sm_hdk sm_TB yN bytes mL rt q.2.2.2.1 ∧ sm_lnk sm_TB sm_NB own q.1 yN ∧ Cond.instanceMethod yN ∈ sm_TB ∧ Cond.selects "java/lang/String" yN yN ∈ sm_TB) ∧
  (q.2.1 = 5 → sm_mth sm_TB own q.1 Lib.Math.max.name Lib.Math.max.code 2) ∧ (q.2.1 = 6 → sm_mth sm_TB own q.1 Lib.Math.min.name Lib.Math.min.code 2) ∧ (q.2.1 = 7 → sm_mth sm_TB own q.1 Lib.Math.abs.name Lib.Math.abs.code 1)
theorem sm_PM_ok {mi : sm_MI} (h : ∀ q ∈ mi.2.2.2.2.2.2.2.1, sm_PM mi.1.cls q) : sm_okM vwCl sm_TB sm_NB sm_hds mi := fun x kd y n ci hf => h _ (sm_fd_mem hf)
theorem sm_PM0 {own : String} {x y n ci : Nat} {yN : MethodName} {bytes : ByteArray} {mL : Nat} {rt : Option FieldType} (hh : sm_fd sm_hds y = some (yN, bytes, mL, rt)) (hd : sm_hdk sm_TB yN bytes mL rt n) (hl : sm_lnk sm_TB sm_NB own x yN) (hs : Cond.static yN ∈ sm_TB) : sm_PM own (x, 0, y, n, ci) := ⟨fun _ => ⟨yN, bytes, mL, rt, hh, hd, hl, hs⟩, fun z => absurd z (show ¬ 0 = 1 by decide), fun z => absurd z (show ¬ 0 = 2 by decide), fun z => absurd z (show ¬ 0 = 3 by decide), fun z => absurd z (show ¬ 0 = 4 by decide), fun z => absurd z (show ¬ 0 = 5 by decide), fun z => absurd z (show ¬ 0 = 6 by decide), fun z => absurd z (show ¬ 0 = 7 by decide)⟩
theorem sm_PM1 {own : String} {x y n ci : Nat} {yN : MethodName} {bytes : ByteArray} {mL : Nat} {rt : Option FieldType} {C : String} {T : u_T} {N : Nat} (hh : sm_fd sm_hds y = some (yN, bytes, mL, rt)) (hd : sm_hdk sm_TB yN bytes mL rt n) (hl : sm_lnk sm_TB sm_NB own x yN) (hi : Cond.instanceMethod yN ∈ sm_TB) (hs : Cond.selects C yN yN ∈ sm_TB) (hc : vwCl[ci]? = some (C, T, N)) : sm_PM own (x, 1, y, n, ci) := ⟨fun z => absurd z (show ¬ 1 = 0 by decide), fun _ => ⟨yN, bytes, mL, rt, C, T, N, hh, hd, hl, hi, hs, hc⟩, fun z => absurd z (show ¬ 1 = 2 by decide), fun z => absurd z (show ¬ 1 = 3 by decide), fun z => absurd z (show ¬ 1 = 4 by decide), fun z => absurd z (show ¬ 1 = 5 by decide), fun z => absurd z (show ¬ 1 = 6 by decide), fun z => absurd z (show ¬ 1 = 7 by decide)⟩
theorem sm_PM2 {own : String} {x y n ci : Nat} {yN : MethodName} {bytes : ByteArray} {mL : Nat} (hh : sm_fd sm_hds y = some (yN, bytes, mL, none)) (hd : sm_hdk sm_TB yN bytes mL none n) (hl : sm_lnk sm_TB sm_NB own x yN) (hi : Cond.instanceMethod yN ∈ sm_TB) (hn : yN.name = "<init>") : sm_PM own (x, 2, y, n, ci) := ⟨fun z => absurd z (show ¬ 2 = 0 by decide), fun z => absurd z (show ¬ 2 = 1 by decide), fun _ => ⟨yN, bytes, mL, hh, hd, hl, hi, hn⟩, fun z => absurd z (show ¬ 2 = 3 by decide), fun z => absurd z (show ¬ 2 = 4 by decide), fun z => absurd z (show ¬ 2 = 5 by decide), fun z => absurd z (show ¬ 2 = 6 by decide), fun z => absurd z (show ¬ 2 = 7 by decide)⟩
theorem sm_PM3 {own : String} {x y n ci : Nat} (h1 : Cond.methodLink own x Lib.objectInit ∈ sm_TB) (h2 : Cond.instanceMethod Lib.objectInit ∈ sm_TB) (h3 : Cond.code Lib.objectInit ⟨#[0xb1]⟩ 1 none ∈ sm_TB) : sm_PM own (x, 3, y, n, ci) := ⟨fun z => absurd z (show ¬ 3 = 0 by decide), fun z => absurd z (show ¬ 3 = 1 by decide), fun z => absurd z (show ¬ 3 = 2 by decide), fun _ => ⟨h1, h2, h3⟩, fun z => absurd z (show ¬ 3 = 4 by decide), fun z => absurd z (show ¬ 3 = 5 by decide), fun z => absurd z (show ¬ 3 = 6 by decide), fun z => absurd z (show ¬ 3 = 7 by decide)⟩
theorem sm_PM4 {own : String} {x y n ci : Nat} {yN : MethodName} {bytes : ByteArray} {mL : Nat} {rt : Option FieldType} (hh : sm_fd sm_hds y = some (yN, bytes, mL, rt)) (hd : sm_hdk sm_TB yN bytes mL rt n) (hl : sm_lnk sm_TB sm_NB own x yN) (hi : Cond.instanceMethod yN ∈ sm_TB) (hs : Cond.selects "java/lang/String" yN yN ∈ sm_TB) : sm_PM own (x, 4, y, n, ci) := ⟨fun z => absurd z (show ¬ 4 = 0 by decide), fun z => absurd z (show ¬ 4 = 1 by decide), fun z => absurd z (show ¬ 4 = 2 by decide), fun z => absurd z (show ¬ 4 = 3 by decide), fun _ => ⟨yN, bytes, mL, rt, hh, hd, hl, hi, hs⟩, fun z => absurd z (show ¬ 4 = 5 by decide), fun z => absurd z (show ¬ 4 = 6 by decide), fun z => absurd z (show ¬ 4 = 7 by decide)⟩
theorem sm_PM5 {own : String} {x y n ci : Nat} (h : sm_mth sm_TB own x Lib.Math.max.name Lib.Math.max.code 2) : sm_PM own (x, 5, y, n, ci) := ⟨fun z => absurd z (show ¬ 5 = 0 by decide), fun z => absurd z (show ¬ 5 = 1 by decide), fun z => absurd z (show ¬ 5 = 2 by decide), fun z => absurd z (show ¬ 5 = 3 by decide), fun z => absurd z (show ¬ 5 = 4 by decide), fun _ => h, fun z => absurd z (show ¬ 5 = 6 by decide), fun z => absurd z (show ¬ 5 = 7 by decide)⟩
theorem sm_PM6 {own : String} {x y n ci : Nat} (h : sm_mth sm_TB own x Lib.Math.min.name Lib.Math.min.code 2) : sm_PM own (x, 6, y, n, ci) := ⟨fun z => absurd z (show ¬ 6 = 0 by decide), fun z => absurd z (show ¬ 6 = 1 by decide), fun z => absurd z (show ¬ 6 = 2 by decide), fun z => absurd z (show ¬ 6 = 3 by decide), fun z => absurd z (show ¬ 6 = 4 by decide), fun z => absurd z (show ¬ 6 = 5 by decide), fun _ => h, fun z => absurd z (show ¬ 6 = 7 by decide)⟩
theorem sm_PM7 {own : String} {x y n ci : Nat} (h : sm_mth sm_TB own x Lib.Math.abs.name Lib.Math.abs.code 1) : sm_PM own (x, 7, y, n, ci) := ⟨fun z => absurd z (show ¬ 7 = 0 by decide), fun z => absurd z (show ¬ 7 = 1 by decide), fun z => absurd z (show ¬ 7 = 2 by decide), fun z => absurd z (show ¬ 7 = 3 by decide), fun z => absurd z (show ¬ 7 = 4 by decide), fun z => absurd z (show ¬ 7 = 5 by decide), fun z => absurd z (show ¬ 7 = 6 by decide), fun _ => h⟩
def sm_PK (own : String) (q : Nat × Value) : Prop := (∀ w, q.2 = .int w → Cond.constant own q.1 w ∈ sm_TB) ∧ (∀ w, q.2 = .long w → Cond.constantLong own q.1 w ∈ sm_TB) ∧ (∀ w, q.2 = .ref w → ∃ tx, (own, q.1, tx, w) ∈ sm_sks)
theorem sm_PK_ok {mi : sm_MI} (h : ∀ q ∈ mi.2.2.2.2.2.2.2.2.1, sm_PK mi.1.cls q) : sm_okK sm_TB sm_sks mi := fun x v hf => h _ (sm_fd_mem hf)
theorem sm_PKi {own : String} {x : Nat} {v : Int32} (h : Cond.constant own x v ∈ sm_TB) : sm_PK own (x, .int v) := ⟨fun w hw => by cases hw; exact h, fun w hw => (by cases hw), fun w hw => (by cases hw)⟩
theorem sm_PKl {own : String} {x : Nat} {v : Int64} (h : Cond.constantLong own x v ∈ sm_TB) : sm_PK own (x, .long v) := ⟨fun w hw => (by cases hw), fun w hw => by cases hw; exact h, fun w hw => (by cases hw)⟩
theorem sm_PKr {own : String} {x v : Nat} {tx : String} (h : (own, x, tx, v) ∈ sm_sks) : sm_PK own (x, .ref v) := ⟨fun w hw => (by cases hw), fun w hw => (by cases hw), fun w hw => by cases hw; exact ⟨tx, h⟩⟩
def sm_df (ty : Option FieldType) : Option Value := ty.map defaultValue
def sm_nrf : Value → Bool
  | .ref _ => false
  | _ => true
def sm_PN (own : String) (q : Nat × Nat × List Value) : Prop := ∃ (C : String) (T : u_T) (N : Nat), vwCl[q.2.1]? = some (C, T, N) ∧ Cond.classLink own q.1 C ∈ sm_TB ∧ Cond.instantiable C N ∈ sm_TB ∧ Cond.initialized C ∈ sm_TB ∧ q.2.2.length = N ∧ q.2.2.all sm_nrf = true ∧ (List.range N).all (fun j => decide (sm_df (parseFieldDescriptor (T j).2.2.1) = some (vp_V q.2.2 j))) = true
theorem sm_nrf_map {fs : List Value} (h : fs.all sm_nrf = true) (B : Nat) (ad : Nat → Nat) : fs.map (sm_cv B ad) = fs := by
  induction fs with
  | nil => rfl
  | cons v t ih =>
    simp only [List.all_cons, Bool.and_eq_true] at h
    rw [List.map_cons, ih h.2]
    cases v <;> first | rfl | (exact absurd h.1 (by simp [sm_nrf]))
theorem sm_PN_ok (hcl : ∀ q ∈ vwCl, sm_clk q) {mi : sm_MI} (h : ∀ q ∈ mi.2.2.2.2.2.2.2.2.2, sm_PN mi.1.cls q) : sm_okN vwCl sm_TB mi := by
  intro x ci fs hf
  obtain ⟨C, T, N, hc, h3, h4, h5, h6, h7, h8⟩ := h _ (sm_fd_mem hf)
  dsimp only at hc h3 h6 h7 h8
  obtain ⟨k1, ⟨ty0, k2⟩, k3⟩ := hcl _ (List.mem_of_getElem? hc)
  refine ⟨C, T, N, ty0, hc, k1, k2, h3, h4, h5, h6, fun B ad => sm_nrf_map h7 B ad, fun j hj => ?_⟩
  have h9 := of_decide_eq_true (List.all_eq_true.mp h8 j (List.mem_range.mpr hj))
  have h10 := k2 j hj
  dsimp only at h10
  rw [h10] at h9
  exact Option.some.inj h9
theorem sm_fd_map {α β : Type} (f : α → β) : ∀ {l : List (Nat × α)} {k : Nat} {a : α}, sm_fd l k = some a → ∀ l2 : List (Nat × β), sm_fd (l.map (fun q => (q.1, f q.2)) ++ l2) k = some (f a) := by
  intro l
  induction l with
  | nil => intro k a h; cases h
  | cons q t ih =>
    intro k a h l2
    obtain ⟨j, b⟩ := q
    show sm_fd ((j, f b) :: (t.map (fun q => (q.1, f q.2)) ++ l2)) k = _
    simp only [sm_fd] at h ⊢
    cases hb : Nat.beq j k with
    | true =>
      rw [hb] at h
      cases h
      rfl
    | false =>
      rw [hb] at h
      exact ih h l2
theorem sm_hh {y : Nat} {mi : sm_MI} (h : sm_fd sm_pg y = some mi) : sm_fd sm_hds y = some (mi.1, mi.2.1, mi.2.2.1, mi.2.2.2.1) := sm_fd_map (fun m : sm_MI => (m.1, m.2.1, m.2.2.1, m.2.2.2.1)) h _
end
section
/-! THE LINKS: words of the tables by their places, heads of methods, links of classes -/
theorem sm_t1 {w : Cond} (h : w ∈ tables_1_1) : w ∈ lw_tbl := sm_inL (List.mem_append_left _ h)
theorem sm_t2 {w : Cond} (h : w ∈ tables_1_2) : w ∈ lw_tbl := sm_inL (List.mem_append_right _ (List.mem_append_left _ h))
theorem sm_t3 {w : Cond} (h : w ∈ tables_1_3) : w ∈ lw_tbl := sm_inL (List.mem_append_right _ (List.mem_append_right _ (List.mem_append_left _ h)))
theorem sm_t4 {w : Cond} (h : w ∈ tables_1_4) : w ∈ lw_tbl := sm_inL (List.mem_append_right _ (List.mem_append_right _ (List.mem_append_right _ (List.mem_append_left _ h))))
theorem sm_t5 {w : Cond} (h : w ∈ tables_1_5) : w ∈ lw_tbl := sm_inL (List.mem_append_right _ (List.mem_append_right _ (List.mem_append_right _ (List.mem_append_right _ (List.mem_append_left _ h)))))
theorem sm_t6 {w : Cond} (h : w ∈ tables_1_6) : w ∈ lw_tbl := sm_inL (List.mem_append_right _ (List.mem_append_right _ (List.mem_append_right _ (List.mem_append_right _ (List.mem_append_right _ (List.mem_append_left _ h))))))
theorem sm_t7 {w : Cond} (h : w ∈ tables_1_7) : w ∈ lw_tbl := sm_inL (List.mem_append_right _ (List.mem_append_right _ (List.mem_append_right _ (List.mem_append_right _ (List.mem_append_right _ (List.mem_append_right _ (List.mem_append_left _ h)))))))
theorem sm_t8 {w : Cond} (h : w ∈ tables_1_8) : w ∈ lw_tbl := sm_inL (List.mem_append_right _ (List.mem_append_right _ (List.mem_append_right _ (List.mem_append_right _ (List.mem_append_right _ (List.mem_append_right _ (List.mem_append_right _ (h))))))))
theorem sm_v1 {q : MethodName × Nat} (h : q ∈ lw_privs_1) : Cond.selects q.1.cls q.1 q.1 ∈ lw_tbl := List.mem_append_left _ (List.mem_map.mpr ⟨q, List.mem_append_left _ h, rfl⟩)
theorem sm_v2 {q : MethodName × Nat} (h : q ∈ lw_privs_2) : Cond.selects q.1.cls q.1 q.1 ∈ lw_tbl := List.mem_append_left _ (List.mem_map.mpr ⟨q, List.mem_append_right _ (List.mem_append_left _ h), rfl⟩)
theorem sm_v3 {q : MethodName × Nat} (h : q ∈ lw_privs_3) : Cond.selects q.1.cls q.1 q.1 ∈ lw_tbl := List.mem_append_left _ (List.mem_map.mpr ⟨q, List.mem_append_right _ (List.mem_append_right _ (List.mem_append_left _ h)), rfl⟩)
theorem sm_v4 {q : MethodName × Nat} (h : q ∈ lw_privs_4) : Cond.selects q.1.cls q.1 q.1 ∈ lw_tbl := List.mem_append_left _ (List.mem_map.mpr ⟨q, List.mem_append_right _ (List.mem_append_right _ (List.mem_append_right _ (List.mem_append_left _ h))), rfl⟩)
theorem sm_v5 {q : MethodName × Nat} (h : q ∈ lw_privs_5) : Cond.selects q.1.cls q.1 q.1 ∈ lw_tbl := List.mem_append_left _ (List.mem_map.mpr ⟨q, List.mem_append_right _ (List.mem_append_right _ (List.mem_append_right _ (List.mem_append_right _ (List.mem_append_left _ h)))), rfl⟩)
theorem sm_v6 {q : MethodName × Nat} (h : q ∈ lw_privs_6) : Cond.selects q.1.cls q.1 q.1 ∈ lw_tbl := List.mem_append_left _ (List.mem_map.mpr ⟨q, List.mem_append_right _ (List.mem_append_right _ (List.mem_append_right _ (List.mem_append_right _ (List.mem_append_right _ (List.mem_append_left _ h))))), rfl⟩)
theorem sm_v7 {q : MethodName × Nat} (h : q ∈ lw_privs_7) : Cond.selects q.1.cls q.1 q.1 ∈ lw_tbl := List.mem_append_left _ (List.mem_map.mpr ⟨q, List.mem_append_right _ (List.mem_append_right _ (List.mem_append_right _ (List.mem_append_right _ (List.mem_append_right _ (List.mem_append_right _ (List.mem_append_left _ h)))))), rfl⟩)
theorem sm_v8 {q : MethodName × Nat} (h : q ∈ lw_privs_8) : Cond.selects q.1.cls q.1 q.1 ∈ lw_tbl := List.mem_append_left _ (List.mem_map.mpr ⟨q, List.mem_append_right _ (List.mem_append_right _ (List.mem_append_right _ (List.mem_append_right _ (List.mem_append_right _ (List.mem_append_right _ (List.mem_append_right _ (List.mem_append_left _ h))))))), rfl⟩)
theorem sm_v9 {q : MethodName × Nat} (h : q ∈ lw_privs_9) : Cond.selects q.1.cls q.1 q.1 ∈ lw_tbl := List.mem_append_left _ (List.mem_map.mpr ⟨q, List.mem_append_right _ (List.mem_append_right _ (List.mem_append_right _ (List.mem_append_right _ (List.mem_append_right _ (List.mem_append_right _ (List.mem_append_right _ (List.mem_append_right _ (List.mem_append_left _ h)))))))), rfl⟩)
theorem sm_v10 {q : MethodName × Nat} (h : q ∈ lw_privs_10) : Cond.selects q.1.cls q.1 q.1 ∈ lw_tbl := List.mem_append_left _ (List.mem_map.mpr ⟨q, List.mem_append_right _ (List.mem_append_right _ (List.mem_append_right _ (List.mem_append_right _ (List.mem_append_right _ (List.mem_append_right _ (List.mem_append_right _ (List.mem_append_right _ (List.mem_append_right _ (h))))))))), rfl⟩)
theorem neX0 : RX0 ≠ "java/lang/invoke/MethodHandle" ∧ RX0 ≠ "java/lang/invoke/VarHandle" := by decide +kernel
theorem wNX0 : Cond.initialized RX0 ∈ sm_TB := sm_inT (sm_t1 (List.mem_of_getElem? (i := 5) rfl)) rfl
theorem neX1 : RX1 ≠ "java/lang/invoke/MethodHandle" ∧ RX1 ≠ "java/lang/invoke/VarHandle" := by decide +kernel
theorem wNX1 : Cond.initialized RX1 ∈ sm_TB := sm_inT (sm_t1 (List.mem_of_getElem? (i := 11) rfl)) rfl
theorem neX2 : RX2 ≠ "java/lang/invoke/MethodHandle" ∧ RX2 ≠ "java/lang/invoke/VarHandle" := by decide +kernel
theorem wNX2 : Cond.initialized RX2 ∈ sm_TB := sm_inT (sm_t1 (List.mem_of_getElem? (i := 10) rfl)) rfl
theorem neX3 : RX3 ≠ "java/lang/invoke/MethodHandle" ∧ RX3 ≠ "java/lang/invoke/VarHandle" := by decide +kernel
theorem wNX3 : Cond.initialized RX3 ∈ sm_TB := sm_inT (sm_t1 (List.mem_of_getElem? (i := 3) rfl)) rfl
theorem neX4 : RX4 ≠ "java/lang/invoke/MethodHandle" ∧ RX4 ≠ "java/lang/invoke/VarHandle" := by decide +kernel
theorem wNX4 : Cond.initialized RX4 ∈ sm_TB := sm_inT (sm_t1 (List.mem_of_getElem? (i := 13) rfl)) rfl
theorem neX5 : RX5 ≠ "java/lang/invoke/MethodHandle" ∧ RX5 ≠ "java/lang/invoke/VarHandle" := by decide +kernel
theorem wNX5 : Cond.initialized RX5 ∈ sm_TB := sm_inT (sm_t1 (List.mem_of_getElem? (i := 9) rfl)) rfl
theorem neX6 : RX6 ≠ "java/lang/invoke/MethodHandle" ∧ RX6 ≠ "java/lang/invoke/VarHandle" := by decide +kernel
theorem wNX6 : Cond.initialized RX6 ∈ sm_TB := sm_inT (sm_t1 (List.mem_of_getElem? (i := 7) rfl)) rfl
theorem neX7 : RX7 ≠ "java/lang/invoke/MethodHandle" ∧ RX7 ≠ "java/lang/invoke/VarHandle" := by decide +kernel
theorem wNX7 : Cond.initialized RX7 ∈ sm_TB := sm_inT (sm_t1 (List.mem_of_getElem? (i := 8) rfl)) rfl
theorem neX8 : RX8 ≠ "java/lang/invoke/MethodHandle" ∧ RX8 ≠ "java/lang/invoke/VarHandle" := by decide +kernel
theorem wNX8 : Cond.initialized RX8 ∈ sm_TB := sm_inT (sm_t1 (List.mem_of_getElem? (i := 12) rfl)) rfl
theorem neX9 : RX9 ≠ "java/lang/invoke/MethodHandle" ∧ RX9 ≠ "java/lang/invoke/VarHandle" := by decide +kernel
theorem wNX9 : Cond.initialized RX9 ∈ sm_TB := sm_inT (sm_t1 (List.mem_of_getElem? (i := 6) rfl)) rfl
theorem neX10 : RX10 ≠ "java/lang/invoke/MethodHandle" ∧ RX10 ≠ "java/lang/invoke/VarHandle" := by decide +kernel
theorem wNX10 : Cond.initialized RX10 ∈ sm_TB := sm_inT (sm_t1 (List.mem_of_getElem? (i := 1) rfl)) rfl
theorem neX11 : RX11 ≠ "java/lang/invoke/MethodHandle" ∧ RX11 ≠ "java/lang/invoke/VarHandle" := by decide +kernel
theorem wNX11 : Cond.initialized RX11 ∈ sm_TB := sm_inT (sm_t1 (List.mem_of_getElem? (i := 14) rfl)) rfl
theorem neJ6 : RJ6 ≠ "java/lang/invoke/MethodHandle" ∧ RJ6 ≠ "java/lang/invoke/VarHandle" := by decide +kernel
theorem wNJ6 : Cond.initialized RJ6 ∈ sm_TB := sm_inT (sm_t1 (List.mem_of_getElem? (i := 20) rfl)) rfl
theorem neJ13 : RJ13 ≠ "java/lang/invoke/MethodHandle" ∧ RJ13 ≠ "java/lang/invoke/VarHandle" := by decide +kernel
theorem wNJ13 : Cond.initialized RJ13 ∈ sm_TB := sm_inT (sm_t1 (List.mem_of_getElem? (i := 19) rfl)) rfl
theorem neJ7 : RJ7 ≠ "java/lang/invoke/MethodHandle" ∧ RJ7 ≠ "java/lang/invoke/VarHandle" := by decide +kernel
theorem wNJ7 : Cond.initialized RJ7 ∈ sm_TB := sm_inT (sm_t1 (List.mem_of_getElem? (i := 4) rfl)) rfl
theorem neL : RL ≠ "java/lang/invoke/MethodHandle" ∧ RL ≠ "java/lang/invoke/VarHandle" := by decide +kernel
theorem wNL : Cond.initialized RL ∈ sm_TB := sm_inT (sm_t1 (List.mem_of_getElem? (i := 0) rfl)) rfl
theorem neJ0 : RJ0 ≠ "java/lang/invoke/MethodHandle" ∧ RJ0 ≠ "java/lang/invoke/VarHandle" := by decide +kernel
theorem wNJ0 : Cond.initialized RJ0 ∈ sm_TB := sm_inT (sm_t1 (List.mem_of_getElem? (i := 15) rfl)) rfl
theorem wMn : Cond.initialized "java/lang/Math" ∈ sm_TB := sm_inT (sm_t1 (List.mem_of_getElem? (i := 2) rfl)) rfl
theorem wMs5 : Cond.static Lib.Math.max.name ∈ sm_TB := sm_inT (sm_t1 (List.mem_of_getElem? (i := 33) rfl)) rfl
theorem wMc5 : Cond.code Lib.Math.max.name Lib.Math.max.code 2 (some .int) ∈ sm_TB := sm_inT (sm_t1 (List.mem_of_getElem? (i := 34) rfl)) rfl
theorem wMs6 : Cond.static Lib.Math.min.name ∈ sm_TB := sm_inT (sm_t1 (List.mem_of_getElem? (i := 30) rfl)) rfl
theorem wMc6 : Cond.code Lib.Math.min.name Lib.Math.min.code 2 (some .int) ∈ sm_TB := sm_inT (sm_t1 (List.mem_of_getElem? (i := 31) rfl)) rfl
theorem wMs7 : Cond.static Lib.Math.abs.name ∈ sm_TB := sm_inT (sm_t4 (List.mem_of_getElem? (i := 35) rfl)) rfl
theorem wMc7 : Cond.code Lib.Math.abs.name Lib.Math.abs.code 1 (some .int) ∈ sm_TB := sm_inT (sm_t4 (List.mem_of_getElem? (i := 36) rfl)) rfl
theorem wObI : Cond.instanceMethod Lib.objectInit ∈ sm_TB := sm_inT (sm_t1 (List.mem_of_getElem? (i := 27) rfl)) rfl
theorem wObC : Cond.code Lib.objectInit ⟨#[0xb1]⟩ 1 none ∈ sm_TB := sm_inT (sm_t1 (List.mem_of_getElem? (i := 28) rfl)) rfl
theorem wCX0_init : Cond.code yX0_init cX0_init 4 none ∈ sm_TB := sm_inT (sm_t1 (List.mem_of_getElem? (i := 88) rfl)) rfl
theorem hdX0_init : sm_hdk sm_TB yX0_init cX0_init 4 none 3 := ⟨wCX0_init, wNX0, ⟨neX0.1, neX0.2, by decide +kernel⟩, by decide⟩
theorem wIX0_init : Cond.instanceMethod yX0_init ∈ sm_TB := sm_inT (sm_t1 (List.mem_of_getElem? (i := 87) rfl)) rfl
set_option maxRecDepth 20000 in
theorem hkX0_init : sm_fd sm_pg 0 = some miX0_init := by rfl
theorem hhX0_init : sm_fd sm_hds 0 = some (yX0_init, cX0_init, 4, none) := sm_hh hkX0_init
theorem wCX0_weave : Cond.code yX0_weave cX0_weave 1 none ∈ sm_TB := sm_inT (sm_t4 (List.mem_of_getElem? (i := 115) rfl)) rfl
theorem hdX0_weave : sm_hdk sm_TB yX0_weave cX0_weave 1 none 0 := ⟨wCX0_weave, wNX0, ⟨neX0.1, neX0.2, by decide +kernel⟩, by decide⟩
theorem wIX0_weave : Cond.instanceMethod yX0_weave ∈ sm_TB := sm_inT (sm_t4 (List.mem_of_getElem? (i := 114) rfl)) rfl
theorem wVX0_weave : Cond.selects RX0 yX0_weave yX0_weave ∈ sm_TB := sm_inT (sm_v4 (q := (yX0_weave, 12)) (List.mem_of_getElem? (i := 3) rfl)) rfl
set_option maxRecDepth 20000 in
theorem hkX0_weave : sm_fd sm_pg 1 = some miX0_weave := by rfl
theorem hhX0_weave : sm_fd sm_hds 1 = some (yX0_weave, cX0_weave, 1, none) := sm_hh hkX0_weave
theorem wCX0_picksOf : Cond.code yX0_picksOf cX0_picksOf 2 (some .long) ∈ sm_TB := sm_inT (sm_t4 (List.mem_of_getElem? (i := 138) rfl)) rfl
theorem hdX0_picksOf : sm_hdk sm_TB yX0_picksOf cX0_picksOf 2 (some .long) 1 := ⟨wCX0_picksOf, wNX0, ⟨neX0.1, neX0.2, by decide +kernel⟩, by decide⟩
theorem wIX0_picksOf : Cond.instanceMethod yX0_picksOf ∈ sm_TB := sm_inT (sm_t4 (List.mem_of_getElem? (i := 137) rfl)) rfl
theorem wVX0_picksOf : Cond.selects RX0 yX0_picksOf yX0_picksOf ∈ sm_TB := sm_inT (sm_v4 (q := (yX0_picksOf, 12)) (List.mem_of_getElem? (i := 7) rfl)) rfl
set_option maxRecDepth 20000 in
theorem hkX0_picksOf : sm_fd sm_pg 2 = some miX0_picksOf := by rfl
theorem hhX0_picksOf : sm_fd sm_hds 2 = some (yX0_picksOf, cX0_picksOf, 2, (some .long)) := sm_hh hkX0_picksOf
theorem wCX0_press : Cond.code yX0_press cX0_press 5 none ∈ sm_TB := sm_inT (sm_t4 (List.mem_of_getElem? (i := 119) rfl)) rfl
theorem hdX0_press : sm_hdk sm_TB yX0_press cX0_press 5 none 0 := ⟨wCX0_press, wNX0, ⟨neX0.1, neX0.2, by decide +kernel⟩, by decide⟩
theorem wIX0_press : Cond.instanceMethod yX0_press ∈ sm_TB := sm_inT (sm_t4 (List.mem_of_getElem? (i := 118) rfl)) rfl
theorem wVX0_press : Cond.selects RX0 yX0_press yX0_press ∈ sm_TB := sm_inT (sm_v4 (q := (yX0_press, 12)) (List.mem_of_getElem? (i := 4) rfl)) rfl
set_option maxRecDepth 20000 in
theorem hkX0_press : sm_fd sm_pg 3 = some miX0_press := by rfl
theorem hhX0_press : sm_fd sm_hds 3 = some (yX0_press, cX0_press, 5, none) := sm_hh hkX0_press
theorem wCX0_raise : Cond.code yX0_raise cX0_raise 3 none ∈ sm_TB := sm_inT (sm_t4 (List.mem_of_getElem? (i := 130) rfl)) rfl
theorem hdX0_raise : sm_hdk sm_TB yX0_raise cX0_raise 3 none 0 := ⟨wCX0_raise, wNX0, ⟨neX0.1, neX0.2, by decide +kernel⟩, by decide⟩
theorem wIX0_raise : Cond.instanceMethod yX0_raise ∈ sm_TB := sm_inT (sm_t4 (List.mem_of_getElem? (i := 129) rfl)) rfl
theorem wVX0_raise : Cond.selects RX0 yX0_raise yX0_raise ∈ sm_TB := sm_inT (sm_v4 (q := (yX0_raise, 12)) (List.mem_of_getElem? (i := 5) rfl)) rfl
set_option maxRecDepth 20000 in
theorem hkX0_raise : sm_fd sm_pg 4 = some miX0_raise := by rfl
theorem hhX0_raise : sm_fd sm_hds 4 = some (yX0_raise, cX0_raise, 3, none) := sm_hh hkX0_raise
theorem wCX0_hang : Cond.code yX0_hang cX0_hang 3 none ∈ sm_TB := sm_inT (sm_t4 (List.mem_of_getElem? (i := 134) rfl)) rfl
theorem hdX0_hang : sm_hdk sm_TB yX0_hang cX0_hang 3 none 0 := ⟨wCX0_hang, wNX0, ⟨neX0.1, neX0.2, by decide +kernel⟩, by decide⟩
theorem wIX0_hang : Cond.instanceMethod yX0_hang ∈ sm_TB := sm_inT (sm_t4 (List.mem_of_getElem? (i := 133) rfl)) rfl
theorem wVX0_hang : Cond.selects RX0 yX0_hang yX0_hang ∈ sm_TB := sm_inT (sm_v4 (q := (yX0_hang, 12)) (List.mem_of_getElem? (i := 6) rfl)) rfl
set_option maxRecDepth 20000 in
theorem hkX0_hang : sm_fd sm_pg 5 = some miX0_hang := by rfl
theorem hhX0_hang : sm_fd sm_hds 5 = some (yX0_hang, cX0_hang, 3, none) := sm_hh hkX0_hang
theorem wCX0_cross : Cond.code yX0_cross cX0_cross 5 none ∈ sm_TB := sm_inT (sm_t4 (List.mem_of_getElem? (i := 142) rfl)) rfl
theorem hdX0_cross : sm_hdk sm_TB yX0_cross cX0_cross 5 none 0 := ⟨wCX0_cross, wNX0, ⟨neX0.1, neX0.2, by decide +kernel⟩, by decide⟩
theorem wIX0_cross : Cond.instanceMethod yX0_cross ∈ sm_TB := sm_inT (sm_t4 (List.mem_of_getElem? (i := 141) rfl)) rfl
theorem wVX0_cross : Cond.selects RX0 yX0_cross yX0_cross ∈ sm_TB := sm_inT (sm_v4 (q := (yX0_cross, 12)) (List.mem_of_getElem? (i := 8) rfl)) rfl
set_option maxRecDepth 20000 in
theorem hkX0_cross : sm_fd sm_pg 6 = some miX0_cross := by rfl
theorem hhX0_cross : sm_fd sm_hds 6 = some (yX0_cross, cX0_cross, 5, none) := sm_hh hkX0_cross
theorem wCX1_init : Cond.code yX1_init cX1_init 2 none ∈ sm_TB := sm_inT (sm_t2 (List.mem_of_getElem? (i := 105) rfl)) rfl
theorem hdX1_init : sm_hdk sm_TB yX1_init cX1_init 2 none 1 := ⟨wCX1_init, wNX1, ⟨neX1.1, neX1.2, by decide +kernel⟩, by decide⟩
theorem wIX1_init : Cond.instanceMethod yX1_init ∈ sm_TB := sm_inT (sm_t2 (List.mem_of_getElem? (i := 104) rfl)) rfl
set_option maxRecDepth 20000 in
theorem hkX1_init : sm_fd sm_pg 7 = some miX1_init := by rfl
theorem hhX1_init : sm_fd sm_hds 7 = some (yX1_init, cX1_init, 2, none) := sm_hh hkX1_init
theorem wCX1_find : Cond.code yX1_find cX1_find 1 none ∈ sm_TB := sm_inT (sm_t5 (List.mem_of_getElem? (i := 84) rfl)) rfl
theorem hdX1_find : sm_hdk sm_TB yX1_find cX1_find 1 none 0 := ⟨wCX1_find, wNX1, ⟨neX1.1, neX1.2, by decide +kernel⟩, by decide⟩
theorem wIX1_find : Cond.instanceMethod yX1_find ∈ sm_TB := sm_inT (sm_t5 (List.mem_of_getElem? (i := 83) rfl)) rfl
theorem wVX1_find : Cond.selects RX1 yX1_find yX1_find ∈ sm_TB := sm_inT (sm_v5 (q := (yX1_find, 13)) (List.mem_of_getElem? (i := 15) rfl)) rfl
set_option maxRecDepth 20000 in
theorem hkX1_find : sm_fd sm_pg 8 = some miX1_find := by rfl
theorem hhX1_find : sm_fd sm_hds 8 = some (yX1_find, cX1_find, 1, none) := sm_hh hkX1_find
theorem wCX1_tieAt : Cond.code yX1_tieAt cX1_tieAt 2 (some .int) ∈ sm_TB := sm_inT (sm_t5 (List.mem_of_getElem? (i := 137) rfl)) rfl
theorem hdX1_tieAt : sm_hdk sm_TB yX1_tieAt cX1_tieAt 2 (some .int) 1 := ⟨wCX1_tieAt, wNX1, ⟨neX1.1, neX1.2, by decide +kernel⟩, by decide⟩
theorem wIX1_tieAt : Cond.instanceMethod yX1_tieAt ∈ sm_TB := sm_inT (sm_t5 (List.mem_of_getElem? (i := 136) rfl)) rfl
theorem wVX1_tieAt : Cond.selects RX1 yX1_tieAt yX1_tieAt ∈ sm_TB := sm_inT (sm_v6 (q := (yX1_tieAt, 13)) (List.mem_of_getElem? (i := 10) rfl)) rfl
set_option maxRecDepth 20000 in
theorem hkX1_tieAt : sm_fd sm_pg 9 = some miX1_tieAt := by rfl
theorem hhX1_tieAt : sm_fd sm_hds 9 = some (yX1_tieAt, cX1_tieAt, 2, (some .int)) := sm_hh hkX1_tieAt
theorem wCX1_collectLifts : Cond.code yX1_collectLifts cX1_collectLifts 3 (some .boolean) ∈ sm_TB := sm_inT (sm_t5 (List.mem_of_getElem? (i := 88) rfl)) rfl
theorem hdX1_collectLifts : sm_hdk sm_TB yX1_collectLifts cX1_collectLifts 3 (some .boolean) 0 := ⟨wCX1_collectLifts, wNX1, ⟨neX1.1, neX1.2, by decide +kernel⟩, by decide⟩
theorem wIX1_collectLifts : Cond.instanceMethod yX1_collectLifts ∈ sm_TB := sm_inT (sm_t5 (List.mem_of_getElem? (i := 87) rfl)) rfl
theorem wVX1_collectLifts : Cond.selects RX1 yX1_collectLifts yX1_collectLifts ∈ sm_TB := sm_inT (sm_v6 (q := (yX1_collectLifts, 13)) (List.mem_of_getElem? (i := 0) rfl)) rfl
set_option maxRecDepth 20000 in
theorem hkX1_collectLifts : sm_fd sm_pg 10 = some miX1_collectLifts := by rfl
theorem hhX1_collectLifts : sm_fd sm_hds 10 = some (yX1_collectLifts, cX1_collectLifts, 3, (some .boolean)) := sm_hh hkX1_collectLifts
theorem wCX1_isIn : Cond.code yX1_isIn cX1_isIn 5 (some .boolean) ∈ sm_TB := sm_inT (sm_t5 (List.mem_of_getElem? (i := 91) rfl)) rfl
theorem hdX1_isIn : sm_hdk sm_TB yX1_isIn cX1_isIn 5 (some .boolean) 3 := ⟨wCX1_isIn, wNX1, ⟨neX1.1, neX1.2, by decide +kernel⟩, by decide⟩
theorem wSX1_isIn : Cond.static yX1_isIn ∈ sm_TB := sm_inT (sm_t5 (List.mem_of_getElem? (i := 90) rfl)) rfl
set_option maxRecDepth 20000 in
theorem hkX1_isIn : sm_fd sm_pg 11 = some miX1_isIn := by rfl
theorem hhX1_isIn : sm_fd sm_hds 11 = some (yX1_isIn, cX1_isIn, 5, (some .boolean)) := sm_hh hkX1_isIn
theorem wCX1_collectTies : Cond.code yX1_collectTies cX1_collectTies 4 none ∈ sm_TB := sm_inT (sm_t5 (List.mem_of_getElem? (i := 95) rfl)) rfl
theorem hdX1_collectTies : sm_hdk sm_TB yX1_collectTies cX1_collectTies 4 none 0 := ⟨wCX1_collectTies, wNX1, ⟨neX1.1, neX1.2, by decide +kernel⟩, by decide⟩
theorem wIX1_collectTies : Cond.instanceMethod yX1_collectTies ∈ sm_TB := sm_inT (sm_t5 (List.mem_of_getElem? (i := 94) rfl)) rfl
theorem wVX1_collectTies : Cond.selects RX1 yX1_collectTies yX1_collectTies ∈ sm_TB := sm_inT (sm_v6 (q := (yX1_collectTies, 13)) (List.mem_of_getElem? (i := 1) rfl)) rfl
set_option maxRecDepth 20000 in
theorem hkX1_collectTies : sm_fd sm_pg 12 = some miX1_collectTies := by rfl
theorem hhX1_collectTies : sm_fd sm_hds 12 = some (yX1_collectTies, cX1_collectTies, 4, none) := sm_hh hkX1_collectTies
theorem wCX1_insertTie : Cond.code yX1_insertTie cX1_insertTie 3 none ∈ sm_TB := sm_inT (sm_t5 (List.mem_of_getElem? (i := 101) rfl)) rfl
theorem hdX1_insertTie : sm_hdk sm_TB yX1_insertTie cX1_insertTie 3 none 1 := ⟨wCX1_insertTie, wNX1, ⟨neX1.1, neX1.2, by decide +kernel⟩, by decide⟩
theorem wIX1_insertTie : Cond.instanceMethod yX1_insertTie ∈ sm_TB := sm_inT (sm_t5 (List.mem_of_getElem? (i := 100) rfl)) rfl
theorem wVX1_insertTie : Cond.selects RX1 yX1_insertTie yX1_insertTie ∈ sm_TB := sm_inT (sm_v6 (q := (yX1_insertTie, 13)) (List.mem_of_getElem? (i := 2) rfl)) rfl
set_option maxRecDepth 20000 in
theorem hkX1_insertTie : sm_fd sm_pg 13 = some miX1_insertTie := by rfl
theorem hhX1_insertTie : sm_fd sm_hds 13 = some (yX1_insertTie, cX1_insertTie, 3, none) := sm_hh hkX1_insertTie
theorem wCX1_markGifts : Cond.code yX1_markGifts cX1_markGifts 3 none ∈ sm_TB := sm_inT (sm_t5 (List.mem_of_getElem? (i := 105) rfl)) rfl
theorem hdX1_markGifts : sm_hdk sm_TB yX1_markGifts cX1_markGifts 3 none 0 := ⟨wCX1_markGifts, wNX1, ⟨neX1.1, neX1.2, by decide +kernel⟩, by decide⟩
theorem wIX1_markGifts : Cond.instanceMethod yX1_markGifts ∈ sm_TB := sm_inT (sm_t5 (List.mem_of_getElem? (i := 104) rfl)) rfl
theorem wVX1_markGifts : Cond.selects RX1 yX1_markGifts yX1_markGifts ∈ sm_TB := sm_inT (sm_v6 (q := (yX1_markGifts, 13)) (List.mem_of_getElem? (i := 3) rfl)) rfl
set_option maxRecDepth 20000 in
theorem hkX1_markGifts : sm_fd sm_pg 14 = some miX1_markGifts := by rfl
theorem hhX1_markGifts : sm_fd sm_hds 14 = some (yX1_markGifts, cX1_markGifts, 3, none) := sm_hh hkX1_markGifts
theorem wCX1_gatherGifts : Cond.code yX1_gatherGifts cX1_gatherGifts 3 none ∈ sm_TB := sm_inT (sm_t5 (List.mem_of_getElem? (i := 118) rfl)) rfl
theorem hdX1_gatherGifts : sm_hdk sm_TB yX1_gatherGifts cX1_gatherGifts 3 none 0 := ⟨wCX1_gatherGifts, wNX1, ⟨neX1.1, neX1.2, by decide +kernel⟩, by decide⟩
theorem wIX1_gatherGifts : Cond.instanceMethod yX1_gatherGifts ∈ sm_TB := sm_inT (sm_t5 (List.mem_of_getElem? (i := 117) rfl)) rfl
theorem wVX1_gatherGifts : Cond.selects RX1 yX1_gatherGifts yX1_gatherGifts ∈ sm_TB := sm_inT (sm_v6 (q := (yX1_gatherGifts, 13)) (List.mem_of_getElem? (i := 6) rfl)) rfl
set_option maxRecDepth 20000 in
theorem hkX1_gatherGifts : sm_fd sm_pg 15 = some miX1_gatherGifts := by rfl
theorem hhX1_gatherGifts : sm_fd sm_hds 15 = some (yX1_gatherGifts, cX1_gatherGifts, 3, none) := sm_hh hkX1_gatherGifts
theorem wCX1_sortShafts : Cond.code yX1_sortShafts cX1_sortShafts 4 none ∈ sm_TB := sm_inT (sm_t5 (List.mem_of_getElem? (i := 109) rfl)) rfl
theorem hdX1_sortShafts : sm_hdk sm_TB yX1_sortShafts cX1_sortShafts 4 none 0 := ⟨wCX1_sortShafts, wNX1, ⟨neX1.1, neX1.2, by decide +kernel⟩, by decide⟩
theorem wIX1_sortShafts : Cond.instanceMethod yX1_sortShafts ∈ sm_TB := sm_inT (sm_t5 (List.mem_of_getElem? (i := 108) rfl)) rfl
theorem wVX1_sortShafts : Cond.selects RX1 yX1_sortShafts yX1_sortShafts ∈ sm_TB := sm_inT (sm_v6 (q := (yX1_sortShafts, 13)) (List.mem_of_getElem? (i := 4) rfl)) rfl
set_option maxRecDepth 20000 in
theorem hkX1_sortShafts : sm_fd sm_pg 16 = some miX1_sortShafts := by rfl
theorem hhX1_sortShafts : sm_fd sm_hds 16 = some (yX1_sortShafts, cX1_sortShafts, 4, none) := sm_hh hkX1_sortShafts
theorem wCX1_markGift : Cond.code yX1_markGift cX1_markGift 4 none ∈ sm_TB := sm_inT (sm_t5 (List.mem_of_getElem? (i := 114) rfl)) rfl
theorem hdX1_markGift : sm_hdk sm_TB yX1_markGift cX1_markGift 4 none 2 := ⟨wCX1_markGift, wNX1, ⟨neX1.1, neX1.2, by decide +kernel⟩, by decide⟩
theorem wIX1_markGift : Cond.instanceMethod yX1_markGift ∈ sm_TB := sm_inT (sm_t5 (List.mem_of_getElem? (i := 113) rfl)) rfl
theorem wVX1_markGift : Cond.selects RX1 yX1_markGift yX1_markGift ∈ sm_TB := sm_inT (sm_v6 (q := (yX1_markGift, 13)) (List.mem_of_getElem? (i := 5) rfl)) rfl
set_option maxRecDepth 20000 in
theorem hkX1_markGift : sm_fd sm_pg 17 = some miX1_markGift := by rfl
theorem hhX1_markGift : sm_fd sm_hds 17 = some (yX1_markGift, cX1_markGift, 4, none) := sm_hh hkX1_markGift
theorem wCX1_findLeast : Cond.code yX1_findLeast cX1_findLeast 3 none ∈ sm_TB := sm_inT (sm_t5 (List.mem_of_getElem? (i := 122) rfl)) rfl
theorem hdX1_findLeast : sm_hdk sm_TB yX1_findLeast cX1_findLeast 3 none 0 := ⟨wCX1_findLeast, wNX1, ⟨neX1.1, neX1.2, by decide +kernel⟩, by decide⟩
theorem wIX1_findLeast : Cond.instanceMethod yX1_findLeast ∈ sm_TB := sm_inT (sm_t5 (List.mem_of_getElem? (i := 121) rfl)) rfl
theorem wVX1_findLeast : Cond.selects RX1 yX1_findLeast yX1_findLeast ∈ sm_TB := sm_inT (sm_v6 (q := (yX1_findLeast, 13)) (List.mem_of_getElem? (i := 7) rfl)) rfl
set_option maxRecDepth 20000 in
theorem hkX1_findLeast : sm_fd sm_pg 18 = some miX1_findLeast := by rfl
theorem hhX1_findLeast : sm_fd sm_hds 18 = some (yX1_findLeast, cX1_findLeast, 3, none) := sm_hh hkX1_findLeast
theorem wCX1_needsMore : Cond.code yX1_needsMore cX1_needsMore 8 (some .boolean) ∈ sm_TB := sm_inT (sm_t5 (List.mem_of_getElem? (i := 132) rfl)) rfl
theorem hdX1_needsMore : sm_hdk sm_TB yX1_needsMore cX1_needsMore 8 (some .boolean) 2 := ⟨wCX1_needsMore, wNX1, ⟨neX1.1, neX1.2, by decide +kernel⟩, by decide⟩
theorem wIX1_needsMore : Cond.instanceMethod yX1_needsMore ∈ sm_TB := sm_inT (sm_t5 (List.mem_of_getElem? (i := 131) rfl)) rfl
theorem wVX1_needsMore : Cond.selects RX1 yX1_needsMore yX1_needsMore ∈ sm_TB := sm_inT (sm_v6 (q := (yX1_needsMore, 13)) (List.mem_of_getElem? (i := 9) rfl)) rfl
set_option maxRecDepth 20000 in
theorem hkX1_needsMore : sm_fd sm_pg 19 = some miX1_needsMore := by rfl
theorem hhX1_needsMore : sm_fd sm_hds 19 = some (yX1_needsMore, cX1_needsMore, 8, (some .boolean)) := sm_hh hkX1_needsMore
theorem wCX1_choose : Cond.code yX1_choose cX1_choose 8 (some .boolean) ∈ sm_TB := sm_inT (sm_t5 (List.mem_of_getElem? (i := 126) rfl)) rfl
theorem hdX1_choose : sm_hdk sm_TB yX1_choose cX1_choose 8 (some .boolean) 3 := ⟨wCX1_choose, wNX1, ⟨neX1.1, neX1.2, by decide +kernel⟩, by decide⟩
theorem wIX1_choose : Cond.instanceMethod yX1_choose ∈ sm_TB := sm_inT (sm_t5 (List.mem_of_getElem? (i := 125) rfl)) rfl
theorem wVX1_choose : Cond.selects RX1 yX1_choose yX1_choose ∈ sm_TB := sm_inT (sm_v6 (q := (yX1_choose, 13)) (List.mem_of_getElem? (i := 8) rfl)) rfl
set_option maxRecDepth 20000 in
theorem hkX1_choose : sm_fd sm_pg 20 = some miX1_choose := by rfl
theorem hhX1_choose : sm_fd sm_hds 20 = some (yX1_choose, cX1_choose, 8, (some .boolean)) := sm_hh hkX1_choose
theorem wCX2_init : Cond.code yX2_init cX2_init 2 none ∈ sm_TB := sm_inT (sm_t2 (List.mem_of_getElem? (i := 55) rfl)) rfl
theorem hdX2_init : sm_hdk sm_TB yX2_init cX2_init 2 none 1 := ⟨wCX2_init, wNX2, ⟨neX2.1, neX2.2, by decide +kernel⟩, by decide⟩
theorem wIX2_init : Cond.instanceMethod yX2_init ∈ sm_TB := sm_inT (sm_t2 (List.mem_of_getElem? (i := 54) rfl)) rfl
set_option maxRecDepth 20000 in
theorem hkX2_init : sm_fd sm_pg 21 = some miX2_init := by rfl
theorem hhX2_init : sm_fd sm_hds 21 = some (yX2_init, cX2_init, 2, none) := sm_hh hkX2_init
theorem wCX2_sortPart : Cond.code yX2_sortPart cX2_sortPart 6 none ∈ sm_TB := sm_inT (sm_t4 (List.mem_of_getElem? (i := 213) rfl)) rfl
theorem hdX2_sortPart : sm_hdk sm_TB yX2_sortPart cX2_sortPart 6 none 4 := ⟨wCX2_sortPart, wNX2, ⟨neX2.1, neX2.2, by decide +kernel⟩, by decide⟩
theorem wIX2_sortPart : Cond.instanceMethod yX2_sortPart ∈ sm_TB := sm_inT (sm_t4 (List.mem_of_getElem? (i := 212) rfl)) rfl
theorem wVX2_sortPart : Cond.selects RX2 yX2_sortPart yX2_sortPart ∈ sm_TB := sm_inT (sm_v5 (q := (yX2_sortPart, 14)) (List.mem_of_getElem? (i := 0) rfl)) rfl
set_option maxRecDepth 20000 in
theorem hkX2_sortPart : sm_fd sm_pg 22 = some miX2_sortPart := by rfl
theorem hhX2_sortPart : sm_fd sm_hds 22 = some (yX2_sortPart, cX2_sortPart, 6, none) := sm_hh hkX2_sortPart
theorem wCX2_numberOf : Cond.code yX2_numberOf cX2_numberOf 2 (some .int) ∈ sm_TB := sm_inT (sm_t5 (List.mem_of_getElem? (i := 14) rfl)) rfl
theorem hdX2_numberOf : sm_hdk sm_TB yX2_numberOf cX2_numberOf 2 (some .int) 1 := ⟨wCX2_numberOf, wNX2, ⟨neX2.1, neX2.2, by decide +kernel⟩, by decide⟩
theorem wIX2_numberOf : Cond.instanceMethod yX2_numberOf ∈ sm_TB := sm_inT (sm_t5 (List.mem_of_getElem? (i := 13) rfl)) rfl
theorem wVX2_numberOf : Cond.selects RX2 yX2_numberOf yX2_numberOf ∈ sm_TB := sm_inT (sm_v5 (q := (yX2_numberOf, 14)) (List.mem_of_getElem? (i := 8) rfl)) rfl
set_option maxRecDepth 20000 in
theorem hkX2_numberOf : sm_fd sm_pg 23 = some miX2_numberOf := by rfl
theorem hhX2_numberOf : sm_fd sm_hds 23 = some (yX2_numberOf, cX2_numberOf, 2, (some .int)) := sm_hh hkX2_numberOf
theorem wCX2_relate : Cond.code yX2_relate cX2_relate 3 none ∈ sm_TB := sm_inT (sm_t4 (List.mem_of_getElem? (i := 221) rfl)) rfl
theorem hdX2_relate : sm_hdk sm_TB yX2_relate cX2_relate 3 none 0 := ⟨wCX2_relate, wNX2, ⟨neX2.1, neX2.2, by decide +kernel⟩, by decide⟩
theorem wIX2_relate : Cond.instanceMethod yX2_relate ∈ sm_TB := sm_inT (sm_t4 (List.mem_of_getElem? (i := 220) rfl)) rfl
theorem wVX2_relate : Cond.selects RX2 yX2_relate yX2_relate ∈ sm_TB := sm_inT (sm_v5 (q := (yX2_relate, 14)) (List.mem_of_getElem? (i := 1) rfl)) rfl
set_option maxRecDepth 20000 in
theorem hkX2_relate : sm_fd sm_pg 24 = some miX2_relate := by rfl
theorem hhX2_relate : sm_fd sm_hds 24 = some (yX2_relate, cX2_relate, 3, none) := sm_hh hkX2_relate
theorem wCX2_followChains : Cond.code yX2_followChains cX2_followChains 4 none ∈ sm_TB := sm_inT (sm_t4 (List.mem_of_getElem? (i := 225) rfl)) rfl
theorem hdX2_followChains : sm_hdk sm_TB yX2_followChains cX2_followChains 4 none 2 := ⟨wCX2_followChains, wNX2, ⟨neX2.1, neX2.2, by decide +kernel⟩, by decide⟩
theorem wIX2_followChains : Cond.instanceMethod yX2_followChains ∈ sm_TB := sm_inT (sm_t4 (List.mem_of_getElem? (i := 224) rfl)) rfl
theorem wVX2_followChains : Cond.selects RX2 yX2_followChains yX2_followChains ∈ sm_TB := sm_inT (sm_v5 (q := (yX2_followChains, 14)) (List.mem_of_getElem? (i := 2) rfl)) rfl
set_option maxRecDepth 20000 in
theorem hkX2_followChains : sm_fd sm_pg 25 = some miX2_followChains := by rfl
theorem hhX2_followChains : sm_fd sm_hds 25 = some (yX2_followChains, cX2_followChains, 4, none) := sm_hh hkX2_followChains
theorem wCX2_followThrough : Cond.code yX2_followThrough cX2_followThrough 13 none ∈ sm_TB := sm_inT (sm_t4 (List.mem_of_getElem? (i := 229) rfl)) rfl
theorem hdX2_followThrough : sm_hdk sm_TB yX2_followThrough cX2_followThrough 13 none 3 := ⟨wCX2_followThrough, wNX2, ⟨neX2.1, neX2.2, by decide +kernel⟩, by decide⟩
theorem wIX2_followThrough : Cond.instanceMethod yX2_followThrough ∈ sm_TB := sm_inT (sm_t4 (List.mem_of_getElem? (i := 228) rfl)) rfl
theorem wVX2_followThrough : Cond.selects RX2 yX2_followThrough yX2_followThrough ∈ sm_TB := sm_inT (sm_v5 (q := (yX2_followThrough, 14)) (List.mem_of_getElem? (i := 3) rfl)) rfl
set_option maxRecDepth 20000 in
theorem hkX2_followThrough : sm_fd sm_pg 26 = some miX2_followThrough := by rfl
theorem hhX2_followThrough : sm_fd sm_hds 26 = some (yX2_followThrough, cX2_followThrough, 13, none) := sm_hh hkX2_followThrough
theorem wCX2_numberAll : Cond.code yX2_numberAll cX2_numberAll 3 none ∈ sm_TB := sm_inT (sm_t4 (List.mem_of_getElem? (i := 233) rfl)) rfl
theorem hdX2_numberAll : sm_hdk sm_TB yX2_numberAll cX2_numberAll 3 none 0 := ⟨wCX2_numberAll, wNX2, ⟨neX2.1, neX2.2, by decide +kernel⟩, by decide⟩
theorem wIX2_numberAll : Cond.instanceMethod yX2_numberAll ∈ sm_TB := sm_inT (sm_t4 (List.mem_of_getElem? (i := 232) rfl)) rfl
theorem wVX2_numberAll : Cond.selects RX2 yX2_numberAll yX2_numberAll ∈ sm_TB := sm_inT (sm_v5 (q := (yX2_numberAll, 14)) (List.mem_of_getElem? (i := 4) rfl)) rfl
set_option maxRecDepth 20000 in
theorem hkX2_numberAll : sm_fd sm_pg 27 = some miX2_numberAll := by rfl
theorem hhX2_numberAll : sm_fd sm_hds 27 = some (yX2_numberAll, cX2_numberAll, 3, none) := sm_hh hkX2_numberAll
theorem wCX2_lowestOnTop : Cond.code yX2_lowestOnTop cX2_lowestOnTop 2 (some .int) ∈ sm_TB := sm_inT (sm_t4 (List.mem_of_getElem? (i := 237) rfl)) rfl
theorem hdX2_lowestOnTop : sm_hdk sm_TB yX2_lowestOnTop cX2_lowestOnTop 2 (some .int) 0 := ⟨wCX2_lowestOnTop, wNX2, ⟨neX2.1, neX2.2, by decide +kernel⟩, by decide⟩
theorem wIX2_lowestOnTop : Cond.instanceMethod yX2_lowestOnTop ∈ sm_TB := sm_inT (sm_t4 (List.mem_of_getElem? (i := 236) rfl)) rfl
theorem wVX2_lowestOnTop : Cond.selects RX2 yX2_lowestOnTop yX2_lowestOnTop ∈ sm_TB := sm_inT (sm_v5 (q := (yX2_lowestOnTop, 14)) (List.mem_of_getElem? (i := 5) rfl)) rfl
set_option maxRecDepth 20000 in
theorem hkX2_lowestOnTop : sm_fd sm_pg 28 = some miX2_lowestOnTop := by rfl
theorem hhX2_lowestOnTop : sm_fd sm_hds 28 = some (yX2_lowestOnTop, cX2_lowestOnTop, 2, (some .int)) := sm_hh hkX2_lowestOnTop
theorem wCX2_isOnTop : Cond.code yX2_isOnTop cX2_isOnTop 2 (some .boolean) ∈ sm_TB := sm_inT (sm_t5 (List.mem_of_getElem? (i := 2) rfl)) rfl
theorem hdX2_isOnTop : sm_hdk sm_TB yX2_isOnTop cX2_isOnTop 2 (some .boolean) 1 := ⟨wCX2_isOnTop, wNX2, ⟨neX2.1, neX2.2, by decide +kernel⟩, by decide⟩
theorem wIX2_isOnTop : Cond.instanceMethod yX2_isOnTop ∈ sm_TB := sm_inT (sm_t5 (List.mem_of_getElem? (i := 1) rfl)) rfl
theorem wVX2_isOnTop : Cond.selects RX2 yX2_isOnTop yX2_isOnTop ∈ sm_TB := sm_inT (sm_v5 (q := (yX2_isOnTop, 14)) (List.mem_of_getElem? (i := 6) rfl)) rfl
set_option maxRecDepth 20000 in
theorem hkX2_isOnTop : sm_fd sm_pg 29 = some miX2_isOnTop := by rfl
theorem hhX2_isOnTop : sm_fd sm_hds 29 = some (yX2_isOnTop, cX2_isOnTop, 2, (some .boolean)) := sm_hh hkX2_isOnTop
theorem wCX2_numberLayerOf : Cond.code yX2_numberLayerOf cX2_numberLayerOf 8 none ∈ sm_TB := sm_inT (sm_t5 (List.mem_of_getElem? (i := 6) rfl)) rfl
theorem hdX2_numberLayerOf : sm_hdk sm_TB yX2_numberLayerOf cX2_numberLayerOf 8 none 1 := ⟨wCX2_numberLayerOf, wNX2, ⟨neX2.1, neX2.2, by decide +kernel⟩, by decide⟩
theorem wIX2_numberLayerOf : Cond.instanceMethod yX2_numberLayerOf ∈ sm_TB := sm_inT (sm_t5 (List.mem_of_getElem? (i := 5) rfl)) rfl
theorem wVX2_numberLayerOf : Cond.selects RX2 yX2_numberLayerOf yX2_numberLayerOf ∈ sm_TB := sm_inT (sm_v5 (q := (yX2_numberLayerOf, 14)) (List.mem_of_getElem? (i := 7) rfl)) rfl
set_option maxRecDepth 20000 in
theorem hkX2_numberLayerOf : sm_fd sm_pg 30 = some miX2_numberLayerOf := by rfl
theorem hhX2_numberLayerOf : sm_fd sm_hds 30 = some (yX2_numberLayerOf, cX2_numberLayerOf, 8, none) := sm_hh hkX2_numberLayerOf
theorem wCX3_init : Cond.code yX3_init cX3_init 1 none ∈ sm_TB := sm_inT (sm_t1 (List.mem_of_getElem? (i := 39) rfl)) rfl
theorem hdX3_init : sm_hdk sm_TB yX3_init cX3_init 1 none 0 := ⟨wCX3_init, wNX3, ⟨neX3.1, neX3.2, by decide +kernel⟩, by decide⟩
theorem wIX3_init : Cond.instanceMethod yX3_init ∈ sm_TB := sm_inT (sm_t1 (List.mem_of_getElem? (i := 38) rfl)) rfl
set_option maxRecDepth 20000 in
theorem hkX3_init : sm_fd sm_pg 31 = some miX3_init := by rfl
theorem hhX3_init : sm_fd sm_hds 31 = some (yX3_init, cX3_init, 1, none) := sm_hh hkX3_init
theorem wCX3_valueOf : Cond.code yX3_valueOf cX3_valueOf 2 (some .int) ∈ sm_TB := sm_inT (sm_t4 (List.mem_of_getElem? (i := 107) rfl)) rfl
theorem hdX3_valueOf : sm_hdk sm_TB yX3_valueOf cX3_valueOf 2 (some .int) 1 := ⟨wCX3_valueOf, wNX3, ⟨neX3.1, neX3.2, by decide +kernel⟩, by decide⟩
theorem wIX3_valueOf : Cond.instanceMethod yX3_valueOf ∈ sm_TB := sm_inT (sm_t4 (List.mem_of_getElem? (i := 106) rfl)) rfl
theorem wVX3_valueOf : Cond.selects RX3 yX3_valueOf yX3_valueOf ∈ sm_TB := sm_inT (sm_v4 (q := (yX3_valueOf, 10)) (List.mem_of_getElem? (i := 2) rfl)) rfl
set_option maxRecDepth 20000 in
theorem hkX3_valueOf : sm_fd sm_pg 32 = some miX3_valueOf := by rfl
theorem hhX3_valueOf : sm_fd sm_hds 32 = some (yX3_valueOf, cX3_valueOf, 2, (some .int)) := sm_hh hkX3_valueOf
theorem wCX3_timeOf : Cond.code yX3_timeOf cX3_timeOf 2 (some .int) ∈ sm_TB := sm_inT (sm_t4 (List.mem_of_getElem? (i := 160) rfl)) rfl
theorem hdX3_timeOf : sm_hdk sm_TB yX3_timeOf cX3_timeOf 2 (some .int) 1 := ⟨wCX3_timeOf, wNX3, ⟨neX3.1, neX3.2, by decide +kernel⟩, by decide⟩
theorem wIX3_timeOf : Cond.instanceMethod yX3_timeOf ∈ sm_TB := sm_inT (sm_t4 (List.mem_of_getElem? (i := 159) rfl)) rfl
theorem wVX3_timeOf : Cond.selects RX3 yX3_timeOf yX3_timeOf ∈ sm_TB := sm_inT (sm_v4 (q := (yX3_timeOf, 10)) (List.mem_of_getElem? (i := 10) rfl)) rfl
set_option maxRecDepth 20000 in
theorem hkX3_timeOf : sm_fd sm_pg 33 = some miX3_timeOf := by rfl
theorem hhX3_timeOf : sm_fd sm_hds 33 = some (yX3_timeOf, cX3_timeOf, 2, (some .int)) := sm_hh hkX3_timeOf
theorem wCX3_tellOne : Cond.code yX3_tellOne cX3_tellOne 3 (some .int) ∈ sm_TB := sm_inT (sm_t3 (List.mem_of_getElem? (i := 35) rfl)) rfl
theorem hdX3_tellOne : sm_hdk sm_TB yX3_tellOne cX3_tellOne 3 (some .int) 2 := ⟨wCX3_tellOne, wNX3, ⟨neX3.1, neX3.2, by decide +kernel⟩, by decide⟩
theorem wIX3_tellOne : Cond.instanceMethod yX3_tellOne ∈ sm_TB := sm_inT (sm_t3 (List.mem_of_getElem? (i := 34) rfl)) rfl
theorem wVX3_tellOne : Cond.selects RX3 yX3_tellOne yX3_tellOne ∈ sm_TB := sm_inT (sm_v1 (q := (yX3_tellOne, 10)) (List.mem_of_getElem? (i := 2) rfl)) rfl
set_option maxRecDepth 20000 in
theorem hkX3_tellOne : sm_fd sm_pg 34 = some miX3_tellOne := by rfl
theorem hhX3_tellOne : sm_fd sm_hds 34 = some (yX3_tellOne, cX3_tellOne, 3, (some .int)) := sm_hh hkX3_tellOne
theorem wCX3_dropStaged : Cond.code yX3_dropStaged cX3_dropStaged 1 none ∈ sm_TB := sm_inT (sm_t3 (List.mem_of_getElem? (i := 39) rfl)) rfl
theorem hdX3_dropStaged : sm_hdk sm_TB yX3_dropStaged cX3_dropStaged 1 none 0 := ⟨wCX3_dropStaged, wNX3, ⟨neX3.1, neX3.2, by decide +kernel⟩, by decide⟩
theorem wIX3_dropStaged : Cond.instanceMethod yX3_dropStaged ∈ sm_TB := sm_inT (sm_t3 (List.mem_of_getElem? (i := 38) rfl)) rfl
theorem wVX3_dropStaged : Cond.selects RX3 yX3_dropStaged yX3_dropStaged ∈ sm_TB := sm_inT (sm_v1 (q := (yX3_dropStaged, 10)) (List.mem_of_getElem? (i := 3) rfl)) rfl
set_option maxRecDepth 20000 in
theorem hkX3_dropStaged : sm_fd sm_pg 35 = some miX3_dropStaged := by rfl
theorem hhX3_dropStaged : sm_fd sm_hds 35 = some (yX3_dropStaged, cX3_dropStaged, 1, none) := sm_hh hkX3_dropStaged
theorem wCX3_stage : Cond.code yX3_stage cX3_stage 3 none ∈ sm_TB := sm_inT (sm_t3 (List.mem_of_getElem? (i := 43) rfl)) rfl
theorem hdX3_stage : sm_hdk sm_TB yX3_stage cX3_stage 3 none 2 := ⟨wCX3_stage, wNX3, ⟨neX3.1, neX3.2, by decide +kernel⟩, by decide⟩
theorem wIX3_stage : Cond.instanceMethod yX3_stage ∈ sm_TB := sm_inT (sm_t3 (List.mem_of_getElem? (i := 42) rfl)) rfl
theorem wVX3_stage : Cond.selects RX3 yX3_stage yX3_stage ∈ sm_TB := sm_inT (sm_v1 (q := (yX3_stage, 10)) (List.mem_of_getElem? (i := 4) rfl)) rfl
set_option maxRecDepth 20000 in
theorem hkX3_stage : sm_fd sm_pg 36 = some miX3_stage := by rfl
theorem hhX3_stage : sm_fd sm_hds 36 = some (yX3_stage, cX3_stage, 3, none) := sm_hh hkX3_stage
theorem wCX3_takeStaged : Cond.code yX3_takeStaged cX3_takeStaged 2 (some .int) ∈ sm_TB := sm_inT (sm_t3 (List.mem_of_getElem? (i := 47) rfl)) rfl
theorem hdX3_takeStaged : sm_hdk sm_TB yX3_takeStaged cX3_takeStaged 2 (some .int) 0 := ⟨wCX3_takeStaged, wNX3, ⟨neX3.1, neX3.2, by decide +kernel⟩, by decide⟩
theorem wIX3_takeStaged : Cond.instanceMethod yX3_takeStaged ∈ sm_TB := sm_inT (sm_t3 (List.mem_of_getElem? (i := 46) rfl)) rfl
theorem wVX3_takeStaged : Cond.selects RX3 yX3_takeStaged yX3_takeStaged ∈ sm_TB := sm_inT (sm_v1 (q := (yX3_takeStaged, 10)) (List.mem_of_getElem? (i := 5) rfl)) rfl
set_option maxRecDepth 20000 in
theorem hkX3_takeStaged : sm_fd sm_pg 37 = some miX3_takeStaged := by rfl
theorem hhX3_takeStaged : sm_fd sm_hds 37 = some (yX3_takeStaged, cX3_takeStaged, 2, (some .int)) := sm_hh hkX3_takeStaged
theorem wCX3_lookAt : Cond.code yX3_lookAt cX3_lookAt 2 none ∈ sm_TB := sm_inT (sm_t4 (List.mem_of_getElem? (i := 99) rfl)) rfl
theorem hdX3_lookAt : sm_hdk sm_TB yX3_lookAt cX3_lookAt 2 none 1 := ⟨wCX3_lookAt, wNX3, ⟨neX3.1, neX3.2, by decide +kernel⟩, by decide⟩
theorem wIX3_lookAt : Cond.instanceMethod yX3_lookAt ∈ sm_TB := sm_inT (sm_t4 (List.mem_of_getElem? (i := 98) rfl)) rfl
theorem wVX3_lookAt : Cond.selects RX3 yX3_lookAt yX3_lookAt ∈ sm_TB := sm_inT (sm_v4 (q := (yX3_lookAt, 10)) (List.mem_of_getElem? (i := 1) rfl)) rfl
set_option maxRecDepth 20000 in
theorem hkX3_lookAt : sm_fd sm_pg 38 = some miX3_lookAt := by rfl
theorem hhX3_lookAt : sm_fd sm_hds 38 = some (yX3_lookAt, cX3_lookAt, 2, none) := sm_hh hkX3_lookAt
theorem wCX3_forget : Cond.code yX3_forget cX3_forget 2 none ∈ sm_TB := sm_inT (sm_t1 (List.mem_of_getElem? (i := 44) rfl)) rfl
theorem hdX3_forget : sm_hdk sm_TB yX3_forget cX3_forget 2 none 0 := ⟨wCX3_forget, wNX3, ⟨neX3.1, neX3.2, by decide +kernel⟩, by decide⟩
theorem wIX3_forget : Cond.instanceMethod yX3_forget ∈ sm_TB := sm_inT (sm_t1 (List.mem_of_getElem? (i := 43) rfl)) rfl
theorem wVX3_forget : Cond.selects RX3 yX3_forget yX3_forget ∈ sm_TB := sm_inT (sm_v1 (q := (yX3_forget, 10)) (List.mem_of_getElem? (i := 0) rfl)) rfl
set_option maxRecDepth 20000 in
theorem hkX3_forget : sm_fd sm_pg 39 = some miX3_forget := by rfl
theorem hhX3_forget : sm_fd sm_hds 39 = some (yX3_forget, cX3_forget, 2, none) := sm_hh hkX3_forget
theorem wCX3_replay : Cond.code yX3_replay cX3_replay 4 none ∈ sm_TB := sm_inT (sm_t3 (List.mem_of_getElem? (i := 51) rfl)) rfl
theorem hdX3_replay : sm_hdk sm_TB yX3_replay cX3_replay 4 none 1 := ⟨wCX3_replay, wNX3, ⟨neX3.1, neX3.2, by decide +kernel⟩, by decide⟩
theorem wIX3_replay : Cond.instanceMethod yX3_replay ∈ sm_TB := sm_inT (sm_t3 (List.mem_of_getElem? (i := 50) rfl)) rfl
theorem wVX3_replay : Cond.selects RX3 yX3_replay yX3_replay ∈ sm_TB := sm_inT (sm_v1 (q := (yX3_replay, 10)) (List.mem_of_getElem? (i := 6) rfl)) rfl
set_option maxRecDepth 20000 in
theorem hkX3_replay : sm_fd sm_pg 40 = some miX3_replay := by rfl
theorem hhX3_replay : sm_fd sm_hds 40 = some (yX3_replay, cX3_replay, 4, none) := sm_hh hkX3_replay
theorem wCX4_init : Cond.code yX4_init cX4_init 4 none ∈ sm_TB := sm_inT (sm_t2 (List.mem_of_getElem? (i := 174) rfl)) rfl
theorem hdX4_init : sm_hdk sm_TB yX4_init cX4_init 4 none 3 := ⟨wCX4_init, wNX4, ⟨neX4.1, neX4.2, by decide +kernel⟩, by decide⟩
theorem wIX4_init : Cond.instanceMethod yX4_init ∈ sm_TB := sm_inT (sm_t2 (List.mem_of_getElem? (i := 173) rfl)) rfl
set_option maxRecDepth 20000 in
theorem hkX4_init : sm_fd sm_pg 41 = some miX4_init := by rfl
theorem hhX4_init : sm_fd sm_hds 41 = some (yX4_init, cX4_init, 4, none) := sm_hh hkX4_init
theorem wCX4_find : Cond.code yX4_find cX4_find 3 none ∈ sm_TB := sm_inT (sm_t5 (List.mem_of_getElem? (i := 172) rfl)) rfl
theorem hdX4_find : sm_hdk sm_TB yX4_find cX4_find 3 none 0 := ⟨wCX4_find, wNX4, ⟨neX4.1, neX4.2, by decide +kernel⟩, by decide⟩
theorem wIX4_find : Cond.instanceMethod yX4_find ∈ sm_TB := sm_inT (sm_t5 (List.mem_of_getElem? (i := 171) rfl)) rfl
theorem wVX4_find : Cond.selects RX4 yX4_find yX4_find ∈ sm_TB := sm_inT (sm_v6 (q := (yX4_find, 15)) (List.mem_of_getElem? (i := 14) rfl)) rfl
set_option maxRecDepth 20000 in
theorem hkX4_find : sm_fd sm_pg 42 = some miX4_find := by rfl
theorem hhX4_find : sm_fd sm_hds 42 = some (yX4_find, cX4_find, 3, none) := sm_hh hkX4_find
theorem wCX4_fitEnds : Cond.code yX4_fitEnds cX4_fitEnds 10 none ∈ sm_TB := sm_inT (sm_t5 (List.mem_of_getElem? (i := 176) rfl)) rfl
theorem hdX4_fitEnds : sm_hdk sm_TB yX4_fitEnds cX4_fitEnds 10 none 0 := ⟨wCX4_fitEnds, wNX4, ⟨neX4.1, neX4.2, by decide +kernel⟩, by decide⟩
theorem wIX4_fitEnds : Cond.instanceMethod yX4_fitEnds ∈ sm_TB := sm_inT (sm_t5 (List.mem_of_getElem? (i := 175) rfl)) rfl
theorem wVX4_fitEnds : Cond.selects RX4 yX4_fitEnds yX4_fitEnds ∈ sm_TB := sm_inT (sm_v6 (q := (yX4_fitEnds, 15)) (List.mem_of_getElem? (i := 15) rfl)) rfl
set_option maxRecDepth 20000 in
theorem hkX4_fitEnds : sm_fd sm_pg 43 = some miX4_fitEnds := by rfl
theorem hhX4_fitEnds : sm_fd sm_hds 43 = some (yX4_fitEnds, cX4_fitEnds, 10, none) := sm_hh hkX4_fitEnds
theorem wCX4_weighThreading : Cond.code yX4_weighThreading cX4_weighThreading 1 none ∈ sm_TB := sm_inT (sm_t5 (List.mem_of_getElem? (i := 185) rfl)) rfl
theorem hdX4_weighThreading : sm_hdk sm_TB yX4_weighThreading cX4_weighThreading 1 none 0 := ⟨wCX4_weighThreading, wNX4, ⟨neX4.1, neX4.2, by decide +kernel⟩, by decide⟩
theorem wIX4_weighThreading : Cond.instanceMethod yX4_weighThreading ∈ sm_TB := sm_inT (sm_t5 (List.mem_of_getElem? (i := 184) rfl)) rfl
theorem wVX4_weighThreading : Cond.selects RX4 yX4_weighThreading yX4_weighThreading ∈ sm_TB := sm_inT (sm_v7 (q := (yX4_weighThreading, 15)) (List.mem_of_getElem? (i := 1) rfl)) rfl
set_option maxRecDepth 20000 in
theorem hkX4_weighThreading : sm_fd sm_pg 44 = some miX4_weighThreading := by rfl
theorem hhX4_weighThreading : sm_fd sm_hds 44 = some (yX4_weighThreading, cX4_weighThreading, 1, none) := sm_hh hkX4_weighThreading
theorem wCX4_weighTie : Cond.code yX4_weighTie cX4_weighTie 10 none ∈ sm_TB := sm_inT (sm_t5 (List.mem_of_getElem? (i := 190) rfl)) rfl
theorem hdX4_weighTie : sm_hdk sm_TB yX4_weighTie cX4_weighTie 10 none 2 := ⟨wCX4_weighTie, wNX4, ⟨neX4.1, neX4.2, by decide +kernel⟩, by decide⟩
theorem wIX4_weighTie : Cond.instanceMethod yX4_weighTie ∈ sm_TB := sm_inT (sm_t5 (List.mem_of_getElem? (i := 189) rfl)) rfl
theorem wVX4_weighTie : Cond.selects RX4 yX4_weighTie yX4_weighTie ∈ sm_TB := sm_inT (sm_v7 (q := (yX4_weighTie, 15)) (List.mem_of_getElem? (i := 2) rfl)) rfl
set_option maxRecDepth 20000 in
theorem hkX4_weighTie : sm_fd sm_pg 45 = some miX4_weighTie := by rfl
theorem hhX4_weighTie : sm_fd sm_hds 45 = some (yX4_weighTie, cX4_weighTie, 10, none) := sm_hh hkX4_weighTie
theorem wCX4_picksAfter : Cond.code yX4_picksAfter cX4_picksAfter 7 (some .long) ∈ sm_TB := sm_inT (sm_t5 (List.mem_of_getElem? (i := 194) rfl)) rfl
theorem hdX4_picksAfter : sm_hdk sm_TB yX4_picksAfter cX4_picksAfter 7 (some .long) 2 := ⟨wCX4_picksAfter, wNX4, ⟨neX4.1, neX4.2, by decide +kernel⟩, by decide⟩
theorem wIX4_picksAfter : Cond.instanceMethod yX4_picksAfter ∈ sm_TB := sm_inT (sm_t5 (List.mem_of_getElem? (i := 193) rfl)) rfl
theorem wVX4_picksAfter : Cond.selects RX4 yX4_picksAfter yX4_picksAfter ∈ sm_TB := sm_inT (sm_v7 (q := (yX4_picksAfter, 15)) (List.mem_of_getElem? (i := 3) rfl)) rfl
set_option maxRecDepth 20000 in
theorem hkX4_picksAfter : sm_fd sm_pg 46 = some miX4_picksAfter := by rfl
theorem hhX4_picksAfter : sm_fd sm_hds 46 = some (yX4_picksAfter, cX4_picksAfter, 7, (some .long)) := sm_hh hkX4_picksAfter
theorem wCX4_settle : Cond.code yX4_settle cX4_settle 3 none ∈ sm_TB := sm_inT (sm_t5 (List.mem_of_getElem? (i := 200) rfl)) rfl
theorem hdX4_settle : sm_hdk sm_TB yX4_settle cX4_settle 3 none 0 := ⟨wCX4_settle, wNX4, ⟨neX4.1, neX4.2, by decide +kernel⟩, by decide⟩
theorem wIX4_settle : Cond.instanceMethod yX4_settle ∈ sm_TB := sm_inT (sm_t5 (List.mem_of_getElem? (i := 199) rfl)) rfl
theorem wVX4_settle : Cond.selects RX4 yX4_settle yX4_settle ∈ sm_TB := sm_inT (sm_v7 (q := (yX4_settle, 15)) (List.mem_of_getElem? (i := 4) rfl)) rfl
set_option maxRecDepth 20000 in
theorem hkX4_settle : sm_fd sm_pg 47 = some miX4_settle := by rfl
theorem hhX4_settle : sm_fd sm_hds 47 = some (yX4_settle, cX4_settle, 3, none) := sm_hh hkX4_settle
theorem wCX4_fits : Cond.code yX4_fits cX4_fits 3 (some .boolean) ∈ sm_TB := sm_inT (sm_t5 (List.mem_of_getElem? (i := 204) rfl)) rfl
theorem hdX4_fits : sm_hdk sm_TB yX4_fits cX4_fits 3 (some .boolean) 2 := ⟨wCX4_fits, wNX4, ⟨neX4.1, neX4.2, by decide +kernel⟩, by decide⟩
theorem wIX4_fits : Cond.instanceMethod yX4_fits ∈ sm_TB := sm_inT (sm_t5 (List.mem_of_getElem? (i := 203) rfl)) rfl
theorem wVX4_fits : Cond.selects RX4 yX4_fits yX4_fits ∈ sm_TB := sm_inT (sm_v7 (q := (yX4_fits, 15)) (List.mem_of_getElem? (i := 5) rfl)) rfl
set_option maxRecDepth 20000 in
theorem hkX4_fits : sm_fd sm_pg 48 = some miX4_fits := by rfl
theorem hhX4_fits : sm_fd sm_hds 48 = some (yX4_fits, cX4_fits, 3, (some .boolean)) := sm_hh hkX4_fits
theorem wCX4_firstFitting : Cond.code yX4_firstFitting cX4_firstFitting 3 (some .int) ∈ sm_TB := sm_inT (sm_t5 (List.mem_of_getElem? (i := 208) rfl)) rfl
theorem hdX4_firstFitting : sm_hdk sm_TB yX4_firstFitting cX4_firstFitting 3 (some .int) 1 := ⟨wCX4_firstFitting, wNX4, ⟨neX4.1, neX4.2, by decide +kernel⟩, by decide⟩
theorem wIX4_firstFitting : Cond.instanceMethod yX4_firstFitting ∈ sm_TB := sm_inT (sm_t5 (List.mem_of_getElem? (i := 207) rfl)) rfl
theorem wVX4_firstFitting : Cond.selects RX4 yX4_firstFitting yX4_firstFitting ∈ sm_TB := sm_inT (sm_v7 (q := (yX4_firstFitting, 15)) (List.mem_of_getElem? (i := 6) rfl)) rfl
set_option maxRecDepth 20000 in
theorem hkX4_firstFitting : sm_fd sm_pg 49 = some miX4_firstFitting := by rfl
theorem hhX4_firstFitting : sm_fd sm_hds 49 = some (yX4_firstFitting, cX4_firstFitting, 3, (some .int)) := sm_hh hkX4_firstFitting
theorem wCX5_init : Cond.code yX5_init cX5_init 3 none ∈ sm_TB := sm_inT (sm_t2 (List.mem_of_getElem? (i := 36) rfl)) rfl
theorem hdX5_init : sm_hdk sm_TB yX5_init cX5_init 3 none 2 := ⟨wCX5_init, wNX5, ⟨neX5.1, neX5.2, by decide +kernel⟩, by decide⟩
theorem wIX5_init : Cond.instanceMethod yX5_init ∈ sm_TB := sm_inT (sm_t2 (List.mem_of_getElem? (i := 35) rfl)) rfl
set_option maxRecDepth 20000 in
theorem hkX5_init : sm_fd sm_pg 50 = some miX5_init := by rfl
theorem hhX5_init : sm_fd sm_hds 50 = some (yX5_init, cX5_init, 3, none) := sm_hh hkX5_init
theorem wCX5_showCells : Cond.code yX5_showCells cX5_showCells 2 none ∈ sm_TB := sm_inT (sm_t5 (List.mem_of_getElem? (i := 47) rfl)) rfl
theorem hdX5_showCells : sm_hdk sm_TB yX5_showCells cX5_showCells 2 none 0 := ⟨wCX5_showCells, wNX5, ⟨neX5.1, neX5.2, by decide +kernel⟩, by decide⟩
theorem wIX5_showCells : Cond.instanceMethod yX5_showCells ∈ sm_TB := sm_inT (sm_t5 (List.mem_of_getElem? (i := 46) rfl)) rfl
theorem wVX5_showCells : Cond.selects RX5 yX5_showCells yX5_showCells ∈ sm_TB := sm_inT (sm_v5 (q := (yX5_showCells, 4)) (List.mem_of_getElem? (i := 11) rfl)) rfl
set_option maxRecDepth 20000 in
theorem hkX5_showCells : sm_fd sm_pg 51 = some miX5_showCells := by rfl
theorem hhX5_showCells : sm_fd sm_hds 51 = some (yX5_showCells, cX5_showCells, 2, none) := sm_hh hkX5_showCells
theorem wCX5_showColours : Cond.code yX5_showColours cX5_showColours 8 none ∈ sm_TB := sm_inT (sm_t5 (List.mem_of_getElem? (i := 40) rfl)) rfl
theorem hdX5_showColours : sm_hdk sm_TB yX5_showColours cX5_showColours 8 none 0 := ⟨wCX5_showColours, wNX5, ⟨neX5.1, neX5.2, by decide +kernel⟩, by decide⟩
theorem wIX5_showColours : Cond.instanceMethod yX5_showColours ∈ sm_TB := sm_inT (sm_t5 (List.mem_of_getElem? (i := 39) rfl)) rfl
theorem wVX5_showColours : Cond.selects RX5 yX5_showColours yX5_showColours ∈ sm_TB := sm_inT (sm_v5 (q := (yX5_showColours, 4)) (List.mem_of_getElem? (i := 10) rfl)) rfl
set_option maxRecDepth 20000 in
theorem hkX5_showColours : sm_fd sm_pg 52 = some miX5_showColours := by rfl
theorem hhX5_showColours : sm_fd sm_hds 52 = some (yX5_showColours, cX5_showColours, 8, none) := sm_hh hkX5_showColours
theorem wCX5_likeAlongEnds : Cond.code yX5_likeAlongEnds cX5_likeAlongEnds 9 (some .boolean) ∈ sm_TB := sm_inT (sm_t5 (List.mem_of_getElem? (i := 51) rfl)) rfl
theorem hdX5_likeAlongEnds : sm_hdk sm_TB yX5_likeAlongEnds cX5_likeAlongEnds 9 (some .boolean) 1 := ⟨wCX5_likeAlongEnds, wNX5, ⟨neX5.1, neX5.2, by decide +kernel⟩, by decide⟩
theorem wIX5_likeAlongEnds : Cond.instanceMethod yX5_likeAlongEnds ∈ sm_TB := sm_inT (sm_t5 (List.mem_of_getElem? (i := 50) rfl)) rfl
theorem wVX5_likeAlongEnds : Cond.selects RX5 yX5_likeAlongEnds yX5_likeAlongEnds ∈ sm_TB := sm_inT (sm_v5 (q := (yX5_likeAlongEnds, 4)) (List.mem_of_getElem? (i := 12) rfl)) rfl
set_option maxRecDepth 20000 in
theorem hkX5_likeAlongEnds : sm_fd sm_pg 53 = some miX5_likeAlongEnds := by rfl
theorem hhX5_likeAlongEnds : sm_fd sm_hds 53 = some (yX5_likeAlongEnds, cX5_likeAlongEnds, 9, (some .boolean)) := sm_hh hkX5_likeAlongEnds
theorem wCX5_likeAlongPicks : Cond.code yX5_likeAlongPicks cX5_likeAlongPicks 5 (some .boolean) ∈ sm_TB := sm_inT (sm_t5 (List.mem_of_getElem? (i := 59) rfl)) rfl
theorem hdX5_likeAlongPicks : sm_hdk sm_TB yX5_likeAlongPicks cX5_likeAlongPicks 5 (some .boolean) 1 := ⟨wCX5_likeAlongPicks, wNX5, ⟨neX5.1, neX5.2, by decide +kernel⟩, by decide⟩
theorem wIX5_likeAlongPicks : Cond.instanceMethod yX5_likeAlongPicks ∈ sm_TB := sm_inT (sm_t5 (List.mem_of_getElem? (i := 58) rfl)) rfl
theorem wVX5_likeAlongPicks : Cond.selects RX5 yX5_likeAlongPicks yX5_likeAlongPicks ∈ sm_TB := sm_inT (sm_v5 (q := (yX5_likeAlongPicks, 4)) (List.mem_of_getElem? (i := 14) rfl)) rfl
set_option maxRecDepth 20000 in
theorem hkX5_likeAlongPicks : sm_fd sm_pg 54 = some miX5_likeAlongPicks := by rfl
theorem hhX5_likeAlongPicks : sm_fd sm_hds 54 = some (yX5_likeAlongPicks, cX5_likeAlongPicks, 5, (some .boolean)) := sm_hh hkX5_likeAlongPicks
theorem wCX5_rowAt : Cond.code yX5_rowAt cX5_rowAt 4 (some .long) ∈ sm_TB := sm_inT (sm_t5 (List.mem_of_getElem? (i := 55) rfl)) rfl
theorem hdX5_rowAt : sm_hdk sm_TB yX5_rowAt cX5_rowAt 4 (some .long) 2 := ⟨wCX5_rowAt, wNX5, ⟨neX5.1, neX5.2, by decide +kernel⟩, by decide⟩
theorem wIX5_rowAt : Cond.instanceMethod yX5_rowAt ∈ sm_TB := sm_inT (sm_t5 (List.mem_of_getElem? (i := 54) rfl)) rfl
theorem wVX5_rowAt : Cond.selects RX5 yX5_rowAt yX5_rowAt ∈ sm_TB := sm_inT (sm_v5 (q := (yX5_rowAt, 4)) (List.mem_of_getElem? (i := 13) rfl)) rfl
set_option maxRecDepth 20000 in
theorem hkX5_rowAt : sm_fd sm_pg 55 = some miX5_rowAt := by rfl
theorem hhX5_rowAt : sm_fd sm_hds 55 = some (yX5_rowAt, cX5_rowAt, 4, (some .long)) := sm_hh hkX5_rowAt
theorem wCX6_init : Cond.code yX6_init cX6_init 5 none ∈ sm_TB := sm_inT (sm_t1 (List.mem_of_getElem? (i := 194) rfl)) rfl
theorem hdX6_init : sm_hdk sm_TB yX6_init cX6_init 5 none 4 := ⟨wCX6_init, wNX6, ⟨neX6.1, neX6.2, by decide +kernel⟩, by decide⟩
theorem wIX6_init : Cond.instanceMethod yX6_init ∈ sm_TB := sm_inT (sm_t1 (List.mem_of_getElem? (i := 193) rfl)) rfl
set_option maxRecDepth 20000 in
theorem hkX6_init : sm_fd sm_pg 56 = some miX6_init := by rfl
theorem hhX6_init : sm_fd sm_hds 56 = some (yX6_init, cX6_init, 5, none) := sm_hh hkX6_init
theorem wCX6_readTape : Cond.code yX6_readTape cX6_readTape 2 none ∈ sm_TB := sm_inT (sm_t3 (List.mem_of_getElem? (i := 92) rfl)) rfl
theorem hdX6_readTape : sm_hdk sm_TB yX6_readTape cX6_readTape 2 none 0 := ⟨wCX6_readTape, wNX6, ⟨neX6.1, neX6.2, by decide +kernel⟩, by decide⟩
theorem wIX6_readTape : Cond.instanceMethod yX6_readTape ∈ sm_TB := sm_inT (sm_t3 (List.mem_of_getElem? (i := 91) rfl)) rfl
theorem wVX6_readTape : Cond.selects RX6 yX6_readTape yX6_readTape ∈ sm_TB := sm_inT (sm_v1 (q := (yX6_readTape, 20)) (List.mem_of_getElem? (i := 9) rfl)) rfl
set_option maxRecDepth 20000 in
theorem hkX6_readTape : sm_fd sm_pg 57 = some miX6_readTape := by rfl
theorem hhX6_readTape : sm_fd sm_hds 57 = some (yX6_readTape, cX6_readTape, 2, none) := sm_hh hkX6_readTape
theorem wCX6_endWhatCannotGoOn : Cond.code yX6_endWhatCannotGoOn cX6_endWhatCannotGoOn 1 none ∈ sm_TB := sm_inT (sm_t3 (List.mem_of_getElem? (i := 195) rfl)) rfl
theorem hdX6_endWhatCannotGoOn : sm_hdk sm_TB yX6_endWhatCannotGoOn cX6_endWhatCannotGoOn 1 none 0 := ⟨wCX6_endWhatCannotGoOn, wNX6, ⟨neX6.1, neX6.2, by decide +kernel⟩, by decide⟩
theorem wIX6_endWhatCannotGoOn : Cond.instanceMethod yX6_endWhatCannotGoOn ∈ sm_TB := sm_inT (sm_t3 (List.mem_of_getElem? (i := 194) rfl)) rfl
theorem wVX6_endWhatCannotGoOn : Cond.selects RX6 yX6_endWhatCannotGoOn yX6_endWhatCannotGoOn ∈ sm_TB := sm_inT (sm_v2 (q := (yX6_endWhatCannotGoOn, 20)) (List.mem_of_getElem? (i := 1) rfl)) rfl
set_option maxRecDepth 20000 in
theorem hkX6_endWhatCannotGoOn : sm_fd sm_pg 58 = some miX6_endWhatCannotGoOn := by rfl
theorem hhX6_endWhatCannotGoOn : sm_fd sm_hds 58 = some (yX6_endWhatCannotGoOn, cX6_endWhatCannotGoOn, 1, none) := sm_hh hkX6_endWhatCannotGoOn
theorem wCX6_fail : Cond.code yX6_fail cX6_fail 2 none ∈ sm_TB := sm_inT (sm_t3 (List.mem_of_getElem? (i := 233) rfl)) rfl
theorem hdX6_fail : sm_hdk sm_TB yX6_fail cX6_fail 2 none 1 := ⟨wCX6_fail, wNX6, ⟨neX6.1, neX6.2, by decide +kernel⟩, by decide⟩
theorem wIX6_fail : Cond.instanceMethod yX6_fail ∈ sm_TB := sm_inT (sm_t3 (List.mem_of_getElem? (i := 232) rfl)) rfl
theorem wVX6_fail : Cond.selects RX6 yX6_fail yX6_fail ∈ sm_TB := sm_inT (sm_v2 (q := (yX6_fail, 20)) (List.mem_of_getElem? (i := 10) rfl)) rfl
set_option maxRecDepth 20000 in
theorem hkX6_fail : sm_fd sm_pg 59 = some miX6_fail := by rfl
theorem hhX6_fail : sm_fd sm_hds 59 = some (yX6_fail, cX6_fail, 2, none) := sm_hh hkX6_fail
theorem wCX6_failAt : Cond.code yX6_failAt cX6_failAt 3 none ∈ sm_TB := sm_inT (sm_t3 (List.mem_of_getElem? (i := 217) rfl)) rfl
theorem hdX6_failAt : sm_hdk sm_TB yX6_failAt cX6_failAt 3 none 2 := ⟨wCX6_failAt, wNX6, ⟨neX6.1, neX6.2, by decide +kernel⟩, by decide⟩
theorem wIX6_failAt : Cond.instanceMethod yX6_failAt ∈ sm_TB := sm_inT (sm_t3 (List.mem_of_getElem? (i := 216) rfl)) rfl
theorem wVX6_failAt : Cond.selects RX6 yX6_failAt yX6_failAt ∈ sm_TB := sm_inT (sm_v2 (q := (yX6_failAt, 20)) (List.mem_of_getElem? (i := 6) rfl)) rfl
set_option maxRecDepth 20000 in
theorem hkX6_failAt : sm_fd sm_pg 60 = some miX6_failAt := by rfl
theorem hhX6_failAt : sm_fd sm_hds 60 = some (yX6_failAt, cX6_failAt, 3, none) := sm_hh hkX6_failAt
theorem wCX6_step : Cond.code yX6_step cX6_step 1 none ∈ sm_TB := sm_inT (sm_t3 (List.mem_of_getElem? (i := 221) rfl)) rfl
theorem hdX6_step : sm_hdk sm_TB yX6_step cX6_step 1 none 0 := ⟨wCX6_step, wNX6, ⟨neX6.1, neX6.2, by decide +kernel⟩, by decide⟩
theorem wIX6_step : Cond.instanceMethod yX6_step ∈ sm_TB := sm_inT (sm_t3 (List.mem_of_getElem? (i := 220) rfl)) rfl
theorem wVX6_step : Cond.selects RX6 yX6_step yX6_step ∈ sm_TB := sm_inT (sm_v2 (q := (yX6_step, 20)) (List.mem_of_getElem? (i := 7) rfl)) rfl
set_option maxRecDepth 20000 in
theorem hkX6_step : sm_fd sm_pg 61 = some miX6_step := by rfl
theorem hhX6_step : sm_fd sm_hds 61 = some (yX6_step, cX6_step, 1, none) := sm_hh hkX6_step
theorem wCX6_startClause : Cond.code yX6_startClause cX6_startClause 1 none ∈ sm_TB := sm_inT (sm_t3 (List.mem_of_getElem? (i := 225) rfl)) rfl
theorem hdX6_startClause : sm_hdk sm_TB yX6_startClause cX6_startClause 1 none 0 := ⟨wCX6_startClause, wNX6, ⟨neX6.1, neX6.2, by decide +kernel⟩, by decide⟩
theorem wIX6_startClause : Cond.instanceMethod yX6_startClause ∈ sm_TB := sm_inT (sm_t3 (List.mem_of_getElem? (i := 224) rfl)) rfl
theorem wVX6_startClause : Cond.selects RX6 yX6_startClause yX6_startClause ∈ sm_TB := sm_inT (sm_v2 (q := (yX6_startClause, 20)) (List.mem_of_getElem? (i := 8) rfl)) rfl
set_option maxRecDepth 20000 in
theorem hkX6_startClause : sm_fd sm_pg 62 = some miX6_startClause := by rfl
theorem hhX6_startClause : sm_fd sm_hds 62 = some (yX6_startClause, cX6_startClause, 1, none) := sm_hh hkX6_startClause
theorem wCX6_nameBlock : Cond.code yX6_nameBlock cX6_nameBlock 1 none ∈ sm_TB := sm_inT (sm_t3 (List.mem_of_getElem? (i := 237) rfl)) rfl
theorem hdX6_nameBlock : sm_hdk sm_TB yX6_nameBlock cX6_nameBlock 1 none 0 := ⟨wCX6_nameBlock, wNX6, ⟨neX6.1, neX6.2, by decide +kernel⟩, by decide⟩
theorem wIX6_nameBlock : Cond.instanceMethod yX6_nameBlock ∈ sm_TB := sm_inT (sm_t3 (List.mem_of_getElem? (i := 236) rfl)) rfl
theorem wVX6_nameBlock : Cond.selects RX6 yX6_nameBlock yX6_nameBlock ∈ sm_TB := sm_inT (sm_v2 (q := (yX6_nameBlock, 20)) (List.mem_of_getElem? (i := 11) rfl)) rfl
set_option maxRecDepth 20000 in
theorem hkX6_nameBlock : sm_fd sm_pg 63 = some miX6_nameBlock := by rfl
theorem hhX6_nameBlock : sm_fd sm_hds 63 = some (yX6_nameBlock, cX6_nameBlock, 1, none) := sm_hh hkX6_nameBlock
theorem wCX6_nameTreadle : Cond.code yX6_nameTreadle cX6_nameTreadle 1 none ∈ sm_TB := sm_inT (sm_t4 (List.mem_of_getElem? (i := 5) rfl)) rfl
theorem hdX6_nameTreadle : sm_hdk sm_TB yX6_nameTreadle cX6_nameTreadle 1 none 0 := ⟨wCX6_nameTreadle, wNX6, ⟨neX6.1, neX6.2, by decide +kernel⟩, by decide⟩
theorem wIX6_nameTreadle : Cond.instanceMethod yX6_nameTreadle ∈ sm_TB := sm_inT (sm_t4 (List.mem_of_getElem? (i := 4) rfl)) rfl
theorem wVX6_nameTreadle : Cond.selects RX6 yX6_nameTreadle yX6_nameTreadle ∈ sm_TB := sm_inT (sm_v2 (q := (yX6_nameTreadle, 20)) (List.mem_of_getElem? (i := 13) rfl)) rfl
set_option maxRecDepth 20000 in
theorem hkX6_nameTreadle : sm_fd sm_pg 64 = some miX6_nameTreadle := by rfl
theorem hhX6_nameTreadle : sm_fd sm_hds 64 = some (yX6_nameTreadle, cX6_nameTreadle, 1, none) := sm_hh hkX6_nameTreadle
theorem wCX6_isNumber : Cond.code yX6_isNumber cX6_isNumber 3 (some .boolean) ∈ sm_TB := sm_inT (sm_t4 (List.mem_of_getElem? (i := 9) rfl)) rfl
theorem hdX6_isNumber : sm_hdk sm_TB yX6_isNumber cX6_isNumber 3 (some .boolean) 2 := ⟨wCX6_isNumber, wNX6, ⟨neX6.1, neX6.2, by decide +kernel⟩, by decide⟩
theorem wIX6_isNumber : Cond.instanceMethod yX6_isNumber ∈ sm_TB := sm_inT (sm_t4 (List.mem_of_getElem? (i := 8) rfl)) rfl
theorem wVX6_isNumber : Cond.selects RX6 yX6_isNumber yX6_isNumber ∈ sm_TB := sm_inT (sm_v2 (q := (yX6_isNumber, 20)) (List.mem_of_getElem? (i := 14) rfl)) rfl
set_option maxRecDepth 20000 in
theorem hkX6_isNumber : sm_fd sm_pg 65 = some miX6_isNumber := by rfl
theorem hhX6_isNumber : sm_fd sm_hds 65 = some (yX6_isNumber, cX6_isNumber, 3, (some .boolean)) := sm_hh hkX6_isNumber
theorem wCX6_openFirstRow : Cond.code yX6_openFirstRow cX6_openFirstRow 2 none ∈ sm_TB := sm_inT (sm_t3 (List.mem_of_getElem? (i := 229) rfl)) rfl
theorem hdX6_openFirstRow : sm_hdk sm_TB yX6_openFirstRow cX6_openFirstRow 2 none 1 := ⟨wCX6_openFirstRow, wNX6, ⟨neX6.1, neX6.2, by decide +kernel⟩, by decide⟩
theorem wIX6_openFirstRow : Cond.instanceMethod yX6_openFirstRow ∈ sm_TB := sm_inT (sm_t3 (List.mem_of_getElem? (i := 228) rfl)) rfl
theorem wVX6_openFirstRow : Cond.selects RX6 yX6_openFirstRow yX6_openFirstRow ∈ sm_TB := sm_inT (sm_v2 (q := (yX6_openFirstRow, 20)) (List.mem_of_getElem? (i := 9) rfl)) rfl
set_option maxRecDepth 20000 in
theorem hkX6_openFirstRow : sm_fd sm_pg 66 = some miX6_openFirstRow := by rfl
theorem hhX6_openFirstRow : sm_fd sm_hds 66 = some (yX6_openFirstRow, cX6_openFirstRow, 2, none) := sm_hh hkX6_openFirstRow
theorem wCX6_startOne : Cond.code yX6_startOne cX6_startOne 1 none ∈ sm_TB := sm_inT (sm_t4 (List.mem_of_getElem? (i := 13) rfl)) rfl
theorem hdX6_startOne : sm_hdk sm_TB yX6_startOne cX6_startOne 1 none 0 := ⟨wCX6_startOne, wNX6, ⟨neX6.1, neX6.2, by decide +kernel⟩, by decide⟩
theorem wIX6_startOne : Cond.instanceMethod yX6_startOne ∈ sm_TB := sm_inT (sm_t4 (List.mem_of_getElem? (i := 12) rfl)) rfl
theorem wVX6_startOne : Cond.selects RX6 yX6_startOne yX6_startOne ∈ sm_TB := sm_inT (sm_v2 (q := (yX6_startOne, 20)) (List.mem_of_getElem? (i := 15) rfl)) rfl
set_option maxRecDepth 20000 in
theorem hkX6_startOne : sm_fd sm_pg 67 = some miX6_startOne := by rfl
theorem hhX6_startOne : sm_fd sm_hds 67 = some (yX6_startOne, cX6_startOne, 1, none) := sm_hh hkX6_startOne
theorem wCX6_holdNumber : Cond.code yX6_holdNumber cX6_holdNumber 1 none ∈ sm_TB := sm_inT (sm_t4 (List.mem_of_getElem? (i := 17) rfl)) rfl
theorem hdX6_holdNumber : sm_hdk sm_TB yX6_holdNumber cX6_holdNumber 1 none 0 := ⟨wCX6_holdNumber, wNX6, ⟨neX6.1, neX6.2, by decide +kernel⟩, by decide⟩
theorem wIX6_holdNumber : Cond.instanceMethod yX6_holdNumber ∈ sm_TB := sm_inT (sm_t4 (List.mem_of_getElem? (i := 16) rfl)) rfl
theorem wVX6_holdNumber : Cond.selects RX6 yX6_holdNumber yX6_holdNumber ∈ sm_TB := sm_inT (sm_v3 (q := (yX6_holdNumber, 20)) (List.mem_of_getElem? (i := 0) rfl)) rfl
set_option maxRecDepth 20000 in
theorem hkX6_holdNumber : sm_fd sm_pg 68 = some miX6_holdNumber := by rfl
theorem hhX6_holdNumber : sm_fd sm_hds 68 = some (yX6_holdNumber, cX6_holdNumber, 1, none) := sm_hh hkX6_holdNumber
theorem wCX6_endNumber : Cond.code yX6_endNumber cX6_endNumber 1 none ∈ sm_TB := sm_inT (sm_t3 (List.mem_of_getElem? (i := 199) rfl)) rfl
theorem hdX6_endNumber : sm_hdk sm_TB yX6_endNumber cX6_endNumber 1 none 0 := ⟨wCX6_endNumber, wNX6, ⟨neX6.1, neX6.2, by decide +kernel⟩, by decide⟩
theorem wIX6_endNumber : Cond.instanceMethod yX6_endNumber ∈ sm_TB := sm_inT (sm_t3 (List.mem_of_getElem? (i := 198) rfl)) rfl
theorem wVX6_endNumber : Cond.selects RX6 yX6_endNumber yX6_endNumber ∈ sm_TB := sm_inT (sm_v2 (q := (yX6_endNumber, 20)) (List.mem_of_getElem? (i := 2) rfl)) rfl
set_option maxRecDepth 20000 in
theorem hkX6_endNumber : sm_fd sm_pg 69 = some miX6_endNumber := by rfl
theorem hhX6_endNumber : sm_fd sm_hds 69 = some (yX6_endNumber, cX6_endNumber, 1, none) := sm_hh hkX6_endNumber
theorem wCX6_endRange : Cond.code yX6_endRange cX6_endRange 4 none ∈ sm_TB := sm_inT (sm_t4 (List.mem_of_getElem? (i := 33) rfl)) rfl
theorem hdX6_endRange : sm_hdk sm_TB yX6_endRange cX6_endRange 4 none 0 := ⟨wCX6_endRange, wNX6, ⟨neX6.1, neX6.2, by decide +kernel⟩, by decide⟩
theorem wIX6_endRange : Cond.instanceMethod yX6_endRange ∈ sm_TB := sm_inT (sm_t4 (List.mem_of_getElem? (i := 32) rfl)) rfl
theorem wVX6_endRange : Cond.selects RX6 yX6_endRange yX6_endRange ∈ sm_TB := sm_inT (sm_v3 (q := (yX6_endRange, 20)) (List.mem_of_getElem? (i := 4) rfl)) rfl
set_option maxRecDepth 20000 in
theorem hkX6_endRange : sm_fd sm_pg 70 = some miX6_endRange := by rfl
theorem hhX6_endRange : sm_fd sm_hds 70 = some (yX6_endRange, cX6_endRange, 4, none) := sm_hh hkX6_endRange
theorem wCX6_addBlock : Cond.code yX6_addBlock cX6_addBlock 4 none ∈ sm_TB := sm_inT (sm_t4 (List.mem_of_getElem? (i := 21) rfl)) rfl
theorem hdX6_addBlock : sm_hdk sm_TB yX6_addBlock cX6_addBlock 4 none 0 := ⟨wCX6_addBlock, wNX6, ⟨neX6.1, neX6.2, by decide +kernel⟩, by decide⟩
theorem wIX6_addBlock : Cond.instanceMethod yX6_addBlock ∈ sm_TB := sm_inT (sm_t4 (List.mem_of_getElem? (i := 20) rfl)) rfl
theorem wVX6_addBlock : Cond.selects RX6 yX6_addBlock yX6_addBlock ∈ sm_TB := sm_inT (sm_v3 (q := (yX6_addBlock, 20)) (List.mem_of_getElem? (i := 1) rfl)) rfl
set_option maxRecDepth 20000 in
theorem hkX6_addBlock : sm_fd sm_pg 71 = some miX6_addBlock := by rfl
theorem hhX6_addBlock : sm_fd sm_hds 71 = some (yX6_addBlock, cX6_addBlock, 4, none) := sm_hh hkX6_addBlock
theorem wCX6_nameSum : Cond.code yX6_nameSum cX6_nameSum 1 none ∈ sm_TB := sm_inT (sm_t4 (List.mem_of_getElem? (i := 40) rfl)) rfl
theorem hdX6_nameSum : sm_hdk sm_TB yX6_nameSum cX6_nameSum 1 none 0 := ⟨wCX6_nameSum, wNX6, ⟨neX6.1, neX6.2, by decide +kernel⟩, by decide⟩
theorem wIX6_nameSum : Cond.instanceMethod yX6_nameSum ∈ sm_TB := sm_inT (sm_t4 (List.mem_of_getElem? (i := 39) rfl)) rfl
theorem wVX6_nameSum : Cond.selects RX6 yX6_nameSum yX6_nameSum ∈ sm_TB := sm_inT (sm_v3 (q := (yX6_nameSum, 20)) (List.mem_of_getElem? (i := 5) rfl)) rfl
set_option maxRecDepth 20000 in
theorem hkX6_nameSum : sm_fd sm_pg 72 = some miX6_nameSum := by rfl
theorem hhX6_nameSum : sm_fd sm_hds 72 = some (yX6_nameSum, cX6_nameSum, 1, none) := sm_hh hkX6_nameSum
theorem wCX6_openBracket : Cond.code yX6_openBracket cX6_openBracket 2 none ∈ sm_TB := sm_inT (sm_t4 (List.mem_of_getElem? (i := 29) rfl)) rfl
theorem hdX6_openBracket : sm_hdk sm_TB yX6_openBracket cX6_openBracket 2 none 0 := ⟨wCX6_openBracket, wNX6, ⟨neX6.1, neX6.2, by decide +kernel⟩, by decide⟩
theorem wIX6_openBracket : Cond.instanceMethod yX6_openBracket ∈ sm_TB := sm_inT (sm_t4 (List.mem_of_getElem? (i := 28) rfl)) rfl
theorem wVX6_openBracket : Cond.selects RX6 yX6_openBracket yX6_openBracket ∈ sm_TB := sm_inT (sm_v3 (q := (yX6_openBracket, 20)) (List.mem_of_getElem? (i := 3) rfl)) rfl
set_option maxRecDepth 20000 in
theorem hkX6_openBracket : sm_fd sm_pg 73 = some miX6_openBracket := by rfl
theorem hhX6_openBracket : sm_fd sm_hds 73 = some (yX6_openBracket, cX6_openBracket, 2, none) := sm_hh hkX6_openBracket
theorem wCX6_closeBracket : Cond.code yX6_closeBracket cX6_closeBracket 7 none ∈ sm_TB := sm_inT (sm_t4 (List.mem_of_getElem? (i := 56) rfl)) rfl
theorem hdX6_closeBracket : sm_hdk sm_TB yX6_closeBracket cX6_closeBracket 7 none 0 := ⟨wCX6_closeBracket, wNX6, ⟨neX6.1, neX6.2, by decide +kernel⟩, by decide⟩
theorem wIX6_closeBracket : Cond.instanceMethod yX6_closeBracket ∈ sm_TB := sm_inT (sm_t4 (List.mem_of_getElem? (i := 55) rfl)) rfl
theorem wVX6_closeBracket : Cond.selects RX6 yX6_closeBracket yX6_closeBracket ∈ sm_TB := sm_inT (sm_v3 (q := (yX6_closeBracket, 20)) (List.mem_of_getElem? (i := 9) rfl)) rfl
set_option maxRecDepth 20000 in
theorem hkX6_closeBracket : sm_fd sm_pg 74 = some miX6_closeBracket := by rfl
theorem hhX6_closeBracket : sm_fd sm_hds 74 = some (yX6_closeBracket, cX6_closeBracket, 7, none) := sm_hh hkX6_closeBracket
theorem wCX6_turnBack : Cond.code yX6_turnBack cX6_turnBack 6 none ∈ sm_TB := sm_inT (sm_t4 (List.mem_of_getElem? (i := 60) rfl)) rfl
theorem hdX6_turnBack : sm_hdk sm_TB yX6_turnBack cX6_turnBack 6 none 2 := ⟨wCX6_turnBack, wNX6, ⟨neX6.1, neX6.2, by decide +kernel⟩, by decide⟩
theorem wIX6_turnBack : Cond.instanceMethod yX6_turnBack ∈ sm_TB := sm_inT (sm_t4 (List.mem_of_getElem? (i := 59) rfl)) rfl
theorem wVX6_turnBack : Cond.selects RX6 yX6_turnBack yX6_turnBack ∈ sm_TB := sm_inT (sm_v3 (q := (yX6_turnBack, 20)) (List.mem_of_getElem? (i := 10) rfl)) rfl
set_option maxRecDepth 20000 in
theorem hkX6_turnBack : sm_fd sm_pg 75 = some miX6_turnBack := by rfl
theorem hhX6_turnBack : sm_fd sm_hds 75 = some (yX6_turnBack, cX6_turnBack, 6, none) := sm_hh hkX6_turnBack
theorem wCX6_raiseNumbers : Cond.code yX6_raiseNumbers cX6_raiseNumbers 5 none ∈ sm_TB := sm_inT (sm_t4 (List.mem_of_getElem? (i := 68) rfl)) rfl
theorem hdX6_raiseNumbers : sm_hdk sm_TB yX6_raiseNumbers cX6_raiseNumbers 5 none 3 := ⟨wCX6_raiseNumbers, wNX6, ⟨neX6.1, neX6.2, by decide +kernel⟩, by decide⟩
theorem wIX6_raiseNumbers : Cond.instanceMethod yX6_raiseNumbers ∈ sm_TB := sm_inT (sm_t4 (List.mem_of_getElem? (i := 67) rfl)) rfl
theorem wVX6_raiseNumbers : Cond.selects RX6 yX6_raiseNumbers yX6_raiseNumbers ∈ sm_TB := sm_inT (sm_v3 (q := (yX6_raiseNumbers, 20)) (List.mem_of_getElem? (i := 12) rfl)) rfl
set_option maxRecDepth 20000 in
theorem hkX6_raiseNumbers : sm_fd sm_pg 76 = some miX6_raiseNumbers := by rfl
theorem hhX6_raiseNumbers : sm_fd sm_hds 76 = some (yX6_raiseNumbers, cX6_raiseNumbers, 5, none) := sm_hh hkX6_raiseNumbers
theorem wCX6_copyItem : Cond.code yX6_copyItem cX6_copyItem 4 none ∈ sm_TB := sm_inT (sm_t4 (List.mem_of_getElem? (i := 44) rfl)) rfl
theorem hdX6_copyItem : sm_hdk sm_TB yX6_copyItem cX6_copyItem 4 none 0 := ⟨wCX6_copyItem, wNX6, ⟨neX6.1, neX6.2, by decide +kernel⟩, by decide⟩
theorem wIX6_copyItem : Cond.instanceMethod yX6_copyItem ∈ sm_TB := sm_inT (sm_t4 (List.mem_of_getElem? (i := 43) rfl)) rfl
theorem wVX6_copyItem : Cond.selects RX6 yX6_copyItem yX6_copyItem ∈ sm_TB := sm_inT (sm_v3 (q := (yX6_copyItem, 20)) (List.mem_of_getElem? (i := 6) rfl)) rfl
set_option maxRecDepth 20000 in
theorem hkX6_copyItem : sm_fd sm_pg 77 = some miX6_copyItem := by rfl
theorem hhX6_copyItem : sm_fd sm_hds 77 = some (yX6_copyItem, cX6_copyItem, 4, none) := sm_hh hkX6_copyItem
theorem wCX6_goOnBehindItem : Cond.code yX6_goOnBehindItem cX6_goOnBehindItem 1 none ∈ sm_TB := sm_inT (sm_t4 (List.mem_of_getElem? (i := 52) rfl)) rfl
theorem hdX6_goOnBehindItem : sm_hdk sm_TB yX6_goOnBehindItem cX6_goOnBehindItem 1 none 0 := ⟨wCX6_goOnBehindItem, wNX6, ⟨neX6.1, neX6.2, by decide +kernel⟩, by decide⟩
theorem wIX6_goOnBehindItem : Cond.instanceMethod yX6_goOnBehindItem ∈ sm_TB := sm_inT (sm_t4 (List.mem_of_getElem? (i := 51) rfl)) rfl
theorem wVX6_goOnBehindItem : Cond.selects RX6 yX6_goOnBehindItem yX6_goOnBehindItem ∈ sm_TB := sm_inT (sm_v3 (q := (yX6_goOnBehindItem, 20)) (List.mem_of_getElem? (i := 8) rfl)) rfl
set_option maxRecDepth 20000 in
theorem hkX6_goOnBehindItem : sm_fd sm_pg 78 = some miX6_goOnBehindItem := by rfl
theorem hhX6_goOnBehindItem : sm_fd sm_hds 78 = some (yX6_goOnBehindItem, cX6_goOnBehindItem, 1, none) := sm_hh hkX6_goOnBehindItem
theorem wCX6_endClause : Cond.code yX6_endClause cX6_endClause 1 none ∈ sm_TB := sm_inT (sm_t4 (List.mem_of_getElem? (i := 72) rfl)) rfl
theorem hdX6_endClause : sm_hdk sm_TB yX6_endClause cX6_endClause 1 none 0 := ⟨wCX6_endClause, wNX6, ⟨neX6.1, neX6.2, by decide +kernel⟩, by decide⟩
theorem wIX6_endClause : Cond.instanceMethod yX6_endClause ∈ sm_TB := sm_inT (sm_t4 (List.mem_of_getElem? (i := 71) rfl)) rfl
theorem wVX6_endClause : Cond.selects RX6 yX6_endClause yX6_endClause ∈ sm_TB := sm_inT (sm_v3 (q := (yX6_endClause, 20)) (List.mem_of_getElem? (i := 13) rfl)) rfl
set_option maxRecDepth 20000 in
theorem hkX6_endClause : sm_fd sm_pg 79 = some miX6_endClause := by rfl
theorem hhX6_endClause : sm_fd sm_hds 79 = some (yX6_endClause, cX6_endClause, 1, none) := sm_hh hkX6_endClause
theorem wCX6_keepBlock : Cond.code yX6_keepBlock cX6_keepBlock 2 none ∈ sm_TB := sm_inT (sm_t4 (List.mem_of_getElem? (i := 76) rfl)) rfl
theorem hdX6_keepBlock : sm_hdk sm_TB yX6_keepBlock cX6_keepBlock 2 none 0 := ⟨wCX6_keepBlock, wNX6, ⟨neX6.1, neX6.2, by decide +kernel⟩, by decide⟩
theorem wIX6_keepBlock : Cond.instanceMethod yX6_keepBlock ∈ sm_TB := sm_inT (sm_t4 (List.mem_of_getElem? (i := 75) rfl)) rfl
theorem wVX6_keepBlock : Cond.selects RX6 yX6_keepBlock yX6_keepBlock ∈ sm_TB := sm_inT (sm_v3 (q := (yX6_keepBlock, 20)) (List.mem_of_getElem? (i := 14) rfl)) rfl
set_option maxRecDepth 20000 in
theorem hkX6_keepBlock : sm_fd sm_pg 80 = some miX6_keepBlock := by rfl
theorem hhX6_keepBlock : sm_fd sm_hds 80 = some (yX6_keepBlock, cX6_keepBlock, 2, none) := sm_hh hkX6_keepBlock
theorem wCX6_stageAlong : Cond.code yX6_stageAlong cX6_stageAlong 6 none ∈ sm_TB := sm_inT (sm_t4 (List.mem_of_getElem? (i := 80) rfl)) rfl
theorem hdX6_stageAlong : sm_hdk sm_TB yX6_stageAlong cX6_stageAlong 6 none 2 := ⟨wCX6_stageAlong, wNX6, ⟨neX6.1, neX6.2, by decide +kernel⟩, by decide⟩
theorem wIX6_stageAlong : Cond.instanceMethod yX6_stageAlong ∈ sm_TB := sm_inT (sm_t4 (List.mem_of_getElem? (i := 79) rfl)) rfl
theorem wVX6_stageAlong : Cond.selects RX6 yX6_stageAlong yX6_stageAlong ∈ sm_TB := sm_inT (sm_v3 (q := (yX6_stageAlong, 20)) (List.mem_of_getElem? (i := 15) rfl)) rfl
set_option maxRecDepth 20000 in
theorem hkX6_stageAlong : sm_fd sm_pg 81 = some miX6_stageAlong := by rfl
theorem hhX6_stageAlong : sm_fd sm_hds 81 = some (yX6_stageAlong, cX6_stageAlong, 6, none) := sm_hh hkX6_stageAlong
theorem wCX6_stageTie : Cond.code yX6_stageTie cX6_stageTie 3 none ∈ sm_TB := sm_inT (sm_t4 (List.mem_of_getElem? (i := 85) rfl)) rfl
theorem hdX6_stageTie : sm_hdk sm_TB yX6_stageTie cX6_stageTie 3 none 0 := ⟨wCX6_stageTie, wNX6, ⟨neX6.1, neX6.2, by decide +kernel⟩, by decide⟩
theorem wIX6_stageTie : Cond.instanceMethod yX6_stageTie ∈ sm_TB := sm_inT (sm_t4 (List.mem_of_getElem? (i := 84) rfl)) rfl
theorem wVX6_stageTie : Cond.selects RX6 yX6_stageTie yX6_stageTie ∈ sm_TB := sm_inT (sm_v4 (q := (yX6_stageTie, 20)) (List.mem_of_getElem? (i := 0) rfl)) rfl
set_option maxRecDepth 20000 in
theorem hkX6_stageTie : sm_fd sm_pg 82 = some miX6_stageTie := by rfl
theorem hhX6_stageTie : sm_fd sm_hds 82 = some (yX6_stageTie, cX6_stageTie, 3, none) := sm_hh hkX6_stageTie
theorem wCX6_openRow : Cond.code yX6_openRow cX6_openRow 1 (some .int) ∈ sm_TB := sm_inT (sm_t3 (List.mem_of_getElem? (i := 207) rfl)) rfl
theorem hdX6_openRow : sm_hdk sm_TB yX6_openRow cX6_openRow 1 (some .int) 0 := ⟨wCX6_openRow, wNX6, ⟨neX6.1, neX6.2, by decide +kernel⟩, by decide⟩
theorem wIX6_openRow : Cond.instanceMethod yX6_openRow ∈ sm_TB := sm_inT (sm_t3 (List.mem_of_getElem? (i := 206) rfl)) rfl
theorem wVX6_openRow : Cond.selects RX6 yX6_openRow yX6_openRow ∈ sm_TB := sm_inT (sm_v2 (q := (yX6_openRow, 20)) (List.mem_of_getElem? (i := 4) rfl)) rfl
set_option maxRecDepth 20000 in
theorem hkX6_openRow : sm_fd sm_pg 83 = some miX6_openRow := by rfl
theorem hhX6_openRow : sm_fd sm_hds 83 = some (yX6_openRow, cX6_openRow, 1, (some .int)) := sm_hh hkX6_openRow
theorem wCX6_hasRoom : Cond.code yX6_hasRoom cX6_hasRoom 2 (some .boolean) ∈ sm_TB := sm_inT (sm_t3 (List.mem_of_getElem? (i := 203) rfl)) rfl
theorem hdX6_hasRoom : sm_hdk sm_TB yX6_hasRoom cX6_hasRoom 2 (some .boolean) 1 := ⟨wCX6_hasRoom, wNX6, ⟨neX6.1, neX6.2, by decide +kernel⟩, by decide⟩
theorem wIX6_hasRoom : Cond.instanceMethod yX6_hasRoom ∈ sm_TB := sm_inT (sm_t3 (List.mem_of_getElem? (i := 202) rfl)) rfl
theorem wVX6_hasRoom : Cond.selects RX6 yX6_hasRoom yX6_hasRoom ∈ sm_TB := sm_inT (sm_v2 (q := (yX6_hasRoom, 20)) (List.mem_of_getElem? (i := 3) rfl)) rfl
set_option maxRecDepth 20000 in
theorem hkX6_hasRoom : sm_fd sm_pg 84 = some miX6_hasRoom := by rfl
theorem hhX6_hasRoom : sm_fd sm_hds 84 = some (yX6_hasRoom, cX6_hasRoom, 2, (some .boolean)) := sm_hh hkX6_hasRoom
theorem wCX6_add : Cond.code yX6_add cX6_add 2 none ∈ sm_TB := sm_inT (sm_t3 (List.mem_of_getElem? (i := 213) rfl)) rfl
theorem hdX6_add : sm_hdk sm_TB yX6_add cX6_add 2 none 1 := ⟨wCX6_add, wNX6, ⟨neX6.1, neX6.2, by decide +kernel⟩, by decide⟩
theorem wIX6_add : Cond.instanceMethod yX6_add ∈ sm_TB := sm_inT (sm_t3 (List.mem_of_getElem? (i := 212) rfl)) rfl
theorem wVX6_add : Cond.selects RX6 yX6_add yX6_add ∈ sm_TB := sm_inT (sm_v2 (q := (yX6_add, 20)) (List.mem_of_getElem? (i := 5) rfl)) rfl
set_option maxRecDepth 20000 in
theorem hkX6_add : sm_fd sm_pg 85 = some miX6_add := by rfl
theorem hhX6_add : sm_fd sm_hds 85 = some (yX6_add, cX6_add, 2, none) := sm_hh hkX6_add
theorem wCX6_numberAt : Cond.code yX6_numberAt cX6_numberAt 2 (some .int) ∈ sm_TB := sm_inT (sm_t4 (List.mem_of_getElem? (i := 48) rfl)) rfl
theorem hdX6_numberAt : sm_hdk sm_TB yX6_numberAt cX6_numberAt 2 (some .int) 1 := ⟨wCX6_numberAt, wNX6, ⟨neX6.1, neX6.2, by decide +kernel⟩, by decide⟩
theorem wIX6_numberAt : Cond.instanceMethod yX6_numberAt ∈ sm_TB := sm_inT (sm_t4 (List.mem_of_getElem? (i := 47) rfl)) rfl
theorem wVX6_numberAt : Cond.selects RX6 yX6_numberAt yX6_numberAt ∈ sm_TB := sm_inT (sm_v3 (q := (yX6_numberAt, 20)) (List.mem_of_getElem? (i := 7) rfl)) rfl
set_option maxRecDepth 20000 in
theorem hkX6_numberAt : sm_fd sm_pg 86 = some miX6_numberAt := by rfl
theorem hhX6_numberAt : sm_fd sm_hds 86 = some (yX6_numberAt, cX6_numberAt, 2, (some .int)) := sm_hh hkX6_numberAt
theorem wCX6_put : Cond.code yX6_put cX6_put 3 none ∈ sm_TB := sm_inT (sm_t4 (List.mem_of_getElem? (i := 64) rfl)) rfl
theorem hdX6_put : sm_hdk sm_TB yX6_put cX6_put 3 none 2 := ⟨wCX6_put, wNX6, ⟨neX6.1, neX6.2, by decide +kernel⟩, by decide⟩
theorem wIX6_put : Cond.instanceMethod yX6_put ∈ sm_TB := sm_inT (sm_t4 (List.mem_of_getElem? (i := 63) rfl)) rfl
theorem wVX6_put : Cond.selects RX6 yX6_put yX6_put ∈ sm_TB := sm_inT (sm_v3 (q := (yX6_put, 20)) (List.mem_of_getElem? (i := 11) rfl)) rfl
set_option maxRecDepth 20000 in
theorem hkX6_put : sm_fd sm_pg 87 = some miX6_put := by rfl
theorem hhX6_put : sm_fd sm_hds 87 = some (yX6_put, cX6_put, 3, none) := sm_hh hkX6_put
theorem wCX6_blockSize : Cond.code yX6_blockSize cX6_blockSize 2 (some .int) ∈ sm_TB := sm_inT (sm_t4 (List.mem_of_getElem? (i := 1) rfl)) rfl
theorem hdX6_blockSize : sm_hdk sm_TB yX6_blockSize cX6_blockSize 2 (some .int) 1 := ⟨wCX6_blockSize, wNX6, ⟨neX6.1, neX6.2, by decide +kernel⟩, by decide⟩
theorem wIX6_blockSize : Cond.instanceMethod yX6_blockSize ∈ sm_TB := sm_inT (sm_t4 (List.mem_of_getElem? (i := 0) rfl)) rfl
theorem wVX6_blockSize : Cond.selects RX6 yX6_blockSize yX6_blockSize ∈ sm_TB := sm_inT (sm_v2 (q := (yX6_blockSize, 20)) (List.mem_of_getElem? (i := 12) rfl)) rfl
set_option maxRecDepth 20000 in
theorem hkX6_blockSize : sm_fd sm_pg 88 = some miX6_blockSize := by rfl
theorem hhX6_blockSize : sm_fd sm_hds 88 = some (yX6_blockSize, cX6_blockSize, 2, (some .int)) := sm_hh hkX6_blockSize
theorem wCX6_blockNumber : Cond.code yX6_blockNumber cX6_blockNumber 4 (some .int) ∈ sm_TB := sm_inT (sm_t4 (List.mem_of_getElem? (i := 25) rfl)) rfl
theorem hdX6_blockNumber : sm_hdk sm_TB yX6_blockNumber cX6_blockNumber 4 (some .int) 2 := ⟨wCX6_blockNumber, wNX6, ⟨neX6.1, neX6.2, by decide +kernel⟩, by decide⟩
theorem wIX6_blockNumber : Cond.instanceMethod yX6_blockNumber ∈ sm_TB := sm_inT (sm_t4 (List.mem_of_getElem? (i := 24) rfl)) rfl
theorem wVX6_blockNumber : Cond.selects RX6 yX6_blockNumber yX6_blockNumber ∈ sm_TB := sm_inT (sm_v3 (q := (yX6_blockNumber, 20)) (List.mem_of_getElem? (i := 2) rfl)) rfl
set_option maxRecDepth 20000 in
theorem hkX6_blockNumber : sm_fd sm_pg 89 = some miX6_blockNumber := by rfl
theorem hhX6_blockNumber : sm_fd sm_hds 89 = some (yX6_blockNumber, cX6_blockNumber, 4, (some .int)) := sm_hh hkX6_blockNumber
theorem wCX7_init : Cond.code yX7_init cX7_init 2 none ∈ sm_TB := sm_inT (sm_t2 (List.mem_of_getElem? (i := 23) rfl)) rfl
theorem hdX7_init : sm_hdk sm_TB yX7_init cX7_init 2 none 1 := ⟨wCX7_init, wNX7, ⟨neX7.1, neX7.2, by decide +kernel⟩, by decide⟩
theorem wIX7_init : Cond.instanceMethod yX7_init ∈ sm_TB := sm_inT (sm_t2 (List.mem_of_getElem? (i := 22) rfl)) rfl
set_option maxRecDepth 20000 in
theorem hkX7_init : sm_fd sm_pg 90 = some miX7_init := by rfl
theorem hhX7_init : sm_fd sm_hds 90 = some (yX7_init, cX7_init, 2, none) := sm_hh hkX7_init
theorem wCX7_countFloats : Cond.code yX7_countFloats cX7_countFloats 8 none ∈ sm_TB := sm_inT (sm_t4 (List.mem_of_getElem? (i := 168) rfl)) rfl
theorem hdX7_countFloats : sm_hdk sm_TB yX7_countFloats cX7_countFloats 8 none 2 := ⟨wCX7_countFloats, wNX7, ⟨neX7.1, neX7.2, by decide +kernel⟩, by decide⟩
theorem wIX7_countFloats : Cond.instanceMethod yX7_countFloats ∈ sm_TB := sm_inT (sm_t4 (List.mem_of_getElem? (i := 167) rfl)) rfl
theorem wVX7_countFloats : Cond.selects RX7 yX7_countFloats yX7_countFloats ∈ sm_TB := sm_inT (sm_v4 (q := (yX7_countFloats, 2)) (List.mem_of_getElem? (i := 11) rfl)) rfl
set_option maxRecDepth 20000 in
theorem hkX7_countFloats : sm_fd sm_pg 91 = some miX7_countFloats := by rfl
theorem hhX7_countFloats : sm_fd sm_hds 91 = some (yX7_countFloats, cX7_countFloats, 8, none) := sm_hh hkX7_countFloats
theorem wCX7_cutOpen : Cond.code yX7_cutOpen cX7_cutOpen 4 (some .long) ∈ sm_TB := sm_inT (sm_t4 (List.mem_of_getElem? (i := 173) rfl)) rfl
theorem hdX7_cutOpen : sm_hdk sm_TB yX7_cutOpen cX7_cutOpen 4 (some .long) 2 := ⟨wCX7_cutOpen, wNX7, ⟨neX7.1, neX7.2, by decide +kernel⟩, by decide⟩
theorem wSX7_cutOpen : Cond.static yX7_cutOpen ∈ sm_TB := sm_inT (sm_t4 (List.mem_of_getElem? (i := 172) rfl)) rfl
set_option maxRecDepth 20000 in
theorem hkX7_cutOpen : sm_fd sm_pg 92 = some miX7_cutOpen := by rfl
theorem hhX7_cutOpen : sm_fd sm_hds 92 = some (yX7_cutOpen, cX7_cutOpen, 4, (some .long)) := sm_hh hkX7_cutOpen
theorem wCX7_countLine : Cond.code yX7_countLine cX7_countLine 6 none ∈ sm_TB := sm_inT (sm_t4 (List.mem_of_getElem? (i := 188) rfl)) rfl
theorem hdX7_countLine : sm_hdk sm_TB yX7_countLine cX7_countLine 6 none 2 := ⟨wCX7_countLine, wNX7, ⟨neX7.1, neX7.2, by decide +kernel⟩, by decide⟩
theorem wIX7_countLine : Cond.instanceMethod yX7_countLine ∈ sm_TB := sm_inT (sm_t4 (List.mem_of_getElem? (i := 187) rfl)) rfl
theorem wVX7_countLine : Cond.selects RX7 yX7_countLine yX7_countLine ∈ sm_TB := sm_inT (sm_v4 (q := (yX7_countLine, 2)) (List.mem_of_getElem? (i := 12) rfl)) rfl
set_option maxRecDepth 20000 in
theorem hkX7_countLine : sm_fd sm_pg 93 = some miX7_countLine := by rfl
theorem hhX7_countLine : sm_fd sm_hds 93 = some (yX7_countLine, cX7_countLine, 6, none) := sm_hh hkX7_countLine
theorem wCX7_longestOne : Cond.code yX7_longestOne cX7_longestOne 2 (some .int) ∈ sm_TB := sm_inT (sm_t4 (List.mem_of_getElem? (i := 193) rfl)) rfl
theorem hdX7_longestOne : sm_hdk sm_TB yX7_longestOne cX7_longestOne 2 (some .int) 0 := ⟨wCX7_longestOne, wNX7, ⟨neX7.1, neX7.2, by decide +kernel⟩, by decide⟩
theorem wIX7_longestOne : Cond.instanceMethod yX7_longestOne ∈ sm_TB := sm_inT (sm_t4 (List.mem_of_getElem? (i := 192) rfl)) rfl
theorem wVX7_longestOne : Cond.selects RX7 yX7_longestOne yX7_longestOne ∈ sm_TB := sm_inT (sm_v4 (q := (yX7_longestOne, 2)) (List.mem_of_getElem? (i := 13) rfl)) rfl
set_option maxRecDepth 20000 in
theorem hkX7_longestOne : sm_fd sm_pg 94 = some miX7_longestOne := by rfl
theorem hhX7_longestOne : sm_fd sm_hds 94 = some (yX7_longestOne, cX7_longestOne, 2, (some .int)) := sm_hh hkX7_longestOne
theorem wCX7_longerThan : Cond.code yX7_longerThan cX7_longerThan 4 (some .int) ∈ sm_TB := sm_inT (sm_t4 (List.mem_of_getElem? (i := 201) rfl)) rfl
theorem hdX7_longerThan : sm_hdk sm_TB yX7_longerThan cX7_longerThan 4 (some .int) 1 := ⟨wCX7_longerThan, wNX7, ⟨neX7.1, neX7.2, by decide +kernel⟩, by decide⟩
theorem wIX7_longerThan : Cond.instanceMethod yX7_longerThan ∈ sm_TB := sm_inT (sm_t4 (List.mem_of_getElem? (i := 200) rfl)) rfl
theorem wVX7_longerThan : Cond.selects RX7 yX7_longerThan yX7_longerThan ∈ sm_TB := sm_inT (sm_v4 (q := (yX7_longerThan, 2)) (List.mem_of_getElem? (i := 14) rfl)) rfl
set_option maxRecDepth 20000 in
theorem hkX7_longerThan : sm_fd sm_pg 95 = some miX7_longerThan := by rfl
theorem hhX7_longerThan : sm_fd sm_hds 95 = some (yX7_longerThan, cX7_longerThan, 4, (some .int)) := sm_hh hkX7_longerThan
theorem wCX8_init : Cond.code yX8_init cX8_init 2 none ∈ sm_TB := sm_inT (sm_t2 (List.mem_of_getElem? (i := 152) rfl)) rfl
theorem hdX8_init : sm_hdk sm_TB yX8_init cX8_init 2 none 1 := ⟨wCX8_init, wNX8, ⟨neX8.1, neX8.2, by decide +kernel⟩, by decide⟩
theorem wIX8_init : Cond.instanceMethod yX8_init ∈ sm_TB := sm_inT (sm_t2 (List.mem_of_getElem? (i := 151) rfl)) rfl
set_option maxRecDepth 20000 in
theorem hkX8_init : sm_fd sm_pg 96 = some miX8_init := by rfl
theorem hhX8_init : sm_fd sm_hds 96 = some (yX8_init, cX8_init, 2, none) := sm_hh hkX8_init
theorem wCX8_noteRow : Cond.code yX8_noteRow cX8_noteRow 7 none ∈ sm_TB := sm_inT (sm_t5 (List.mem_of_getElem? (i := 145) rfl)) rfl
theorem hdX8_noteRow : sm_hdk sm_TB yX8_noteRow cX8_noteRow 7 none 2 := ⟨wCX8_noteRow, wNX8, ⟨neX8.1, neX8.2, by decide +kernel⟩, by decide⟩
theorem wIX8_noteRow : Cond.instanceMethod yX8_noteRow ∈ sm_TB := sm_inT (sm_t5 (List.mem_of_getElem? (i := 144) rfl)) rfl
theorem wVX8_noteRow : Cond.selects RX8 yX8_noteRow yX8_noteRow ∈ sm_TB := sm_inT (sm_v6 (q := (yX8_noteRow, 4)) (List.mem_of_getElem? (i := 11) rfl)) rfl
set_option maxRecDepth 20000 in
theorem hkX8_noteRow : sm_fd sm_pg 97 = some miX8_noteRow := by rfl
theorem hhX8_noteRow : sm_fd sm_hds 97 = some (yX8_noteRow, cX8_noteRow, 7, none) := sm_hh hkX8_noteRow
theorem wCX8_endsLike : Cond.code yX8_endsLike cX8_endsLike 6 (some .long) ∈ sm_TB := sm_inT (sm_t5 (List.mem_of_getElem? (i := 180) rfl)) rfl
theorem hdX8_endsLike : sm_hdk sm_TB yX8_endsLike cX8_endsLike 6 (some .long) 1 := ⟨wCX8_endsLike, wNX8, ⟨neX8.1, neX8.2, by decide +kernel⟩, by decide⟩
theorem wIX8_endsLike : Cond.instanceMethod yX8_endsLike ∈ sm_TB := sm_inT (sm_t5 (List.mem_of_getElem? (i := 179) rfl)) rfl
theorem wVX8_endsLike : Cond.selects RX8 yX8_endsLike yX8_endsLike ∈ sm_TB := sm_inT (sm_v7 (q := (yX8_endsLike, 4)) (List.mem_of_getElem? (i := 0) rfl)) rfl
set_option maxRecDepth 20000 in
theorem hkX8_endsLike : sm_fd sm_pg 98 = some miX8_endsLike := by rfl
theorem hhX8_endsLike : sm_fd sm_hds 98 = some (yX8_endsLike, cX8_endsLike, 6, (some .long)) := sm_hh hkX8_endsLike
theorem wCX8_isMoved : Cond.code yX8_isMoved cX8_isMoved 9 (some .boolean) ∈ sm_TB := sm_inT (sm_t5 (List.mem_of_getElem? (i := 231) rfl)) rfl
theorem hdX8_isMoved : sm_hdk sm_TB yX8_isMoved cX8_isMoved 9 (some .boolean) 3 := ⟨wCX8_isMoved, wNX8, ⟨neX8.1, neX8.2, by decide +kernel⟩, by decide⟩
theorem wIX8_isMoved : Cond.instanceMethod yX8_isMoved ∈ sm_TB := sm_inT (sm_t5 (List.mem_of_getElem? (i := 230) rfl)) rfl
theorem wVX8_isMoved : Cond.selects RX8 yX8_isMoved yX8_isMoved ∈ sm_TB := sm_inT (sm_v7 (q := (yX8_isMoved, 4)) (List.mem_of_getElem? (i := 9) rfl)) rfl
set_option maxRecDepth 20000 in
theorem hkX8_isMoved : sm_fd sm_pg 99 = some miX8_isMoved := by rfl
theorem hhX8_isMoved : sm_fd sm_hds 99 = some (yX8_isMoved, cX8_isMoved, 9, (some .boolean)) := sm_hh hkX8_isMoved
theorem wCX8_wrapped : Cond.code yX8_wrapped cX8_wrapped 2 (some .int) ∈ sm_TB := sm_inT (sm_t5 (List.mem_of_getElem? (i := 234) rfl)) rfl
theorem hdX8_wrapped : sm_hdk sm_TB yX8_wrapped cX8_wrapped 2 (some .int) 2 := ⟨wCX8_wrapped, wNX8, ⟨neX8.1, neX8.2, by decide +kernel⟩, by decide⟩
theorem wSX8_wrapped : Cond.static yX8_wrapped ∈ sm_TB := sm_inT (sm_t5 (List.mem_of_getElem? (i := 233) rfl)) rfl
set_option maxRecDepth 20000 in
theorem hkX8_wrapped : sm_fd sm_pg 100 = some miX8_wrapped := by rfl
theorem hhX8_wrapped : sm_fd sm_hds 100 = some (yX8_wrapped, cX8_wrapped, 2, (some .int)) := sm_hh hkX8_wrapped
theorem wCX8_rowAt : Cond.code yX8_rowAt cX8_rowAt 2 (some .long) ∈ sm_TB := sm_inT (sm_t5 (List.mem_of_getElem? (i := 237) rfl)) rfl
theorem hdX8_rowAt : sm_hdk sm_TB yX8_rowAt cX8_rowAt 2 (some .long) 2 := ⟨wCX8_rowAt, wNX8, ⟨neX8.1, neX8.2, by decide +kernel⟩, by decide⟩
theorem wSX8_rowAt : Cond.static yX8_rowAt ∈ sm_TB := sm_inT (sm_t5 (List.mem_of_getElem? (i := 236) rfl)) rfl
set_option maxRecDepth 20000 in
theorem hkX8_rowAt : sm_fd sm_pg 101 = some miX8_rowAt := by rfl
theorem hhX8_rowAt : sm_fd sm_hds 101 = some (yX8_rowAt, cX8_rowAt, 2, (some .long)) := sm_hh hkX8_rowAt
theorem wCX9_init : Cond.code yX9_init cX9_init 1 none ∈ sm_TB := sm_inT (sm_t1 (List.mem_of_getElem? (i := 165) rfl)) rfl
theorem hdX9_init : sm_hdk sm_TB yX9_init cX9_init 1 none 0 := ⟨wCX9_init, wNX9, ⟨neX9.1, neX9.2, by decide +kernel⟩, by decide⟩
theorem wIX9_init : Cond.instanceMethod yX9_init ∈ sm_TB := sm_inT (sm_t1 (List.mem_of_getElem? (i := 164) rfl)) rfl
set_option maxRecDepth 20000 in
theorem hkX9_init : sm_fd sm_pg 102 = some miX9_init := by rfl
theorem hhX9_init : sm_fd sm_hds 102 = some (yX9_init, cX9_init, 1, none) := sm_hh hkX9_init
theorem wCX9_appendWord : Cond.code yX9_appendWord cX9_appendWord 3 none ∈ sm_TB := sm_inT (sm_t3 (List.mem_of_getElem? (i := 80) rfl)) rfl
theorem hdX9_appendWord : sm_hdk sm_TB yX9_appendWord cX9_appendWord 3 none 1 := ⟨wCX9_appendWord, wNX9, ⟨neX9.1, neX9.2, by decide +kernel⟩, by decide⟩
theorem wIX9_appendWord : Cond.instanceMethod yX9_appendWord ∈ sm_TB := sm_inT (sm_t3 (List.mem_of_getElem? (i := 79) rfl)) rfl
theorem wVX9_appendWord : Cond.selects RX9 yX9_appendWord yX9_appendWord ∈ sm_TB := sm_inT (sm_v1 (q := (yX9_appendWord, 6)) (List.mem_of_getElem? (i := 8) rfl)) rfl
set_option maxRecDepth 20000 in
theorem hkX9_appendWord : sm_fd sm_pg 103 = some miX9_appendWord := by rfl
theorem hhX9_appendWord : sm_fd sm_hds 103 = some (yX9_appendWord, cX9_appendWord, 3, none) := sm_hh hkX9_appendWord
theorem wCX9_rewind : Cond.code yX9_rewind cX9_rewind 1 none ∈ sm_TB := sm_inT (sm_t3 (List.mem_of_getElem? (i := 98) rfl)) rfl
theorem hdX9_rewind : sm_hdk sm_TB yX9_rewind cX9_rewind 1 none 0 := ⟨wCX9_rewind, wNX9, ⟨neX9.1, neX9.2, by decide +kernel⟩, by decide⟩
theorem wIX9_rewind : Cond.instanceMethod yX9_rewind ∈ sm_TB := sm_inT (sm_t3 (List.mem_of_getElem? (i := 97) rfl)) rfl
theorem wVX9_rewind : Cond.selects RX9 yX9_rewind yX9_rewind ∈ sm_TB := sm_inT (sm_v1 (q := (yX9_rewind, 6)) (List.mem_of_getElem? (i := 10) rfl)) rfl
set_option maxRecDepth 20000 in
theorem hkX9_rewind : sm_fd sm_pg 104 = some miX9_rewind := by rfl
theorem hhX9_rewind : sm_fd sm_hds 104 = some (yX9_rewind, cX9_rewind, 1, none) := sm_hh hkX9_rewind
theorem wCX9_advance : Cond.code yX9_advance cX9_advance 2 none ∈ sm_TB := sm_inT (sm_t3 (List.mem_of_getElem? (i := 102) rfl)) rfl
theorem hdX9_advance : sm_hdk sm_TB yX9_advance cX9_advance 2 none 0 := ⟨wCX9_advance, wNX9, ⟨neX9.1, neX9.2, by decide +kernel⟩, by decide⟩
theorem wIX9_advance : Cond.instanceMethod yX9_advance ∈ sm_TB := sm_inT (sm_t3 (List.mem_of_getElem? (i := 101) rfl)) rfl
theorem wVX9_advance : Cond.selects RX9 yX9_advance yX9_advance ∈ sm_TB := sm_inT (sm_v1 (q := (yX9_advance, 6)) (List.mem_of_getElem? (i := 11) rfl)) rfl
set_option maxRecDepth 20000 in
theorem hkX9_advance : sm_fd sm_pg 105 = some miX9_advance := by rfl
theorem hhX9_advance : sm_fd sm_hds 105 = some (yX9_advance, cX9_advance, 2, none) := sm_hh hkX9_advance
theorem wCX9_byteAt : Cond.code yX9_byteAt cX9_byteAt 2 (some .int) ∈ sm_TB := sm_inT (sm_t3 (List.mem_of_getElem? (i := 106) rfl)) rfl
theorem hdX9_byteAt : sm_hdk sm_TB yX9_byteAt cX9_byteAt 2 (some .int) 1 := ⟨wCX9_byteAt, wNX9, ⟨neX9.1, neX9.2, by decide +kernel⟩, by decide⟩
theorem wIX9_byteAt : Cond.instanceMethod yX9_byteAt ∈ sm_TB := sm_inT (sm_t3 (List.mem_of_getElem? (i := 105) rfl)) rfl
theorem wVX9_byteAt : Cond.selects RX9 yX9_byteAt yX9_byteAt ∈ sm_TB := sm_inT (sm_v1 (q := (yX9_byteAt, 6)) (List.mem_of_getElem? (i := 12) rfl)) rfl
set_option maxRecDepth 20000 in
theorem hkX9_byteAt : sm_fd sm_pg 106 = some miX9_byteAt := by rfl
theorem hhX9_byteAt : sm_fd sm_hds 106 = some (yX9_byteAt, cX9_byteAt, 2, (some .int)) := sm_hh hkX9_byteAt
theorem wCX9_readNumber : Cond.code yX9_readNumber cX9_readNumber 1 none ∈ sm_TB := sm_inT (sm_t3 (List.mem_of_getElem? (i := 116) rfl)) rfl
theorem hdX9_readNumber : sm_hdk sm_TB yX9_readNumber cX9_readNumber 1 none 0 := ⟨wCX9_readNumber, wNX9, ⟨neX9.1, neX9.2, by decide +kernel⟩, by decide⟩
theorem wIX9_readNumber : Cond.instanceMethod yX9_readNumber ∈ sm_TB := sm_inT (sm_t3 (List.mem_of_getElem? (i := 115) rfl)) rfl
theorem wVX9_readNumber : Cond.selects RX9 yX9_readNumber yX9_readNumber ∈ sm_TB := sm_inT (sm_v1 (q := (yX9_readNumber, 6)) (List.mem_of_getElem? (i := 13) rfl)) rfl
set_option maxRecDepth 20000 in
theorem hkX9_readNumber : sm_fd sm_pg 107 = some miX9_readNumber := by rfl
theorem hhX9_readNumber : sm_fd sm_hds 107 = some (yX9_readNumber, cX9_readNumber, 1, none) := sm_hh hkX9_readNumber
theorem wCX9_readWord : Cond.code yX9_readWord cX9_readWord 2 none ∈ sm_TB := sm_inT (sm_t3 (List.mem_of_getElem? (i := 124) rfl)) rfl
theorem hdX9_readWord : sm_hdk sm_TB yX9_readWord cX9_readWord 2 none 0 := ⟨wCX9_readWord, wNX9, ⟨neX9.1, neX9.2, by decide +kernel⟩, by decide⟩
theorem wIX9_readWord : Cond.instanceMethod yX9_readWord ∈ sm_TB := sm_inT (sm_t3 (List.mem_of_getElem? (i := 123) rfl)) rfl
theorem wVX9_readWord : Cond.selects RX9 yX9_readWord yX9_readWord ∈ sm_TB := sm_inT (sm_v1 (q := (yX9_readWord, 6)) (List.mem_of_getElem? (i := 14) rfl)) rfl
set_option maxRecDepth 20000 in
theorem hkX9_readWord : sm_fd sm_pg 108 = some miX9_readWord := by rfl
theorem hhX9_readWord : sm_fd sm_hds 108 = some (yX9_readWord, cX9_readWord, 2, none) := sm_hh hkX9_readWord
theorem wCX9_kindOfWord : Cond.code yX9_kindOfWord cX9_kindOfWord 1 (some .int) ∈ sm_TB := sm_inT (sm_t3 (List.mem_of_getElem? (i := 128) rfl)) rfl
theorem hdX9_kindOfWord : sm_hdk sm_TB yX9_kindOfWord cX9_kindOfWord 1 (some .int) 0 := ⟨wCX9_kindOfWord, wNX9, ⟨neX9.1, neX9.2, by decide +kernel⟩, by decide⟩
theorem wIX9_kindOfWord : Cond.instanceMethod yX9_kindOfWord ∈ sm_TB := sm_inT (sm_t3 (List.mem_of_getElem? (i := 127) rfl)) rfl
theorem wVX9_kindOfWord : Cond.selects RX9 yX9_kindOfWord yX9_kindOfWord ∈ sm_TB := sm_inT (sm_v1 (q := (yX9_kindOfWord, 6)) (List.mem_of_getElem? (i := 15) rfl)) rfl
set_option maxRecDepth 20000 in
theorem hkX9_kindOfWord : sm_fd sm_pg 109 = some miX9_kindOfWord := by rfl
theorem hhX9_kindOfWord : sm_fd sm_hds 109 = some (yX9_kindOfWord, cX9_kindOfWord, 1, (some .int)) := sm_hh hkX9_kindOfWord
theorem wCX9_isWord : Cond.code yX9_isWord cX9_isWord 4 (some .boolean) ∈ sm_TB := sm_inT (sm_t3 (List.mem_of_getElem? (i := 133) rfl)) rfl
theorem hdX9_isWord : sm_hdk sm_TB yX9_isWord cX9_isWord 4 (some .boolean) 1 := ⟨wCX9_isWord, wNX9, ⟨neX9.1, neX9.2, by decide +kernel⟩, by decide⟩
theorem wIX9_isWord : Cond.instanceMethod yX9_isWord ∈ sm_TB := sm_inT (sm_t3 (List.mem_of_getElem? (i := 132) rfl)) rfl
theorem wVX9_isWord : Cond.selects RX9 yX9_isWord yX9_isWord ∈ sm_TB := sm_inT (sm_v2 (q := (yX9_isWord, 6)) (List.mem_of_getElem? (i := 0) rfl)) rfl
set_option maxRecDepth 20000 in
theorem hkX9_isWord : sm_fd sm_pg 110 = some miX9_isWord := by rfl
theorem hhX9_isWord : sm_fd sm_hds 110 = some (yX9_isWord, cX9_isWord, 4, (some .boolean)) := sm_hh hkX9_isWord
theorem wCX9_isBlank : Cond.code yX9_isBlank cX9_isBlank 1 (some .boolean) ∈ sm_TB := sm_inT (sm_t3 (List.mem_of_getElem? (i := 109) rfl)) rfl
theorem hdX9_isBlank : sm_hdk sm_TB yX9_isBlank cX9_isBlank 1 (some .boolean) 1 := ⟨wCX9_isBlank, wNX9, ⟨neX9.1, neX9.2, by decide +kernel⟩, by decide⟩
theorem wSX9_isBlank : Cond.static yX9_isBlank ∈ sm_TB := sm_inT (sm_t3 (List.mem_of_getElem? (i := 108) rfl)) rfl
set_option maxRecDepth 20000 in
theorem hkX9_isBlank : sm_fd sm_pg 111 = some miX9_isBlank := by rfl
theorem hhX9_isBlank : sm_fd sm_hds 111 = some (yX9_isBlank, cX9_isBlank, 1, (some .boolean)) := sm_hh hkX9_isBlank
theorem wCX9_isDigit : Cond.code yX9_isDigit cX9_isDigit 1 (some .boolean) ∈ sm_TB := sm_inT (sm_t3 (List.mem_of_getElem? (i := 112) rfl)) rfl
theorem hdX9_isDigit : sm_hdk sm_TB yX9_isDigit cX9_isDigit 1 (some .boolean) 1 := ⟨wCX9_isDigit, wNX9, ⟨neX9.1, neX9.2, by decide +kernel⟩, by decide⟩
theorem wSX9_isDigit : Cond.static yX9_isDigit ∈ sm_TB := sm_inT (sm_t3 (List.mem_of_getElem? (i := 111) rfl)) rfl
set_option maxRecDepth 20000 in
theorem hkX9_isDigit : sm_fd sm_pg 112 = some miX9_isDigit := by rfl
theorem hhX9_isDigit : sm_fd sm_hds 112 = some (yX9_isDigit, cX9_isDigit, 1, (some .boolean)) := sm_hh hkX9_isDigit
theorem wCX9_isAlphabetic : Cond.code yX9_isAlphabetic cX9_isAlphabetic 1 (some .boolean) ∈ sm_TB := sm_inT (sm_t3 (List.mem_of_getElem? (i := 120) rfl)) rfl
theorem hdX9_isAlphabetic : sm_hdk sm_TB yX9_isAlphabetic cX9_isAlphabetic 1 (some .boolean) 1 := ⟨wCX9_isAlphabetic, wNX9, ⟨neX9.1, neX9.2, by decide +kernel⟩, by decide⟩
theorem wSX9_isAlphabetic : Cond.static yX9_isAlphabetic ∈ sm_TB := sm_inT (sm_t3 (List.mem_of_getElem? (i := 119) rfl)) rfl
set_option maxRecDepth 20000 in
theorem hkX9_isAlphabetic : sm_fd sm_pg 113 = some miX9_isAlphabetic := by rfl
theorem hhX9_isAlphabetic : sm_fd sm_hds 113 = some (yX9_isAlphabetic, cX9_isAlphabetic, 1, (some .boolean)) := sm_hh hkX9_isAlphabetic
theorem wCX9_isSign : Cond.code yX9_isSign cX9_isSign 1 (some .boolean) ∈ sm_TB := sm_inT (sm_t3 (List.mem_of_getElem? (i := 191) rfl)) rfl
theorem hdX9_isSign : sm_hdk sm_TB yX9_isSign cX9_isSign 1 (some .boolean) 1 := ⟨wCX9_isSign, wNX9, ⟨neX9.1, neX9.2, by decide +kernel⟩, by decide⟩
theorem wSX9_isSign : Cond.static yX9_isSign ∈ sm_TB := sm_inT (sm_t3 (List.mem_of_getElem? (i := 190) rfl)) rfl
set_option maxRecDepth 20000 in
theorem hkX9_isSign : sm_fd sm_pg 114 = some miX9_isSign := by rfl
theorem hhX9_isSign : sm_fd sm_hds 114 = some (yX9_isSign, cX9_isSign, 1, (some .boolean)) := sm_hh hkX9_isSign
theorem wCX10_init : Cond.code yX10_init cX10_init 3 none ∈ sm_TB := sm_inT (sm_t1 (List.mem_of_getElem? (i := 25) rfl)) rfl
theorem hdX10_init : sm_hdk sm_TB yX10_init cX10_init 3 none 2 := ⟨wCX10_init, wNX10, ⟨neX10.1, neX10.2, by decide +kernel⟩, by decide⟩
theorem wIX10_init : Cond.instanceMethod yX10_init ∈ sm_TB := sm_inT (sm_t1 (List.mem_of_getElem? (i := 24) rfl)) rfl
set_option maxRecDepth 20000 in
theorem hkX10_init : sm_fd sm_pg 115 = some miX10_init := by rfl
theorem hhX10_init : sm_fd sm_hds 115 = some (yX10_init, cX10_init, 3, none) := sm_hh hkX10_init
theorem wCX10_thread : Cond.code yX10_thread cX10_thread 3 (some .int) ∈ sm_TB := sm_inT (sm_t3 (List.mem_of_getElem? (i := 27) rfl)) rfl
theorem hdX10_thread : sm_hdk sm_TB yX10_thread cX10_thread 3 (some .int) 2 := ⟨wCX10_thread, wNX10, ⟨neX10.1, neX10.2, by decide +kernel⟩, by decide⟩
theorem wIX10_thread : Cond.instanceMethod yX10_thread ∈ sm_TB := sm_inT (sm_t3 (List.mem_of_getElem? (i := 25) rfl)) rfl
theorem wVX10_thread : Cond.selects RX10 yX10_thread yX10_thread ∈ sm_TB := sm_inT (sm_t3 (List.mem_of_getElem? (i := 26) rfl)) rfl
set_option maxRecDepth 20000 in
theorem hkX10_thread : sm_fd sm_pg 116 = some miX10_thread := by rfl
theorem hhX10_thread : sm_fd sm_hds 116 = some (yX10_thread, cX10_thread, 3, (some .int)) := sm_hh hkX10_thread
theorem wCX10_tie : Cond.code yX10_tie cX10_tie 3 (some .int) ∈ sm_TB := sm_inT (sm_t3 (List.mem_of_getElem? (i := 56) rfl)) rfl
theorem hdX10_tie : sm_hdk sm_TB yX10_tie cX10_tie 3 (some .int) 2 := ⟨wCX10_tie, wNX10, ⟨neX10.1, neX10.2, by decide +kernel⟩, by decide⟩
theorem wIX10_tie : Cond.instanceMethod yX10_tie ∈ sm_TB := sm_inT (sm_t3 (List.mem_of_getElem? (i := 54) rfl)) rfl
theorem wVX10_tie : Cond.selects RX10 yX10_tie yX10_tie ∈ sm_TB := sm_inT (sm_t3 (List.mem_of_getElem? (i := 55) rfl)) rfl
set_option maxRecDepth 20000 in
theorem hkX10_tie : sm_fd sm_pg 117 = some miX10_tie := by rfl
theorem hhX10_tie : sm_fd sm_hds 117 = some (yX10_tie, cX10_tie, 3, (some .int)) := sm_hh hkX10_tie
theorem wCX10_tread : Cond.code yX10_tread cX10_tread 3 (some .int) ∈ sm_TB := sm_inT (sm_t3 (List.mem_of_getElem? (i := 61) rfl)) rfl
theorem hdX10_tread : sm_hdk sm_TB yX10_tread cX10_tread 3 (some .int) 2 := ⟨wCX10_tread, wNX10, ⟨neX10.1, neX10.2, by decide +kernel⟩, by decide⟩
theorem wIX10_tread : Cond.instanceMethod yX10_tread ∈ sm_TB := sm_inT (sm_t3 (List.mem_of_getElem? (i := 59) rfl)) rfl
theorem wVX10_tread : Cond.selects RX10 yX10_tread yX10_tread ∈ sm_TB := sm_inT (sm_t3 (List.mem_of_getElem? (i := 60) rfl)) rfl
set_option maxRecDepth 20000 in
theorem hkX10_tread : sm_fd sm_pg 118 = some miX10_tread := by rfl
theorem hhX10_tread : sm_fd sm_hds 118 = some (yX10_tread, cX10_tread, 3, (some .int)) := sm_hh hkX10_tread
theorem wCX10_colour : Cond.code yX10_colour cX10_colour 5 (some .int) ∈ sm_TB := sm_inT (sm_t3 (List.mem_of_getElem? (i := 69) rfl)) rfl
theorem hdX10_colour : sm_hdk sm_TB yX10_colour cX10_colour 5 (some .int) 3 := ⟨wCX10_colour, wNX10, ⟨neX10.1, neX10.2, by decide +kernel⟩, by decide⟩
theorem wIX10_colour : Cond.instanceMethod yX10_colour ∈ sm_TB := sm_inT (sm_t3 (List.mem_of_getElem? (i := 67) rfl)) rfl
theorem wVX10_colour : Cond.selects RX10 yX10_colour yX10_colour ∈ sm_TB := sm_inT (sm_t3 (List.mem_of_getElem? (i := 68) rfl)) rfl
set_option maxRecDepth 20000 in
theorem hkX10_colour : sm_fd sm_pg 119 = some miX10_colour := by rfl
theorem hhX10_colour : sm_fd sm_hds 119 = some (yX10_colour, cX10_colour, 5, (some .int)) := sm_hh hkX10_colour
theorem wCX10_feed : Cond.code yX10_feed cX10_feed 6 (some .int) ∈ sm_TB := sm_inT (sm_t3 (List.mem_of_getElem? (i := 76) rfl)) rfl
theorem hdX10_feed : sm_hdk sm_TB yX10_feed cX10_feed 6 (some .int) 5 := ⟨wCX10_feed, wNX10, ⟨neX10.1, neX10.2, by decide +kernel⟩, by decide⟩
theorem wIX10_feed : Cond.instanceMethod yX10_feed ∈ sm_TB := sm_inT (sm_t3 (List.mem_of_getElem? (i := 74) rfl)) rfl
theorem wVX10_feed : Cond.selects RX10 yX10_feed yX10_feed ∈ sm_TB := sm_inT (sm_t3 (List.mem_of_getElem? (i := 75) rfl)) rfl
set_option maxRecDepth 20000 in
theorem hkX10_feed : sm_fd sm_pg 120 = some miX10_feed := by rfl
theorem hhX10_feed : sm_fd sm_hds 120 = some (yX10_feed, cX10_feed, 6, (some .int)) := sm_hh hkX10_feed
theorem wCX10_end : Cond.code yX10_end cX10_end 2 (some .int) ∈ sm_TB := sm_inT (sm_t3 (List.mem_of_getElem? (i := 84) rfl)) rfl
theorem hdX10_end : sm_hdk sm_TB yX10_end cX10_end 2 (some .int) 1 := ⟨wCX10_end, wNX10, ⟨neX10.1, neX10.2, by decide +kernel⟩, by decide⟩
theorem wIX10_end : Cond.instanceMethod yX10_end ∈ sm_TB := sm_inT (sm_t3 (List.mem_of_getElem? (i := 82) rfl)) rfl
theorem wVX10_end : Cond.selects RX10 yX10_end yX10_end ∈ sm_TB := sm_inT (sm_t3 (List.mem_of_getElem? (i := 83) rfl)) rfl
set_option maxRecDepth 20000 in
theorem hkX10_end : sm_fd sm_pg 121 = some miX10_end := by rfl
theorem hhX10_end : sm_fd sm_hds 121 = some (yX10_end, cX10_end, 2, (some .int)) := sm_hh hkX10_end
theorem wCX10_text : Cond.code yX10_text cX10_text 1 (some .int) ∈ sm_TB := sm_inT (sm_t3 (List.mem_of_getElem? (i := 88) rfl)) rfl
theorem hdX10_text : sm_hdk sm_TB yX10_text cX10_text 1 (some .int) 0 := ⟨wCX10_text, wNX10, ⟨neX10.1, neX10.2, by decide +kernel⟩, by decide⟩
theorem wIX10_text : Cond.instanceMethod yX10_text ∈ sm_TB := sm_inT (sm_t3 (List.mem_of_getElem? (i := 86) rfl)) rfl
theorem wVX10_text : Cond.selects RX10 yX10_text yX10_text ∈ sm_TB := sm_inT (sm_t3 (List.mem_of_getElem? (i := 87) rfl)) rfl
set_option maxRecDepth 20000 in
theorem hkX10_text : sm_fd sm_pg 122 = some miX10_text := by rfl
theorem hhX10_text : sm_fd sm_hds 122 = some (yX10_text, cX10_text, 1, (some .int)) := sm_hh hkX10_text
theorem wCX10_fault : Cond.code yX10_fault cX10_fault 2 (some .int) ∈ sm_TB := sm_inT (sm_t4 (List.mem_of_getElem? (i := 91) rfl)) rfl
theorem hdX10_fault : sm_hdk sm_TB yX10_fault cX10_fault 2 (some .int) 1 := ⟨wCX10_fault, wNX10, ⟨neX10.1, neX10.2, by decide +kernel⟩, by decide⟩
theorem wIX10_fault : Cond.instanceMethod yX10_fault ∈ sm_TB := sm_inT (sm_t4 (List.mem_of_getElem? (i := 89) rfl)) rfl
theorem wVX10_fault : Cond.selects RX10 yX10_fault yX10_fault ∈ sm_TB := sm_inT (sm_t4 (List.mem_of_getElem? (i := 90) rfl)) rfl
set_option maxRecDepth 20000 in
theorem hkX10_fault : sm_fd sm_pg 123 = some miX10_fault := by rfl
theorem hhX10_fault : sm_fd sm_hds 123 = some (yX10_fault, cX10_fault, 2, (some .int)) := sm_hh hkX10_fault
theorem wCX10_look : Cond.code yX10_look cX10_look 2 (some .boolean) ∈ sm_TB := sm_inT (sm_t4 (List.mem_of_getElem? (i := 95) rfl)) rfl
theorem hdX10_look : sm_hdk sm_TB yX10_look cX10_look 2 (some .boolean) 1 := ⟨wCX10_look, wNX10, ⟨neX10.1, neX10.2, by decide +kernel⟩, by decide⟩
theorem wIX10_look : Cond.instanceMethod yX10_look ∈ sm_TB := sm_inT (sm_t4 (List.mem_of_getElem? (i := 93) rfl)) rfl
theorem wVX10_look : Cond.selects RX10 yX10_look yX10_look ∈ sm_TB := sm_inT (sm_t4 (List.mem_of_getElem? (i := 94) rfl)) rfl
set_option maxRecDepth 20000 in
theorem hkX10_look : sm_fd sm_pg 124 = some miX10_look := by rfl
theorem hhX10_look : sm_fd sm_hds 124 = some (yX10_look, cX10_look, 2, (some .boolean)) := sm_hh hkX10_look
theorem wCX10_shaft : Cond.code yX10_shaft cX10_shaft 2 (some .int) ∈ sm_TB := sm_inT (sm_t4 (List.mem_of_getElem? (i := 103) rfl)) rfl
theorem hdX10_shaft : sm_hdk sm_TB yX10_shaft cX10_shaft 2 (some .int) 1 := ⟨wCX10_shaft, wNX10, ⟨neX10.1, neX10.2, by decide +kernel⟩, by decide⟩
theorem wIX10_shaft : Cond.instanceMethod yX10_shaft ∈ sm_TB := sm_inT (sm_t4 (List.mem_of_getElem? (i := 101) rfl)) rfl
theorem wVX10_shaft : Cond.selects RX10 yX10_shaft yX10_shaft ∈ sm_TB := sm_inT (sm_t4 (List.mem_of_getElem? (i := 102) rfl)) rfl
set_option maxRecDepth 20000 in
theorem hkX10_shaft : sm_fd sm_pg 125 = some miX10_shaft := by rfl
theorem hhX10_shaft : sm_fd sm_hds 125 = some (yX10_shaft, cX10_shaft, 2, (some .int)) := sm_hh hkX10_shaft
theorem wCX10_lift : Cond.code yX10_lift cX10_lift 2 (some .int) ∈ sm_TB := sm_inT (sm_t4 (List.mem_of_getElem? (i := 111) rfl)) rfl
theorem hdX10_lift : sm_hdk sm_TB yX10_lift cX10_lift 2 (some .int) 1 := ⟨wCX10_lift, wNX10, ⟨neX10.1, neX10.2, by decide +kernel⟩, by decide⟩
theorem wIX10_lift : Cond.instanceMethod yX10_lift ∈ sm_TB := sm_inT (sm_t4 (List.mem_of_getElem? (i := 109) rfl)) rfl
theorem wVX10_lift : Cond.selects RX10 yX10_lift yX10_lift ∈ sm_TB := sm_inT (sm_t4 (List.mem_of_getElem? (i := 110) rfl)) rfl
set_option maxRecDepth 20000 in
theorem hkX10_lift : sm_fd sm_pg 126 = some miX10_lift := by rfl
theorem hhX10_lift : sm_fd sm_hds 126 = some (yX10_lift, cX10_lift, 2, (some .int)) := sm_hh hkX10_lift
theorem wCX10_row : Cond.code yX10_row cX10_row 2 (some .long) ∈ sm_TB := sm_inT (sm_t4 (List.mem_of_getElem? (i := 146) rfl)) rfl
theorem hdX10_row : sm_hdk sm_TB yX10_row cX10_row 2 (some .long) 1 := ⟨wCX10_row, wNX10, ⟨neX10.1, neX10.2, by decide +kernel⟩, by decide⟩
theorem wIX10_row : Cond.instanceMethod yX10_row ∈ sm_TB := sm_inT (sm_t4 (List.mem_of_getElem? (i := 144) rfl)) rfl
theorem wVX10_row : Cond.selects RX10 yX10_row yX10_row ∈ sm_TB := sm_inT (sm_t4 (List.mem_of_getElem? (i := 145) rfl)) rfl
set_option maxRecDepth 20000 in
theorem hkX10_row : sm_fd sm_pg 127 = some miX10_row := by rfl
theorem hhX10_row : sm_fd sm_hds 127 = some (yX10_row, cX10_row, 2, (some .long)) := sm_hh hkX10_row
theorem wCX10_lead : Cond.code yX10_lead cX10_lead 4 (some .int) ∈ sm_TB := sm_inT (sm_t4 (List.mem_of_getElem? (i := 151) rfl)) rfl
theorem hdX10_lead : sm_hdk sm_TB yX10_lead cX10_lead 4 (some .int) 3 := ⟨wCX10_lead, wNX10, ⟨neX10.1, neX10.2, by decide +kernel⟩, by decide⟩
theorem wIX10_lead : Cond.instanceMethod yX10_lead ∈ sm_TB := sm_inT (sm_t4 (List.mem_of_getElem? (i := 149) rfl)) rfl
theorem wVX10_lead : Cond.selects RX10 yX10_lead yX10_lead ∈ sm_TB := sm_inT (sm_t4 (List.mem_of_getElem? (i := 150) rfl)) rfl
set_option maxRecDepth 20000 in
theorem hkX10_lead : sm_fd sm_pg 128 = some miX10_lead := by rfl
theorem hhX10_lead : sm_fd sm_hds 128 = some (yX10_lead, cX10_lead, 4, (some .int)) := sm_hh hkX10_lead
theorem wCX10_longest : Cond.code yX10_longest cX10_longest 3 (some .int) ∈ sm_TB := sm_inT (sm_t4 (List.mem_of_getElem? (i := 164) rfl)) rfl
theorem hdX10_longest : sm_hdk sm_TB yX10_longest cX10_longest 3 (some .int) 2 := ⟨wCX10_longest, wNX10, ⟨neX10.1, neX10.2, by decide +kernel⟩, by decide⟩
theorem wIX10_longest : Cond.instanceMethod yX10_longest ∈ sm_TB := sm_inT (sm_t4 (List.mem_of_getElem? (i := 162) rfl)) rfl
theorem wVX10_longest : Cond.selects RX10 yX10_longest yX10_longest ∈ sm_TB := sm_inT (sm_t4 (List.mem_of_getElem? (i := 163) rfl)) rfl
set_option maxRecDepth 20000 in
theorem hkX10_longest : sm_fd sm_pg 129 = some miX10_longest := by rfl
theorem hhX10_longest : sm_fd sm_hds 129 = some (yX10_longest, cX10_longest, 3, (some .int)) := sm_hh hkX10_longest
theorem wCX10_floats : Cond.code yX10_floats cX10_floats 4 (some .int) ∈ sm_TB := sm_inT (sm_t4 (List.mem_of_getElem? (i := 197) rfl)) rfl
theorem hdX10_floats : sm_hdk sm_TB yX10_floats cX10_floats 4 (some .int) 3 := ⟨wCX10_floats, wNX10, ⟨neX10.1, neX10.2, by decide +kernel⟩, by decide⟩
theorem wIX10_floats : Cond.instanceMethod yX10_floats ∈ sm_TB := sm_inT (sm_t4 (List.mem_of_getElem? (i := 195) rfl)) rfl
theorem wVX10_floats : Cond.selects RX10 yX10_floats yX10_floats ∈ sm_TB := sm_inT (sm_t4 (List.mem_of_getElem? (i := 196) rfl)) rfl
set_option maxRecDepth 20000 in
theorem hkX10_floats : sm_fd sm_pg 130 = some miX10_floats := by rfl
theorem hhX10_floats : sm_fd sm_hds 130 = some (yX10_floats, cX10_floats, 4, (some .int)) := sm_hh hkX10_floats
theorem wCX10_layers : Cond.code yX10_layers cX10_layers 5 (some .int) ∈ sm_TB := sm_inT (sm_t4 (List.mem_of_getElem? (i := 205) rfl)) rfl
theorem hdX10_layers : sm_hdk sm_TB yX10_layers cX10_layers 5 (some .int) 4 := ⟨wCX10_layers, wNX10, ⟨neX10.1, neX10.2, by decide +kernel⟩, by decide⟩
theorem wIX10_layers : Cond.instanceMethod yX10_layers ∈ sm_TB := sm_inT (sm_t4 (List.mem_of_getElem? (i := 203) rfl)) rfl
theorem wVX10_layers : Cond.selects RX10 yX10_layers yX10_layers ∈ sm_TB := sm_inT (sm_t4 (List.mem_of_getElem? (i := 204) rfl)) rfl
set_option maxRecDepth 20000 in
theorem hkX10_layers : sm_fd sm_pg 131 = some miX10_layers := by rfl
theorem hhX10_layers : sm_fd sm_hds 131 = some (yX10_layers, cX10_layers, 5, (some .int)) := sm_hh hkX10_layers
theorem wCX10_layer : Cond.code yX10_layer cX10_layer 6 (some .int) ∈ sm_TB := sm_inT (sm_t5 (List.mem_of_getElem? (i := 10) rfl)) rfl
theorem hdX10_layer : sm_hdk sm_TB yX10_layer cX10_layer 6 (some .int) 5 := ⟨wCX10_layer, wNX10, ⟨neX10.1, neX10.2, by decide +kernel⟩, by decide⟩
theorem wIX10_layer : Cond.instanceMethod yX10_layer ∈ sm_TB := sm_inT (sm_t5 (List.mem_of_getElem? (i := 8) rfl)) rfl
theorem wVX10_layer : Cond.selects RX10 yX10_layer yX10_layer ∈ sm_TB := sm_inT (sm_t5 (List.mem_of_getElem? (i := 9) rfl)) rfl
set_option maxRecDepth 20000 in
theorem hkX10_layer : sm_fd sm_pg 132 = some miX10_layer := by rfl
theorem hhX10_layer : sm_fd sm_hds 132 = some (yX10_layer, cX10_layer, 6, (some .int)) := sm_hh hkX10_layer
theorem wCX10_seenColour : Cond.code yX10_seenColour cX10_seenColour 4 (some .int) ∈ sm_TB := sm_inT (sm_t5 (List.mem_of_getElem? (i := 18) rfl)) rfl
theorem hdX10_seenColour : sm_hdk sm_TB yX10_seenColour cX10_seenColour 4 (some .int) 2 := ⟨wCX10_seenColour, wNX10, ⟨neX10.1, neX10.2, by decide +kernel⟩, by decide⟩
theorem wIX10_seenColour : Cond.instanceMethod yX10_seenColour ∈ sm_TB := sm_inT (sm_t5 (List.mem_of_getElem? (i := 16) rfl)) rfl
theorem wVX10_seenColour : Cond.selects RX10 yX10_seenColour yX10_seenColour ∈ sm_TB := sm_inT (sm_t5 (List.mem_of_getElem? (i := 17) rfl)) rfl
set_option maxRecDepth 20000 in
theorem hkX10_seenColour : sm_fd sm_pg 133 = some miX10_seenColour := by rfl
theorem hhX10_seenColour : sm_fd sm_hds 133 = some (yX10_seenColour, cX10_seenColour, 4, (some .int)) := sm_hh hkX10_seenColour
theorem wCX10_coloured : Cond.code yX10_coloured cX10_coloured 8 (some .int) ∈ sm_TB := sm_inT (sm_t5 (List.mem_of_getElem? (i := 22) rfl)) rfl
theorem hdX10_coloured : sm_hdk sm_TB yX10_coloured cX10_coloured 8 (some .int) 1 := ⟨wCX10_coloured, wNX10, ⟨neX10.1, neX10.2, by decide +kernel⟩, by decide⟩
theorem wIX10_coloured : Cond.instanceMethod yX10_coloured ∈ sm_TB := sm_inT (sm_t5 (List.mem_of_getElem? (i := 20) rfl)) rfl
theorem wVX10_coloured : Cond.selects RX10 yX10_coloured yX10_coloured ∈ sm_TB := sm_inT (sm_t5 (List.mem_of_getElem? (i := 21) rfl)) rfl
set_option maxRecDepth 20000 in
theorem hkX10_coloured : sm_fd sm_pg 134 = some miX10_coloured := by rfl
theorem hhX10_coloured : sm_fd sm_hds 134 = some (yX10_coloured, cX10_coloured, 8, (some .int)) := sm_hh hkX10_coloured
theorem wCX10_period : Cond.code yX10_period cX10_period 5 (some .int) ∈ sm_TB := sm_inT (sm_t5 (List.mem_of_getElem? (i := 36) rfl)) rfl
theorem hdX10_period : sm_hdk sm_TB yX10_period cX10_period 5 (some .int) 2 := ⟨wCX10_period, wNX10, ⟨neX10.1, neX10.2, by decide +kernel⟩, by decide⟩
theorem wIX10_period : Cond.instanceMethod yX10_period ∈ sm_TB := sm_inT (sm_t5 (List.mem_of_getElem? (i := 34) rfl)) rfl
theorem wVX10_period : Cond.selects RX10 yX10_period yX10_period ∈ sm_TB := sm_inT (sm_t5 (List.mem_of_getElem? (i := 35) rfl)) rfl
set_option maxRecDepth 20000 in
theorem hkX10_period : sm_fd sm_pg 135 = some miX10_period := by rfl
theorem hhX10_period : sm_fd sm_hds 135 = some (yX10_period, cX10_period, 5, (some .int)) := sm_hh hkX10_period
theorem wCX10_fewest : Cond.code yX10_fewest cX10_fewest 2 (some .int) ∈ sm_TB := sm_inT (sm_t5 (List.mem_of_getElem? (i := 63) rfl)) rfl
theorem hdX10_fewest : sm_hdk sm_TB yX10_fewest cX10_fewest 2 (some .int) 1 := ⟨wCX10_fewest, wNX10, ⟨neX10.1, neX10.2, by decide +kernel⟩, by decide⟩
theorem wIX10_fewest : Cond.instanceMethod yX10_fewest ∈ sm_TB := sm_inT (sm_t5 (List.mem_of_getElem? (i := 61) rfl)) rfl
theorem wVX10_fewest : Cond.selects RX10 yX10_fewest yX10_fewest ∈ sm_TB := sm_inT (sm_t5 (List.mem_of_getElem? (i := 62) rfl)) rfl
set_option maxRecDepth 20000 in
theorem hkX10_fewest : sm_fd sm_pg 136 = some miX10_fewest := by rfl
theorem hhX10_fewest : sm_fd sm_hds 136 = some (yX10_fewest, cX10_fewest, 2, (some .int)) := sm_hh hkX10_fewest
theorem wCX10_pegs : Cond.code yX10_pegs cX10_pegs 5 (some .int) ∈ sm_TB := sm_inT (sm_t5 (List.mem_of_getElem? (i := 70) rfl)) rfl
theorem hdX10_pegs : sm_hdk sm_TB yX10_pegs cX10_pegs 5 (some .int) 1 := ⟨wCX10_pegs, wNX10, ⟨neX10.1, neX10.2, by decide +kernel⟩, by decide⟩
theorem wIX10_pegs : Cond.instanceMethod yX10_pegs ∈ sm_TB := sm_inT (sm_t5 (List.mem_of_getElem? (i := 68) rfl)) rfl
theorem wVX10_pegs : Cond.selects RX10 yX10_pegs yX10_pegs ∈ sm_TB := sm_inT (sm_t5 (List.mem_of_getElem? (i := 69) rfl)) rfl
set_option maxRecDepth 20000 in
theorem hkX10_pegs : sm_fd sm_pg 137 = some miX10_pegs := by rfl
theorem hhX10_pegs : sm_fd sm_hds 137 = some (yX10_pegs, cX10_pegs, 5, (some .int)) := sm_hh hkX10_pegs
theorem wCX10_cover : Cond.code yX10_cover cX10_cover 2 (some .int) ∈ sm_TB := sm_inT (sm_t5 (List.mem_of_getElem? (i := 80) rfl)) rfl
theorem hdX10_cover : sm_hdk sm_TB yX10_cover cX10_cover 2 (some .int) 1 := ⟨wCX10_cover, wNX10, ⟨neX10.1, neX10.2, by decide +kernel⟩, by decide⟩
theorem wIX10_cover : Cond.instanceMethod yX10_cover ∈ sm_TB := sm_inT (sm_t5 (List.mem_of_getElem? (i := 78) rfl)) rfl
theorem wVX10_cover : Cond.selects RX10 yX10_cover yX10_cover ∈ sm_TB := sm_inT (sm_t5 (List.mem_of_getElem? (i := 79) rfl)) rfl
set_option maxRecDepth 20000 in
theorem hkX10_cover : sm_fd sm_pg 138 = some miX10_cover := by rfl
theorem hhX10_cover : sm_fd sm_hds 138 = some (yX10_cover, cX10_cover, 2, (some .int)) := sm_hh hkX10_cover
theorem wCX10_seen : Cond.code yX10_seen cX10_seen 4 (some .boolean) ∈ sm_TB := sm_inT (sm_t5 (List.mem_of_getElem? (i := 141) rfl)) rfl
theorem hdX10_seen : sm_hdk sm_TB yX10_seen cX10_seen 4 (some .boolean) 2 := ⟨wCX10_seen, wNX10, ⟨neX10.1, neX10.2, by decide +kernel⟩, by decide⟩
theorem wIX10_seen : Cond.instanceMethod yX10_seen ∈ sm_TB := sm_inT (sm_t5 (List.mem_of_getElem? (i := 139) rfl)) rfl
theorem wVX10_seen : Cond.selects RX10 yX10_seen yX10_seen ∈ sm_TB := sm_inT (sm_t5 (List.mem_of_getElem? (i := 140) rfl)) rfl
set_option maxRecDepth 20000 in
theorem hkX10_seen : sm_fd sm_pg 139 = some miX10_seen := by rfl
theorem hhX10_seen : sm_fd sm_hds 139 = some (yX10_seen, cX10_seen, 4, (some .boolean)) := sm_hh hkX10_seen
theorem wCX10_wrong : Cond.code yX10_wrong cX10_wrong 2 (some .int) ∈ sm_TB := sm_inT (sm_t5 (List.mem_of_getElem? (i := 151) rfl)) rfl
theorem hdX10_wrong : sm_hdk sm_TB yX10_wrong cX10_wrong 2 (some .int) 1 := ⟨wCX10_wrong, wNX10, ⟨neX10.1, neX10.2, by decide +kernel⟩, by decide⟩
theorem wIX10_wrong : Cond.instanceMethod yX10_wrong ∈ sm_TB := sm_inT (sm_t5 (List.mem_of_getElem? (i := 149) rfl)) rfl
theorem wVX10_wrong : Cond.selects RX10 yX10_wrong yX10_wrong ∈ sm_TB := sm_inT (sm_t5 (List.mem_of_getElem? (i := 150) rfl)) rfl
set_option maxRecDepth 20000 in
theorem hkX10_wrong : sm_fd sm_pg 140 = some miX10_wrong := by rfl
theorem hhX10_wrong : sm_fd sm_hds 140 = some (yX10_wrong, cX10_wrong, 2, (some .int)) := sm_hh hkX10_wrong
theorem wCX10_nearest : Cond.code yX10_nearest cX10_nearest 4 (some .int) ∈ sm_TB := sm_inT (sm_t5 (List.mem_of_getElem? (i := 155) rfl)) rfl
theorem hdX10_nearest : sm_hdk sm_TB yX10_nearest cX10_nearest 4 (some .int) 2 := ⟨wCX10_nearest, wNX10, ⟨neX10.1, neX10.2, by decide +kernel⟩, by decide⟩
theorem wIX10_nearest : Cond.instanceMethod yX10_nearest ∈ sm_TB := sm_inT (sm_t5 (List.mem_of_getElem? (i := 153) rfl)) rfl
theorem wVX10_nearest : Cond.selects RX10 yX10_nearest yX10_nearest ∈ sm_TB := sm_inT (sm_t5 (List.mem_of_getElem? (i := 154) rfl)) rfl
set_option maxRecDepth 20000 in
theorem hkX10_nearest : sm_fd sm_pg 141 = some miX10_nearest := by rfl
theorem hhX10_nearest : sm_fd sm_hds 141 = some (yX10_nearest, cX10_nearest, 4, (some .int)) := sm_hh hkX10_nearest
theorem wCX10_mended : Cond.code yX10_mended cX10_mended 2 (some .int) ∈ sm_TB := sm_inT (sm_t5 (List.mem_of_getElem? (i := 168) rfl)) rfl
theorem hdX10_mended : sm_hdk sm_TB yX10_mended cX10_mended 2 (some .int) 1 := ⟨wCX10_mended, wNX10, ⟨neX10.1, neX10.2, by decide +kernel⟩, by decide⟩
theorem wIX10_mended : Cond.instanceMethod yX10_mended ∈ sm_TB := sm_inT (sm_t5 (List.mem_of_getElem? (i := 166) rfl)) rfl
theorem wVX10_mended : Cond.selects RX10 yX10_mended yX10_mended ∈ sm_TB := sm_inT (sm_t5 (List.mem_of_getElem? (i := 167) rfl)) rfl
set_option maxRecDepth 20000 in
theorem hkX10_mended : sm_fd sm_pg 142 = some miX10_mended := by rfl
theorem hhX10_mended : sm_fd sm_hds 142 = some (yX10_mended, cX10_mended, 2, (some .int)) := sm_hh hkX10_mended
theorem wCX10_mendedShaft : Cond.code yX10_mendedShaft cX10_mendedShaft 2 (some .int) ∈ sm_TB := sm_inT (sm_t5 (List.mem_of_getElem? (i := 212) rfl)) rfl
theorem hdX10_mendedShaft : sm_hdk sm_TB yX10_mendedShaft cX10_mendedShaft 2 (some .int) 1 := ⟨wCX10_mendedShaft, wNX10, ⟨neX10.1, neX10.2, by decide +kernel⟩, by decide⟩
theorem wIX10_mendedShaft : Cond.instanceMethod yX10_mendedShaft ∈ sm_TB := sm_inT (sm_t5 (List.mem_of_getElem? (i := 210) rfl)) rfl
theorem wVX10_mendedShaft : Cond.selects RX10 yX10_mendedShaft yX10_mendedShaft ∈ sm_TB := sm_inT (sm_t5 (List.mem_of_getElem? (i := 211) rfl)) rfl
set_option maxRecDepth 20000 in
theorem hkX10_mendedShaft : sm_fd sm_pg 143 = some miX10_mendedShaft := by rfl
theorem hhX10_mendedShaft : sm_fd sm_hds 143 = some (yX10_mendedShaft, cX10_mendedShaft, 2, (some .int)) := sm_hh hkX10_mendedShaft
theorem wCX10_shifted : Cond.code yX10_shifted cX10_shifted 5 (some .int) ∈ sm_TB := sm_inT (sm_t5 (List.mem_of_getElem? (i := 216) rfl)) rfl
theorem hdX10_shifted : sm_hdk sm_TB yX10_shifted cX10_shifted 5 (some .int) 1 := ⟨wCX10_shifted, wNX10, ⟨neX10.1, neX10.2, by decide +kernel⟩, by decide⟩
theorem wIX10_shifted : Cond.instanceMethod yX10_shifted ∈ sm_TB := sm_inT (sm_t5 (List.mem_of_getElem? (i := 214) rfl)) rfl
theorem wVX10_shifted : Cond.selects RX10 yX10_shifted yX10_shifted ∈ sm_TB := sm_inT (sm_t5 (List.mem_of_getElem? (i := 215) rfl)) rfl
set_option maxRecDepth 20000 in
theorem hkX10_shifted : sm_fd sm_pg 144 = some miX10_shifted := by rfl
theorem hhX10_shifted : sm_fd sm_hds 144 = some (yX10_shifted, cX10_shifted, 5, (some .int)) := sm_hh hkX10_shifted
theorem wCX10_about : Cond.code yX10_about cX10_about 2 (some .int) ∈ sm_TB := sm_inT (sm_t6 (List.mem_of_getElem? (i := 2) rfl)) rfl
theorem hdX10_about : sm_hdk sm_TB yX10_about cX10_about 2 (some .int) 1 := ⟨wCX10_about, wNX10, ⟨neX10.1, neX10.2, by decide +kernel⟩, by decide⟩
theorem wIX10_about : Cond.instanceMethod yX10_about ∈ sm_TB := sm_inT (sm_t6 (List.mem_of_getElem? (i := 0) rfl)) rfl
theorem wVX10_about : Cond.selects RX10 yX10_about yX10_about ∈ sm_TB := sm_inT (sm_t6 (List.mem_of_getElem? (i := 1) rfl)) rfl
set_option maxRecDepth 20000 in
theorem hkX10_about : sm_fd sm_pg 145 = some miX10_about := by rfl
theorem hhX10_about : sm_fd sm_hds 145 = some (yX10_about, cX10_about, 2, (some .int)) := sm_hh hkX10_about
theorem wCX10_isEnd : Cond.code yX10_isEnd cX10_isEnd 2 (some .boolean) ∈ sm_TB := sm_inT (sm_t3 (List.mem_of_getElem? (i := 31) rfl)) rfl
theorem hdX10_isEnd : sm_hdk sm_TB yX10_isEnd cX10_isEnd 2 (some .boolean) 1 := ⟨wCX10_isEnd, wNX10, ⟨neX10.1, neX10.2, by decide +kernel⟩, by decide⟩
theorem wIX10_isEnd : Cond.instanceMethod yX10_isEnd ∈ sm_TB := sm_inT (sm_t3 (List.mem_of_getElem? (i := 30) rfl)) rfl
theorem wVX10_isEnd : Cond.selects RX10 yX10_isEnd yX10_isEnd ∈ sm_TB := sm_inT (sm_v1 (q := (yX10_isEnd, 12)) (List.mem_of_getElem? (i := 1) rfl)) rfl
set_option maxRecDepth 20000 in
theorem hkX10_isEnd : sm_fd sm_pg 146 = some miX10_isEnd := by rfl
theorem hhX10_isEnd : sm_fd sm_hds 146 = some (yX10_isEnd, cX10_isEnd, 2, (some .boolean)) := sm_hh hkX10_isEnd
theorem wCX10_isPick : Cond.code yX10_isPick cX10_isPick 2 (some .boolean) ∈ sm_TB := sm_inT (sm_t3 (List.mem_of_getElem? (i := 65) rfl)) rfl
theorem hdX10_isPick : sm_hdk sm_TB yX10_isPick cX10_isPick 2 (some .boolean) 1 := ⟨wCX10_isPick, wNX10, ⟨neX10.1, neX10.2, by decide +kernel⟩, by decide⟩
theorem wIX10_isPick : Cond.instanceMethod yX10_isPick ∈ sm_TB := sm_inT (sm_t3 (List.mem_of_getElem? (i := 64) rfl)) rfl
theorem wVX10_isPick : Cond.selects RX10 yX10_isPick yX10_isPick ∈ sm_TB := sm_inT (sm_v1 (q := (yX10_isPick, 12)) (List.mem_of_getElem? (i := 7) rfl)) rfl
set_option maxRecDepth 20000 in
theorem hkX10_isPick : sm_fd sm_pg 147 = some miX10_isPick := by rfl
theorem hhX10_isPick : sm_fd sm_hds 147 = some (yX10_isPick, cX10_isPick, 2, (some .boolean)) := sm_hh hkX10_isPick
theorem wCX10_isPart : Cond.code yX10_isPart cX10_isPart 5 (some .boolean) ∈ sm_TB := sm_inT (sm_t4 (List.mem_of_getElem? (i := 209) rfl)) rfl
theorem hdX10_isPart : sm_hdk sm_TB yX10_isPart cX10_isPart 5 (some .boolean) 4 := ⟨wCX10_isPart, wNX10, ⟨neX10.1, neX10.2, by decide +kernel⟩, by decide⟩
theorem wIX10_isPart : Cond.instanceMethod yX10_isPart ∈ sm_TB := sm_inT (sm_t4 (List.mem_of_getElem? (i := 208) rfl)) rfl
theorem wVX10_isPart : Cond.selects RX10 yX10_isPart yX10_isPart ∈ sm_TB := sm_inT (sm_v4 (q := (yX10_isPart, 12)) (List.mem_of_getElem? (i := 15) rfl)) rfl
set_option maxRecDepth 20000 in
theorem hkX10_isPart : sm_fd sm_pg 148 = some miX10_isPart := by rfl
theorem hhX10_isPart : sm_fd sm_hds 148 = some (yX10_isPart, cX10_isPart, 5, (some .boolean)) := sm_hh hkX10_isPart
theorem wCX10_isColour : Cond.code yX10_isColour cX10_isColour 1 (some .boolean) ∈ sm_TB := sm_inT (sm_t3 (List.mem_of_getElem? (i := 72) rfl)) rfl
theorem hdX10_isColour : sm_hdk sm_TB yX10_isColour cX10_isColour 1 (some .boolean) 1 := ⟨wCX10_isColour, wNX10, ⟨neX10.1, neX10.2, by decide +kernel⟩, by decide⟩
theorem wSX10_isColour : Cond.static yX10_isColour ∈ sm_TB := sm_inT (sm_t3 (List.mem_of_getElem? (i := 71) rfl)) rfl
set_option maxRecDepth 20000 in
theorem hkX10_isColour : sm_fd sm_pg 149 = some miX10_isColour := by rfl
theorem hhX10_isColour : sm_fd sm_hds 149 = some (yX10_isColour, cX10_isColour, 1, (some .boolean)) := sm_hh hkX10_isColour
theorem wCX10_has : Cond.code yX10_has cX10_has 3 (some .boolean) ∈ sm_TB := sm_inT (sm_t4 (List.mem_of_getElem? (i := 126) rfl)) rfl
theorem hdX10_has : sm_hdk sm_TB yX10_has cX10_has 3 (some .boolean) 2 := ⟨wCX10_has, wNX10, ⟨neX10.1, neX10.2, by decide +kernel⟩, by decide⟩
theorem wSX10_has : Cond.static yX10_has ∈ sm_TB := sm_inT (sm_t4 (List.mem_of_getElem? (i := 125) rfl)) rfl
set_option maxRecDepth 20000 in
theorem hkX10_has : sm_fd sm_pg 150 = some miX10_has := by rfl
theorem hhX10_has : sm_fd sm_hds 150 = some (yX10_has, cX10_has, 3, (some .boolean)) := sm_hh hkX10_has
theorem wCX10_firstBits : Cond.code yX10_firstBits cX10_firstBits 1 (some .long) ∈ sm_TB := sm_inT (sm_t1 (List.mem_of_getElem? (i := 92) rfl)) rfl
theorem hdX10_firstBits : sm_hdk sm_TB yX10_firstBits cX10_firstBits 1 (some .long) 1 := ⟨wCX10_firstBits, wNX10, ⟨neX10.1, neX10.2, by decide +kernel⟩, by decide⟩
theorem wSX10_firstBits : Cond.static yX10_firstBits ∈ sm_TB := sm_inT (sm_t1 (List.mem_of_getElem? (i := 91) rfl)) rfl
set_option maxRecDepth 20000 in
theorem hkX10_firstBits : sm_fd sm_pg 151 = some miX10_firstBits := by rfl
theorem hhX10_firstBits : sm_fd sm_hds 151 = some (yX10_firstBits, cX10_firstBits, 1, (some .long)) := sm_hh hkX10_firstBits
theorem wCX10_moved : Cond.code yX10_moved cX10_moved 4 (some .long) ∈ sm_TB := sm_inT (sm_t4 (List.mem_of_getElem? (i := 183) rfl)) rfl
theorem hdX10_moved : sm_hdk sm_TB yX10_moved cX10_moved 4 (some .long) 3 := ⟨wCX10_moved, wNX10, ⟨neX10.1, neX10.2, by decide +kernel⟩, by decide⟩
theorem wSX10_moved : Cond.static yX10_moved ∈ sm_TB := sm_inT (sm_t4 (List.mem_of_getElem? (i := 182) rfl)) rfl
set_option maxRecDepth 20000 in
theorem hkX10_moved : sm_fd sm_pg 152 = some miX10_moved := by rfl
theorem hhX10_moved : sm_fd sm_hds 152 = some (yX10_moved, cX10_moved, 4, (some .long)) := sm_hh hkX10_moved
theorem wCX10_lowestTreadle : Cond.code yX10_lowestTreadle cX10_lowestTreadle 5 (some .int) ∈ sm_TB := sm_inT (sm_t4 (List.mem_of_getElem? (i := 155) rfl)) rfl
theorem hdX10_lowestTreadle : sm_hdk sm_TB yX10_lowestTreadle cX10_lowestTreadle 5 (some .int) 2 := ⟨wCX10_lowestTreadle, wNX10, ⟨neX10.1, neX10.2, by decide +kernel⟩, by decide⟩
theorem wIX10_lowestTreadle : Cond.instanceMethod yX10_lowestTreadle ∈ sm_TB := sm_inT (sm_t4 (List.mem_of_getElem? (i := 154) rfl)) rfl
theorem wVX10_lowestTreadle : Cond.selects RX10 yX10_lowestTreadle yX10_lowestTreadle ∈ sm_TB := sm_inT (sm_v4 (q := (yX10_lowestTreadle, 12)) (List.mem_of_getElem? (i := 9) rfl)) rfl
set_option maxRecDepth 20000 in
theorem hkX10_lowestTreadle : sm_fd sm_pg 153 = some miX10_lowestTreadle := by rfl
theorem hhX10_lowestTreadle : sm_fd sm_hds 153 = some (yX10_lowestTreadle, cX10_lowestTreadle, 5, (some .int)) := sm_hh hkX10_lowestTreadle
theorem wCX10_endsOfColour : Cond.code yX10_endsOfColour cX10_endsOfColour 5 (some .long) ∈ sm_TB := sm_inT (sm_t5 (List.mem_of_getElem? (i := 26) rfl)) rfl
theorem hdX10_endsOfColour : sm_hdk sm_TB yX10_endsOfColour cX10_endsOfColour 5 (some .long) 1 := ⟨wCX10_endsOfColour, wNX10, ⟨neX10.1, neX10.2, by decide +kernel⟩, by decide⟩
theorem wIX10_endsOfColour : Cond.instanceMethod yX10_endsOfColour ∈ sm_TB := sm_inT (sm_t5 (List.mem_of_getElem? (i := 25) rfl)) rfl
theorem wVX10_endsOfColour : Cond.selects RX10 yX10_endsOfColour yX10_endsOfColour ∈ sm_TB := sm_inT (sm_v5 (q := (yX10_endsOfColour, 12)) (List.mem_of_getElem? (i := 9) rfl)) rfl
set_option maxRecDepth 20000 in
theorem hkX10_endsOfColour : sm_fd sm_pg 154 = some miX10_endsOfColour := by rfl
theorem hhX10_endsOfColour : sm_fd sm_hds 154 = some (yX10_endsOfColour, cX10_endsOfColour, 5, (some .long)) := sm_hh hkX10_endsOfColour
theorem wCX10_unlikeLines : Cond.code yX10_unlikeLines cX10_unlikeLines 6 (some .int) ∈ sm_TB := sm_inT (sm_t5 (List.mem_of_getElem? (i := 66) rfl)) rfl
theorem hdX10_unlikeLines : sm_hdk sm_TB yX10_unlikeLines cX10_unlikeLines 6 (some .int) 2 := ⟨wCX10_unlikeLines, wNX10, ⟨neX10.1, neX10.2, by decide +kernel⟩, by decide⟩
theorem wSX10_unlikeLines : Cond.static yX10_unlikeLines ∈ sm_TB := sm_inT (sm_t5 (List.mem_of_getElem? (i := 65) rfl)) rfl
set_option maxRecDepth 20000 in
theorem hkX10_unlikeLines : sm_fd sm_pg 155 = some miX10_unlikeLines := by rfl
theorem hhX10_unlikeLines : sm_fd sm_hds 155 = some (yX10_unlikeLines, cX10_unlikeLines, 6, (some .int)) := sm_hh hkX10_unlikeLines
theorem wCX10_unlikePicks : Cond.code yX10_unlikePicks cX10_unlikePicks 3 (some .int) ∈ sm_TB := sm_inT (sm_t5 (List.mem_of_getElem? (i := 163) rfl)) rfl
theorem hdX10_unlikePicks : sm_hdk sm_TB yX10_unlikePicks cX10_unlikePicks 3 (some .int) 2 := ⟨wCX10_unlikePicks, wNX10, ⟨neX10.1, neX10.2, by decide +kernel⟩, by decide⟩
theorem wIX10_unlikePicks : Cond.instanceMethod yX10_unlikePicks ∈ sm_TB := sm_inT (sm_t5 (List.mem_of_getElem? (i := 162) rfl)) rfl
theorem wVX10_unlikePicks : Cond.selects RX10 yX10_unlikePicks yX10_unlikePicks ∈ sm_TB := sm_inT (sm_v6 (q := (yX10_unlikePicks, 12)) (List.mem_of_getElem? (i := 13) rfl)) rfl
set_option maxRecDepth 20000 in
theorem hkX10_unlikePicks : sm_fd sm_pg 156 = some miX10_unlikePicks := by rfl
theorem hhX10_unlikePicks : sm_fd sm_hds 156 = some (yX10_unlikePicks, cX10_unlikePicks, 3, (some .int)) := sm_hh hkX10_unlikePicks
theorem wCX10_nearestShaft : Cond.code yX10_nearestShaft cX10_nearestShaft 6 (some .int) ∈ sm_TB := sm_inT (sm_t5 (List.mem_of_getElem? (i := 159) rfl)) rfl
theorem hdX10_nearestShaft : sm_hdk sm_TB yX10_nearestShaft cX10_nearestShaft 6 (some .int) 1 := ⟨wCX10_nearestShaft, wNX10, ⟨neX10.1, neX10.2, by decide +kernel⟩, by decide⟩
theorem wIX10_nearestShaft : Cond.instanceMethod yX10_nearestShaft ∈ sm_TB := sm_inT (sm_t5 (List.mem_of_getElem? (i := 158) rfl)) rfl
theorem wVX10_nearestShaft : Cond.selects RX10 yX10_nearestShaft yX10_nearestShaft ∈ sm_TB := sm_inT (sm_v6 (q := (yX10_nearestShaft, 12)) (List.mem_of_getElem? (i := 12) rfl)) rfl
set_option maxRecDepth 20000 in
theorem hkX10_nearestShaft : sm_fd sm_pg 157 = some miX10_nearestShaft := by rfl
theorem hhX10_nearestShaft : sm_fd sm_hds 157 = some (yX10_nearestShaft, cX10_nearestShaft, 6, (some .int)) := sm_hh hkX10_nearestShaft
theorem wCX10_cellsUp : Cond.code yX10_cellsUp cX10_cellsUp 1 (some .int) ∈ sm_TB := sm_inT (sm_t5 (List.mem_of_getElem? (i := 223) rfl)) rfl
theorem hdX10_cellsUp : sm_hdk sm_TB yX10_cellsUp cX10_cellsUp 1 (some .int) 0 := ⟨wCX10_cellsUp, wNX10, ⟨neX10.1, neX10.2, by decide +kernel⟩, by decide⟩
theorem wIX10_cellsUp : Cond.instanceMethod yX10_cellsUp ∈ sm_TB := sm_inT (sm_t5 (List.mem_of_getElem? (i := 222) rfl)) rfl
theorem wVX10_cellsUp : Cond.selects RX10 yX10_cellsUp yX10_cellsUp ∈ sm_TB := sm_inT (sm_v7 (q := (yX10_cellsUp, 12)) (List.mem_of_getElem? (i := 7) rfl)) rfl
set_option maxRecDepth 20000 in
theorem hkX10_cellsUp : sm_fd sm_pg 158 = some miX10_cellsUp := by rfl
theorem hhX10_cellsUp : sm_fd sm_hds 158 = some (yX10_cellsUp, cX10_cellsUp, 1, (some .int)) := sm_hh hkX10_cellsUp
theorem wCX10_countCells : Cond.code yX10_countCells cX10_countCells 7 (some .int) ∈ sm_TB := sm_inT (sm_t5 (List.mem_of_getElem? (i := 219) rfl)) rfl
theorem hdX10_countCells : sm_hdk sm_TB yX10_countCells cX10_countCells 7 (some .int) 1 := ⟨wCX10_countCells, wNX10, ⟨neX10.1, neX10.2, by decide +kernel⟩, by decide⟩
theorem wSX10_countCells : Cond.static yX10_countCells ∈ sm_TB := sm_inT (sm_t5 (List.mem_of_getElem? (i := 218) rfl)) rfl
set_option maxRecDepth 20000 in
theorem hkX10_countCells : sm_fd sm_pg 159 = some miX10_countCells := by rfl
theorem hhX10_countCells : sm_fd sm_hds 159 = some (yX10_countCells, cX10_countCells, 7, (some .int)) := sm_hh hkX10_countCells
theorem wCX10_firstMixedPick : Cond.code yX10_firstMixedPick cX10_firstMixedPick 2 (some .int) ∈ sm_TB := sm_inT (sm_t5 (List.mem_of_getElem? (i := 227) rfl)) rfl
theorem hdX10_firstMixedPick : sm_hdk sm_TB yX10_firstMixedPick cX10_firstMixedPick 2 (some .int) 0 := ⟨wCX10_firstMixedPick, wNX10, ⟨neX10.1, neX10.2, by decide +kernel⟩, by decide⟩
theorem wIX10_firstMixedPick : Cond.instanceMethod yX10_firstMixedPick ∈ sm_TB := sm_inT (sm_t5 (List.mem_of_getElem? (i := 226) rfl)) rfl
theorem wVX10_firstMixedPick : Cond.selects RX10 yX10_firstMixedPick yX10_firstMixedPick ∈ sm_TB := sm_inT (sm_v7 (q := (yX10_firstMixedPick, 12)) (List.mem_of_getElem? (i := 8) rfl)) rfl
set_option maxRecDepth 20000 in
theorem hkX10_firstMixedPick : sm_fd sm_pg 160 = some miX10_firstMixedPick := by rfl
theorem hhX10_firstMixedPick : sm_fd sm_hds 160 = some (yX10_firstMixedPick, cX10_firstMixedPick, 2, (some .int)) := sm_hh hkX10_firstMixedPick
theorem wCX10_threadedEnds : Cond.code yX10_threadedEnds cX10_threadedEnds 3 (some .int) ∈ sm_TB := sm_inT (sm_t6 (List.mem_of_getElem? (i := 6) rfl)) rfl
theorem hdX10_threadedEnds : sm_hdk sm_TB yX10_threadedEnds cX10_threadedEnds 3 (some .int) 0 := ⟨wCX10_threadedEnds, wNX10, ⟨neX10.1, neX10.2, by decide +kernel⟩, by decide⟩
theorem wIX10_threadedEnds : Cond.instanceMethod yX10_threadedEnds ∈ sm_TB := sm_inT (sm_t6 (List.mem_of_getElem? (i := 5) rfl)) rfl
theorem wVX10_threadedEnds : Cond.selects RX10 yX10_threadedEnds yX10_threadedEnds ∈ sm_TB := sm_inT (sm_v7 (q := (yX10_threadedEnds, 12)) (List.mem_of_getElem? (i := 10) rfl)) rfl
set_option maxRecDepth 20000 in
theorem hkX10_threadedEnds : sm_fd sm_pg 161 = some miX10_threadedEnds := by rfl
theorem hhX10_threadedEnds : sm_fd sm_hds 161 = some (yX10_threadedEnds, cX10_threadedEnds, 3, (some .int)) := sm_hh hkX10_threadedEnds
theorem wCX11_init : Cond.code yX11_init cX11_init 3 none ∈ sm_TB := sm_inT (sm_t6 (List.mem_of_getElem? (i := 14) rfl)) rfl
theorem hdX11_init : sm_hdk sm_TB yX11_init cX11_init 3 none 2 := ⟨wCX11_init, wNX11, ⟨neX11.1, neX11.2, by decide +kernel⟩, by decide⟩
theorem wIX11_init : Cond.instanceMethod yX11_init ∈ sm_TB := sm_inT (sm_t6 (List.mem_of_getElem? (i := 13) rfl)) rfl
set_option maxRecDepth 20000 in
theorem hkX11_init : sm_fd sm_pg 162 = some miX11_init := by rfl
theorem hhX11_init : sm_fd sm_hds 162 = some (yX11_init, cX11_init, 3, none) := sm_hh hkX11_init
theorem wCX11_isIn : Cond.code yX11_isIn cX11_isIn 3 (some .boolean) ∈ sm_TB := sm_inT (sm_t6 (List.mem_of_getElem? (i := 195) rfl)) rfl
theorem hdX11_isIn : sm_hdk sm_TB yX11_isIn cX11_isIn 3 (some .boolean) 3 := ⟨wCX11_isIn, wNX11, ⟨neX11.1, neX11.2, by decide +kernel⟩, by decide⟩
theorem wSX11_isIn : Cond.static yX11_isIn ∈ sm_TB := sm_inT (sm_t6 (List.mem_of_getElem? (i := 194) rfl)) rfl
set_option maxRecDepth 20000 in
theorem hkX11_isIn : sm_fd sm_pg 163 = some miX11_isIn := by rfl
theorem hhX11_isIn : sm_fd sm_hds 163 = some (yX11_isIn, cX11_isIn, 3, (some .boolean)) := sm_hh hkX11_isIn
theorem wCX11_isEnd : Cond.code yX11_isEnd cX11_isEnd 2 (some .boolean) ∈ sm_TB := sm_inT (sm_t6 (List.mem_of_getElem? (i := 192) rfl)) rfl
theorem hdX11_isEnd : sm_hdk sm_TB yX11_isEnd cX11_isEnd 2 (some .boolean) 1 := ⟨wCX11_isEnd, wNX11, ⟨neX11.1, neX11.2, by decide +kernel⟩, by decide⟩
theorem wIX11_isEnd : Cond.instanceMethod yX11_isEnd ∈ sm_TB := sm_inT (sm_t6 (List.mem_of_getElem? (i := 191) rfl)) rfl
theorem wVX11_isEnd : Cond.selects RX11 yX11_isEnd yX11_isEnd ∈ sm_TB := sm_inT (sm_v7 (q := (yX11_isEnd, 56)) (List.mem_of_getElem? (i := 11) rfl)) rfl
set_option maxRecDepth 20000 in
theorem hkX11_isEnd : sm_fd sm_pg 164 = some miX11_isEnd := by rfl
theorem hhX11_isEnd : sm_fd sm_hds 164 = some (yX11_isEnd, cX11_isEnd, 2, (some .boolean)) := sm_hh hkX11_isEnd
theorem wCX11_isPick : Cond.code yX11_isPick cX11_isPick 2 (some .boolean) ∈ sm_TB := sm_inT (sm_t6 (List.mem_of_getElem? (i := 220) rfl)) rfl
theorem hdX11_isPick : sm_hdk sm_TB yX11_isPick cX11_isPick 2 (some .boolean) 1 := ⟨wCX11_isPick, wNX11, ⟨neX11.1, neX11.2, by decide +kernel⟩, by decide⟩
theorem wIX11_isPick : Cond.instanceMethod yX11_isPick ∈ sm_TB := sm_inT (sm_t6 (List.mem_of_getElem? (i := 219) rfl)) rfl
theorem wVX11_isPick : Cond.selects RX11 yX11_isPick yX11_isPick ∈ sm_TB := sm_inT (sm_v7 (q := (yX11_isPick, 56)) (List.mem_of_getElem? (i := 15) rfl)) rfl
set_option maxRecDepth 20000 in
theorem hkX11_isPick : sm_fd sm_pg 165 = some miX11_isPick := by rfl
theorem hhX11_isPick : sm_fd sm_hds 165 = some (yX11_isPick, cX11_isPick, 2, (some .boolean)) := sm_hh hkX11_isPick
theorem wCX11_enter : Cond.code yX11_enter cX11_enter 4 none ∈ sm_TB := sm_inT (sm_t6 (List.mem_of_getElem? (i := 203) rfl)) rfl
theorem hdX11_enter : sm_hdk sm_TB yX11_enter cX11_enter 4 none 3 := ⟨wCX11_enter, wNX11, ⟨neX11.1, neX11.2, by decide +kernel⟩, by decide⟩
theorem wIX11_enter : Cond.instanceMethod yX11_enter ∈ sm_TB := sm_inT (sm_t6 (List.mem_of_getElem? (i := 202) rfl)) rfl
theorem wVX11_enter : Cond.selects RX11 yX11_enter yX11_enter ∈ sm_TB := sm_inT (sm_v7 (q := (yX11_enter, 56)) (List.mem_of_getElem? (i := 13) rfl)) rfl
set_option maxRecDepth 20000 in
theorem hkX11_enter : sm_fd sm_pg 166 = some miX11_enter := by rfl
theorem hhX11_enter : sm_fd sm_hds 166 = some (yX11_enter, cX11_enter, 4, none) := sm_hh hkX11_enter
theorem wCX11_telling : Cond.code yX11_telling cX11_telling 5 (some .int) ∈ sm_TB := sm_inT (sm_t6 (List.mem_of_getElem? (i := 199) rfl)) rfl
theorem hdX11_telling : sm_hdk sm_TB yX11_telling cX11_telling 5 (some .int) 4 := ⟨wCX11_telling, wNX11, ⟨neX11.1, neX11.2, by decide +kernel⟩, by decide⟩
theorem wIX11_telling : Cond.instanceMethod yX11_telling ∈ sm_TB := sm_inT (sm_t6 (List.mem_of_getElem? (i := 198) rfl)) rfl
theorem wVX11_telling : Cond.selects RX11 yX11_telling yX11_telling ∈ sm_TB := sm_inT (sm_v7 (q := (yX11_telling, 56)) (List.mem_of_getElem? (i := 12) rfl)) rfl
set_option maxRecDepth 20000 in
theorem hkX11_telling : sm_fd sm_pg 167 = some miX11_telling := by rfl
theorem hhX11_telling : sm_fd sm_hds 167 = some (yX11_telling, cX11_telling, 5, (some .int)) := sm_hh hkX11_telling
theorem wCX11_passes : Cond.code yX11_passes cX11_passes 1 (some .int) ∈ sm_TB := sm_inT (sm_t6 (List.mem_of_getElem? (i := 207) rfl)) rfl
theorem hdX11_passes : sm_hdk sm_TB yX11_passes cX11_passes 1 (some .int) 0 := ⟨wCX11_passes, wNX11, ⟨neX11.1, neX11.2, by decide +kernel⟩, by decide⟩
theorem wIX11_passes : Cond.instanceMethod yX11_passes ∈ sm_TB := sm_inT (sm_t6 (List.mem_of_getElem? (i := 206) rfl)) rfl
theorem wVX11_passes : Cond.selects RX11 yX11_passes yX11_passes ∈ sm_TB := sm_inT (sm_v7 (q := (yX11_passes, 56)) (List.mem_of_getElem? (i := 14) rfl)) rfl
set_option maxRecDepth 20000 in
theorem hkX11_passes : sm_fd sm_pg 168 = some miX11_passes := by rfl
theorem hhX11_passes : sm_fd sm_hds 168 = some (yX11_passes, cX11_passes, 1, (some .int)) := sm_hh hkX11_passes
theorem wCX11_thread : Cond.code yX11_thread cX11_thread 3 (some .int) ∈ sm_TB := sm_inT (sm_t6 (List.mem_of_getElem? (i := 188) rfl)) rfl
theorem hdX11_thread : sm_hdk sm_TB yX11_thread cX11_thread 3 (some .int) 2 := ⟨wCX11_thread, wNX11, ⟨neX11.1, neX11.2, by decide +kernel⟩, by decide⟩
theorem wIX11_thread : Cond.instanceMethod yX11_thread ∈ sm_TB := sm_inT (sm_t6 (List.mem_of_getElem? (i := 186) rfl)) rfl
theorem wVX11_thread : Cond.selects RX11 yX11_thread yX11_thread ∈ sm_TB := sm_inT (sm_t6 (List.mem_of_getElem? (i := 187) rfl)) rfl
set_option maxRecDepth 20000 in
theorem hkX11_thread : sm_fd sm_pg 169 = some miX11_thread := by rfl
theorem hhX11_thread : sm_fd sm_hds 169 = some (yX11_thread, cX11_thread, 3, (some .int)) := sm_hh hkX11_thread
theorem wCX11_tie : Cond.code yX11_tie cX11_tie 3 (some .int) ∈ sm_TB := sm_inT (sm_t6 (List.mem_of_getElem? (i := 211) rfl)) rfl
theorem hdX11_tie : sm_hdk sm_TB yX11_tie cX11_tie 3 (some .int) 2 := ⟨wCX11_tie, wNX11, ⟨neX11.1, neX11.2, by decide +kernel⟩, by decide⟩
theorem wIX11_tie : Cond.instanceMethod yX11_tie ∈ sm_TB := sm_inT (sm_t6 (List.mem_of_getElem? (i := 209) rfl)) rfl
theorem wVX11_tie : Cond.selects RX11 yX11_tie yX11_tie ∈ sm_TB := sm_inT (sm_t6 (List.mem_of_getElem? (i := 210) rfl)) rfl
set_option maxRecDepth 20000 in
theorem hkX11_tie : sm_fd sm_pg 170 = some miX11_tie := by rfl
theorem hhX11_tie : sm_fd sm_hds 170 = some (yX11_tie, cX11_tie, 3, (some .int)) := sm_hh hkX11_tie
theorem wCX11_tread : Cond.code yX11_tread cX11_tread 3 (some .int) ∈ sm_TB := sm_inT (sm_t6 (List.mem_of_getElem? (i := 216) rfl)) rfl
theorem hdX11_tread : sm_hdk sm_TB yX11_tread cX11_tread 3 (some .int) 2 := ⟨wCX11_tread, wNX11, ⟨neX11.1, neX11.2, by decide +kernel⟩, by decide⟩
theorem wIX11_tread : Cond.instanceMethod yX11_tread ∈ sm_TB := sm_inT (sm_t6 (List.mem_of_getElem? (i := 214) rfl)) rfl
theorem wVX11_tread : Cond.selects RX11 yX11_tread yX11_tread ∈ sm_TB := sm_inT (sm_t6 (List.mem_of_getElem? (i := 215) rfl)) rfl
set_option maxRecDepth 20000 in
theorem hkX11_tread : sm_fd sm_pg 171 = some miX11_tread := by rfl
theorem hhX11_tread : sm_fd sm_hds 171 = some (yX11_tread, cX11_tread, 3, (some .int)) := sm_hh hkX11_tread
theorem wCX11_colour : Cond.code yX11_colour cX11_colour 4 (some .int) ∈ sm_TB := sm_inT (sm_t6 (List.mem_of_getElem? (i := 224) rfl)) rfl
theorem hdX11_colour : sm_hdk sm_TB yX11_colour cX11_colour 4 (some .int) 3 := ⟨wCX11_colour, wNX11, ⟨neX11.1, neX11.2, by decide +kernel⟩, by decide⟩
theorem wIX11_colour : Cond.instanceMethod yX11_colour ∈ sm_TB := sm_inT (sm_t6 (List.mem_of_getElem? (i := 222) rfl)) rfl
theorem wVX11_colour : Cond.selects RX11 yX11_colour yX11_colour ∈ sm_TB := sm_inT (sm_t6 (List.mem_of_getElem? (i := 223) rfl)) rfl
set_option maxRecDepth 20000 in
theorem hkX11_colour : sm_fd sm_pg 172 = some miX11_colour := by rfl
theorem hhX11_colour : sm_fd sm_hds 172 = some (yX11_colour, cX11_colour, 4, (some .int)) := sm_hh hkX11_colour
theorem wCX11_entryOf : Cond.code yX11_entryOf cX11_entryOf 4 (some .int) ∈ sm_TB := sm_inT (sm_t7 (List.mem_of_getElem? (i := 0) rfl)) rfl
theorem hdX11_entryOf : sm_hdk sm_TB yX11_entryOf cX11_entryOf 4 (some .int) 2 := ⟨wCX11_entryOf, wNX11, ⟨neX11.1, neX11.2, by decide +kernel⟩, by decide⟩
theorem wIX11_entryOf : Cond.instanceMethod yX11_entryOf ∈ sm_TB := sm_inT (sm_t6 (List.mem_of_getElem? (i := 239) rfl)) rfl
theorem wVX11_entryOf : Cond.selects RX11 yX11_entryOf yX11_entryOf ∈ sm_TB := sm_inT (sm_v8 (q := (yX11_entryOf, 56)) (List.mem_of_getElem? (i := 1) rfl)) rfl
set_option maxRecDepth 20000 in
theorem hkX11_entryOf : sm_fd sm_pg 173 = some miX11_entryOf := by rfl
theorem hhX11_entryOf : sm_fd sm_hds 173 = some (yX11_entryOf, cX11_entryOf, 4, (some .int)) := sm_hh hkX11_entryOf
theorem wCX11_valueOf : Cond.code yX11_valueOf cX11_valueOf 4 (some .int) ∈ sm_TB := sm_inT (sm_t6 (List.mem_of_getElem? (i := 236) rfl)) rfl
theorem hdX11_valueOf : sm_hdk sm_TB yX11_valueOf cX11_valueOf 4 (some .int) 2 := ⟨wCX11_valueOf, wNX11, ⟨neX11.1, neX11.2, by decide +kernel⟩, by decide⟩
theorem wIX11_valueOf : Cond.instanceMethod yX11_valueOf ∈ sm_TB := sm_inT (sm_t6 (List.mem_of_getElem? (i := 235) rfl)) rfl
theorem wVX11_valueOf : Cond.selects RX11 yX11_valueOf yX11_valueOf ∈ sm_TB := sm_inT (sm_v8 (q := (yX11_valueOf, 56)) (List.mem_of_getElem? (i := 0) rfl)) rfl
set_option maxRecDepth 20000 in
theorem hkX11_valueOf : sm_fd sm_pg 174 = some miX11_valueOf := by rfl
theorem hhX11_valueOf : sm_fd sm_hds 174 = some (yX11_valueOf, cX11_valueOf, 4, (some .int)) := sm_hh hkX11_valueOf
theorem wCX11_look : Cond.code yX11_look cX11_look 2 (some .boolean) ∈ sm_TB := sm_inT (sm_t6 (List.mem_of_getElem? (i := 228) rfl)) rfl
theorem hdX11_look : sm_hdk sm_TB yX11_look cX11_look 2 (some .boolean) 1 := ⟨wCX11_look, wNX11, ⟨neX11.1, neX11.2, by decide +kernel⟩, by decide⟩
theorem wIX11_look : Cond.instanceMethod yX11_look ∈ sm_TB := sm_inT (sm_t6 (List.mem_of_getElem? (i := 226) rfl)) rfl
theorem wVX11_look : Cond.selects RX11 yX11_look yX11_look ∈ sm_TB := sm_inT (sm_t6 (List.mem_of_getElem? (i := 227) rfl)) rfl
set_option maxRecDepth 20000 in
theorem hkX11_look : sm_fd sm_pg 175 = some miX11_look := by rfl
theorem hhX11_look : sm_fd sm_hds 175 = some (yX11_look, cX11_look, 2, (some .boolean)) := sm_hh hkX11_look
theorem wCX11_draw : Cond.code yX11_draw cX11_draw 3 none ∈ sm_TB := sm_inT (sm_t7 (List.mem_of_getElem? (i := 8) rfl)) rfl
theorem hdX11_draw : sm_hdk sm_TB yX11_draw cX11_draw 3 none 0 := ⟨wCX11_draw, wNX11, ⟨neX11.1, neX11.2, by decide +kernel⟩, by decide⟩
theorem wIX11_draw : Cond.instanceMethod yX11_draw ∈ sm_TB := sm_inT (sm_t7 (List.mem_of_getElem? (i := 7) rfl)) rfl
theorem wVX11_draw : Cond.selects RX11 yX11_draw yX11_draw ∈ sm_TB := sm_inT (sm_v8 (q := (yX11_draw, 56)) (List.mem_of_getElem? (i := 2) rfl)) rfl
set_option maxRecDepth 20000 in
theorem hkX11_draw : sm_fd sm_pg 176 = some miX11_draw := by rfl
theorem hhX11_draw : sm_fd sm_hds 176 = some (yX11_draw, cX11_draw, 3, none) := sm_hh hkX11_draw
theorem wCX11_lifts : Cond.code yX11_lifts cX11_lifts 3 none ∈ sm_TB := sm_inT (sm_t7 (List.mem_of_getElem? (i := 12) rfl)) rfl
theorem hdX11_lifts : sm_hdk sm_TB yX11_lifts cX11_lifts 3 none 0 := ⟨wCX11_lifts, wNX11, ⟨neX11.1, neX11.2, by decide +kernel⟩, by decide⟩
theorem wIX11_lifts : Cond.instanceMethod yX11_lifts ∈ sm_TB := sm_inT (sm_t7 (List.mem_of_getElem? (i := 11) rfl)) rfl
theorem wVX11_lifts : Cond.selects RX11 yX11_lifts yX11_lifts ∈ sm_TB := sm_inT (sm_v8 (q := (yX11_lifts, 56)) (List.mem_of_getElem? (i := 3) rfl)) rfl
set_option maxRecDepth 20000 in
theorem hkX11_lifts : sm_fd sm_pg 177 = some miX11_lifts := by rfl
theorem hhX11_lifts : sm_fd sm_hds 177 = some (yX11_lifts, cX11_lifts, 3, none) := sm_hh hkX11_lifts
theorem wCX11_shaft : Cond.code yX11_shaft cX11_shaft 2 (some .int) ∈ sm_TB := sm_inT (sm_t6 (List.mem_of_getElem? (i := 232) rfl)) rfl
theorem hdX11_shaft : sm_hdk sm_TB yX11_shaft cX11_shaft 2 (some .int) 1 := ⟨wCX11_shaft, wNX11, ⟨neX11.1, neX11.2, by decide +kernel⟩, by decide⟩
theorem wIX11_shaft : Cond.instanceMethod yX11_shaft ∈ sm_TB := sm_inT (sm_t6 (List.mem_of_getElem? (i := 230) rfl)) rfl
theorem wVX11_shaft : Cond.selects RX11 yX11_shaft yX11_shaft ∈ sm_TB := sm_inT (sm_t6 (List.mem_of_getElem? (i := 231) rfl)) rfl
set_option maxRecDepth 20000 in
theorem hkX11_shaft : sm_fd sm_pg 178 = some miX11_shaft := by rfl
theorem hhX11_shaft : sm_fd sm_hds 178 = some (yX11_shaft, cX11_shaft, 2, (some .int)) := sm_hh hkX11_shaft
theorem wCX11_lift : Cond.code yX11_lift cX11_lift 2 (some .int) ∈ sm_TB := sm_inT (sm_t7 (List.mem_of_getElem? (i := 4) rfl)) rfl
theorem hdX11_lift : sm_hdk sm_TB yX11_lift cX11_lift 2 (some .int) 1 := ⟨wCX11_lift, wNX11, ⟨neX11.1, neX11.2, by decide +kernel⟩, by decide⟩
theorem wIX11_lift : Cond.instanceMethod yX11_lift ∈ sm_TB := sm_inT (sm_t7 (List.mem_of_getElem? (i := 2) rfl)) rfl
theorem wVX11_lift : Cond.selects RX11 yX11_lift yX11_lift ∈ sm_TB := sm_inT (sm_t7 (List.mem_of_getElem? (i := 3) rfl)) rfl
set_option maxRecDepth 20000 in
theorem hkX11_lift : sm_fd sm_pg 179 = some miX11_lift := by rfl
theorem hhX11_lift : sm_fd sm_hds 179 = some (yX11_lift, cX11_lift, 2, (some .int)) := sm_hh hkX11_lift
theorem wCX11_row : Cond.code yX11_row cX11_row 2 (some .long) ∈ sm_TB := sm_inT (sm_t7 (List.mem_of_getElem? (i := 16) rfl)) rfl
theorem hdX11_row : sm_hdk sm_TB yX11_row cX11_row 2 (some .long) 1 := ⟨wCX11_row, wNX11, ⟨neX11.1, neX11.2, by decide +kernel⟩, by decide⟩
theorem wIX11_row : Cond.instanceMethod yX11_row ∈ sm_TB := sm_inT (sm_t7 (List.mem_of_getElem? (i := 14) rfl)) rfl
theorem wVX11_row : Cond.selects RX11 yX11_row yX11_row ∈ sm_TB := sm_inT (sm_t7 (List.mem_of_getElem? (i := 15) rfl)) rfl
set_option maxRecDepth 20000 in
theorem hkX11_row : sm_fd sm_pg 180 = some miX11_row := by rfl
theorem hhX11_row : sm_fd sm_hds 180 = some (yX11_row, cX11_row, 2, (some .long)) := sm_hh hkX11_row
theorem wCX11_lead : Cond.code yX11_lead cX11_lead 6 (some .int) ∈ sm_TB := sm_inT (sm_t7 (List.mem_of_getElem? (i := 21) rfl)) rfl
theorem hdX11_lead : sm_hdk sm_TB yX11_lead cX11_lead 6 (some .int) 3 := ⟨wCX11_lead, wNX11, ⟨neX11.1, neX11.2, by decide +kernel⟩, by decide⟩
theorem wIX11_lead : Cond.instanceMethod yX11_lead ∈ sm_TB := sm_inT (sm_t7 (List.mem_of_getElem? (i := 19) rfl)) rfl
theorem wVX11_lead : Cond.selects RX11 yX11_lead yX11_lead ∈ sm_TB := sm_inT (sm_t7 (List.mem_of_getElem? (i := 20) rfl)) rfl
set_option maxRecDepth 20000 in
theorem hkX11_lead : sm_fd sm_pg 181 = some miX11_lead := by rfl
theorem hhX11_lead : sm_fd sm_hds 181 = some (yX11_lead, cX11_lead, 6, (some .int)) := sm_hh hkX11_lead
theorem wCX11_four : Cond.code yX11_four cX11_four 3 none ∈ sm_TB := sm_inT (sm_t7 (List.mem_of_getElem? (i := 29) rfl)) rfl
theorem hdX11_four : sm_hdk sm_TB yX11_four cX11_four 3 none 1 := ⟨wCX11_four, wNX11, ⟨neX11.1, neX11.2, by decide +kernel⟩, by decide⟩
theorem wIX11_four : Cond.instanceMethod yX11_four ∈ sm_TB := sm_inT (sm_t7 (List.mem_of_getElem? (i := 28) rfl)) rfl
theorem wVX11_four : Cond.selects RX11 yX11_four yX11_four ∈ sm_TB := sm_inT (sm_v8 (q := (yX11_four, 56)) (List.mem_of_getElem? (i := 4) rfl)) rfl
set_option maxRecDepth 20000 in
theorem hkX11_four : sm_fd sm_pg 182 = some miX11_four := by rfl
theorem hhX11_four : sm_fd sm_hds 182 = some (yX11_four, cX11_four, 3, none) := sm_hh hkX11_four
theorem wCX11_feed : Cond.code yX11_feed cX11_feed 6 (some .int) ∈ sm_TB := sm_inT (sm_t7 (List.mem_of_getElem? (i := 25) rfl)) rfl
theorem hdX11_feed : sm_hdk sm_TB yX11_feed cX11_feed 6 (some .int) 5 := ⟨wCX11_feed, wNX11, ⟨neX11.1, neX11.2, by decide +kernel⟩, by decide⟩
theorem wIX11_feed : Cond.instanceMethod yX11_feed ∈ sm_TB := sm_inT (sm_t7 (List.mem_of_getElem? (i := 23) rfl)) rfl
theorem wVX11_feed : Cond.selects RX11 yX11_feed yX11_feed ∈ sm_TB := sm_inT (sm_t7 (List.mem_of_getElem? (i := 24) rfl)) rfl
set_option maxRecDepth 20000 in
theorem hkX11_feed : sm_fd sm_pg 183 = some miX11_feed := by rfl
theorem hhX11_feed : sm_fd sm_hds 183 = some (yX11_feed, cX11_feed, 6, (some .int)) := sm_hh hkX11_feed
theorem wCX11_end : Cond.code yX11_end cX11_end 2 (some .int) ∈ sm_TB := sm_inT (sm_t7 (List.mem_of_getElem? (i := 33) rfl)) rfl
theorem hdX11_end : sm_hdk sm_TB yX11_end cX11_end 2 (some .int) 1 := ⟨wCX11_end, wNX11, ⟨neX11.1, neX11.2, by decide +kernel⟩, by decide⟩
theorem wIX11_end : Cond.instanceMethod yX11_end ∈ sm_TB := sm_inT (sm_t7 (List.mem_of_getElem? (i := 31) rfl)) rfl
theorem wVX11_end : Cond.selects RX11 yX11_end yX11_end ∈ sm_TB := sm_inT (sm_t7 (List.mem_of_getElem? (i := 32) rfl)) rfl
set_option maxRecDepth 20000 in
theorem hkX11_end : sm_fd sm_pg 184 = some miX11_end := by rfl
theorem hhX11_end : sm_fd sm_hds 184 = some (yX11_end, cX11_end, 2, (some .int)) := sm_hh hkX11_end
theorem wCX11_see : Cond.code yX11_see cX11_see 2 (some .int) ∈ sm_TB := sm_inT (sm_t7 (List.mem_of_getElem? (i := 49) rfl)) rfl
theorem hdX11_see : sm_hdk sm_TB yX11_see cX11_see 2 (some .int) 1 := ⟨wCX11_see, wNX11, ⟨neX11.1, neX11.2, by decide +kernel⟩, by decide⟩
theorem wIX11_see : Cond.instanceMethod yX11_see ∈ sm_TB := sm_inT (sm_t7 (List.mem_of_getElem? (i := 48) rfl)) rfl
theorem wVX11_see : Cond.selects RX11 yX11_see yX11_see ∈ sm_TB := sm_inT (sm_v8 (q := (yX11_see, 56)) (List.mem_of_getElem? (i := 7) rfl)) rfl
set_option maxRecDepth 20000 in
theorem hkX11_see : sm_fd sm_pg 185 = some miX11_see := by rfl
theorem hhX11_see : sm_fd sm_hds 185 = some (yX11_see, cX11_see, 2, (some .int)) := sm_hh hkX11_see
theorem wCX11_isLetter : Cond.code yX11_isLetter cX11_isLetter 1 (some .boolean) ∈ sm_TB := sm_inT (sm_t7 (List.mem_of_getElem? (i := 56) rfl)) rfl
theorem hdX11_isLetter : sm_hdk sm_TB yX11_isLetter cX11_isLetter 1 (some .boolean) 1 := ⟨wCX11_isLetter, wNX11, ⟨neX11.1, neX11.2, by decide +kernel⟩, by decide⟩
theorem wSX11_isLetter : Cond.static yX11_isLetter ∈ sm_TB := sm_inT (sm_t7 (List.mem_of_getElem? (i := 55) rfl)) rfl
set_option maxRecDepth 20000 in
theorem hkX11_isLetter : sm_fd sm_pg 186 = some miX11_isLetter := by rfl
theorem hhX11_isLetter : sm_fd sm_hds 186 = some (yX11_isLetter, cX11_isLetter, 1, (some .boolean)) := sm_hh hkX11_isLetter
theorem wCX11_isDigit : Cond.code yX11_isDigit cX11_isDigit 1 (some .boolean) ∈ sm_TB := sm_inT (sm_t7 (List.mem_of_getElem? (i := 52) rfl)) rfl
theorem hdX11_isDigit : sm_hdk sm_TB yX11_isDigit cX11_isDigit 1 (some .boolean) 1 := ⟨wCX11_isDigit, wNX11, ⟨neX11.1, neX11.2, by decide +kernel⟩, by decide⟩
theorem wSX11_isDigit : Cond.static yX11_isDigit ∈ sm_TB := sm_inT (sm_t7 (List.mem_of_getElem? (i := 51) rfl)) rfl
set_option maxRecDepth 20000 in
theorem hkX11_isDigit : sm_fd sm_pg 187 = some miX11_isDigit := by rfl
theorem hhX11_isDigit : sm_fd sm_hds 187 = some (yX11_isDigit, cX11_isDigit, 1, (some .boolean)) := sm_hh hkX11_isDigit
theorem wCX11_pack : Cond.code yX11_pack cX11_pack 5 (some .int) ∈ sm_TB := sm_inT (sm_t7 (List.mem_of_getElem? (i := 69) rfl)) rfl
theorem hdX11_pack : sm_hdk sm_TB yX11_pack cX11_pack 5 (some .int) 5 := ⟨wCX11_pack, wNX11, ⟨neX11.1, neX11.2, by decide +kernel⟩, by decide⟩
theorem wSX11_pack : Cond.static yX11_pack ∈ sm_TB := sm_inT (sm_t7 (List.mem_of_getElem? (i := 68) rfl)) rfl
set_option maxRecDepth 20000 in
theorem hkX11_pack : sm_fd sm_pg 188 = some miX11_pack := by rfl
theorem hhX11_pack : sm_fd sm_hds 188 = some (yX11_pack, cX11_pack, 5, (some .int)) := sm_hh hkX11_pack
theorem wCX11_n : Cond.code yX11_n cX11_n 1 (some .int) ∈ sm_TB := sm_inT (sm_t7 (List.mem_of_getElem? (i := 59) rfl)) rfl
theorem hdX11_n : sm_hdk sm_TB yX11_n cX11_n 1 (some .int) 1 := ⟨wCX11_n, wNX11, ⟨neX11.1, neX11.2, by decide +kernel⟩, by decide⟩
theorem wSX11_n : Cond.static yX11_n ∈ sm_TB := sm_inT (sm_t7 (List.mem_of_getElem? (i := 58) rfl)) rfl
set_option maxRecDepth 20000 in
theorem hkX11_n : sm_fd sm_pg 189 = some miX11_n := by rfl
theorem hhX11_n : sm_fd sm_hds 189 = some (yX11_n, cX11_n, 1, (some .int)) := sm_hh hkX11_n
theorem wCX11_w : Cond.code yX11_w cX11_w 5 (some .int) ∈ sm_TB := sm_inT (sm_t7 (List.mem_of_getElem? (i := 66) rfl)) rfl
theorem hdX11_w : sm_hdk sm_TB yX11_w cX11_w 5 (some .int) 5 := ⟨wCX11_w, wNX11, ⟨neX11.1, neX11.2, by decide +kernel⟩, by decide⟩
theorem wSX11_w : Cond.static yX11_w ∈ sm_TB := sm_inT (sm_t7 (List.mem_of_getElem? (i := 65) rfl)) rfl
set_option maxRecDepth 20000 in
theorem hkX11_w : sm_fd sm_pg 190 = some miX11_w := by rfl
theorem hhX11_w : sm_fd sm_hds 190 = some (yX11_w, cX11_w, 5, (some .int)) := sm_hh hkX11_w
theorem wCX11_wordOf : Cond.code yX11_wordOf cX11_wordOf 4 (some .int) ∈ sm_TB := sm_inT (sm_t7 (List.mem_of_getElem? (i := 63) rfl)) rfl
theorem hdX11_wordOf : sm_hdk sm_TB yX11_wordOf cX11_wordOf 4 (some .int) 3 := ⟨wCX11_wordOf, wNX11, ⟨neX11.1, neX11.2, by decide +kernel⟩, by decide⟩
theorem wIX11_wordOf : Cond.instanceMethod yX11_wordOf ∈ sm_TB := sm_inT (sm_t7 (List.mem_of_getElem? (i := 62) rfl)) rfl
theorem wVX11_wordOf : Cond.selects RX11 yX11_wordOf yX11_wordOf ∈ sm_TB := sm_inT (sm_v8 (q := (yX11_wordOf, 56)) (List.mem_of_getElem? (i := 8) rfl)) rfl
set_option maxRecDepth 20000 in
theorem hkX11_wordOf : sm_fd sm_pg 191 = some miX11_wordOf := by rfl
theorem hhX11_wordOf : sm_fd sm_hds 191 = some (yX11_wordOf, cX11_wordOf, 4, (some .int)) := sm_hh hkX11_wordOf
theorem wCX11_nextToken : Cond.code yX11_nextToken cX11_nextToken 4 none ∈ sm_TB := sm_inT (sm_t7 (List.mem_of_getElem? (i := 45) rfl)) rfl
theorem hdX11_nextToken : sm_hdk sm_TB yX11_nextToken cX11_nextToken 4 none 0 := ⟨wCX11_nextToken, wNX11, ⟨neX11.1, neX11.2, by decide +kernel⟩, by decide⟩
theorem wIX11_nextToken : Cond.instanceMethod yX11_nextToken ∈ sm_TB := sm_inT (sm_t7 (List.mem_of_getElem? (i := 44) rfl)) rfl
theorem wVX11_nextToken : Cond.selects RX11 yX11_nextToken yX11_nextToken ∈ sm_TB := sm_inT (sm_v8 (q := (yX11_nextToken, 56)) (List.mem_of_getElem? (i := 6) rfl)) rfl
set_option maxRecDepth 20000 in
theorem hkX11_nextToken : sm_fd sm_pg 192 = some miX11_nextToken := by rfl
theorem hhX11_nextToken : sm_fd sm_hds 192 = some (yX11_nextToken, cX11_nextToken, 4, none) := sm_hh hkX11_nextToken
theorem wCX11_fails : Cond.code yX11_fails cX11_fails 3 (some .int) ∈ sm_TB := sm_inT (sm_t7 (List.mem_of_getElem? (i := 77) rfl)) rfl
theorem hdX11_fails : sm_hdk sm_TB yX11_fails cX11_fails 3 (some .int) 2 := ⟨wCX11_fails, wNX11, ⟨neX11.1, neX11.2, by decide +kernel⟩, by decide⟩
theorem wIX11_fails : Cond.instanceMethod yX11_fails ∈ sm_TB := sm_inT (sm_t7 (List.mem_of_getElem? (i := 76) rfl)) rfl
theorem wVX11_fails : Cond.selects RX11 yX11_fails yX11_fails ∈ sm_TB := sm_inT (sm_v8 (q := (yX11_fails, 56)) (List.mem_of_getElem? (i := 10) rfl)) rfl
set_option maxRecDepth 20000 in
theorem hkX11_fails : sm_fd sm_pg 193 = some miX11_fails := by rfl
theorem hhX11_fails : sm_fd sm_hds 193 = some (yX11_fails, cX11_fails, 3, (some .int)) := sm_hh hkX11_fails
theorem wCX11_many : Cond.code yX11_many cX11_many 1 (some .int) ∈ sm_TB := sm_inT (sm_t7 (List.mem_of_getElem? (i := 93) rfl)) rfl
theorem hdX11_many : sm_hdk sm_TB yX11_many cX11_many 1 (some .int) 0 := ⟨wCX11_many, wNX11, ⟨neX11.1, neX11.2, by decide +kernel⟩, by decide⟩
theorem wIX11_many : Cond.instanceMethod yX11_many ∈ sm_TB := sm_inT (sm_t7 (List.mem_of_getElem? (i := 92) rfl)) rfl
theorem wVX11_many : Cond.selects RX11 yX11_many yX11_many ∈ sm_TB := sm_inT (sm_v8 (q := (yX11_many, 56)) (List.mem_of_getElem? (i := 14) rfl)) rfl
set_option maxRecDepth 20000 in
theorem hkX11_many : sm_fd sm_pg 194 = some miX11_many := by rfl
theorem hhX11_many : sm_fd sm_hds 194 = some (yX11_many, cX11_many, 1, (some .int)) := sm_hh hkX11_many
theorem wCX11_push : Cond.code yX11_push cX11_push 2 none ∈ sm_TB := sm_inT (sm_t7 (List.mem_of_getElem? (i := 97) rfl)) rfl
theorem hdX11_push : sm_hdk sm_TB yX11_push cX11_push 2 none 1 := ⟨wCX11_push, wNX11, ⟨neX11.1, neX11.2, by decide +kernel⟩, by decide⟩
theorem wIX11_push : Cond.instanceMethod yX11_push ∈ sm_TB := sm_inT (sm_t7 (List.mem_of_getElem? (i := 96) rfl)) rfl
theorem wVX11_push : Cond.selects RX11 yX11_push yX11_push ∈ sm_TB := sm_inT (sm_v8 (q := (yX11_push, 56)) (List.mem_of_getElem? (i := 15) rfl)) rfl
set_option maxRecDepth 20000 in
theorem hkX11_push : sm_fd sm_pg 195 = some miX11_push := by rfl
theorem hhX11_push : sm_fd sm_hds 195 = some (yX11_push, cX11_push, 2, none) := sm_hh hkX11_push
theorem wCX11_plainOne : Cond.code yX11_plainOne cX11_plainOne 6 (some .int) ∈ sm_TB := sm_inT (sm_t7 (List.mem_of_getElem? (i := 89) rfl)) rfl
theorem hdX11_plainOne : sm_hdk sm_TB yX11_plainOne cX11_plainOne 6 (some .int) 0 := ⟨wCX11_plainOne, wNX11, ⟨neX11.1, neX11.2, by decide +kernel⟩, by decide⟩
theorem wIX11_plainOne : Cond.instanceMethod yX11_plainOne ∈ sm_TB := sm_inT (sm_t7 (List.mem_of_getElem? (i := 88) rfl)) rfl
theorem wVX11_plainOne : Cond.selects RX11 yX11_plainOne yX11_plainOne ∈ sm_TB := sm_inT (sm_v8 (q := (yX11_plainOne, 56)) (List.mem_of_getElem? (i := 13) rfl)) rfl
set_option maxRecDepth 20000 in
theorem hkX11_plainOne : sm_fd sm_pg 196 = some miX11_plainOne := by rfl
theorem hhX11_plainOne : sm_fd sm_hds 196 = some (yX11_plainOne, cX11_plainOne, 6, (some .int)) := sm_hh hkX11_plainOne
theorem wCX11_opens : Cond.code yX11_opens cX11_opens 3 (some .int) ∈ sm_TB := sm_inT (sm_t7 (List.mem_of_getElem? (i := 85) rfl)) rfl
theorem hdX11_opens : sm_hdk sm_TB yX11_opens cX11_opens 3 (some .int) 0 := ⟨wCX11_opens, wNX11, ⟨neX11.1, neX11.2, by decide +kernel⟩, by decide⟩
theorem wIX11_opens : Cond.instanceMethod yX11_opens ∈ sm_TB := sm_inT (sm_t7 (List.mem_of_getElem? (i := 84) rfl)) rfl
theorem wVX11_opens : Cond.selects RX11 yX11_opens yX11_opens ∈ sm_TB := sm_inT (sm_v8 (q := (yX11_opens, 56)) (List.mem_of_getElem? (i := 12) rfl)) rfl
set_option maxRecDepth 20000 in
theorem hkX11_opens : sm_fd sm_pg 197 = some miX11_opens := by rfl
theorem hhX11_opens : sm_fd sm_hds 197 = some (yX11_opens, cX11_opens, 3, (some .int)) := sm_hh hkX11_opens
theorem wCX11_closes : Cond.code yX11_closes cX11_closes 7 (some .int) ∈ sm_TB := sm_inT (sm_t7 (List.mem_of_getElem? (i := 105) rfl)) rfl
theorem hdX11_closes : sm_hdk sm_TB yX11_closes cX11_closes 7 (some .int) 0 := ⟨wCX11_closes, wNX11, ⟨neX11.1, neX11.2, by decide +kernel⟩, by decide⟩
theorem wIX11_closes : Cond.instanceMethod yX11_closes ∈ sm_TB := sm_inT (sm_t7 (List.mem_of_getElem? (i := 104) rfl)) rfl
theorem wVX11_closes : Cond.selects RX11 yX11_closes yX11_closes ∈ sm_TB := sm_inT (sm_v9 (q := (yX11_closes, 56)) (List.mem_of_getElem? (i := 1) rfl)) rfl
set_option maxRecDepth 20000 in
theorem hkX11_closes : sm_fd sm_pg 198 = some miX11_closes := by rfl
theorem hhX11_closes : sm_fd sm_hds 198 = some (yX11_closes, cX11_closes, 7, (some .int)) := sm_hh hkX11_closes
theorem wCX11_times : Cond.code yX11_times cX11_times 3 (some .int) ∈ sm_TB := sm_inT (sm_t7 (List.mem_of_getElem? (i := 101) rfl)) rfl
theorem hdX11_times : sm_hdk sm_TB yX11_times cX11_times 3 (some .int) 0 := ⟨wCX11_times, wNX11, ⟨neX11.1, neX11.2, by decide +kernel⟩, by decide⟩
theorem wIX11_times : Cond.instanceMethod yX11_times ∈ sm_TB := sm_inT (sm_t7 (List.mem_of_getElem? (i := 100) rfl)) rfl
theorem wVX11_times : Cond.selects RX11 yX11_times yX11_times ∈ sm_TB := sm_inT (sm_v9 (q := (yX11_times, 56)) (List.mem_of_getElem? (i := 0) rfl)) rfl
set_option maxRecDepth 20000 in
theorem hkX11_times : sm_fd sm_pg 199 = some miX11_times := by rfl
theorem hhX11_times : sm_fd sm_hds 199 = some (yX11_times, cX11_times, 3, (some .int)) := sm_hh hkX11_times
theorem wCX11_readRow : Cond.code yX11_readRow cX11_readRow 5 (some .int) ∈ sm_TB := sm_inT (sm_t7 (List.mem_of_getElem? (i := 81) rfl)) rfl
theorem hdX11_readRow : sm_hdk sm_TB yX11_readRow cX11_readRow 5 (some .int) 0 := ⟨wCX11_readRow, wNX11, ⟨neX11.1, neX11.2, by decide +kernel⟩, by decide⟩
theorem wIX11_readRow : Cond.instanceMethod yX11_readRow ∈ sm_TB := sm_inT (sm_t7 (List.mem_of_getElem? (i := 80) rfl)) rfl
theorem wVX11_readRow : Cond.selects RX11 yX11_readRow yX11_readRow ∈ sm_TB := sm_inT (sm_v8 (q := (yX11_readRow, 56)) (List.mem_of_getElem? (i := 11) rfl)) rfl
set_option maxRecDepth 20000 in
theorem hkX11_readRow : sm_fd sm_pg 200 = some miX11_readRow := by rfl
theorem hhX11_readRow : sm_fd sm_hds 200 = some (yX11_readRow, cX11_readRow, 5, (some .int)) := sm_hh hkX11_readRow
theorem wCX11_block : Cond.code yX11_block cX11_block 4 (some .int) ∈ sm_TB := sm_inT (sm_t7 (List.mem_of_getElem? (i := 73) rfl)) rfl
theorem hdX11_block : sm_hdk sm_TB yX11_block cX11_block 4 (some .int) 0 := ⟨wCX11_block, wNX11, ⟨neX11.1, neX11.2, by decide +kernel⟩, by decide⟩
theorem wIX11_block : Cond.instanceMethod yX11_block ∈ sm_TB := sm_inT (sm_t7 (List.mem_of_getElem? (i := 72) rfl)) rfl
theorem wVX11_block : Cond.selects RX11 yX11_block yX11_block ∈ sm_TB := sm_inT (sm_v8 (q := (yX11_block, 56)) (List.mem_of_getElem? (i := 9) rfl)) rfl
set_option maxRecDepth 20000 in
theorem hkX11_block : sm_fd sm_pg 201 = some miX11_block := by rfl
theorem hhX11_block : sm_fd sm_hds 201 = some (yX11_block, cX11_block, 4, (some .int)) := sm_hh hkX11_block
theorem wCX11_bring : Cond.code yX11_bring cX11_bring 4 none ∈ sm_TB := sm_inT (sm_t7 (List.mem_of_getElem? (i := 113) rfl)) rfl
theorem hdX11_bring : sm_hdk sm_TB yX11_bring cX11_bring 4 none 3 := ⟨wCX11_bring, wNX11, ⟨neX11.1, neX11.2, by decide +kernel⟩, by decide⟩
theorem wIX11_bring : Cond.instanceMethod yX11_bring ∈ sm_TB := sm_inT (sm_t7 (List.mem_of_getElem? (i := 112) rfl)) rfl
theorem wVX11_bring : Cond.selects RX11 yX11_bring yX11_bring ∈ sm_TB := sm_inT (sm_v9 (q := (yX11_bring, 56)) (List.mem_of_getElem? (i := 3) rfl)) rfl
set_option maxRecDepth 20000 in
theorem hkX11_bring : sm_fd sm_pg 202 = some miX11_bring := by rfl
theorem hhX11_bring : sm_fd sm_hds 202 = some (yX11_bring, cX11_bring, 4, none) := sm_hh hkX11_bring
theorem wCX11_rowClause : Cond.code yX11_rowClause cX11_rowClause 6 (some .int) ∈ sm_TB := sm_inT (sm_t7 (List.mem_of_getElem? (i := 109) rfl)) rfl
theorem hdX11_rowClause : sm_hdk sm_TB yX11_rowClause cX11_rowClause 6 (some .int) 1 := ⟨wCX11_rowClause, wNX11, ⟨neX11.1, neX11.2, by decide +kernel⟩, by decide⟩
theorem wIX11_rowClause : Cond.instanceMethod yX11_rowClause ∈ sm_TB := sm_inT (sm_t7 (List.mem_of_getElem? (i := 108) rfl)) rfl
theorem wVX11_rowClause : Cond.selects RX11 yX11_rowClause yX11_rowClause ∈ sm_TB := sm_inT (sm_v9 (q := (yX11_rowClause, 56)) (List.mem_of_getElem? (i := 2) rfl)) rfl
set_option maxRecDepth 20000 in
theorem hkX11_rowClause : sm_fd sm_pg 203 = some miX11_rowClause := by rfl
theorem hhX11_rowClause : sm_fd sm_hds 203 = some (yX11_rowClause, cX11_rowClause, 6, (some .int)) := sm_hh hkX11_rowClause
theorem wCX11_readText : Cond.code yX11_readText cX11_readText 2 (some .int) ∈ sm_TB := sm_inT (sm_t7 (List.mem_of_getElem? (i := 41) rfl)) rfl
theorem hdX11_readText : sm_hdk sm_TB yX11_readText cX11_readText 2 (some .int) 0 := ⟨wCX11_readText, wNX11, ⟨neX11.1, neX11.2, by decide +kernel⟩, by decide⟩
theorem wIX11_readText : Cond.instanceMethod yX11_readText ∈ sm_TB := sm_inT (sm_t7 (List.mem_of_getElem? (i := 40) rfl)) rfl
theorem wVX11_readText : Cond.selects RX11 yX11_readText yX11_readText ∈ sm_TB := sm_inT (sm_v8 (q := (yX11_readText, 56)) (List.mem_of_getElem? (i := 5) rfl)) rfl
set_option maxRecDepth 20000 in
theorem hkX11_readText : sm_fd sm_pg 204 = some miX11_readText := by rfl
theorem hhX11_readText : sm_fd sm_hds 204 = some (yX11_readText, cX11_readText, 2, (some .int)) := sm_hh hkX11_readText
theorem wCX11_text : Cond.code yX11_text cX11_text 2 (some .int) ∈ sm_TB := sm_inT (sm_t7 (List.mem_of_getElem? (i := 37) rfl)) rfl
theorem hdX11_text : sm_hdk sm_TB yX11_text cX11_text 2 (some .int) 0 := ⟨wCX11_text, wNX11, ⟨neX11.1, neX11.2, by decide +kernel⟩, by decide⟩
theorem wIX11_text : Cond.instanceMethod yX11_text ∈ sm_TB := sm_inT (sm_t7 (List.mem_of_getElem? (i := 35) rfl)) rfl
theorem wVX11_text : Cond.selects RX11 yX11_text yX11_text ∈ sm_TB := sm_inT (sm_t7 (List.mem_of_getElem? (i := 36) rfl)) rfl
set_option maxRecDepth 20000 in
theorem hkX11_text : sm_fd sm_pg 205 = some miX11_text := by rfl
theorem hhX11_text : sm_fd sm_hds 205 = some (yX11_text, cX11_text, 2, (some .int)) := sm_hh hkX11_text
theorem wCX11_fault : Cond.code yX11_fault cX11_fault 2 (some .int) ∈ sm_TB := sm_inT (sm_t7 (List.mem_of_getElem? (i := 117) rfl)) rfl
theorem hdX11_fault : sm_hdk sm_TB yX11_fault cX11_fault 2 (some .int) 1 := ⟨wCX11_fault, wNX11, ⟨neX11.1, neX11.2, by decide +kernel⟩, by decide⟩
theorem wIX11_fault : Cond.instanceMethod yX11_fault ∈ sm_TB := sm_inT (sm_t7 (List.mem_of_getElem? (i := 115) rfl)) rfl
theorem wVX11_fault : Cond.selects RX11 yX11_fault yX11_fault ∈ sm_TB := sm_inT (sm_t7 (List.mem_of_getElem? (i := 116) rfl)) rfl
set_option maxRecDepth 20000 in
theorem hkX11_fault : sm_fd sm_pg 206 = some miX11_fault := by rfl
theorem hhX11_fault : sm_fd sm_hds 206 = some (yX11_fault, cX11_fault, 2, (some .int)) := sm_hh hkX11_fault
theorem wCX11_runsOf : Cond.code yX11_runsOf cX11_runsOf 10 none ∈ sm_TB := sm_inT (sm_t7 (List.mem_of_getElem? (i := 129) rfl)) rfl
theorem hdX11_runsOf : sm_hdk sm_TB yX11_runsOf cX11_runsOf 10 none 4 := ⟨wCX11_runsOf, wNX11, ⟨neX11.1, neX11.2, by decide +kernel⟩, by decide⟩
theorem wIX11_runsOf : Cond.instanceMethod yX11_runsOf ∈ sm_TB := sm_inT (sm_t7 (List.mem_of_getElem? (i := 128) rfl)) rfl
theorem wVX11_runsOf : Cond.selects RX11 yX11_runsOf yX11_runsOf ∈ sm_TB := sm_inT (sm_v9 (q := (yX11_runsOf, 56)) (List.mem_of_getElem? (i := 5) rfl)) rfl
set_option maxRecDepth 20000 in
theorem hkX11_runsOf : sm_fd sm_pg 207 = some miX11_runsOf := by rfl
theorem hhX11_runsOf : sm_fd sm_hds 207 = some (yX11_runsOf, cX11_runsOf, 10, none) := sm_hh hkX11_runsOf
theorem wCX11_findRuns : Cond.code yX11_findRuns cX11_findRuns 4 none ∈ sm_TB := sm_inT (sm_t7 (List.mem_of_getElem? (i := 125) rfl)) rfl
theorem hdX11_findRuns : sm_hdk sm_TB yX11_findRuns cX11_findRuns 4 none 2 := ⟨wCX11_findRuns, wNX11, ⟨neX11.1, neX11.2, by decide +kernel⟩, by decide⟩
theorem wIX11_findRuns : Cond.instanceMethod yX11_findRuns ∈ sm_TB := sm_inT (sm_t7 (List.mem_of_getElem? (i := 124) rfl)) rfl
theorem wVX11_findRuns : Cond.selects RX11 yX11_findRuns yX11_findRuns ∈ sm_TB := sm_inT (sm_v9 (q := (yX11_findRuns, 56)) (List.mem_of_getElem? (i := 4) rfl)) rfl
set_option maxRecDepth 20000 in
theorem hkX11_findRuns : sm_fd sm_pg 208 = some miX11_findRuns := by rfl
theorem hhX11_findRuns : sm_fd sm_hds 208 = some (yX11_findRuns, cX11_findRuns, 4, none) := sm_hh hkX11_findRuns
theorem wCX11_longest : Cond.code yX11_longest cX11_longest 5 (some .int) ∈ sm_TB := sm_inT (sm_t7 (List.mem_of_getElem? (i := 121) rfl)) rfl
theorem hdX11_longest : sm_hdk sm_TB yX11_longest cX11_longest 5 (some .int) 2 := ⟨wCX11_longest, wNX11, ⟨neX11.1, neX11.2, by decide +kernel⟩, by decide⟩
theorem wIX11_longest : Cond.instanceMethod yX11_longest ∈ sm_TB := sm_inT (sm_t7 (List.mem_of_getElem? (i := 119) rfl)) rfl
theorem wVX11_longest : Cond.selects RX11 yX11_longest yX11_longest ∈ sm_TB := sm_inT (sm_t7 (List.mem_of_getElem? (i := 120) rfl)) rfl
set_option maxRecDepth 20000 in
theorem hkX11_longest : sm_fd sm_pg 209 = some miX11_longest := by rfl
theorem hhX11_longest : sm_fd sm_hds 209 = some (yX11_longest, cX11_longest, 5, (some .int)) := sm_hh hkX11_longest
theorem wCX11_floats : Cond.code yX11_floats cX11_floats 6 (some .int) ∈ sm_TB := sm_inT (sm_t7 (List.mem_of_getElem? (i := 133) rfl)) rfl
theorem hdX11_floats : sm_hdk sm_TB yX11_floats cX11_floats 6 (some .int) 3 := ⟨wCX11_floats, wNX11, ⟨neX11.1, neX11.2, by decide +kernel⟩, by decide⟩
theorem wIX11_floats : Cond.instanceMethod yX11_floats ∈ sm_TB := sm_inT (sm_t7 (List.mem_of_getElem? (i := 131) rfl)) rfl
theorem wVX11_floats : Cond.selects RX11 yX11_floats yX11_floats ∈ sm_TB := sm_inT (sm_t7 (List.mem_of_getElem? (i := 132) rfl)) rfl
set_option maxRecDepth 20000 in
theorem hkX11_floats : sm_fd sm_pg 210 = some miX11_floats := by rfl
theorem hhX11_floats : sm_fd sm_hds 210 = some (yX11_floats, cX11_floats, 6, (some .int)) := sm_hh hkX11_floats
theorem wCX11_isPart : Cond.code yX11_isPart cX11_isPart 5 (some .boolean) ∈ sm_TB := sm_inT (sm_t7 (List.mem_of_getElem? (i := 141) rfl)) rfl
theorem hdX11_isPart : sm_hdk sm_TB yX11_isPart cX11_isPart 5 (some .boolean) 4 := ⟨wCX11_isPart, wNX11, ⟨neX11.1, neX11.2, by decide +kernel⟩, by decide⟩
theorem wIX11_isPart : Cond.instanceMethod yX11_isPart ∈ sm_TB := sm_inT (sm_t7 (List.mem_of_getElem? (i := 140) rfl)) rfl
theorem wVX11_isPart : Cond.selects RX11 yX11_isPart yX11_isPart ∈ sm_TB := sm_inT (sm_v9 (q := (yX11_isPart, 56)) (List.mem_of_getElem? (i := 6) rfl)) rfl
set_option maxRecDepth 20000 in
theorem hkX11_isPart : sm_fd sm_pg 211 = some miX11_isPart := by rfl
theorem hhX11_isPart : sm_fd sm_hds 211 = some (yX11_isPart, cX11_isPart, 5, (some .boolean)) := sm_hh hkX11_isPart
theorem wCX11_span : Cond.code yX11_span cX11_span 2 (some .long) ∈ sm_TB := sm_inT (sm_t7 (List.mem_of_getElem? (i := 152) rfl)) rfl
theorem hdX11_span : sm_hdk sm_TB yX11_span cX11_span 2 (some .long) 2 := ⟨wCX11_span, wNX11, ⟨neX11.1, neX11.2, by decide +kernel⟩, by decide⟩
theorem wSX11_span : Cond.static yX11_span ∈ sm_TB := sm_inT (sm_t7 (List.mem_of_getElem? (i := 151) rfl)) rfl
set_option maxRecDepth 20000 in
theorem hkX11_span : sm_fd sm_pg 212 = some miX11_span := by rfl
theorem hhX11_span : sm_fd sm_hds 212 = some (yX11_span, cX11_span, 2, (some .long)) := sm_hh hkX11_span
theorem wCX11_reach : Cond.code yX11_reach cX11_reach 12 none ∈ sm_TB := sm_inT (sm_t7 (List.mem_of_getElem? (i := 149) rfl)) rfl
theorem hdX11_reach : sm_hdk sm_TB yX11_reach cX11_reach 12 none 4 := ⟨wCX11_reach, wNX11, ⟨neX11.1, neX11.2, by decide +kernel⟩, by decide⟩
theorem wIX11_reach : Cond.instanceMethod yX11_reach ∈ sm_TB := sm_inT (sm_t7 (List.mem_of_getElem? (i := 148) rfl)) rfl
theorem wVX11_reach : Cond.selects RX11 yX11_reach yX11_reach ∈ sm_TB := sm_inT (sm_v9 (q := (yX11_reach, 56)) (List.mem_of_getElem? (i := 8) rfl)) rfl
set_option maxRecDepth 20000 in
theorem hkX11_reach : sm_fd sm_pg 213 = some miX11_reach := by rfl
theorem hhX11_reach : sm_fd sm_hds 213 = some (yX11_reach, cX11_reach, 12, none) := sm_hh hkX11_reach
theorem wCX11_isStrand : Cond.code yX11_isStrand cX11_isStrand 5 (some .boolean) ∈ sm_TB := sm_inT (sm_t7 (List.mem_of_getElem? (i := 155) rfl)) rfl
theorem hdX11_isStrand : sm_hdk sm_TB yX11_isStrand cX11_isStrand 5 (some .boolean) 5 := ⟨wCX11_isStrand, wNX11, ⟨neX11.1, neX11.2, by decide +kernel⟩, by decide⟩
theorem wSX11_isStrand : Cond.static yX11_isStrand ∈ sm_TB := sm_inT (sm_t7 (List.mem_of_getElem? (i := 154) rfl)) rfl
set_option maxRecDepth 20000 in
theorem hkX11_isStrand : sm_fd sm_pg 214 = some miX11_isStrand := by rfl
theorem hhX11_isStrand : sm_fd sm_hds 214 = some (yX11_isStrand, cX11_isStrand, 5, (some .boolean)) := sm_hh hkX11_isStrand
theorem wCX11_isAbove : Cond.code yX11_isAbove cX11_isAbove 3 (some .boolean) ∈ sm_TB := sm_inT (sm_t7 (List.mem_of_getElem? (i := 163) rfl)) rfl
theorem hdX11_isAbove : sm_hdk sm_TB yX11_isAbove cX11_isAbove 3 (some .boolean) 2 := ⟨wCX11_isAbove, wNX11, ⟨neX11.1, neX11.2, by decide +kernel⟩, by decide⟩
theorem wIX11_isAbove : Cond.instanceMethod yX11_isAbove ∈ sm_TB := sm_inT (sm_t7 (List.mem_of_getElem? (i := 162) rfl)) rfl
theorem wVX11_isAbove : Cond.selects RX11 yX11_isAbove yX11_isAbove ∈ sm_TB := sm_inT (sm_v9 (q := (yX11_isAbove, 56)) (List.mem_of_getElem? (i := 10) rfl)) rfl
set_option maxRecDepth 20000 in
theorem hkX11_isAbove : sm_fd sm_pg 215 = some miX11_isAbove := by rfl
theorem hhX11_isAbove : sm_fd sm_hds 215 = some (yX11_isAbove, cX11_isAbove, 3, (some .boolean)) := sm_hh hkX11_isAbove
theorem wCX11_number : Cond.code yX11_number cX11_number 8 none ∈ sm_TB := sm_inT (sm_t7 (List.mem_of_getElem? (i := 145) rfl)) rfl
theorem hdX11_number : sm_hdk sm_TB yX11_number cX11_number 8 none 4 := ⟨wCX11_number, wNX11, ⟨neX11.1, neX11.2, by decide +kernel⟩, by decide⟩
theorem wIX11_number : Cond.instanceMethod yX11_number ∈ sm_TB := sm_inT (sm_t7 (List.mem_of_getElem? (i := 144) rfl)) rfl
theorem wVX11_number : Cond.selects RX11 yX11_number yX11_number ∈ sm_TB := sm_inT (sm_v9 (q := (yX11_number, 56)) (List.mem_of_getElem? (i := 7) rfl)) rfl
set_option maxRecDepth 20000 in
theorem hkX11_number : sm_fd sm_pg 216 = some miX11_number := by rfl
theorem hhX11_number : sm_fd sm_hds 216 = some (yX11_number, cX11_number, 8, none) := sm_hh hkX11_number
theorem wCX11_isTop : Cond.code yX11_isTop cX11_isTop 7 (some .boolean) ∈ sm_TB := sm_inT (sm_t7 (List.mem_of_getElem? (i := 159) rfl)) rfl
theorem hdX11_isTop : sm_hdk sm_TB yX11_isTop cX11_isTop 7 (some .boolean) 5 := ⟨wCX11_isTop, wNX11, ⟨neX11.1, neX11.2, by decide +kernel⟩, by decide⟩
theorem wIX11_isTop : Cond.instanceMethod yX11_isTop ∈ sm_TB := sm_inT (sm_t7 (List.mem_of_getElem? (i := 158) rfl)) rfl
theorem wVX11_isTop : Cond.selects RX11 yX11_isTop yX11_isTop ∈ sm_TB := sm_inT (sm_v9 (q := (yX11_isTop, 56)) (List.mem_of_getElem? (i := 9) rfl)) rfl
set_option maxRecDepth 20000 in
theorem hkX11_isTop : sm_fd sm_pg 217 = some miX11_isTop := by rfl
theorem hhX11_isTop : sm_fd sm_hds 217 = some (yX11_isTop, cX11_isTop, 7, (some .boolean)) := sm_hh hkX11_isTop
theorem wCX11_layers : Cond.code yX11_layers cX11_layers 5 (some .int) ∈ sm_TB := sm_inT (sm_t7 (List.mem_of_getElem? (i := 137) rfl)) rfl
theorem hdX11_layers : sm_hdk sm_TB yX11_layers cX11_layers 5 (some .int) 4 := ⟨wCX11_layers, wNX11, ⟨neX11.1, neX11.2, by decide +kernel⟩, by decide⟩
theorem wIX11_layers : Cond.instanceMethod yX11_layers ∈ sm_TB := sm_inT (sm_t7 (List.mem_of_getElem? (i := 135) rfl)) rfl
theorem wVX11_layers : Cond.selects RX11 yX11_layers yX11_layers ∈ sm_TB := sm_inT (sm_t7 (List.mem_of_getElem? (i := 136) rfl)) rfl
set_option maxRecDepth 20000 in
theorem hkX11_layers : sm_fd sm_pg 218 = some miX11_layers := by rfl
theorem hhX11_layers : sm_fd sm_hds 218 = some (yX11_layers, cX11_layers, 5, (some .int)) := sm_hh hkX11_layers
theorem wCX11_layer : Cond.code yX11_layer cX11_layer 6 (some .int) ∈ sm_TB := sm_inT (sm_t7 (List.mem_of_getElem? (i := 167) rfl)) rfl
theorem hdX11_layer : sm_hdk sm_TB yX11_layer cX11_layer 6 (some .int) 5 := ⟨wCX11_layer, wNX11, ⟨neX11.1, neX11.2, by decide +kernel⟩, by decide⟩
theorem wIX11_layer : Cond.instanceMethod yX11_layer ∈ sm_TB := sm_inT (sm_t7 (List.mem_of_getElem? (i := 165) rfl)) rfl
theorem wVX11_layer : Cond.selects RX11 yX11_layer yX11_layer ∈ sm_TB := sm_inT (sm_t7 (List.mem_of_getElem? (i := 166) rfl)) rfl
set_option maxRecDepth 20000 in
theorem hkX11_layer : sm_fd sm_pg 219 = some miX11_layer := by rfl
theorem hhX11_layer : sm_fd sm_hds 219 = some (yX11_layer, cX11_layer, 6, (some .int)) := sm_hh hkX11_layer
theorem wCX11_colourAt : Cond.code yX11_colourAt cX11_colourAt 3 (some .int) ∈ sm_TB := sm_inT (sm_t7 (List.mem_of_getElem? (i := 175) rfl)) rfl
theorem hdX11_colourAt : sm_hdk sm_TB yX11_colourAt cX11_colourAt 3 (some .int) 2 := ⟨wCX11_colourAt, wNX11, ⟨neX11.1, neX11.2, by decide +kernel⟩, by decide⟩
theorem wIX11_colourAt : Cond.instanceMethod yX11_colourAt ∈ sm_TB := sm_inT (sm_t7 (List.mem_of_getElem? (i := 174) rfl)) rfl
theorem wVX11_colourAt : Cond.selects RX11 yX11_colourAt yX11_colourAt ∈ sm_TB := sm_inT (sm_v9 (q := (yX11_colourAt, 56)) (List.mem_of_getElem? (i := 11) rfl)) rfl
set_option maxRecDepth 20000 in
theorem hkX11_colourAt : sm_fd sm_pg 220 = some miX11_colourAt := by rfl
theorem hhX11_colourAt : sm_fd sm_hds 220 = some (yX11_colourAt, cX11_colourAt, 3, (some .int)) := sm_hh hkX11_colourAt
theorem wCX11_seenColour : Cond.code yX11_seenColour cX11_seenColour 3 (some .int) ∈ sm_TB := sm_inT (sm_t7 (List.mem_of_getElem? (i := 171) rfl)) rfl
theorem hdX11_seenColour : sm_hdk sm_TB yX11_seenColour cX11_seenColour 3 (some .int) 2 := ⟨wCX11_seenColour, wNX11, ⟨neX11.1, neX11.2, by decide +kernel⟩, by decide⟩
theorem wIX11_seenColour : Cond.instanceMethod yX11_seenColour ∈ sm_TB := sm_inT (sm_t7 (List.mem_of_getElem? (i := 169) rfl)) rfl
theorem wVX11_seenColour : Cond.selects RX11 yX11_seenColour yX11_seenColour ∈ sm_TB := sm_inT (sm_t7 (List.mem_of_getElem? (i := 170) rfl)) rfl
set_option maxRecDepth 20000 in
theorem hkX11_seenColour : sm_fd sm_pg 221 = some miX11_seenColour := by rfl
theorem hhX11_seenColour : sm_fd sm_hds 221 = some (yX11_seenColour, cX11_seenColour, 3, (some .int)) := sm_hh hkX11_seenColour
theorem wCX11_paint : Cond.code yX11_paint cX11_paint 6 none ∈ sm_TB := sm_inT (sm_t7 (List.mem_of_getElem? (i := 183) rfl)) rfl
theorem hdX11_paint : sm_hdk sm_TB yX11_paint cX11_paint 6 none 1 := ⟨wCX11_paint, wNX11, ⟨neX11.1, neX11.2, by decide +kernel⟩, by decide⟩
theorem wIX11_paint : Cond.instanceMethod yX11_paint ∈ sm_TB := sm_inT (sm_t7 (List.mem_of_getElem? (i := 182) rfl)) rfl
theorem wVX11_paint : Cond.selects RX11 yX11_paint yX11_paint ∈ sm_TB := sm_inT (sm_v9 (q := (yX11_paint, 56)) (List.mem_of_getElem? (i := 12) rfl)) rfl
set_option maxRecDepth 20000 in
theorem hkX11_paint : sm_fd sm_pg 222 = some miX11_paint := by rfl
theorem hhX11_paint : sm_fd sm_hds 222 = some (yX11_paint, cX11_paint, 6, none) := sm_hh hkX11_paint
theorem wCX11_coloured : Cond.code yX11_coloured cX11_coloured 5 (some .int) ∈ sm_TB := sm_inT (sm_t7 (List.mem_of_getElem? (i := 179) rfl)) rfl
theorem hdX11_coloured : sm_hdk sm_TB yX11_coloured cX11_coloured 5 (some .int) 1 := ⟨wCX11_coloured, wNX11, ⟨neX11.1, neX11.2, by decide +kernel⟩, by decide⟩
theorem wIX11_coloured : Cond.instanceMethod yX11_coloured ∈ sm_TB := sm_inT (sm_t7 (List.mem_of_getElem? (i := 177) rfl)) rfl
theorem wVX11_coloured : Cond.selects RX11 yX11_coloured yX11_coloured ∈ sm_TB := sm_inT (sm_t7 (List.mem_of_getElem? (i := 178) rfl)) rfl
set_option maxRecDepth 20000 in
theorem hkX11_coloured : sm_fd sm_pg 223 = some miX11_coloured := by rfl
theorem hhX11_coloured : sm_fd sm_hds 223 = some (yX11_coloured, cX11_coloured, 5, (some .int)) := sm_hh hkX11_coloured
theorem wCX11_isAlike : Cond.code yX11_isAlike cX11_isAlike 5 (some .boolean) ∈ sm_TB := sm_inT (sm_t7 (List.mem_of_getElem? (i := 191) rfl)) rfl
theorem hdX11_isAlike : sm_hdk sm_TB yX11_isAlike cX11_isAlike 5 (some .boolean) 2 := ⟨wCX11_isAlike, wNX11, ⟨neX11.1, neX11.2, by decide +kernel⟩, by decide⟩
theorem wIX11_isAlike : Cond.instanceMethod yX11_isAlike ∈ sm_TB := sm_inT (sm_t7 (List.mem_of_getElem? (i := 190) rfl)) rfl
theorem wVX11_isAlike : Cond.selects RX11 yX11_isAlike yX11_isAlike ∈ sm_TB := sm_inT (sm_v9 (q := (yX11_isAlike, 56)) (List.mem_of_getElem? (i := 13) rfl)) rfl
set_option maxRecDepth 20000 in
theorem hkX11_isAlike : sm_fd sm_pg 224 = some miX11_isAlike := by rfl
theorem hhX11_isAlike : sm_fd sm_hds 224 = some (yX11_isAlike, cX11_isAlike, 5, (some .boolean)) := sm_hh hkX11_isAlike
theorem wCX11_period : Cond.code yX11_period cX11_period 5 (some .int) ∈ sm_TB := sm_inT (sm_t7 (List.mem_of_getElem? (i := 187) rfl)) rfl
theorem hdX11_period : sm_hdk sm_TB yX11_period cX11_period 5 (some .int) 2 := ⟨wCX11_period, wNX11, ⟨neX11.1, neX11.2, by decide +kernel⟩, by decide⟩
theorem wIX11_period : Cond.instanceMethod yX11_period ∈ sm_TB := sm_inT (sm_t7 (List.mem_of_getElem? (i := 185) rfl)) rfl
theorem wVX11_period : Cond.selects RX11 yX11_period yX11_period ∈ sm_TB := sm_inT (sm_t7 (List.mem_of_getElem? (i := 186) rfl)) rfl
set_option maxRecDepth 20000 in
theorem hkX11_period : sm_fd sm_pg 225 = some miX11_period := by rfl
theorem hhX11_period : sm_fd sm_hds 225 = some (yX11_period, cX11_period, 5, (some .int)) := sm_hh hkX11_period
theorem wCX11_fewestOf : Cond.code yX11_fewestOf cX11_fewestOf 6 (some .int) ∈ sm_TB := sm_inT (sm_t7 (List.mem_of_getElem? (i := 198) rfl)) rfl
theorem hdX11_fewestOf : sm_hdk sm_TB yX11_fewestOf cX11_fewestOf 6 (some .int) 2 := ⟨wCX11_fewestOf, wNX11, ⟨neX11.1, neX11.2, by decide +kernel⟩, by decide⟩
theorem wSX11_fewestOf : Cond.static yX11_fewestOf ∈ sm_TB := sm_inT (sm_t7 (List.mem_of_getElem? (i := 197) rfl)) rfl
set_option maxRecDepth 20000 in
theorem hkX11_fewestOf : sm_fd sm_pg 226 = some miX11_fewestOf := by rfl
theorem hhX11_fewestOf : sm_fd sm_hds 226 = some (yX11_fewestOf, cX11_fewestOf, 6, (some .int)) := sm_hh hkX11_fewestOf
theorem wCX11_fewest : Cond.code yX11_fewest cX11_fewest 2 (some .int) ∈ sm_TB := sm_inT (sm_t7 (List.mem_of_getElem? (i := 195) rfl)) rfl
theorem hdX11_fewest : sm_hdk sm_TB yX11_fewest cX11_fewest 2 (some .int) 1 := ⟨wCX11_fewest, wNX11, ⟨neX11.1, neX11.2, by decide +kernel⟩, by decide⟩
theorem wIX11_fewest : Cond.instanceMethod yX11_fewest ∈ sm_TB := sm_inT (sm_t7 (List.mem_of_getElem? (i := 193) rfl)) rfl
theorem wVX11_fewest : Cond.selects RX11 yX11_fewest yX11_fewest ∈ sm_TB := sm_inT (sm_t7 (List.mem_of_getElem? (i := 194) rfl)) rfl
set_option maxRecDepth 20000 in
theorem hkX11_fewest : sm_fd sm_pg 227 = some miX11_fewest := by rfl
theorem hhX11_fewest : sm_fd sm_hds 227 = some (yX11_fewest, cX11_fewest, 2, (some .int)) := sm_hh hkX11_fewest
theorem wCX11_usedShafts : Cond.code yX11_usedShafts cX11_usedShafts 3 (some .int) ∈ sm_TB := sm_inT (sm_t7 (List.mem_of_getElem? (i := 206) rfl)) rfl
theorem hdX11_usedShafts : sm_hdk sm_TB yX11_usedShafts cX11_usedShafts 3 (some .int) 0 := ⟨wCX11_usedShafts, wNX11, ⟨neX11.1, neX11.2, by decide +kernel⟩, by decide⟩
theorem wIX11_usedShafts : Cond.instanceMethod yX11_usedShafts ∈ sm_TB := sm_inT (sm_t7 (List.mem_of_getElem? (i := 205) rfl)) rfl
theorem wVX11_usedShafts : Cond.selects RX11 yX11_usedShafts yX11_usedShafts ∈ sm_TB := sm_inT (sm_v9 (q := (yX11_usedShafts, 56)) (List.mem_of_getElem? (i := 14) rfl)) rfl
set_option maxRecDepth 20000 in
theorem hkX11_usedShafts : sm_fd sm_pg 228 = some miX11_usedShafts := by rfl
theorem hhX11_usedShafts : sm_fd sm_hds 228 = some (yX11_usedShafts, cX11_usedShafts, 3, (some .int)) := sm_hh hkX11_usedShafts
theorem wCX11_bits : Cond.code yX11_bits cX11_bits 3 (some .int) ∈ sm_TB := sm_inT (sm_t7 (List.mem_of_getElem? (i := 209) rfl)) rfl
theorem hdX11_bits : sm_hdk sm_TB yX11_bits cX11_bits 3 (some .int) 1 := ⟨wCX11_bits, wNX11, ⟨neX11.1, neX11.2, by decide +kernel⟩, by decide⟩
theorem wSX11_bits : Cond.static yX11_bits ∈ sm_TB := sm_inT (sm_t7 (List.mem_of_getElem? (i := 208) rfl)) rfl
set_option maxRecDepth 20000 in
theorem hkX11_bits : sm_fd sm_pg 229 = some miX11_bits := by rfl
theorem hhX11_bits : sm_fd sm_hds 229 = some (yX11_bits, cX11_bits, 3, (some .int)) := sm_hh hkX11_bits
theorem wCX11_pegs : Cond.code yX11_pegs cX11_pegs 5 (some .int) ∈ sm_TB := sm_inT (sm_t7 (List.mem_of_getElem? (i := 202) rfl)) rfl
theorem hdX11_pegs : sm_hdk sm_TB yX11_pegs cX11_pegs 5 (some .int) 1 := ⟨wCX11_pegs, wNX11, ⟨neX11.1, neX11.2, by decide +kernel⟩, by decide⟩
theorem wIX11_pegs : Cond.instanceMethod yX11_pegs ∈ sm_TB := sm_inT (sm_t7 (List.mem_of_getElem? (i := 200) rfl)) rfl
theorem wVX11_pegs : Cond.selects RX11 yX11_pegs yX11_pegs ∈ sm_TB := sm_inT (sm_t7 (List.mem_of_getElem? (i := 201) rfl)) rfl
set_option maxRecDepth 20000 in
theorem hkX11_pegs : sm_fd sm_pg 230 = some miX11_pegs := by rfl
theorem hhX11_pegs : sm_fd sm_hds 230 = some (yX11_pegs, cX11_pegs, 5, (some .int)) := sm_hh hkX11_pegs
theorem wCX11_gather : Cond.code yX11_gather cX11_gather 6 none ∈ sm_TB := sm_inT (sm_t7 (List.mem_of_getElem? (i := 217) rfl)) rfl
theorem hdX11_gather : sm_hdk sm_TB yX11_gather cX11_gather 6 none 0 := ⟨wCX11_gather, wNX11, ⟨neX11.1, neX11.2, by decide +kernel⟩, by decide⟩
theorem wIX11_gather : Cond.instanceMethod yX11_gather ∈ sm_TB := sm_inT (sm_t7 (List.mem_of_getElem? (i := 216) rfl)) rfl
theorem wVX11_gather : Cond.selects RX11 yX11_gather yX11_gather ∈ sm_TB := sm_inT (sm_v9 (q := (yX11_gather, 56)) (List.mem_of_getElem? (i := 15) rfl)) rfl
set_option maxRecDepth 20000 in
theorem hkX11_gather : sm_fd sm_pg 231 = some miX11_gather := by rfl
theorem hhX11_gather : sm_fd sm_hds 231 = some (yX11_gather, cX11_gather, 6, none) := sm_hh hkX11_gather
theorem wCX11_findCommons : Cond.code yX11_findCommons cX11_findCommons 5 none ∈ sm_TB := sm_inT (sm_t7 (List.mem_of_getElem? (i := 221) rfl)) rfl
theorem hdX11_findCommons : sm_hdk sm_TB yX11_findCommons cX11_findCommons 5 none 0 := ⟨wCX11_findCommons, wNX11, ⟨neX11.1, neX11.2, by decide +kernel⟩, by decide⟩
theorem wIX11_findCommons : Cond.instanceMethod yX11_findCommons ∈ sm_TB := sm_inT (sm_t7 (List.mem_of_getElem? (i := 220) rfl)) rfl
theorem wVX11_findCommons : Cond.selects RX11 yX11_findCommons yX11_findCommons ∈ sm_TB := sm_inT (sm_v10 (q := (yX11_findCommons, 56)) (List.mem_of_getElem? (i := 0) rfl)) rfl
set_option maxRecDepth 20000 in
theorem hkX11_findCommons : sm_fd sm_pg 232 = some miX11_findCommons := by rfl
theorem hhX11_findCommons : sm_fd sm_hds 232 = some (yX11_findCommons, cX11_findCommons, 5, none) := sm_hh hkX11_findCommons
theorem wCX11_covers : Cond.code yX11_covers cX11_covers 5 (some .boolean) ∈ sm_TB := sm_inT (sm_t7 (List.mem_of_getElem? (i := 229) rfl)) rfl
theorem hdX11_covers : sm_hdk sm_TB yX11_covers cX11_covers 5 (some .boolean) 1 := ⟨wCX11_covers, wNX11, ⟨neX11.1, neX11.2, by decide +kernel⟩, by decide⟩
theorem wIX11_covers : Cond.instanceMethod yX11_covers ∈ sm_TB := sm_inT (sm_t7 (List.mem_of_getElem? (i := 228) rfl)) rfl
theorem wVX11_covers : Cond.selects RX11 yX11_covers yX11_covers ∈ sm_TB := sm_inT (sm_v10 (q := (yX11_covers, 56)) (List.mem_of_getElem? (i := 2) rfl)) rfl
set_option maxRecDepth 20000 in
theorem hkX11_covers : sm_fd sm_pg 233 = some miX11_covers := by rfl
theorem hhX11_covers : sm_fd sm_hds 233 = some (yX11_covers, cX11_covers, 5, (some .boolean)) := sm_hh hkX11_covers
theorem wCX11_chooses : Cond.code yX11_chooses cX11_chooses 5 (some .boolean) ∈ sm_TB := sm_inT (sm_t7 (List.mem_of_getElem? (i := 225) rfl)) rfl
theorem hdX11_chooses : sm_hdk sm_TB yX11_chooses cX11_chooses 5 (some .boolean) 1 := ⟨wCX11_chooses, wNX11, ⟨neX11.1, neX11.2, by decide +kernel⟩, by decide⟩
theorem wIX11_chooses : Cond.instanceMethod yX11_chooses ∈ sm_TB := sm_inT (sm_t7 (List.mem_of_getElem? (i := 224) rfl)) rfl
theorem wVX11_chooses : Cond.selects RX11 yX11_chooses yX11_chooses ∈ sm_TB := sm_inT (sm_v10 (q := (yX11_chooses, 56)) (List.mem_of_getElem? (i := 1) rfl)) rfl
set_option maxRecDepth 20000 in
theorem hkX11_chooses : sm_fd sm_pg 234 = some miX11_chooses := by rfl
theorem hhX11_chooses : sm_fd sm_hds 234 = some (yX11_chooses, cX11_chooses, 5, (some .boolean)) := sm_hh hkX11_chooses
theorem wCX11_cover : Cond.code yX11_cover cX11_cover 3 (some .int) ∈ sm_TB := sm_inT (sm_t7 (List.mem_of_getElem? (i := 213) rfl)) rfl
theorem hdX11_cover : sm_hdk sm_TB yX11_cover cX11_cover 3 (some .int) 1 := ⟨wCX11_cover, wNX11, ⟨neX11.1, neX11.2, by decide +kernel⟩, by decide⟩
theorem wIX11_cover : Cond.instanceMethod yX11_cover ∈ sm_TB := sm_inT (sm_t7 (List.mem_of_getElem? (i := 211) rfl)) rfl
theorem wVX11_cover : Cond.selects RX11 yX11_cover yX11_cover ∈ sm_TB := sm_inT (sm_t7 (List.mem_of_getElem? (i := 212) rfl)) rfl
set_option maxRecDepth 20000 in
theorem hkX11_cover : sm_fd sm_pg 235 = some miX11_cover := by rfl
theorem hhX11_cover : sm_fd sm_hds 235 = some (yX11_cover, cX11_cover, 3, (some .int)) := sm_hh hkX11_cover
theorem wCX11_seen : Cond.code yX11_seen cX11_seen 4 (some .boolean) ∈ sm_TB := sm_inT (sm_t7 (List.mem_of_getElem? (i := 233) rfl)) rfl
theorem hdX11_seen : sm_hdk sm_TB yX11_seen cX11_seen 4 (some .boolean) 2 := ⟨wCX11_seen, wNX11, ⟨neX11.1, neX11.2, by decide +kernel⟩, by decide⟩
theorem wIX11_seen : Cond.instanceMethod yX11_seen ∈ sm_TB := sm_inT (sm_t7 (List.mem_of_getElem? (i := 231) rfl)) rfl
theorem wVX11_seen : Cond.selects RX11 yX11_seen yX11_seen ∈ sm_TB := sm_inT (sm_t7 (List.mem_of_getElem? (i := 232) rfl)) rfl
set_option maxRecDepth 20000 in
theorem hkX11_seen : sm_fd sm_pg 236 = some miX11_seen := by rfl
theorem hhX11_seen : sm_fd sm_hds 236 = some (yX11_seen, cX11_seen, 4, (some .boolean)) := sm_hh hkX11_seen
theorem wCX11_seenColumn : Cond.code yX11_seenColumn cX11_seenColumn 5 (some .long) ∈ sm_TB := sm_inT (sm_t8 (List.mem_of_getElem? (i := 1) rfl)) rfl
theorem hdX11_seenColumn : sm_hdk sm_TB yX11_seenColumn cX11_seenColumn 5 (some .long) 1 := ⟨wCX11_seenColumn, wNX11, ⟨neX11.1, neX11.2, by decide +kernel⟩, by decide⟩
theorem wIX11_seenColumn : Cond.instanceMethod yX11_seenColumn ∈ sm_TB := sm_inT (sm_t8 (List.mem_of_getElem? (i := 0) rfl)) rfl
theorem wVX11_seenColumn : Cond.selects RX11 yX11_seenColumn yX11_seenColumn ∈ sm_TB := sm_inT (sm_v10 (q := (yX11_seenColumn, 56)) (List.mem_of_getElem? (i := 3) rfl)) rfl
set_option maxRecDepth 20000 in
theorem hkX11_seenColumn : sm_fd sm_pg 237 = some miX11_seenColumn := by rfl
theorem hhX11_seenColumn : sm_fd sm_hds 237 = some (yX11_seenColumn, cX11_seenColumn, 5, (some .long)) := sm_hh hkX11_seenColumn
theorem wCX11_columnBy : Cond.code yX11_columnBy cX11_columnBy 5 (some .long) ∈ sm_TB := sm_inT (sm_t8 (List.mem_of_getElem? (i := 16) rfl)) rfl
theorem hdX11_columnBy : sm_hdk sm_TB yX11_columnBy cX11_columnBy 5 (some .long) 1 := ⟨wCX11_columnBy, wNX11, ⟨neX11.1, neX11.2, by decide +kernel⟩, by decide⟩
theorem wIX11_columnBy : Cond.instanceMethod yX11_columnBy ∈ sm_TB := sm_inT (sm_t8 (List.mem_of_getElem? (i := 15) rfl)) rfl
theorem wVX11_columnBy : Cond.selects RX11 yX11_columnBy yX11_columnBy ∈ sm_TB := sm_inT (sm_v10 (q := (yX11_columnBy, 56)) (List.mem_of_getElem? (i := 5) rfl)) rfl
set_option maxRecDepth 20000 in
theorem hkX11_columnBy : sm_fd sm_pg 238 = some miX11_columnBy := by rfl
theorem hhX11_columnBy : sm_fd sm_hds 238 = some (yX11_columnBy, cX11_columnBy, 5, (some .long)) := sm_hh hkX11_columnBy
theorem wCX11_unlike : Cond.code yX11_unlike cX11_unlike 7 (some .int) ∈ sm_TB := sm_inT (sm_t8 (List.mem_of_getElem? (i := 4) rfl)) rfl
theorem hdX11_unlike : sm_hdk sm_TB yX11_unlike cX11_unlike 7 (some .int) 2 := ⟨wCX11_unlike, wNX11, ⟨neX11.1, neX11.2, by decide +kernel⟩, by decide⟩
theorem wSX11_unlike : Cond.static yX11_unlike ∈ sm_TB := sm_inT (sm_t8 (List.mem_of_getElem? (i := 3) rfl)) rfl
set_option maxRecDepth 20000 in
theorem hkX11_unlike : sm_fd sm_pg 239 = some miX11_unlike := by rfl
theorem hhX11_unlike : sm_fd sm_hds 239 = some (yX11_unlike, cX11_unlike, 7, (some .int)) := sm_hh hkX11_unlike
theorem wCX11_wrong : Cond.code yX11_wrong cX11_wrong 2 (some .int) ∈ sm_TB := sm_inT (sm_t7 (List.mem_of_getElem? (i := 237) rfl)) rfl
theorem hdX11_wrong : sm_hdk sm_TB yX11_wrong cX11_wrong 2 (some .int) 1 := ⟨wCX11_wrong, wNX11, ⟨neX11.1, neX11.2, by decide +kernel⟩, by decide⟩
theorem wIX11_wrong : Cond.instanceMethod yX11_wrong ∈ sm_TB := sm_inT (sm_t7 (List.mem_of_getElem? (i := 235) rfl)) rfl
theorem wVX11_wrong : Cond.selects RX11 yX11_wrong yX11_wrong ∈ sm_TB := sm_inT (sm_t7 (List.mem_of_getElem? (i := 236) rfl)) rfl
set_option maxRecDepth 20000 in
theorem hkX11_wrong : sm_fd sm_pg 240 = some miX11_wrong := by rfl
theorem hhX11_wrong : sm_fd sm_hds 240 = some (yX11_wrong, cX11_wrong, 2, (some .int)) := sm_hh hkX11_wrong
theorem wCX11_nearestOf : Cond.code yX11_nearestOf cX11_nearestOf 6 (some .int) ∈ sm_TB := sm_inT (sm_t8 (List.mem_of_getElem? (i := 12) rfl)) rfl
theorem hdX11_nearestOf : sm_hdk sm_TB yX11_nearestOf cX11_nearestOf 6 (some .int) 1 := ⟨wCX11_nearestOf, wNX11, ⟨neX11.1, neX11.2, by decide +kernel⟩, by decide⟩
theorem wIX11_nearestOf : Cond.instanceMethod yX11_nearestOf ∈ sm_TB := sm_inT (sm_t8 (List.mem_of_getElem? (i := 11) rfl)) rfl
theorem wVX11_nearestOf : Cond.selects RX11 yX11_nearestOf yX11_nearestOf ∈ sm_TB := sm_inT (sm_v10 (q := (yX11_nearestOf, 56)) (List.mem_of_getElem? (i := 4) rfl)) rfl
set_option maxRecDepth 20000 in
theorem hkX11_nearestOf : sm_fd sm_pg 241 = some miX11_nearestOf := by rfl
theorem hhX11_nearestOf : sm_fd sm_hds 241 = some (yX11_nearestOf, cX11_nearestOf, 6, (some .int)) := sm_hh hkX11_nearestOf
theorem wCX11_nearest : Cond.code yX11_nearest cX11_nearest 4 (some .int) ∈ sm_TB := sm_inT (sm_t8 (List.mem_of_getElem? (i := 8) rfl)) rfl
theorem hdX11_nearest : sm_hdk sm_TB yX11_nearest cX11_nearest 4 (some .int) 2 := ⟨wCX11_nearest, wNX11, ⟨neX11.1, neX11.2, by decide +kernel⟩, by decide⟩
theorem wIX11_nearest : Cond.instanceMethod yX11_nearest ∈ sm_TB := sm_inT (sm_t8 (List.mem_of_getElem? (i := 6) rfl)) rfl
theorem wVX11_nearest : Cond.selects RX11 yX11_nearest yX11_nearest ∈ sm_TB := sm_inT (sm_t8 (List.mem_of_getElem? (i := 7) rfl)) rfl
set_option maxRecDepth 20000 in
theorem hkX11_nearest : sm_fd sm_pg 242 = some miX11_nearest := by rfl
theorem hhX11_nearest : sm_fd sm_hds 242 = some (yX11_nearest, cX11_nearest, 4, (some .int)) := sm_hh hkX11_nearest
theorem wCX11_costOfEnds : Cond.code yX11_costOfEnds cX11_costOfEnds 4 (some .int) ∈ sm_TB := sm_inT (sm_t8 (List.mem_of_getElem? (i := 28) rfl)) rfl
theorem hdX11_costOfEnds : sm_hdk sm_TB yX11_costOfEnds cX11_costOfEnds 4 (some .int) 0 := ⟨wCX11_costOfEnds, wNX11, ⟨neX11.1, neX11.2, by decide +kernel⟩, by decide⟩
theorem wIX11_costOfEnds : Cond.instanceMethod yX11_costOfEnds ∈ sm_TB := sm_inT (sm_t8 (List.mem_of_getElem? (i := 27) rfl)) rfl
theorem wVX11_costOfEnds : Cond.selects RX11 yX11_costOfEnds yX11_costOfEnds ∈ sm_TB := sm_inT (sm_v10 (q := (yX11_costOfEnds, 56)) (List.mem_of_getElem? (i := 7) rfl)) rfl
set_option maxRecDepth 20000 in
theorem hkX11_costOfEnds : sm_fd sm_pg 243 = some miX11_costOfEnds := by rfl
theorem hhX11_costOfEnds : sm_fd sm_hds 243 = some (yX11_costOfEnds, cX11_costOfEnds, 4, (some .int)) := sm_hh hkX11_costOfEnds
theorem wCX11_mend : Cond.code yX11_mend cX11_mend 4 none ∈ sm_TB := sm_inT (sm_t8 (List.mem_of_getElem? (i := 24) rfl)) rfl
theorem hdX11_mend : sm_hdk sm_TB yX11_mend cX11_mend 4 none 0 := ⟨wCX11_mend, wNX11, ⟨neX11.1, neX11.2, by decide +kernel⟩, by decide⟩
theorem wIX11_mend : Cond.instanceMethod yX11_mend ∈ sm_TB := sm_inT (sm_t8 (List.mem_of_getElem? (i := 23) rfl)) rfl
theorem wVX11_mend : Cond.selects RX11 yX11_mend yX11_mend ∈ sm_TB := sm_inT (sm_v10 (q := (yX11_mend, 56)) (List.mem_of_getElem? (i := 6) rfl)) rfl
set_option maxRecDepth 20000 in
theorem hkX11_mend : sm_fd sm_pg 244 = some miX11_mend := by rfl
theorem hhX11_mend : sm_fd sm_hds 244 = some (yX11_mend, cX11_mend, 4, none) := sm_hh hkX11_mend
theorem wCX11_mended : Cond.code yX11_mended cX11_mended 2 (some .int) ∈ sm_TB := sm_inT (sm_t8 (List.mem_of_getElem? (i := 20) rfl)) rfl
theorem hdX11_mended : sm_hdk sm_TB yX11_mended cX11_mended 2 (some .int) 1 := ⟨wCX11_mended, wNX11, ⟨neX11.1, neX11.2, by decide +kernel⟩, by decide⟩
theorem wIX11_mended : Cond.instanceMethod yX11_mended ∈ sm_TB := sm_inT (sm_t8 (List.mem_of_getElem? (i := 18) rfl)) rfl
theorem wVX11_mended : Cond.selects RX11 yX11_mended yX11_mended ∈ sm_TB := sm_inT (sm_t8 (List.mem_of_getElem? (i := 19) rfl)) rfl
set_option maxRecDepth 20000 in
theorem hkX11_mended : sm_fd sm_pg 245 = some miX11_mended := by rfl
theorem hhX11_mended : sm_fd sm_hds 245 = some (yX11_mended, cX11_mended, 2, (some .int)) := sm_hh hkX11_mended
theorem wCX11_mendedShaft : Cond.code yX11_mendedShaft cX11_mendedShaft 2 (some .int) ∈ sm_TB := sm_inT (sm_t8 (List.mem_of_getElem? (i := 32) rfl)) rfl
theorem hdX11_mendedShaft : sm_hdk sm_TB yX11_mendedShaft cX11_mendedShaft 2 (some .int) 1 := ⟨wCX11_mendedShaft, wNX11, ⟨neX11.1, neX11.2, by decide +kernel⟩, by decide⟩
theorem wIX11_mendedShaft : Cond.instanceMethod yX11_mendedShaft ∈ sm_TB := sm_inT (sm_t8 (List.mem_of_getElem? (i := 30) rfl)) rfl
theorem wVX11_mendedShaft : Cond.selects RX11 yX11_mendedShaft yX11_mendedShaft ∈ sm_TB := sm_inT (sm_t8 (List.mem_of_getElem? (i := 31) rfl)) rfl
set_option maxRecDepth 20000 in
theorem hkX11_mendedShaft : sm_fd sm_pg 246 = some miX11_mendedShaft := by rfl
theorem hhX11_mendedShaft : sm_fd sm_hds 246 = some (yX11_mendedShaft, cX11_mendedShaft, 2, (some .int)) := sm_hh hkX11_mendedShaft
theorem wCX11_isMoved : Cond.code yX11_isMoved cX11_isMoved 7 (some .boolean) ∈ sm_TB := sm_inT (sm_t8 (List.mem_of_getElem? (i := 40) rfl)) rfl
theorem hdX11_isMoved : sm_hdk sm_TB yX11_isMoved cX11_isMoved 7 (some .boolean) 2 := ⟨wCX11_isMoved, wNX11, ⟨neX11.1, neX11.2, by decide +kernel⟩, by decide⟩
theorem wIX11_isMoved : Cond.instanceMethod yX11_isMoved ∈ sm_TB := sm_inT (sm_t8 (List.mem_of_getElem? (i := 39) rfl)) rfl
theorem wVX11_isMoved : Cond.selects RX11 yX11_isMoved yX11_isMoved ∈ sm_TB := sm_inT (sm_v10 (q := (yX11_isMoved, 56)) (List.mem_of_getElem? (i := 8) rfl)) rfl
set_option maxRecDepth 20000 in
theorem hkX11_isMoved : sm_fd sm_pg 247 = some miX11_isMoved := by rfl
theorem hhX11_isMoved : sm_fd sm_hds 247 = some (yX11_isMoved, cX11_isMoved, 7, (some .boolean)) := sm_hh hkX11_isMoved
theorem wCX11_shifted : Cond.code yX11_shifted cX11_shifted 4 (some .int) ∈ sm_TB := sm_inT (sm_t8 (List.mem_of_getElem? (i := 36) rfl)) rfl
theorem hdX11_shifted : sm_hdk sm_TB yX11_shifted cX11_shifted 4 (some .int) 1 := ⟨wCX11_shifted, wNX11, ⟨neX11.1, neX11.2, by decide +kernel⟩, by decide⟩
theorem wIX11_shifted : Cond.instanceMethod yX11_shifted ∈ sm_TB := sm_inT (sm_t8 (List.mem_of_getElem? (i := 34) rfl)) rfl
theorem wVX11_shifted : Cond.selects RX11 yX11_shifted yX11_shifted ∈ sm_TB := sm_inT (sm_t8 (List.mem_of_getElem? (i := 35) rfl)) rfl
set_option maxRecDepth 20000 in
theorem hkX11_shifted : sm_fd sm_pg 248 = some miX11_shifted := by rfl
theorem hhX11_shifted : sm_fd sm_hds 248 = some (yX11_shifted, cX11_shifted, 4, (some .int)) := sm_hh hkX11_shifted
theorem wCX11_about : Cond.code yX11_about cX11_about 4 (some .int) ∈ sm_TB := sm_inT (sm_t8 (List.mem_of_getElem? (i := 44) rfl)) rfl
theorem hdX11_about : sm_hdk sm_TB yX11_about cX11_about 4 (some .int) 1 := ⟨wCX11_about, wNX11, ⟨neX11.1, neX11.2, by decide +kernel⟩, by decide⟩
theorem wIX11_about : Cond.instanceMethod yX11_about ∈ sm_TB := sm_inT (sm_t8 (List.mem_of_getElem? (i := 42) rfl)) rfl
theorem wVX11_about : Cond.selects RX11 yX11_about yX11_about ∈ sm_TB := sm_inT (sm_t8 (List.mem_of_getElem? (i := 43) rfl)) rfl
set_option maxRecDepth 20000 in
theorem hkX11_about : sm_fd sm_pg 249 = some miX11_about := by rfl
theorem hhX11_about : sm_fd sm_hds 249 = some (yX11_about, cX11_about, 4, (some .int)) := sm_hh hkX11_about
theorem wCJ6_numberOfTrailingZeros_0f7a4 : Cond.code yJ6_numberOfTrailingZeros_0f7a4 cJ6_numberOfTrailingZeros_0f7a4 2 (some .int) ∈ sm_TB := sm_inT (sm_t4 (List.mem_of_getElem? (i := 179) rfl)) rfl
theorem hdJ6_numberOfTrailingZeros_0f7a4 : sm_hdk sm_TB yJ6_numberOfTrailingZeros_0f7a4 cJ6_numberOfTrailingZeros_0f7a4 2 (some .int) 1 := ⟨wCJ6_numberOfTrailingZeros_0f7a4, wNJ6, ⟨neJ6.1, neJ6.2, by decide +kernel⟩, by decide⟩
theorem wSJ6_numberOfTrailingZeros_0f7a4 : Cond.static yJ6_numberOfTrailingZeros_0f7a4 ∈ sm_TB := sm_inT (sm_t4 (List.mem_of_getElem? (i := 178) rfl)) rfl
set_option maxRecDepth 20000 in
theorem hkJ6_numberOfTrailingZeros_0f7a4 : sm_fd sm_pg 250 = some miJ6_numberOfTrailingZeros_0f7a4 := by rfl
theorem hhJ6_numberOfTrailingZeros_0f7a4 : sm_fd sm_hds 250 = some (yJ6_numberOfTrailingZeros_0f7a4, cJ6_numberOfTrailingZeros_0f7a4, 2, (some .int)) := sm_hh hkJ6_numberOfTrailingZeros_0f7a4
theorem wCJ6_bitCount_0f7a4 : Cond.code yJ6_bitCount_0f7a4 cJ6_bitCount_0f7a4 1 (some .int) ∈ sm_TB := sm_inT (sm_t5 (List.mem_of_getElem? (i := 73) rfl)) rfl
theorem hdJ6_bitCount_0f7a4 : sm_hdk sm_TB yJ6_bitCount_0f7a4 cJ6_bitCount_0f7a4 1 (some .int) 1 := ⟨wCJ6_bitCount_0f7a4, wNJ6, ⟨neJ6.1, neJ6.2, by decide +kernel⟩, by decide⟩
theorem wSJ6_bitCount_0f7a4 : Cond.static yJ6_bitCount_0f7a4 ∈ sm_TB := sm_inT (sm_t5 (List.mem_of_getElem? (i := 72) rfl)) rfl
set_option maxRecDepth 20000 in
theorem hkJ6_bitCount_0f7a4 : sm_fd sm_pg 251 = some miJ6_bitCount_0f7a4 := by rfl
theorem hhJ6_bitCount_0f7a4 : sm_fd sm_hds 251 = some (yJ6_bitCount_0f7a4, cJ6_bitCount_0f7a4, 1, (some .int)) := sm_hh hkJ6_bitCount_0f7a4
theorem wCJ13_numberOfTrailingZeros_95d88 : Cond.code yJ13_numberOfTrailingZeros_95d88 cJ13_numberOfTrailingZeros_95d88 3 (some .int) ∈ sm_TB := sm_inT (sm_t4 (List.mem_of_getElem? (i := 176) rfl)) rfl
theorem hdJ13_numberOfTrailingZeros_95d88 : sm_hdk sm_TB yJ13_numberOfTrailingZeros_95d88 cJ13_numberOfTrailingZeros_95d88 3 (some .int) 1 := ⟨wCJ13_numberOfTrailingZeros_95d88, wNJ13, ⟨neJ13.1, neJ13.2, by decide +kernel⟩, by decide⟩
theorem wSJ13_numberOfTrailingZeros_95d88 : Cond.static yJ13_numberOfTrailingZeros_95d88 ∈ sm_TB := sm_inT (sm_t4 (List.mem_of_getElem? (i := 175) rfl)) rfl
set_option maxRecDepth 20000 in
theorem hkJ13_numberOfTrailingZeros_95d88 : sm_fd sm_pg 252 = some miJ13_numberOfTrailingZeros_95d88 := by rfl
theorem hhJ13_numberOfTrailingZeros_95d88 : sm_fd sm_hds 252 = some (yJ13_numberOfTrailingZeros_95d88, cJ13_numberOfTrailingZeros_95d88, 3, (some .int)) := sm_hh hkJ13_numberOfTrailingZeros_95d88
theorem wCJ13_bitCount_95d88 : Cond.code yJ13_bitCount_95d88 cJ13_bitCount_95d88 2 (some .int) ∈ sm_TB := sm_inT (sm_t5 (List.mem_of_getElem? (i := 29) rfl)) rfl
theorem hdJ13_bitCount_95d88 : sm_hdk sm_TB yJ13_bitCount_95d88 cJ13_bitCount_95d88 2 (some .int) 1 := ⟨wCJ13_bitCount_95d88, wNJ13, ⟨neJ13.1, neJ13.2, by decide +kernel⟩, by decide⟩
theorem wSJ13_bitCount_95d88 : Cond.static yJ13_bitCount_95d88 ∈ sm_TB := sm_inT (sm_t5 (List.mem_of_getElem? (i := 28) rfl)) rfl
set_option maxRecDepth 20000 in
theorem hkJ13_bitCount_95d88 : sm_fd sm_pg 253 = some miJ13_bitCount_95d88 := by rfl
theorem hhJ13_bitCount_95d88 : sm_fd sm_hds 253 = some (yJ13_bitCount_95d88, cJ13_bitCount_95d88, 2, (some .int)) := sm_hh hkJ13_bitCount_95d88
theorem wCJ7_fill_d0a16 : Cond.code yJ7_fill_d0a16 cJ7_fill_d0a16 5 none ∈ sm_TB := sm_inT (sm_t4 (List.mem_of_getElem? (i := 122) rfl)) rfl
theorem hdJ7_fill_d0a16 : sm_hdk sm_TB yJ7_fill_d0a16 cJ7_fill_d0a16 5 none 2 := ⟨wCJ7_fill_d0a16, wNJ7, ⟨neJ7.1, neJ7.2, by decide +kernel⟩, by decide⟩
theorem wSJ7_fill_d0a16 : Cond.static yJ7_fill_d0a16 ∈ sm_TB := sm_inT (sm_t4 (List.mem_of_getElem? (i := 121) rfl)) rfl
set_option maxRecDepth 20000 in
theorem hkJ7_fill_d0a16 : sm_fd sm_pg 254 = some miJ7_fill_d0a16 := by rfl
theorem hhJ7_fill_d0a16 : sm_fd sm_hds 254 = some (yJ7_fill_d0a16, cJ7_fill_d0a16, 5, none) := sm_hh hkJ7_fill_d0a16
theorem wCJ7_fill_53178 : Cond.code yJ7_fill_53178 cJ7_fill_53178 4 none ∈ sm_TB := sm_inT (sm_t1 (List.mem_of_getElem? (i := 47) rfl)) rfl
theorem hdJ7_fill_53178 : sm_hdk sm_TB yJ7_fill_53178 cJ7_fill_53178 4 none 2 := ⟨wCJ7_fill_53178, wNJ7, ⟨neJ7.1, neJ7.2, by decide +kernel⟩, by decide⟩
theorem wSJ7_fill_53178 : Cond.static yJ7_fill_53178 ∈ sm_TB := sm_inT (sm_t1 (List.mem_of_getElem? (i := 46) rfl)) rfl
set_option maxRecDepth 20000 in
theorem hkJ7_fill_53178 : sm_fd sm_pg 255 = some miJ7_fill_53178 := by rfl
theorem hhJ7_fill_53178 : sm_fd sm_hds 255 = some (yJ7_fill_53178, cJ7_fill_53178, 4, none) := sm_hh hkJ7_fill_53178
theorem wCL_cell : Cond.code yL_cell cL_cell 2 (some .int) ∈ sm_TB := sm_inT (sm_t6 (List.mem_of_getElem? (i := 9) rfl)) rfl
theorem hdL_cell : sm_hdk sm_TB yL_cell cL_cell 2 (some .int) 2 := ⟨wCL_cell, wNL, ⟨neL.1, neL.2, by decide +kernel⟩, by decide⟩
theorem wSL_cell : Cond.static yL_cell ∈ sm_TB := sm_inT (sm_t6 (List.mem_of_getElem? (i := 8) rfl)) rfl
set_option maxRecDepth 20000 in
theorem hkL_cell : sm_fd sm_pg 256 = some miL_cell := by rfl
theorem hhL_cell : sm_fd sm_hds 256 = some (yL_cell, cL_cell, 2, (some .int)) := sm_hh hkL_cell
theorem wCJ0_length_8abf5 : Cond.code yJ0_length_8abf5 cJ0_length_8abf5 1 (some .int) ∈ sm_TB := sm_inT (sm_t3 (List.mem_of_getElem? (i := 137) rfl)) rfl
theorem hdJ0_length_8abf5 : sm_hdk sm_TB yJ0_length_8abf5 cJ0_length_8abf5 1 (some .int) 0 := ⟨wCJ0_length_8abf5, wNJ0, ⟨neJ0.1, neJ0.2, by decide +kernel⟩, by decide⟩
theorem wIJ0_length_8abf5 : Cond.instanceMethod yJ0_length_8abf5 ∈ sm_TB := sm_inT (sm_t3 (List.mem_of_getElem? (i := 135) rfl)) rfl
theorem wVJ0_length_8abf5 : Cond.selects RJ0 yJ0_length_8abf5 yJ0_length_8abf5 ∈ sm_TB := sm_inT (sm_t3 (List.mem_of_getElem? (i := 136) rfl)) rfl
set_option maxRecDepth 20000 in
theorem hhJ0_length_8abf5 : sm_fd sm_hds 900 = some (yJ0_length_8abf5, cJ0_length_8abf5, 1, (some .int)) := by rfl
theorem wCJ0_charAt_5068e : Cond.code yJ0_charAt_5068e cJ0_charAt_5068e 2 (some .char) ∈ sm_TB := sm_inT (sm_t3 (List.mem_of_getElem? (i := 147) rfl)) rfl
theorem hdJ0_charAt_5068e : sm_hdk sm_TB yJ0_charAt_5068e cJ0_charAt_5068e 2 (some .char) 1 := ⟨wCJ0_charAt_5068e, wNJ0, ⟨neJ0.1, neJ0.2, by decide +kernel⟩, by decide⟩
theorem wIJ0_charAt_5068e : Cond.instanceMethod yJ0_charAt_5068e ∈ sm_TB := sm_inT (sm_t3 (List.mem_of_getElem? (i := 145) rfl)) rfl
theorem wVJ0_charAt_5068e : Cond.selects RJ0 yJ0_charAt_5068e yJ0_charAt_5068e ∈ sm_TB := sm_inT (sm_t3 (List.mem_of_getElem? (i := 146) rfl)) rfl
set_option maxRecDepth 20000 in
theorem hhJ0_charAt_5068e : sm_fd sm_hds 901 = some (yJ0_charAt_5068e, cJ0_charAt_5068e, 2, (some .char)) := by rfl
end
section
/-! THE PURE LEVEL: memories of the class and of the reference; a frame's run, a call, eventually in fuel -/
def xm (I : Nat → Int32) (J : Nat → Int64) (A : Nat → Nat → Int32) (B : Nat → Nat → Int64) (tl : sm_M) : sm_M :=
  .inr (10, [.int (I 0), .int (I 1), .ref 1, .ref 7, .ref 14, .ref 16, .ref 23, .ref 25, .ref 27, .ref 33, .ref 41, .ref 44]) ::
  .inr (3, [.ref 2, .ref 3, .ref 4, .ref 5, .ref 6, .int (I 2), .int (I 3), .int (I 4), .int (I 5), .int (I 6)]) ::
  .inl (0, 2000, .inl (A 0)) ::
  .inl (0, 2000, .inl (A 1)) ::
  .inl (0, 2000, .inl (A 2)) ::
  .inl (0, 208, .inl (A 3)) ::
  .inl (0, 208, .inl (A 4)) ::
  .inr (0, [.ref 1, .int (I 7), .int (I 8), .long (J 0), .ref 8, .ref 9, .ref 10, .ref 11, .ref 12, .ref 13, .int (I 9), .int (I 10)]) ::
  .inl (0, 48, .inl (A 5)) ::
  .inl (1, 48, .inr (.inl (B 0))) ::
  .inl (1, 48, .inr (.inl (B 1))) ::
  .inl (1, 16, .inr (.inl (B 2))) ::
  .inl (1, 16, .inr (.inl (B 3))) ::
  .inl (1, 16, .inr (.inl (B 4))) ::
  .inr (9, [.ref 15, .int (I 11), .int (I 12), .int (I 13), .int (I 14), .int (I 15)]) ::
  .inl (0, 300, .inl (A 6)) ::
  .inr (6, [.ref 14, .ref 1, .int (I 16), .int (I 17), .ref 17, .ref 18, .ref 19, .ref 20, .ref 21, .ref 22, .int (I 18), .int (I 19), .int (I 20), .int (I 21), .int (I 22), .int (I 23), .int (I 24), .int (I 25), .int (I 26), .int (I 27)]) ::
  .inl (0, 1800, .inl (A 7)) ::
  .inl (0, 9, .inl (A 8)) ::
  .inl (0, 9, .inl (A 9)) ::
  .inl (0, 9, .inl (A 10)) ::
  .inl (0, 1600, .inl (A 11)) ::
  .inl (0, 8, .inl (A 12)) ::
  .inr (7, [.ref 7, .ref 24]) ::
  .inl (0, 49, .inl (A 13)) ::
  .inr (5, [.ref 7, .ref 1, .ref 26, .int (I 28)]) ::
  .inl (1, 192, .inr (.inl (B 5))) ::
  .inr (2, [.ref 7, .ref 28, .ref 29, .ref 30, .ref 31, .ref 32, .int (I 29), .int (I 30), .int (I 31), .int (I 32), .int (I 33), .long (J 1), .long (J 2), .int (I 34)]) ::
  .inl (1, 96, .inr (.inl (B 6))) ::
  .inl (1, 96, .inr (.inl (B 7))) ::
  .inl (1, 96, .inr (.inl (B 8))) ::
  .inl (1, 96, .inr (.inl (B 9))) ::
  .inl (0, 96, .inl (A 14)) ::
  .inr (1, [.ref 7, .ref 34, .int (I 35), .ref 35, .int (I 36), .ref 36, .ref 37, .ref 38, .int (I 37), .ref 39, .ref 40, .int (I 38), .int (I 39)]) ::
  .inl (0, 5, .inl (A 15)) ::
  .inl (0, 31, .inl (A 16)) ::
  .inl (1, 31, .inr (.inl (B 10))) ::
  .inl (1, 32, .inr (.inl (B 11))) ::
  .inl (1, 55, .inr (.inl (B 12))) ::
  .inl (0, 16, .inl (A 17)) ::
  .inl (0, 5, .inl (A 18)) ::
  .inr (8, [.ref 7, .ref 42, .ref 43, .int (I 40)]) ::
  .inl (1, 48, .inr (.inl (B 13))) ::
  .inl (1, 48, .inr (.inl (B 14))) ::
  .inr (4, [.ref 7, .ref 1, .ref 41, .ref 45, .long (J 3), .long (J 4), .long (J 5), .long (J 6), .int (I 41), .int (I 42), .int (I 43), .int (I 44), .ref 46, .int (I 45), .int (I 46)]) ::
  .inl (1, 16, .inr (.inl (B 15))) ::
  .inl (0, 48, .inl (A 19)) :: tl
def pf (f : Nat → va_E) (tl : sm_M) : sm_M := f 0 :: f 1 :: f 2 :: f 3 :: f 4 :: f 5 :: f 6 :: f 7 :: f 8 :: f 9 :: f 10 :: f 11 :: f 12 :: f 13 :: f 14 :: f 15 :: f 16 :: f 17 :: f 18 :: f 19 :: f 20 :: f 21 :: f 22 :: f 23 :: f 24 :: f 25 :: f 26 :: f 27 :: f 28 :: f 29 :: f 30 :: f 31 :: f 32 :: f 33 :: f 34 :: f 35 :: f 36 :: f 37 :: f 38 :: f 39 :: f 40 :: f 41 :: f 42 :: f 43 :: f 44 :: f 45 :: f 46 :: tl
def mm (f : Nat → va_E) (I : Nat → Int32) (A : Nat → Nat → Int32) (B : Nat → Nat → Int64) : sm_M := pf f [
  .inr (11, [.int (I 0), .int (I 1), .int (I 2), .int (I 3), .int (I 4), .ref 48, .ref 49, .ref 50, .ref 51, .ref 52, .ref 53, .ref 54, .ref 55, .ref 56, .ref 57, .ref 58, .int (I 5), .int (I 6), .int (I 7), .int (I 8), .int (I 9), .int (I 10), .int (I 11), .int (I 12), .int (I 13), .ref 59, .ref 60, .ref 61, .int (I 14), .ref 62, .ref 63, .ref 64, .ref 65, .int (I 15), .int (I 16), .int (I 17), .int (I 18), .ref 66, .ref 67, .ref 68, .ref 69, .int (I 19), .ref 70, .ref 71, .ref 72, .int (I 20), .ref 73, .ref 74, .int (I 21), .ref 75, .int (I 22), .ref 76, .ref 77, .int (I 23), .int (I 24), .int (I 25)]),
  .inl (0, 2000, .inl (A 0)),
  .inl (0, 2000, .inl (A 1)),
  .inl (0, 2000, .inl (A 2)),
  .inl (0, 2000, .inl (A 3)),
  .inl (0, 48, .inl (A 4)),
  .inl (0, 16, .inl (A 5)),
  .inl (0, 48, .inl (A 6)),
  .inl (0, 48, .inl (A 7)),
  .inl (1, 48, .inr (.inl (B 0))),
  .inl (1, 48, .inr (.inl (B 1))),
  .inl (0, 300, .inl (A 8)),
  .inl (0, 8, .inl (A 9)),
  .inl (0, 8, .inl (A 10)),
  .inl (0, 1600, .inl (A 11)),
  .inl (0, 4000, .inl (A 12)),
  .inl (0, 9, .inl (A 13)),
  .inl (0, 9, .inl (A 14)),
  .inl (0, 10, .inl (A 15)),
  .inl (0, 5000, .inl (A 16)),
  .inl (0, 5000, .inl (A 17)),
  .inl (0, 5000, .inl (A 18)),
  .inl (0, 2400, .inl (A 19)),
  .inl (1, 96, .inr (.inl (B 2))),
  .inl (1, 96, .inr (.inl (B 3))),
  .inl (0, 96, .inl (A 20)),
  .inl (0, 2304, .inl (A 21)),
  .inl (0, 7, .inl (A 22)),
  .inl (0, 64, .inl (A 23)),
  .inl (0, 6, .inl (A 24)),
  .inl (1, 48, .inr (.inl (B 4)))]
/-- the String constants -/
def sm_wd : Nat → List Int32
  | 1001 => [98, 108, 111, 99, 107]
  | 1002 => [116, 104, 114, 101, 97, 100]
  | 1003 => [116, 114, 101, 97, 100]
  | 1004 => [116, 105, 101]
  | 1005 => [116, 111]
  | 1006 => [109, 105, 114, 114, 111, 114]
  | 1007 => [98, 97, 99, 107]
  | 1008 => [112, 108, 117, 115]
  | _ => []
/-- String.length, String.charAt of the constants -/
def sm_bi : Nat → List Value → sm_M → sm_R
  | 900, [.ref w], M => (match Nat.ble 1001 w && Nat.ble w 1008 with
    | true => some (M, some (.int (Int32.ofNat (sm_wd w).length)))
    | false => none)
  | 901, [.ref w, .int i], M => (match Nat.ble 1001 w && Nat.ble w 1008 with
    | true => if i < 0 ∨ (sm_wd w).length ≤ i.toNatClampNeg then none else some (M, some (.int ((sm_wd w).getD i.toNatClampNeg 0)))
    | false => none)
  | _, _, _ => none
abbrev sm_S : Type := Option (Nat × (Nat → Int32))
/-- from here the frame runs to its end, with Post; D: calls that may nest -/
def zW (D : Nat) (sc : sm_S) (mi : sm_MI) (pc : Nat) (L : sm_L) (st : List Value) (M : sm_M) (Post : sm_M → Option Value → Prop) : Prop := ∃ M' r, Post M' r ∧ ∃ n0, ∀ N d n, n0 ≤ N → D ≤ d → n0 ≤ n → sm_run (sm_sim sm_pg sm_bi sc d N) sc mi n pc L st M = some (M', r)
/-- a call comes to its end, with Post -/
def zC (D : Nat) (sc : sm_S) (y : Nat) (as : List Value) (M : sm_M) (Post : sm_M → Option Value → Prop) : Prop := ∃ M' r, Post M' r ∧ ∃ n0, ∀ N d, n0 ≤ N → D ≤ d → sm_sim sm_pg sm_bi sc d N y as M = some (M', r)
theorem zw_nx {D : Nat} {sc : sm_S} {mi : sm_MI} {pc : Nat} {L : sm_L} {st : List Value} {M : sm_M} {Post : sm_M → Option Value → Prop} {i : Instr} {pc' : Nat} {L' : sm_L} {st' : List Value} {M1 : sm_M} (hi : sm_fd mi.2.2.2.2.1 pc = some i) (h : ∀ cal k, sm_ex cal sc mi k pc (sm_kp mi.2.2.2.2.2.1 pc L) st M i = k pc' L' st' M1) (hn : zW D sc mi pc' L' st' M1 Post) : zW D sc mi pc L st M Post := by
  obtain ⟨M', r, hp, n0, hn⟩ := hn
  refine ⟨M', r, hp, n0 + 1, fun N d n h1 h2 h3 => ?_⟩
  obtain ⟨n, rfl⟩ : ∃ q, n = q + 1 := ⟨n - 1, by omega⟩
  simp only [sm_run, hi, h]
  exact hn N d n (by omega) h2 (by omega)
theorem zw_br {D : Nat} {sc : sm_S} {mi : sm_MI} {pc : Nat} {L : sm_L} {st : List Value} {M : sm_M} {Post : sm_M → Option Value → Prop} {i : Instr} {c : Prop} {dc : Decidable c} {pc1 pc2 : Nat} {L1 L2 : sm_L} {st1 st2 : List Value} {M1 M2 : sm_M} (hi : sm_fd mi.2.2.2.2.1 pc = some i) (h : ∀ cal k, sm_ex cal sc mi k pc (sm_kp mi.2.2.2.2.2.1 pc L) st M i = if c then k pc1 L1 st1 M1 else k pc2 L2 st2 M2) (h1 : c → zW D sc mi pc1 L1 st1 M1 Post) (h2 : ¬ c → zW D sc mi pc2 L2 st2 M2 Post) : zW D sc mi pc L st M Post := by
  by_cases hc : c
  · exact zw_nx hi (fun cal k => by rw [h, if_pos hc]) (h1 hc)
  · exact zw_nx hi (fun cal k => by rw [h, if_neg hc]) (h2 hc)
theorem zw_ix {D : Nat} {sc : sm_S} {mi : sm_MI} {pc : Nat} {L : sm_L} {st : List Value} {M : sm_M} {Post : sm_M → Option Value → Prop} {i : Instr} {x : Int32} {n pc' : Nat} {L' : sm_L} {st' : List Value} {M1 : sm_M} (hi : sm_fd mi.2.2.2.2.1 pc = some i) (h : ∀ cal k, sm_ex cal sc mi k pc (sm_kp mi.2.2.2.2.2.1 pc L) st M i = if x < 0 ∨ n ≤ x.toNatClampNeg then none else k pc' L' st' M1) (hin : vp_in x n) (hn : zW D sc mi pc' L' st' M1 Post) : zW D sc mi pc L st M Post :=
  zw_nx hi (fun cal k => by rw [h, if_neg hin]) hn
theorem zw_call {D D' : Nat} {sc : sm_S} {mi : sm_MI} {pc : Nat} {L : sm_L} {st : List Value} {M : sm_M} {Post Qp : sm_M → Option Value → Prop} {i : Instr} {pc' : Nat} {L' : sm_L} {r0 as : List Value} {y : Nat} (hi : sm_fd mi.2.2.2.2.1 pc = some i) (h : ∀ cal k, sm_ex cal sc mi k pc (sm_kp mi.2.2.2.2.2.1 pc L) st M i = sm_inv k pc' L' r0 (cal y as M)) (hc : zC D' sc y as M Qp) (hD : D' ≤ D) (hn : ∀ M1 v, Qp M1 v → zW D sc mi (pc' + 3) L' (v.toList ++ r0) M1 Post) : zW D sc mi pc L st M Post := by
  obtain ⟨M1, v, hq, n1, hc⟩ := hc
  obtain ⟨M', r, hp, n0, hn⟩ := hn M1 v hq
  refine ⟨M', r, hp, n0 + n1 + 1, fun N d n h1 h2 h3 => ?_⟩
  obtain ⟨n, rfl⟩ : ∃ q, n = q + 1 := ⟨n - 1, by omega⟩
  simp only [sm_run, hi, h, hc N d (by omega) (by omega), sm_inv]
  exact hn N d n (by omega) h2 (by omega)
theorem zw_ret {D : Nat} {sc : sm_S} {mi : sm_MI} {pc : Nat} {L : sm_L} {st : List Value} {M M' : sm_M} {r : Option Value} {Post : sm_M → Option Value → Prop} {i : Instr} (hi : sm_fd mi.2.2.2.2.1 pc = some i) (h : ∀ cal k, sm_ex cal sc mi k pc (sm_kp mi.2.2.2.2.2.1 pc L) st M i = some (M', r)) (hp : Post M' r) : zW D sc mi pc L st M Post := by
  refine ⟨M', r, hp, 1, fun N d n h1 h2 h3 => ?_⟩
  obtain ⟨n, rfl⟩ : ∃ q, n = q + 1 := ⟨n - 1, by omega⟩
  simp only [sm_run, hi, h]
/-- a boolean answer -/
theorem zw_bret {D : Nat} {sc : sm_S} {mi : sm_MI} {pc : Nat} {L : sm_L} {x : Int32} {M : sm_M} {Post : sm_M → Option Value → Prop} (hi : sm_fd mi.2.2.2.2.1 pc = some .ireturn) (hr : mi.2.2.2.1 = some .boolean) (hx : x = 0 ∨ x = 1) (hp : Post M (some (.int x))) : zW D sc mi pc L [.int x] M Post := by
  refine zw_ret (M' := M) (r := some (.int x)) hi (fun cal k => ?_) hp
  show (match sm_zr mi.2.2.2.1 x with | true => sm_ret (some (.int x)) M [] | false => none) = _
  rw [hr]
  rcases hx with rfl | rfl <;> rfl
theorem sm_msk_msk : ∀ (L : sm_L) (bs : List Bool), sm_msk bs (sm_msk bs L) = sm_msk bs L := by
  intro L
  induction L with
  | nil => intro bs; cases bs <;> rfl
  | cons o t ih =>
    intro bs
    cases bs with
    | nil => rfl
    | cons b bs => cases b <;> simp [sm_msk, ih]
theorem sm_kp_kp (ks : List (Nat × List Bool)) (pc : Nat) (L : sm_L) : sm_kp ks pc (sm_kp ks pc L) = sm_kp ks pc L := by
  unfold sm_kp
  cases sm_fd ks pc with
  | none => rfl
  | some bs => exact sm_msk_msk L bs
/-- at a loop's head: only what lives -/
theorem zw_kp {D : Nat} {sc : sm_S} {mi : sm_MI} {pc : Nat} {L : sm_L} {st : List Value} {M : sm_M} {Post : sm_M → Option Value → Prop} (h : zW D sc mi pc (sm_kp mi.2.2.2.2.2.1 pc L) st M Post) : zW D sc mi pc L st M Post := by
  obtain ⟨M', r, hp, n0, h⟩ := h
  refine ⟨M', r, hp, n0, fun N d n h1 h2 h3 => ?_⟩
  have h4 := h N d n h1 h2 h3
  cases n with
  | zero => cases h4
  | succ n =>
    simp only [sm_run, sm_kp_kp] at h4 ⊢
    exact h4
theorem zc_of {D : Nat} {sc : sm_S} {y : Nat} {mi : sm_MI} {as : List Value} {M : sm_M} {Post : sm_M → Option Value → Prop} (hm : sm_fd sm_pg y = some mi) (hb : Nat.ble (sm_ent as).length mi.2.2.1 = true) (h : zW D sc mi 0 (sm_pad mi.2.2.1 (sm_ent as)) [] M Post) : zC (D + 1) sc y as M Post := by
  obtain ⟨M', r, hp, n0, h⟩ := h
  refine ⟨M', r, hp, n0, fun N d h1 h2 => ?_⟩
  obtain ⟨d, rfl⟩ : ∃ q, d = q + 1 := ⟨d - 1, by omega⟩
  simp only [sm_sim, hm, hb]
  exact h N d N (by omega) (by omega) (by omega)
theorem zc_post {D : Nat} {sc : sm_S} {y : Nat} {as : List Value} {M : sm_M} {P Q : sm_M → Option Value → Prop} (h : zC D sc y as M P) (hpq : ∀ M r, P M r → Q M r) : zC D sc y as M Q := by
  obtain ⟨M', r, hp, h⟩ := h
  exact ⟨M', r, hpq _ _ hp, h⟩
theorem zc_up {D D' : Nat} {sc : sm_S} {y : Nat} {as : List Value} {M : sm_M} {P : sm_M → Option Value → Prop} (h : zC D sc y as M P) (hd : D ≤ D') : zC D' sc y as M P := by
  obtain ⟨M', r, hp, n0, h⟩ := h
  exact ⟨M', r, hp, n0, fun N d h1 h2 => h N d h1 (by omega)⟩
theorem zw_post {D : Nat} {sc : sm_S} {mi : sm_MI} {pc : Nat} {L : sm_L} {st : List Value} {M : sm_M} {P Q : sm_M → Option Value → Prop} (h : zW D sc mi pc L st M P) (hpq : ∀ M r, P M r → Q M r) : zW D sc mi pc L st M Q := by
  obtain ⟨M', r, hp, h⟩ := h
  exact ⟨M', r, hpq _ _ hp, h⟩
end
section
/-! small methods: JDK's, and those that touch nothing -/
/-- the memory stays, the answer is v -/
abbrev zR (M : sm_M) (v : Value) : sm_M → Option Value → Prop := fun M' r => M' = M ∧ r = some v
/-- the bits of a word -/
def lb (x : Int64) (i : Nat) : Bool := x.toBitVec.getLsbD i
def ib (x : Int32) (i : Nat) : Bool := x.toBitVec.getLsbD i
set_option maxHeartbeats 4000000 in
set_option maxRecDepth 20000 in
theorem cHas (sc : sm_S) (M : sm_M) (s : Int64) (m : Int32) : zC 1 sc 150 [.long s, .int m] M (zR M (.int (if lg_cmp ((s.toUInt64 >>> (m.toInt64.toUInt64 &&& Int64.toUInt64 63)).toInt64 &&& 1) 0 = 0 then 0 else 1))) := by
  refine zc_of hkX10_has rfl ?_
  refine zw_nx rfl (fun _ _ => rfl) ?_
  refine zw_nx rfl (fun _ _ => rfl) ?_
  refine zw_nx rfl (fun _ _ => rfl) ?_
  refine zw_nx rfl (fun _ _ => rfl) ?_
  refine zw_nx rfl (fun _ _ => rfl) ?_
  refine zw_nx rfl (fun _ _ => rfl) ?_
  refine zw_nx rfl (fun _ _ => rfl) ?_
  refine zw_br rfl (fun _ _ => rfl) (fun (hc : lg_cmp ((s.toUInt64 >>> (m.toInt64.toUInt64 &&& Int64.toUInt64 63)).toInt64 &&& 1) 0 = 0) => ?_) (fun (hc : ¬ (lg_cmp ((s.toUInt64 >>> (m.toInt64.toUInt64 &&& Int64.toUInt64 63)).toInt64 &&& 1) 0 = 0)) => ?_)
  · refine zw_nx rfl (fun _ _ => rfl) ?_
    exact zw_ret rfl (fun _ _ => rfl) (⟨rfl, by rw [if_pos hc]; rfl⟩)
  · refine zw_nx rfl (fun _ _ => rfl) ?_
    refine zw_nx rfl (fun _ _ => rfl) ?_
    exact zw_ret rfl (fun _ _ => rfl) (⟨rfl, by rw [if_neg hc]; rfl⟩)
set_option maxHeartbeats 4000000 in
set_option maxRecDepth 20000 in
theorem cFirstBits (sc : sm_S) (M : sm_M) (n : Int32) : zC 1 sc 151 [.int n] M (zR M (.long ((1 <<< (n.toInt64 &&& 63)) - 1))) := by
  refine zc_of hkX10_firstBits rfl ?_
  repeat (refine zw_nx rfl (fun _ _ => rfl) ?_)
  exact zw_ret rfl (fun _ _ => rfl) (⟨rfl, rfl⟩)
set_option maxHeartbeats 4000000 in
set_option maxRecDepth 20000 in
theorem cMoved (sc : sm_S) (M : sm_M) (x : Int64) (n b : Int32) : zC 2 sc 152 [.long x, .int n, .int b] M (zR M (.long (((x <<< (b.toInt64 &&& 63)) ||| (x.toUInt64 >>> ((n - b).toInt64.toUInt64 &&& Int64.toUInt64 63)).toInt64) &&& ((1 <<< (n.toInt64 &&& 63)) - 1)))) := by
  refine zc_of hkX10_moved rfl ?_
  repeat (refine zw_nx rfl (fun _ _ => rfl) ?_)
  refine zw_call rfl (fun _ _ => rfl) (cFirstBits sc M n) (by decide) ?_
  rintro M1 v ⟨rfl, rfl⟩
  refine zw_nx rfl (fun _ _ => rfl) ?_
  exact zw_ret rfl (fun _ _ => rfl) (⟨rfl, rfl⟩)
end
section
/-! memories: what is read behind a write; Arrays.fill -/
theorem sm_get_set : ∀ {M : sm_M} {a : Nat} {e0 : va_E} (e : va_E), sm_get M a = some e0 → sm_get (sm_set M a e) a = some e := by
  intro M
  induction M with
  | nil => intro a e0 e h; cases h
  | cons c t ih =>
    intro a e0 e h
    cases a with
    | zero => rfl
    | succ a => exact ih (a := a) e h
theorem sm_set_set : ∀ (M : sm_M) (a : Nat) (e e2 : va_E), sm_set (sm_set M a e) a e2 = sm_set M a e2 := by
  intro M
  induction M with
  | nil => intro a e e2; rfl
  | cons c t ih =>
    intro a e e2
    cases a with
    | zero => rfl
    | succ a => show _ :: sm_set (sm_set t a e) a e2 = _ :: sm_set t a e2; rw [ih]
theorem sm_set_self : ∀ {M : sm_M} {a : Nat} {e : va_E}, sm_get M a = some e → sm_set M a e = M := by
  intro M
  induction M with
  | nil => intro a e h; cases h
  | cons c t ih =>
    intro a e h
    cases a with
    | zero => cases h; rfl
    | succ a => show _ :: sm_set t a e = _ :: t; rw [ih (a := a) h]
set_option maxHeartbeats 4000000 in
set_option maxRecDepth 20000 in
theorem cFillI_loop (sc : sm_S) (M : sm_M) (a n : Nat) (g : Nat → Int32) (v : Int32) (hg : sm_get M a = some (.inl (0, n, .inl g))) (hn : n < 2 ^ 31) : ∀ (k i : Nat), i + k = n → zW 0 sc miJ7_fill_53178 5 [some (.ref a), some (.int v), some (.int (nI i)), some (.int (nI n))] [] (sm_set M a (.inl (0, n, .inl (fun j => if j < i then v else g j)))) (fun M' r => M' = sm_set M a (.inl (0, n, .inl (fun j => if j < n then v else g j))) ∧ r = none) := by
  intro k
  induction k with
  | zero =>
    intro i hi
    have e : i = n := by omega
    subst e
    refine zw_nx rfl (fun _ _ => rfl) ?_
    refine zw_nx rfl (fun _ _ => rfl) ?_
    first | refine zw_br rfl (fun _ _ => rfl) (fun _ => ?_) (fun h9 => absurd (nI_le (Nat.le_refl i) hn) h9) | refine zw_nx rfl (fun _ _ => rfl) ?_
    exact zw_ret rfl (fun _ _ => rfl) (⟨rfl, rfl⟩)
  | succ k ih =>
    intro i hi
    refine zw_nx rfl (fun _ _ => rfl) ?_
    refine zw_nx rfl (fun _ _ => rfl) ?_
    first | refine zw_br rfl (fun _ _ => rfl) (fun h9 => absurd h9 (nI_ge (by omega) hn)) (fun _ => ?_) | refine zw_nx rfl (fun _ _ => rfl) ?_
    refine zw_nx rfl (fun _ _ => rfl) ?_
    refine zw_nx rfl (fun _ _ => rfl) ?_
    refine zw_nx rfl (fun _ _ => rfl) ?_
    have hg2 := sm_get_set (.inl (0, n, .inl (fun j => if j < i then v else g j))) hg
    refine zw_ix (x := nI i) (n := n) (pc' := 14) (L' := [some (.ref a), some (.int v), some (.int (nI i)), some (.int (nI n))]) (st' := []) (M1 := sm_set (sm_set M a (.inl (0, n, .inl (fun j => if j < i then v else g j)))) a (.inl (0, n, .inl (upd (fun j => if j < i then v else g j) (nI i).toNatClampNeg v)))) rfl (fun cal k => ?_) (vp_in_nI (by omega) hn) ?_
    · show sm_ia _ a _ = _
      unfold sm_ia
      rw [hg2]
      rfl
    · rw [nI_clamp (by omega), sm_set_set]
      have e : upd (fun j => if j < i then v else g j) i v = fun j => if j < i + 1 then v else g j := by
        funext j
        unfold upd
        by_cases h : j = i
        · rw [if_pos h, if_pos (by omega)]
        · rw [if_neg h]
          dsimp only
          by_cases h2 : j < i
          · rw [if_pos h2, if_pos (by omega)]
          · rw [if_neg h2, if_neg (by omega)]
      rw [e]
      refine zw_nx rfl (fun _ _ => rfl) ?_
      refine zw_nx rfl (fun _ _ => rfl) ?_
      have h := ih (i + 1) (by omega)
      rw [nI_succ] at h
      exact h
set_option maxHeartbeats 4000000 in
set_option maxRecDepth 20000 in
theorem cFillI (sc : sm_S) (M : sm_M) (a n : Nat) (g : Nat → Int32) (v : Int32) (hg : sm_get M a = some (.inl (0, n, .inl g))) (ha : Nat.beq a sm_SC = false) (hn : n < 2 ^ 31) : zC 1 sc 255 [.ref a, .int v] M (fun M' r => M' = sm_set M a (.inl (0, n, .inl (fun j => if j < n then v else g j))) ∧ r = none) := by
  refine zc_of hkJ7_fill_53178 rfl ?_
  refine zw_nx rfl (fun _ _ => rfl) ?_
  refine zw_nx rfl (fun _ _ => rfl) ?_
  refine zw_nx rfl (fun _ _ => rfl) ?_
  refine zw_nx (pc' := 4) (L' := [some (.ref a), some (.int v), some (.int 0), none]) (st' := [.int (nI n)]) (M1 := M) rfl (fun cal k => ?_) ?_
  · show (match Nat.beq a sm_SC with | true => _ | false => sm_len M a _) = _
    rw [ha]
    show sm_len M a _ = _
    unfold sm_len
    rw [hg]
    rfl
  · refine zw_nx rfl (fun _ _ => rfl) ?_
    have h := cFillI_loop sc M a n g v hg hn n 0 (by omega)
    have e : (fun j => if j < 0 then v else g j) = g := by funext j; simp
    rw [e, sm_set_self hg] at h
    exact h
set_option maxHeartbeats 4000000 in
set_option maxRecDepth 20000 in
theorem cFillL_loop (sc : sm_S) (M : sm_M) (a n : Nat) (g : Nat → Int64) (v : Int64) (hg : sm_get M a = some (.inl (1, n, .inr (.inl g)))) (hn : n < 2 ^ 31) : ∀ (k i : Nat), i + k = n → zW 0 sc miJ7_fill_d0a16 6 [some (.ref a), some (.long v), none, some (.int (nI i)), some (.int (nI n))] [] (sm_set M a (.inl (1, n, .inr (.inl (fun j => if j < i then v else g j))))) (fun M' r => M' = sm_set M a (.inl (1, n, .inr (.inl (fun j => if j < n then v else g j)))) ∧ r = none) := by
  intro k
  induction k with
  | zero =>
    intro i hi
    have e : i = n := by omega
    subst e
    refine zw_nx rfl (fun _ _ => rfl) ?_
    refine zw_nx rfl (fun _ _ => rfl) ?_
    first | refine zw_br rfl (fun _ _ => rfl) (fun _ => ?_) (fun h9 => absurd (nI_le (Nat.le_refl i) hn) h9) | refine zw_nx rfl (fun _ _ => rfl) ?_
    exact zw_ret rfl (fun _ _ => rfl) (⟨rfl, rfl⟩)
  | succ k ih =>
    intro i hi
    refine zw_nx rfl (fun _ _ => rfl) ?_
    refine zw_nx rfl (fun _ _ => rfl) ?_
    first | refine zw_br rfl (fun _ _ => rfl) (fun h9 => absurd h9 (nI_ge (by omega) hn)) (fun _ => ?_) | refine zw_nx rfl (fun _ _ => rfl) ?_
    refine zw_nx rfl (fun _ _ => rfl) ?_
    refine zw_nx rfl (fun _ _ => rfl) ?_
    refine zw_nx rfl (fun _ _ => rfl) ?_
    have hg2 := sm_get_set (.inl (1, n, .inr (.inl (fun j => if j < i then v else g j)))) hg
    refine zw_ix (x := nI i) (n := n) (pc' := 16) (L' := [some (.ref a), some (.long v), none, some (.int (nI i)), some (.int (nI n))]) (st' := []) (M1 := sm_set (sm_set M a (.inl (1, n, .inr (.inl (fun j => if j < i then v else g j))))) a (.inl (1, n, .inr (.inl (vp_updL (fun j => if j < i then v else g j) (nI i).toNatClampNeg v))))) rfl (fun cal k => ?_) (vp_in_nI (by omega) hn) ?_
    · show sm_la _ a _ = _
      unfold sm_la
      rw [hg2]
      rfl
    · rw [nI_clamp (by omega), sm_set_set]
      have e : vp_updL (fun j => if j < i then v else g j) i v = fun j => if j < i + 1 then v else g j := by
        funext j
        unfold vp_updL
        by_cases h : j = i
        · rw [if_pos h, if_pos (by omega)]
        · rw [if_neg h]
          dsimp only
          by_cases h2 : j < i
          · rw [if_pos h2, if_pos (by omega)]
          · rw [if_neg h2, if_neg (by omega)]
      rw [e]
      refine zw_nx rfl (fun _ _ => rfl) ?_
      refine zw_nx rfl (fun _ _ => rfl) ?_
      have h := ih (i + 1) (by omega)
      rw [nI_succ] at h
      exact h
set_option maxHeartbeats 4000000 in
set_option maxRecDepth 20000 in
theorem cFillL (sc : sm_S) (M : sm_M) (a n : Nat) (g : Nat → Int64) (v : Int64) (hg : sm_get M a = some (.inl (1, n, .inr (.inl g)))) (ha : Nat.beq a sm_SC = false) (hn : n < 2 ^ 31) : zC 1 sc 254 [.ref a, .long v] M (fun M' r => M' = sm_set M a (.inl (1, n, .inr (.inl (fun j => if j < n then v else g j)))) ∧ r = none) := by
  refine zc_of hkJ7_fill_d0a16 rfl ?_
  refine zw_nx rfl (fun _ _ => rfl) ?_
  refine zw_nx rfl (fun _ _ => rfl) ?_
  refine zw_nx rfl (fun _ _ => rfl) ?_
  refine zw_nx (pc' := 4) (L' := [some (.ref a), some (.long v), none, some (.int 0), none]) (st' := [.int (nI n)]) (M1 := M) rfl (fun cal k => ?_) ?_
  · show (match Nat.beq a sm_SC with | true => _ | false => sm_len M a _) = _
    rw [ha]
    show sm_len M a _ = _
    unfold sm_len
    rw [hg]
    rfl
  · refine zw_nx rfl (fun _ _ => rfl) ?_
    have h := cFillL_loop sc M a n g v hg hn n 0 (by omega)
    have e : (fun j => if j < 0 then v else g j) = g := by funext j; simp
    rw [e, sm_set_self hg] at h
    exact h
end
section
/-! Ledger: what was told, and how it stands at THE LOOK -/
set_option maxHeartbeats 4000000 in
set_option maxRecDepth 20000 in
theorem cDrop (sc : sm_S) (I : Nat → Int32) (J : Nat → Int64) (A : Nat → Nat → Int32) (B : Nat → Nat → Int64) (tl : sm_M) : zC 1 sc 35 [.ref 1] (xm I J A B tl) (fun M r => M = xm (upd I 3 (I 2)) J A B tl ∧ r = none) := by
  refine zc_of hkX3_dropStaged rfl ?_
  repeat (refine zw_nx rfl (fun _ _ => rfl) ?_)
  exact zw_ret rfl (fun _ _ => rfl) (⟨rfl, rfl⟩)
set_option maxHeartbeats 4000000 in
set_option maxRecDepth 20000 in
/-- valueOf, timeOf -/
theorem cValueOf (sc : sm_S) (I : Nat → Int32) (J : Nat → Int64) (A : Nat → Nat → Int32) (B : Nat → Nat → Int64) (tl : sm_M) (s : Nat) (hs : s < 208) : zC 1 sc 32 [.ref 1, .int (nI s)] (xm I J A B tl) (zR (xm I J A B tl) (.int (A 3 s))) := by
  refine zc_of hkX3_valueOf rfl ?_
  refine zw_nx rfl (fun _ _ => rfl) ?_
  first | refine zw_br rfl (fun _ _ => rfl) (fun h9 => absurd h9 (nI_pos (by omega))) (fun _ => ?_) | refine zw_nx rfl (fun _ _ => rfl) ?_
  refine zw_nx rfl (fun _ _ => rfl) ?_
  refine zw_nx rfl (fun _ _ => rfl) ?_
  first | refine zw_br rfl (fun _ _ => rfl) (fun h9 => absurd h9 (nI_ge (a := s) (b := 208) hs (by decide))) (fun _ => ?_) | refine zw_nx rfl (fun _ _ => rfl) ?_
  refine zw_nx rfl (fun _ _ => rfl) ?_
  refine zw_nx rfl (fun _ _ => rfl) ?_
  refine zw_nx rfl (fun _ _ => rfl) ?_
  refine zw_ix rfl (fun _ _ => rfl) (vp_in_nI hs (by decide)) ?_
  refine zw_nx rfl (fun _ _ => rfl) ?_
  exact zw_ret rfl (fun _ _ => rfl) (⟨rfl, by rw [nI_clamp (by omega)]⟩)
set_option maxHeartbeats 4000000 in
set_option maxRecDepth 20000 in
theorem cTimeOf (sc : sm_S) (I : Nat → Int32) (J : Nat → Int64) (A : Nat → Nat → Int32) (B : Nat → Nat → Int64) (tl : sm_M) (s : Nat) (hs : s < 208) : zC 1 sc 33 [.ref 1, .int (nI s)] (xm I J A B tl) (zR (xm I J A B tl) (.int (A 4 s))) := by
  refine zc_of hkX3_timeOf rfl ?_
  refine zw_nx rfl (fun _ _ => rfl) ?_
  first | refine zw_br rfl (fun _ _ => rfl) (fun h9 => absurd h9 (nI_pos (by omega))) (fun _ => ?_) | refine zw_nx rfl (fun _ _ => rfl) ?_
  refine zw_nx rfl (fun _ _ => rfl) ?_
  refine zw_nx rfl (fun _ _ => rfl) ?_
  first | refine zw_br rfl (fun _ _ => rfl) (fun h9 => absurd h9 (nI_ge (a := s) (b := 208) hs (by decide))) (fun _ => ?_) | refine zw_nx rfl (fun _ _ => rfl) ?_
  refine zw_nx rfl (fun _ _ => rfl) ?_
  refine zw_nx rfl (fun _ _ => rfl) ?_
  refine zw_nx rfl (fun _ _ => rfl) ?_
  refine zw_ix rfl (fun _ _ => rfl) (vp_in_nI hs (by decide)) ?_
  refine zw_nx rfl (fun _ _ => rfl) ?_
  exact zw_ret rfl (fun _ _ => rfl) (⟨rfl, by rw [nI_clamp (by omega)]⟩)
/-- the arrays behind one more staged entry -/
def stA (A : Nat → Nat → Int32) (k : Nat) (s v t : Int32) : Nat → Nat → Int32 := va_up (va_up (va_up A 0 (upd (A 0) k s)) 1 (upd (A 1) k v)) 2 (upd (A 2) k t)
set_option maxHeartbeats 4000000 in
set_option maxRecDepth 20000 in
theorem cStage (sc : sm_S) (I : Nat → Int32) (J : Nat → Int64) (A : Nat → Nat → Int32) (B : Nat → Nat → Int64) (tl : sm_M) (s v : Int32) (k : Nat) (hk : I 3 = nI k) (hkb : k < 2 ^ 30) : zC 1 sc 36 [.ref 1, .int s, .int v] (xm I J A B tl) (fun M r => M = xm (upd I 3 (nI (k + 1))) J (if k < 2000 then stA A k s v (I 4 + 1) else A) B tl ∧ r = none) := by
  refine zc_of hkX3_stage rfl ?_
  refine zw_nx rfl (fun _ _ => rfl) ?_
  refine zw_nx rfl (fun _ _ => rfl) ?_
  refine zw_nx rfl (fun _ _ => rfl) ?_
  have e1 : I 3 + 1 = nI (k + 1) := by rw [hk, nI_1]
  have ec : (I 3).toNatClampNeg = k := by rw [hk, nI_clamp (by omega)]
  refine zw_br rfl (fun _ _ => rfl) (fun hc => ?_) (fun hc => ?_)
  · have hk2 : ¬ k < 2000 := fun h => by
      rw [hk] at hc
      exact nI_ge (a := k) (b := 2000) h (by decide) hc
    repeat (refine zw_nx rfl (fun _ _ => rfl) ?_)
    exact zw_ret rfl (fun _ _ => rfl) (⟨by rw [if_neg hk2, ← e1]; rfl, rfl⟩)
  · have hk2 : k < 2000 := by
      rcases Nat.lt_or_ge k 2000 with h | h
      · exact h
      · exact absurd (by rw [hk]; exact nI_le (a := 2000) h (by omega)) hc
    have hin : vp_in (I 3) 2000 := by rw [hk]; exact vp_in_nI hk2 (by decide)
    refine zw_nx rfl (fun _ _ => rfl) ?_
    refine zw_nx rfl (fun _ _ => rfl) ?_
    refine zw_nx rfl (fun _ _ => rfl) ?_
    refine zw_nx rfl (fun _ _ => rfl) ?_
    refine zw_nx rfl (fun _ _ => rfl) ?_
    refine zw_ix rfl (fun _ _ => rfl) (hin) ?_
    refine zw_nx rfl (fun _ _ => rfl) ?_
    refine zw_nx rfl (fun _ _ => rfl) ?_
    refine zw_nx rfl (fun _ _ => rfl) ?_
    refine zw_nx rfl (fun _ _ => rfl) ?_
    refine zw_nx rfl (fun _ _ => rfl) ?_
    refine zw_ix rfl (fun _ _ => rfl) (hin) ?_
    refine zw_nx rfl (fun _ _ => rfl) ?_
    refine zw_nx rfl (fun _ _ => rfl) ?_
    refine zw_nx rfl (fun _ _ => rfl) ?_
    refine zw_nx rfl (fun _ _ => rfl) ?_
    refine zw_nx rfl (fun _ _ => rfl) ?_
    refine zw_nx rfl (fun _ _ => rfl) ?_
    refine zw_nx rfl (fun _ _ => rfl) ?_
    refine zw_nx rfl (fun _ _ => rfl) ?_
    refine zw_ix rfl (fun _ _ => rfl) (hin) ?_
    repeat (refine zw_nx rfl (fun _ _ => rfl) ?_)
    exact zw_ret rfl (fun _ _ => rfl) (⟨by rw [if_pos hk2, ← e1, ← ec]; rfl, rfl⟩)
end
section
/-! Ledger: forget, replay -/
/-- the last i below n with p -/
def zlast (p : Nat → Bool) : Nat → Option Nat
  | 0 => none
  | n + 1 => if p n then some n else zlast p n
theorem zlast_some {p : Nat → Bool} : ∀ {n i : Nat}, zlast p n = some i → i < n ∧ p i = true ∧ ∀ j, i < j → j < n → p j = false := by
  intro n
  induction n with
  | zero => intro i h; cases h
  | succ n ih =>
    intro i h
    unfold zlast at h
    split at h
    · rename_i hp
      cases h
      exact ⟨by omega, hp, fun j h1 h2 => by omega⟩
    · rename_i hp
      obtain ⟨h1, h2, h3⟩ := ih h
      refine ⟨by omega, h2, fun j h4 h5 => ?_⟩
      by_cases h6 : j = n
      · subst h6; simpa using hp
      · exact h3 j h4 (by omega)
theorem zlast_none {p : Nat → Bool} : ∀ {n : Nat}, zlast p n = none → ∀ j, j < n → p j = false := by
  intro n
  induction n with
  | zero => intro h j hj; omega
  | succ n ih =>
    intro h j hj
    unfold zlast at h
    split at h
    · cases h
    · rename_i hp
      by_cases h6 : j = n
      · subst h6; simpa using hp
      · exact ih h j (by omega)
theorem zlast_cong {p q : Nat → Bool} : ∀ {n : Nat}, (∀ i, i < n → p i = q i) → zlast p n = zlast q n := by
  intro n
  induction n with
  | zero => intro _; rfl
  | succ n ih =>
    intro h
    unfold zlast
    rw [h n (by omega), ih (fun i hi => h i (by omega))]
theorem zlast_cut {p : Nat → Bool} {m : Nat} : ∀ {n : Nat}, m ≤ n → (∀ i, m ≤ i → i < n → p i = false) → zlast p n = zlast p m := by
  intro n
  induction n with
  | zero => intro h _; rw [show m = 0 by omega]
  | succ n ih =>
    intro h hp
    by_cases hm : m = n + 1
    · rw [hm]
    · rw [show zlast p (n + 1) = zlast p n from by rw [zlast, hp n (by omega) (by omega)]; rfl]
      exact ih (by omega) (fun i h1 h2 => hp i h1 (by omega))
/-- a slot's value and time by the first i entries -/
def nvF (sl vl : Nat → Int32) (i s : Nat) : Int32 := match zlast (fun j => decide (sl j = nI s)) i with
  | some j => vl j
  | none => if s < 48 then -1 else 0
def ntF (sl tm : Nat → Int32) (i s : Nat) : Int32 := match zlast (fun j => decide (sl j = nI s)) i with
  | some j => tm j
  | none => -1
theorem nvF_succ {sl vl : Nat → Int32} {i k : Nat} (hk : sl i = nI k) (hkb : k < 2 ^ 31) {s : Nat} (hs : s < 2 ^ 31) : nvF sl vl (i + 1) s = if s = k then vl i else nvF sl vl i s := by
  unfold nvF
  by_cases h : s = k
  · subst h
    rw [if_pos rfl, zlast, if_pos (by simpa using hk)]
  · rw [if_neg h, zlast, if_neg]
    simp only [decide_eq_true_eq, hk]
    exact fun e => h ((nI_eq hkb hs).mp e).symm
theorem ntF_succ {sl tm : Nat → Int32} {i k : Nat} (hk : sl i = nI k) (hkb : k < 2 ^ 31) {s : Nat} (hs : s < 2 ^ 31) : ntF sl tm (i + 1) s = if s = k then tm i else ntF sl tm i s := by
  unfold ntF
  by_cases h : s = k
  · subst h
    rw [if_pos rfl, zlast, if_pos (by simpa using hk)]
  · rw [if_neg h, zlast, if_neg]
    simp only [decide_eq_true_eq, hk]
    exact fun e => h ((nI_eq hkb hs).mp e).symm
/-- nowValues behind forget -/
def fgV (g : Nat → Int32) (i : Nat) : Nat → Int32 := fun j => if j < i then -1 else if j < 208 then 0 else g j
set_option maxHeartbeats 4000000 in
set_option maxRecDepth 20000 in
theorem cForget_loop (sc : sm_S) (I : Nat → Int32) (J : Nat → Int64) (A : Nat → Nat → Int32) (B : Nat → Nat → Int64) (tl : sm_M) (g h4 : Nat → Int32) : ∀ (k i : Nat), i + k = 48 → zW 1 sc miX3_forget 18 [some (.ref 1), some (.int (nI i))] [] (xm I J (va_up (va_up A 3 (fgV g i)) 4 h4) B tl) (fun M r => M = xm I J (va_up (va_up A 3 (fgV g 48)) 4 h4) B tl ∧ r = none) := by
  intro k
  induction k with
  | zero =>
    intro i hi
    have e : i = 48 := by omega
    subst e
    refine zw_nx rfl (fun _ _ => rfl) ?_
    refine zw_nx rfl (fun _ _ => rfl) ?_
    refine zw_nx rfl (fun _ _ => rfl) ?_
    exact zw_ret rfl (fun _ _ => rfl) (⟨rfl, rfl⟩)
  | succ k ih =>
    intro i hi
    refine zw_nx rfl (fun _ _ => rfl) ?_
    refine zw_nx rfl (fun _ _ => rfl) ?_
    first | refine zw_br rfl (fun _ _ => rfl) (fun h9 => absurd h9 (nI_ge (a := i) (b := 48) (by omega) (by decide))) (fun _ => ?_) | refine zw_nx rfl (fun _ _ => rfl) ?_
    refine zw_nx rfl (fun _ _ => rfl) ?_
    refine zw_nx rfl (fun _ _ => rfl) ?_
    refine zw_nx rfl (fun _ _ => rfl) ?_
    refine zw_nx rfl (fun _ _ => rfl) ?_
    refine zw_nx rfl (fun _ _ => rfl) ?_
    refine zw_nx rfl (fun _ _ => rfl) ?_
    have e0 : (0 : Int32) + nI i = nI i := by rw [show (0 : Int32) = nI 0 from nI_0.symm, nI_add, Nat.zero_add]
    refine zw_ix rfl (fun _ _ => rfl) (show vp_in ((0 : Int32) + nI i) 208 by rw [e0]; exact vp_in_nI (by omega) (by decide)) ?_
    refine zw_nx rfl (fun _ _ => rfl) ?_
    refine zw_nx rfl (fun _ _ => rfl) ?_
    have h := ih (i + 1) (by omega)
    rw [nI_succ] at h
    have e : upd (fgV g i) ((0 : Int32) + nI i).toNatClampNeg (-1) = fgV g (i + 1) := by
      rw [e0, nI_clamp (by omega)]
      funext j
      unfold upd fgV
      by_cases h1 : j = i
      · rw [if_pos h1, if_pos (by omega)]
      · rw [if_neg h1]
        by_cases h2 : j < i
        · rw [if_pos h2, if_pos (show j < i + 1 by omega)]
        · rw [if_neg h2, if_neg (show ¬ j < i + 1 by omega)]
    rw [← e] at h
    exact h
set_option maxHeartbeats 4000000 in
set_option maxRecDepth 20000 in
theorem cForget (sc : sm_S) (I : Nat → Int32) (J : Nat → Int64) (A : Nat → Nat → Int32) (B : Nat → Nat → Int64) (tl : sm_M) : zC 2 sc 39 [.ref 1] (xm I J A B tl) (fun M r => M = xm I J (va_up (va_up A 3 (fgV (A 3) 48)) 4 (fun j => if j < 208 then -1 else A 4 j)) B tl ∧ r = none) := by
  refine zc_of hkX3_forget rfl ?_
  refine zw_nx rfl (fun _ _ => rfl) ?_
  refine zw_nx rfl (fun _ _ => rfl) ?_
  refine zw_nx rfl (fun _ _ => rfl) ?_
  refine zw_call rfl (fun _ _ => rfl) (cFillI sc (xm I J A B tl) 5 208 (A 3) 0 rfl rfl (by decide)) (by decide) ?_
  rintro M1 v ⟨rfl, rfl⟩
  refine zw_nx rfl (fun _ _ => rfl) ?_
  refine zw_nx rfl (fun _ _ => rfl) ?_
  refine zw_nx rfl (fun _ _ => rfl) ?_
  refine zw_call rfl (fun _ _ => rfl) (cFillI sc (xm I J (va_up A 3 (fun j => if j < 208 then 0 else A 3 j)) B tl) 6 208 (A 4) (-1) rfl rfl (by decide)) (by decide) ?_
  rintro M1 v ⟨rfl, rfl⟩
  refine zw_nx rfl (fun _ _ => rfl) ?_
  refine zw_nx rfl (fun _ _ => rfl) ?_
  have h := cForget_loop sc I J A B tl (A 3) (fun j => if j < 208 then -1 else A 4 j) 48 0 (by omega)
  have e : fgV (A 3) 0 = fun j => if j < 208 then 0 else A 3 j := by
    funext j
    unfold fgV
    rw [if_neg (by omega)]
  rw [e] at h
  exact h
theorem fgV_nv (sl vl g : Nat → Int32) {s : Nat} (hs : s < 208) : fgV g 48 s = nvF sl vl 0 s := by
  unfold fgV nvF zlast
  by_cases h : s < 48
  · rw [if_pos h]; simp [h]
  · rw [if_neg h, if_pos hs]; simp [h]
/-- what replay begins with: the first i entries stand in the arrays -/
def rpOk (A : Nat → Nat → Int32) (i : Nat) : Prop := ∀ s, s < 208 → A 3 s = nvF (A 0) (A 1) i s ∧ A 4 s = ntF (A 0) (A 2) i s
/-- the entries: slots in range -/
def enOk (A : Nat → Nat → Int32) (n : Nat) : Prop := ∀ i, i < n → ∃ k, k < 208 ∧ A 0 i = nI k
/-- behind replay -/
def rpPost (I : Nat → Int32) (J : Nat → Int64) (A : Nat → Nat → Int32) (B : Nat → Nat → Int64) (tl : sm_M) (n i : Nat) : sm_M → Option Value → Prop := fun M r => r = none ∧ ∃ A' m, M = xm I J A' B tl ∧ (∀ a, a ≠ 3 → a ≠ 4 → A' a = A a) ∧ i ≤ m ∧ m ≤ n ∧ rpOk A' m ∧ (∀ j, i ≤ j → j < m → A 2 j ≤ I 5) ∧ (m = n ∨ I 5 < A 2 m)
theorem rpOk_step {A : Nat → Nat → Int32} {i k : Nat} (h : rpOk A i) (hk : A 0 i = nI k) (hkb : k < 208) : rpOk (va_up (va_up A 3 (upd (A 3) k (A 1 i))) 4 (upd (A 4) k (A 2 i))) (i + 1) := by
  intro s hs
  obtain ⟨h1, h2⟩ := h s hs
  refine ⟨?_, ?_⟩
  · show upd (A 3) k (A 1 i) s = nvF (A 0) (A 1) (i + 1) s
    rw [nvF_succ hk (by omega) (by omega), ← h1]
    rfl
  · show upd (A 4) k (A 2 i) s = ntF (A 0) (A 2) (i + 1) s
    rw [ntF_succ hk (by omega) (by omega), ← h2]
    rfl
set_option maxHeartbeats 4000000 in
set_option maxRecDepth 20000 in
theorem cReplay_loop (sc : sm_S) (I : Nat → Int32) (J : Nat → Int64) (B : Nat → Nat → Int64) (tl : sm_M) (n : Nat) (hn : n ≤ 2000) (hI : I 2 = nI n) : ∀ (k i : Nat) (A : Nat → Nat → Int32), i + k = n → enOk A n → rpOk A i → zW 2 sc miX3_replay 24 [some (.ref 1), none, some (.int (nI i)), none] [] (xm I J A B tl) (rpPost I J A B tl n i) := by
  intro k
  induction k with
  | zero =>
    intro i A hi he hr
    have e : i = n := by omega
    subst e
    refine zw_nx rfl (fun _ _ => rfl) ?_
    refine zw_nx rfl (fun _ _ => rfl) ?_
    refine zw_nx rfl (fun _ _ => rfl) ?_
    first | refine zw_br rfl (fun _ _ => rfl) (fun _ => ?_) (fun h9 => absurd (show I 2 ≤ nI i by rw [hI]; exact Int32.le_refl _) h9) | refine zw_nx rfl (fun _ _ => rfl) ?_
    exact zw_ret rfl (fun _ _ => rfl) (⟨rfl, A, i, rfl, fun _ _ _ => rfl, Nat.le_refl _, Nat.le_refl _, hr, fun j h1 h2 => by omega, Or.inl rfl⟩)
  | succ k ih =>
    intro i A hi he hr
    have ec : (nI i).toNatClampNeg = i := nI_clamp (by omega)
    have hin : vp_in (nI i) 2000 := vp_in_nI (by omega) (by decide)
    obtain ⟨s, hs, hsl⟩ := he i (by omega)
    have ecs : (nI s).toNatClampNeg = s := nI_clamp (by omega)
    have hins : vp_in (nI s) 208 := vp_in_nI hs (by decide)
    refine zw_nx rfl (fun _ _ => rfl) ?_
    refine zw_nx rfl (fun _ _ => rfl) ?_
    refine zw_nx rfl (fun _ _ => rfl) ?_
    first | refine zw_br rfl (fun _ _ => rfl) (fun h9 => absurd h9 (show ¬ I 2 ≤ nI i by rw [hI]; exact nI_ge (by omega) (by omega))) (fun _ => ?_) | refine zw_nx rfl (fun _ _ => rfl) ?_
    refine zw_nx rfl (fun _ _ => rfl) ?_
    refine zw_nx rfl (fun _ _ => rfl) ?_
    first | refine zw_br rfl (fun _ _ => rfl) (fun h9 => absurd h9 (nI_ge (a := i) (b := 2000) (by omega) (by decide))) (fun _ => ?_) | refine zw_nx rfl (fun _ _ => rfl) ?_
    refine zw_nx rfl (fun _ _ => rfl) ?_
    refine zw_nx rfl (fun _ _ => rfl) ?_
    refine zw_nx rfl (fun _ _ => rfl) ?_
    refine zw_ix rfl (fun _ _ => rfl) (hin) ?_
    rw [ec]
    refine zw_nx rfl (fun _ _ => rfl) ?_
    refine zw_nx rfl (fun _ _ => rfl) ?_
    refine zw_br rfl (fun _ _ => rfl) (fun (hc : I 5 < A 2 i) => ?_) (fun (hc : ¬ (I 5 < A 2 i)) => ?_)
    · exact zw_ret rfl (fun _ _ => rfl) (⟨rfl, A, i, rfl, fun _ _ _ => rfl, Nat.le_refl _, by omega, hr, fun j h1 h2 => by omega, Or.inr hc⟩)
    · refine zw_nx rfl (fun _ _ => rfl) ?_
      refine zw_nx rfl (fun _ _ => rfl) ?_
      refine zw_nx rfl (fun _ _ => rfl) ?_
      refine zw_ix rfl (fun _ _ => rfl) (hin) ?_
      rw [ec, hsl]
      refine zw_nx rfl (fun _ _ => rfl) ?_
      refine zw_nx rfl (fun _ _ => rfl) ?_
      first | refine zw_br rfl (fun _ _ => rfl) (fun h9 => absurd h9 (nI_pos (n := s) (by omega))) (fun _ => ?_) | refine zw_nx rfl (fun _ _ => rfl) ?_
      refine zw_nx rfl (fun _ _ => rfl) ?_
      refine zw_nx rfl (fun _ _ => rfl) ?_
      first | refine zw_br rfl (fun _ _ => rfl) (fun h9 => absurd h9 (nI_ge (a := s) (b := 208) hs (by decide))) (fun _ => ?_) | refine zw_nx rfl (fun _ _ => rfl) ?_
      refine zw_nx rfl (fun _ _ => rfl) ?_
      refine zw_nx rfl (fun _ _ => rfl) ?_
      refine zw_nx rfl (fun _ _ => rfl) ?_
      refine zw_nx rfl (fun _ _ => rfl) ?_
      refine zw_nx rfl (fun _ _ => rfl) ?_
      refine zw_nx rfl (fun _ _ => rfl) ?_
      refine zw_ix rfl (fun _ _ => rfl) (hin) ?_
      rw [ec]
      refine zw_ix rfl (fun _ _ => rfl) (hins) ?_
      rw [ecs]
      refine zw_nx rfl (fun _ _ => rfl) ?_
      refine zw_nx rfl (fun _ _ => rfl) ?_
      refine zw_nx rfl (fun _ _ => rfl) ?_
      refine zw_nx rfl (fun _ _ => rfl) ?_
      refine zw_nx rfl (fun _ _ => rfl) ?_
      refine zw_nx rfl (fun _ _ => rfl) ?_
      refine zw_ix rfl (fun _ _ => rfl) (hin) ?_
      rw [ec]
      refine zw_ix rfl (fun _ _ => rfl) (hins) ?_
      rw [ecs]
      refine zw_nx rfl (fun _ _ => rfl) ?_
      refine zw_nx rfl (fun _ _ => rfl) ?_
      have h := ih (i + 1) (va_up (va_up A 3 (upd (A 3) s (A 1 i))) 4 (upd (A 4) s (A 2 i))) (by omega) he (rpOk_step hr hsl hs)
      rw [nI_succ] at h
      refine zw_kp (zw_post h ?_)
      rintro M r ⟨hr0, A', m, h1, h2, h3, h4, h5, h6, h7⟩
      refine ⟨hr0, A', m, h1, fun a ha hb => ?_, by omega, h4, h5, fun j h8 h9 => ?_, h7⟩
      · rw [h2 a ha hb]
        show va_up (va_up A 3 _) 4 _ a = A a
        unfold va_up
        rw [if_neg hb, if_neg ha]
      · by_cases h10 : j = i
        · subst h10; exact Int32.not_lt.mp hc
        · exact h6 j (by omega) h9
set_option maxHeartbeats 4000000 in
set_option maxRecDepth 20000 in
/-- replay(from): from 0 all anew, else on from the entries that stand there -/
theorem cReplay (sc : sm_S) (I : Nat → Int32) (J : Nat → Int64) (A : Nat → Nat → Int32) (B : Nat → Nat → Int64) (tl : sm_M) (n f : Nat) (hn : n ≤ 2000) (hI : I 2 = nI n) (he : enOk A n) (hf : f ≤ n) (hr : 0 < f → rpOk A f) : zC 3 sc 40 [.ref 1, .int (nI f)] (xm I J A B tl) (rpPost (upd I 6 (I 6 + 1)) J A B tl n f) := by
  refine zc_of hkX3_replay rfl ?_
  refine zw_nx rfl (fun _ _ => rfl) ?_
  refine zw_nx rfl (fun _ _ => rfl) ?_
  refine zw_nx rfl (fun _ _ => rfl) ?_
  refine zw_nx rfl (fun _ _ => rfl) ?_
  refine zw_nx rfl (fun _ _ => rfl) ?_
  refine zw_nx rfl (fun _ _ => rfl) ?_
  refine zw_nx rfl (fun _ _ => rfl) ?_
  have hI2 : upd I 6 (I 6 + 1) 2 = nI n := hI
  refine zw_br rfl (fun _ _ => rfl) (fun (hc : (0 : Int32) < nI f) => ?_) (fun (hc : ¬ ((0 : Int32) < nI f)) => ?_)
  · have hf0 : 0 < f := by
      rcases Nat.eq_zero_or_pos f with h | h
      · subst h; exact absurd hc (by decide)
      · exact h
    have hz : (if (0 : Int32) < nI f then nI f else 0) = nI f := if_pos hc
    refine zw_nx rfl (fun _ _ => rfl) ?_
    refine zw_nx rfl (fun _ _ => rfl) ?_
    refine zw_nx rfl (fun _ _ => rfl) ?_
    rw [show (if (Int32.ofInt 0) < nI f then nI f else Int32.ofInt 0) = nI f from hz]
    refine zw_nx rfl (fun _ _ => rfl) ?_
    have h := cReplay_loop sc (upd I 6 (I 6 + 1)) J B tl n hn hI2 (n - f) f A (by omega) he (hr hf0)
    exact zw_kp h
  · have hf0 : f = 0 := by
      rcases Nat.eq_zero_or_pos f with h | h
      · exact h
      · exact absurd (by rw [← nI_0]; exact nI_lt h (by omega)) hc
    subst hf0
    refine zw_nx rfl (fun _ _ => rfl) ?_
    refine zw_call rfl (fun _ _ => rfl) (cForget sc (upd I 6 (I 6 + 1)) J A B tl) (by decide) ?_
    rintro M1 v ⟨rfl, rfl⟩
    refine zw_nx rfl (fun _ _ => rfl) ?_
    refine zw_nx rfl (fun _ _ => rfl) ?_
    refine zw_nx rfl (fun _ _ => rfl) ?_
    rw [show (if (Int32.ofInt 0) < nI 0 then nI 0 else Int32.ofInt 0) = nI 0 from by decide]
    refine zw_nx rfl (fun _ _ => rfl) ?_
    have h := cReplay_loop sc (upd I 6 (I 6 + 1)) J B tl n hn hI2 n 0 (va_up (va_up A 3 (fgV (A 3) 48)) 4 (fun j => if j < 208 then -1 else A 4 j)) (by omega) he (fun s hs => ⟨fgV_nv (A 0) (A 1) (A 3) hs, by
      show (if s < 208 then (-1 : Int32) else A 4 s) = _
      rw [if_pos hs]; rfl⟩)
    refine zw_kp (zw_post h ?_)
    rintro M r ⟨hr0, A', m, h1, h2, h3, h4, h5, h6, h7⟩
    refine ⟨hr0, A', m, h1, fun a ha hb => ?_, h3, h4, h5, h6, h7⟩
    rw [h2 a ha hb]
    unfold va_up
    rw [if_neg hb, if_neg ha]
end
section
/-! Ledger: takeStaged, tellOne, lookAt; the invariant of what was told -/
/-- n entries, time t, look k: slots in range, times from 1 on and not falling, at most t; the arrays of now are those at the look -/
def LInv (I : Nat → Int32) (A : Nat → Nat → Int32) (n t k : Nat) : Prop :=
  I 2 = nI n ∧ I 4 = nI t ∧ I 5 = nI k ∧ n ≤ 2000 ∧ t ≤ 400 ∧ k ≤ t ∧ enOk A n ∧ (∀ i, i < n → ∃ q, 1 ≤ q ∧ q ≤ t ∧ A 2 i = nI q) ∧ (∀ i j, i ≤ j → j < n → A 2 i ≤ A 2 j) ∧
  ∀ s, s < 208 → A 3 s = (match zlast (fun j => decide (A 0 j = nI s ∧ A 2 j ≤ nI k)) n with | some j => A 1 j | none => if s < 48 then -1 else 0) ∧ A 4 s = (match zlast (fun j => decide (A 0 j = nI s ∧ A 2 j ≤ nI k)) n with | some j => A 2 j | none => -1)
/-- cut at the look: the first m entries are those at or ahead of it -/
theorem rp_now {A : Nat → Nat → Int32} {n m : Nat} {lk : Int32} (hm : m ≤ n) (hr : rpOk A m) (hle : ∀ j, j < m → A 2 j ≤ lk) (hgt : m = n ∨ lk < A 2 m) (hmono : ∀ i j, i ≤ j → j < n → A 2 i ≤ A 2 j) : ∀ s, s < 208 → A 3 s = (match zlast (fun j => decide (A 0 j = nI s ∧ A 2 j ≤ lk)) n with | some j => A 1 j | none => if s < 48 then -1 else 0) ∧ A 4 s = (match zlast (fun j => decide (A 0 j = nI s ∧ A 2 j ≤ lk)) n with | some j => A 2 j | none => -1) := by
  intro s hs
  have e1 : zlast (fun j => decide (A 0 j = nI s ∧ A 2 j ≤ lk)) n = zlast (fun j => decide (A 0 j = nI s ∧ A 2 j ≤ lk)) m := by
    refine zlast_cut hm (fun i h1 h2 => ?_)
    simp only [decide_eq_false_iff_not, not_and]
    intro _
    rcases hgt with h | h
    · omega
    · exact Int32.not_le.mpr (Int32.lt_of_lt_of_le h (hmono m i h1 h2))
  have e2 : zlast (fun j => decide (A 0 j = nI s ∧ A 2 j ≤ lk)) m = zlast (fun j => decide (A 0 j = nI s)) m := by
    refine zlast_cong (fun i hi => ?_)
    simp [hle i hi]
  rw [e1, e2]
  exact hr s hs
/-- and back: at the latest look all entries count -/
theorem now_rp {A : Nat → Nat → Int32} {n : Nat} {lk : Int32} (hle : ∀ j, j < n → A 2 j ≤ lk) (h : ∀ s, s < 208 → A 3 s = (match zlast (fun j => decide (A 0 j = nI s ∧ A 2 j ≤ lk)) n with | some j => A 1 j | none => if s < 48 then -1 else 0) ∧ A 4 s = (match zlast (fun j => decide (A 0 j = nI s ∧ A 2 j ≤ lk)) n with | some j => A 2 j | none => -1)) : rpOk A n := by
  intro s hs
  have e2 : zlast (fun j => decide (A 0 j = nI s ∧ A 2 j ≤ lk)) n = zlast (fun j => decide (A 0 j = nI s)) n := by
    refine zlast_cong (fun i hi => ?_)
    simp [hle i hi]
  have h1 := h s hs
  rw [e2] at h1
  exact h1
theorem zlast_agree {A A' : Nat → Nat → Int32} (h0 : A' 0 = A 0) (h2 : A' 2 = A 2) {n s : Nat} {lk : Int32} : zlast (fun j => decide (A' 0 j = nI s ∧ A' 2 j ≤ lk)) n = zlast (fun j => decide (A 0 j = nI s ∧ A 2 j ≤ lk)) n := by rw [h0, h2]
set_option maxHeartbeats 4000000 in
set_option maxRecDepth 20000 in
/-- lookAt(k): the look moves, all else stays -/
theorem cLookAt (sc : sm_S) (I : Nat → Int32) (J : Nat → Int64) (A : Nat → Nat → Int32) (B : Nat → Nat → Int64) (tl : sm_M) (n t k0 k : Nat) (hL : LInv I A n t k0) (hk : k ≤ t) : zC 4 sc 38 [.ref 1, .int (nI k)] (xm I J A B tl) (fun M r => r = none ∧ ∃ A', M = xm (upd (upd I 5 (nI k)) 6 (I 6 + 1)) J A' B tl ∧ (∀ a, a ≠ 3 → a ≠ 4 → A' a = A a) ∧ LInv (upd (upd I 5 (nI k)) 6 (I 6 + 1)) A' n t k) := by
  obtain ⟨h1, h2, h3, h4, h5, h6, h7, h8, h9, h10⟩ := hL
  refine zc_of hkX3_lookAt rfl ?_
  refine zw_nx rfl (fun _ _ => rfl) ?_
  refine zw_nx rfl (fun _ _ => rfl) ?_
  refine zw_nx rfl (fun _ _ => rfl) ?_
  refine zw_nx rfl (fun _ _ => rfl) ?_
  refine zw_nx rfl (fun _ _ => rfl) ?_
  refine zw_call rfl (fun _ _ => rfl) (cReplay sc (upd I 5 (nI k)) J A B tl n 0 h4 h1 h7 (Nat.zero_le _) (fun h => absurd h (by omega))) (by decide) ?_
  rintro M1 v ⟨rfl, A', m, rfl, q1, q2, q3, q4, q5, q6⟩
  refine zw_ret rfl (fun _ _ => rfl) ?_
  have e0 : A' 0 = A 0 := q1 0 (by decide) (by decide)
  have e2 : A' 2 = A 2 := q1 2 (by decide) (by decide)
  refine ⟨rfl, A', rfl, q1, h1, h2, rfl, h4, h5, hk, ?_, by rw [e2]; exact h8, by rw [e2]; exact h9, rp_now q3 q4 (fun j hj => by rw [e2]; exact q5 j (by omega) hj) (by rw [e2]; exact q6) (by rw [e2]; exact h9)⟩
  intro i hi
  rw [e0]
  exact h7 i hi
theorem linv_times {I : Nat → Int32} {A : Nat → Nat → Int32} {n t k : Nat} (h : LInv I A n t k) : ∀ j, j < n → A 2 j ≤ nI t := by
  obtain ⟨h1, h2, h3, h4, h5, h6, h7, h8, h9, h10⟩ := h
  intro j hj
  obtain ⟨q, q1, q2, q3⟩ := h8 j hj
  rw [q3]
  exact nI_le q2 (by omega)
/-- staged entries from n to m -/
def StOk (A : Nat → Nat → Int32) (n m t : Nat) : Prop := ∀ i, n ≤ i → i < m → i < 2000 → (∃ q, q < 208 ∧ A 0 i = nI q) ∧ A 2 i = nI (t + 1)
/-- what a telling that is done leaves of the int variables -/
def tkI (I : Nat → Int32) (m t : Nat) : Nat → Int32 := upd (upd (upd (upd I 2 (nI m)) 4 (nI (t + 1))) 5 (nI (t + 1))) 6 (I 6 + 1)
theorem take_inv {I I' : Nat → Int32} {A A' : Nat → Nat → Int32} {n m t k q : Nat} (hL : LInv I A n t k) (hm : m ≤ 2000) (hnm : n ≤ m) (ht : t < 400) (hst : StOk A n m t) (hI2 : I' 2 = nI m) (hI4 : I' 4 = nI (t + 1)) (hI5 : I' 5 = nI (t + 1)) (q1 : ∀ a, a ≠ 3 → a ≠ 4 → A' a = A a) (q3 : q ≤ m) (q4 : rpOk A' q) (q6 : q = m ∨ nI (t + 1) < A 2 q) : LInv I' A' m (t + 1) (t + 1) := by
  obtain ⟨h1, h2, h3, h4, h5, h6, h7, h8, h9, h10⟩ := hL
  have e0 : A' 0 = A 0 := q1 0 (by decide) (by decide)
  have e2 : A' 2 = A 2 := q1 2 (by decide) (by decide)
  have tm : ∀ i, i < m → ∃ z, 1 ≤ z ∧ z ≤ t + 1 ∧ A 2 i = nI z := by
    intro i hi
    by_cases hin : i < n
    · obtain ⟨z, z1, z2, z3⟩ := h8 i hin
      exact ⟨z, z1, by omega, z3⟩
    · exact ⟨t + 1, by omega, Nat.le_refl _, (hst i (by omega) hi (by omega)).2⟩
  have mono : ∀ i j, i ≤ j → j < m → A 2 i ≤ A 2 j := by
    intro i j hij hj
    by_cases hjn : j < n
    · exact h9 i j hij hjn
    · rw [(hst j (by omega) hj (by omega)).2]
      obtain ⟨z, z1, z2, z3⟩ := tm i (by omega)
      rw [z3]
      exact nI_le z2 (by omega)
  refine ⟨hI2, hI4, hI5, hm, by omega, Nat.le_refl _, fun i hi => ?_, by rw [e2]; exact tm, by rw [e2]; exact mono, ?_⟩
  · rw [e0]
    by_cases hin : i < n
    · exact h7 i hin
    · exact (hst i (by omega) hi (by omega)).1
  · refine rp_now q3 q4 (fun j hj => ?_) (by rw [e2]; exact q6) (by rw [e2]; exact mono)
    rw [e2]
    obtain ⟨z, z1, z2, z3⟩ := tm j (by omega)
    rw [z3]
    exact nI_le z2 (by omega)
set_option maxHeartbeats 4000000 in
set_option maxRecDepth 20000 in
theorem cTake (sc : sm_S) (I : Nat → Int32) (J : Nat → Int64) (A : Nat → Nat → Int32) (B : Nat → Nat → Int64) (tl : sm_M) (n t k m : Nat) (hL : LInv I A n t k) (hm3 : I 3 = nI m) (hnm : n ≤ m) (hmb : m < 2 ^ 30) (hst : StOk A n m t) : zC 4 sc 37 [.ref 1] (xm I J A B tl) (fun M r => if t < 400 ∧ m ≤ 2000 then r = some (.int (nI (t + 1))) ∧ ∃ A', M = xm (tkI I m t) J A' B tl ∧ (∀ a, a ≠ 3 → a ≠ 4 → A' a = A a) ∧ LInv (tkI I m t) A' m (t + 1) (t + 1) else r = some (.int (-1)) ∧ M = xm I J A B tl) := by
  have hL0 := hL
  obtain ⟨h1, h2, h3, h4, h5, h6, h7, h8, h9, h10⟩ := hL
  refine zc_of hkX3_takeStaged rfl ?_
  refine zw_nx rfl (fun _ _ => rfl) ?_
  refine zw_nx rfl (fun _ _ => rfl) ?_
  refine zw_nx rfl (fun _ _ => rfl) ?_
  refine zw_br rfl (fun _ _ => rfl) (fun (hc : (400 : Int32) ≤ I 4) => ?_) (fun (hc : ¬ ((400 : Int32) ≤ I 4)) => ?_)
  · have ht : ¬ (t < 400 ∧ m ≤ 2000) := fun h => by
      rw [h2] at hc
      exact nI_ge (a := t) (b := 400) h.1 (by decide) hc
    refine zw_nx rfl (fun _ _ => rfl) ?_
    exact zw_ret rfl (fun _ _ => rfl) (by rw [if_neg ht]; exact ⟨rfl, rfl⟩)
  · have ht : t < 400 := by
      rcases Nat.lt_or_ge t 400 with h | h
      · exact h
      · exact absurd (by rw [h2]; exact nI_le (a := 400) h (by omega)) hc
    refine zw_nx rfl (fun _ _ => rfl) ?_
    refine zw_nx rfl (fun _ _ => rfl) ?_
    refine zw_nx rfl (fun _ _ => rfl) ?_
    refine zw_br rfl (fun _ _ => rfl) (fun (hd : I 3 ≤ (2000 : Int32)) => ?_) (fun (hd : ¬ (I 3 ≤ (2000 : Int32))) => ?_)
    · have hm : m ≤ 2000 := by
        rcases Nat.lt_or_ge 2000 m with h | h
        · rw [hm3] at hd
          exact absurd hd (nI_ge (a := 2000) h (by omega))
        · exact h
      have e4 : I 4 + 1 = nI (t + 1) := by rw [h2, nI_1]
      have heN : enOk A m := by
        intro i hi
        by_cases hin : i < n
        · exact h7 i hin
        · exact (hst i (by omega) hi (by omega)).1
      have eI : ∀ z, upd (upd (upd I 2 (I 3)) 4 (I 4 + 1)) 5 (I 4 + 1) z = upd (upd (upd I 2 (nI m)) 4 (nI (t + 1))) 5 (nI (t + 1)) z := by rw [hm3, e4]; exact fun _ => rfl
      have eI2 : upd (upd (upd I 2 (I 3)) 4 (I 4 + 1)) 5 (I 4 + 1) = upd (upd (upd I 2 (nI m)) 4 (nI (t + 1))) 5 (nI (t + 1)) := funext eI
      refine zw_nx rfl (fun _ _ => rfl) ?_
      refine zw_nx rfl (fun _ _ => rfl) ?_
      refine zw_nx rfl (fun _ _ => rfl) ?_
      refine zw_nx rfl (fun _ _ => rfl) ?_
      refine zw_br rfl (fun _ _ => rfl) (fun (hk : I 5 = I 4) => ?_) (fun (hk : ¬ (I 5 = I 4)) => ?_)
      · have hkt : k = t := by
          rw [h3, h2] at hk
          exact (nI_eq (by omega) (by omega)).mp hk
        refine zw_nx rfl (fun _ _ => rfl) ?_
        refine zw_nx rfl (fun _ _ => rfl) ?_
        refine zw_nx rfl (fun _ _ => rfl) ?_
        refine zw_nx rfl (fun _ _ => rfl) ?_
        refine zw_nx rfl (fun _ _ => rfl) ?_
        refine zw_nx rfl (fun _ _ => rfl) ?_
        refine zw_nx rfl (fun _ _ => rfl) ?_
        refine zw_nx rfl (fun _ _ => rfl) ?_
        refine zw_nx rfl (fun _ _ => rfl) ?_
        refine zw_nx rfl (fun _ _ => rfl) ?_
        refine zw_nx rfl (fun _ _ => rfl) ?_
        refine zw_nx rfl (fun _ _ => rfl) ?_
        refine zw_nx rfl (fun _ _ => rfl) ?_
        refine zw_nx rfl (fun _ _ => rfl) ?_
        refine zw_nx rfl (fun _ _ => rfl) ?_
        refine zw_nx rfl (fun _ _ => rfl) ?_
        refine zw_nx rfl (fun _ _ => rfl) ?_
        refine zw_nx rfl (fun _ _ => rfl) ?_
        refine zw_nx rfl (fun _ _ => rfl) ?_
        refine zw_nx rfl (fun _ _ => rfl) ?_
        have hrp : 0 < n → rpOk A n := fun _ => now_rp (lk := nI k) (by rw [hkt]; exact linv_times hL0) h10
        have hcal := cReplay sc (upd (upd (upd I 2 (nI m)) 4 (nI (t + 1))) 5 (nI (t + 1))) J A B tl m n hm rfl heN hnm hrp
        rw [← h1, ← eI2] at hcal
        refine zw_call rfl (fun _ _ => rfl) (hcal) (by decide) ?_
        rintro M1 v ⟨rfl, A', q, rfl, q1, q2, q3, q4, q5, q6⟩
        refine zw_nx rfl (fun _ _ => rfl) ?_
        refine zw_nx rfl (fun _ _ => rfl) ?_
        refine zw_ret rfl (fun _ _ => rfl) ?_
        rw [if_pos ⟨ht, hm⟩]
        refine ⟨congrArg (fun z => some (Value.int z)) e4, A', by rw [tkI, ← eI2]; rfl, q1, ?_⟩
        refine take_inv hL0 hm hnm ht hst rfl rfl rfl q1 q3 q4 ?_
        rw [← e4]
        exact q6
      · refine zw_nx rfl (fun _ _ => rfl) ?_
        refine zw_nx rfl (fun _ _ => rfl) ?_
        refine zw_nx rfl (fun _ _ => rfl) ?_
        refine zw_nx rfl (fun _ _ => rfl) ?_
        refine zw_nx rfl (fun _ _ => rfl) ?_
        refine zw_nx rfl (fun _ _ => rfl) ?_
        refine zw_nx rfl (fun _ _ => rfl) ?_
        refine zw_nx rfl (fun _ _ => rfl) ?_
        refine zw_nx rfl (fun _ _ => rfl) ?_
        refine zw_nx rfl (fun _ _ => rfl) ?_
        refine zw_nx rfl (fun _ _ => rfl) ?_
        refine zw_nx rfl (fun _ _ => rfl) ?_
        refine zw_nx rfl (fun _ _ => rfl) ?_
        refine zw_nx rfl (fun _ _ => rfl) ?_
        refine zw_nx rfl (fun _ _ => rfl) ?_
        refine zw_nx rfl (fun _ _ => rfl) ?_
        refine zw_nx rfl (fun _ _ => rfl) ?_
        refine zw_nx rfl (fun _ _ => rfl) ?_
        have hcal := cReplay sc (upd (upd (upd I 2 (nI m)) 4 (nI (t + 1))) 5 (nI (t + 1))) J A B tl m 0 hm rfl heN (Nat.zero_le _) (fun h => absurd h (by omega))
        rw [← eI2] at hcal
        refine zw_call rfl (fun _ _ => rfl) (hcal) (by decide) ?_
        rintro M1 v ⟨rfl, A', q, rfl, q1, q2, q3, q4, q5, q6⟩
        refine zw_nx rfl (fun _ _ => rfl) ?_
        refine zw_nx rfl (fun _ _ => rfl) ?_
        refine zw_ret rfl (fun _ _ => rfl) ?_
        rw [if_pos ⟨ht, hm⟩]
        refine ⟨congrArg (fun z => some (Value.int z)) e4, A', by rw [tkI, ← eI2]; rfl, q1, ?_⟩
        refine take_inv hL0 hm hnm ht hst rfl rfl rfl q1 q3 q4 ?_
        rw [← e4]
        exact q6
    · have hm : ¬ (t < 400 ∧ m ≤ 2000) := fun h => hd (by rw [hm3]; exact nI_le (a := m) (b := 2000) h.2 (by decide))
      refine zw_nx rfl (fun _ _ => rfl) ?_
      exact zw_ret rfl (fun _ _ => rfl) (by rw [if_neg hm]; exact ⟨rfl, rfl⟩)
/-- one telling: what is told of a slot -/
theorem stA_ok {A : Nat → Nat → Int32} {n t : Nat} {s v : Int32} (hs : ∃ q, q < 208 ∧ s = nI q) : StOk (stA A n s v (nI (t + 1))) n (n + 1) t := by
  intro i h1 h2 h3
  have e : i = n := by omega
  subst e
  refine ⟨?_, ?_⟩
  · obtain ⟨q, q1, q2⟩ := hs
    exact ⟨q, q1, by show upd (A 0) i s i = nI q; rw [pk_us, q2]⟩
  · show upd (A 2) i (nI (t + 1)) i = nI (t + 1)
    rw [pk_us]
theorem linv_stage {I : Nat → Int32} {A : Nat → Nat → Int32} {n t k : Nat} {s v x : Int32} (h : LInv I A n t k) {I' : Nat → Int32} (e2 : I' 2 = I 2) (e4 : I' 4 = I 4) (e5 : I' 5 = I 5) : LInv I' (stA A n s v x) n t k := by
  obtain ⟨h1, h2, h3, h4, h5, h6, h7, h8, h9, h10⟩ := h
  have f0 : ∀ i, i < n → stA A n s v x 0 i = A 0 i := fun i hi => by show upd (A 0) n s i = A 0 i; exact pk_un (by omega)
  have f1 : ∀ i, i < n → stA A n s v x 1 i = A 1 i := fun i hi => by show upd (A 1) n v i = A 1 i; exact pk_un (by omega)
  have f2 : ∀ i, i < n → stA A n s v x 2 i = A 2 i := fun i hi => by show upd (A 2) n x i = A 2 i; exact pk_un (by omega)
  refine ⟨e2.trans h1, e4.trans h2, e5.trans h3, h4, h5, h6, fun i hi => by rw [f0 i hi]; exact h7 i hi, fun i hi => by rw [f2 i hi]; exact h8 i hi, fun i j hi hj => by rw [f2 i (by omega), f2 j hj]; exact h9 i j hi hj, fun z hz => ?_⟩
  have e : zlast (fun j => decide (stA A n s v x 0 j = nI z ∧ stA A n s v x 2 j ≤ nI k)) n = zlast (fun j => decide (A 0 j = nI z ∧ A 2 j ≤ nI k)) n := zlast_cong (fun i hi => by simp only [f0 i hi, f2 i hi])
  obtain ⟨g1, g2⟩ := h10 z hz
  rw [e]
  refine ⟨?_, ?_⟩
  · show A 3 z = _
    rw [g1]
    cases hl : zlast (fun j => decide (A 0 j = nI z ∧ A 2 j ≤ nI k)) n with
    | none => rfl
    | some j => exact (f1 j (zlast_some hl).1).symm
  · show A 4 z = _
    rw [g2]
    cases hl : zlast (fun j => decide (A 0 j = nI z ∧ A 2 j ≤ nI k)) n with
    | none => rfl
    | some j => exact (f2 j (zlast_some hl).1).symm
set_option maxHeartbeats 4000000 in
set_option maxRecDepth 20000 in
/-- tellOne(slot, value) -/
theorem cTellOne (sc : sm_S) (I : Nat → Int32) (J : Nat → Int64) (A : Nat → Nat → Int32) (B : Nat → Nat → Int64) (tl : sm_M) (n t k q : Nat) (v : Int32) (hL : LInv I A n t k) (hq : q < 208) : zC 5 sc 34 [.ref 1, .int (nI q), .int v] (xm I J A B tl) (fun M r => if t < 400 ∧ n < 2000 then r = some (.int (nI (t + 1))) ∧ ∃ A', M = xm (tkI (upd I 3 (nI (n + 1))) (n + 1) t) J A' B tl ∧ (∀ a, a ≠ 3 → a ≠ 4 → A' a = stA A n (nI q) v (nI (t + 1)) a) ∧ LInv (tkI (upd I 3 (nI (n + 1))) (n + 1) t) A' (n + 1) (t + 1) (t + 1) else r = some (.int (-1)) ∧ ∃ I' A', M = xm I' J A' B tl ∧ (∀ z, z ≠ 3 → I' z = I z) ∧ (∀ a, 2 < a → A' a = A a) ∧ (∀ a i, i < n → A' a i = A a i) ∧ LInv I' A' n t k) := by
  have hL0 := hL
  obtain ⟨h1, h2, h3, h4, h5, h6, h7, h8, h9, h10⟩ := hL
  refine zc_of hkX3_tellOne rfl ?_
  refine zw_nx rfl (fun _ _ => rfl) ?_
  refine zw_call rfl (fun _ _ => rfl) (cDrop sc I J A B tl) (by decide) ?_
  rintro M1 r1 ⟨rfl, rfl⟩
  refine zw_nx rfl (fun _ _ => rfl) ?_
  refine zw_nx rfl (fun _ _ => rfl) ?_
  refine zw_nx rfl (fun _ _ => rfl) ?_
  refine zw_call rfl (fun _ _ => rfl) (cStage sc (upd I 3 (I 2)) J A B tl (nI q) v n h1 (by omega)) (by decide) ?_
  rintro M1 r1 ⟨rfl, rfl⟩
  refine zw_nx rfl (fun _ _ => rfl) ?_
  have eu : upd (upd I 3 (I 2)) 3 (nI (n + 1)) = upd I 3 (nI (n + 1)) := by
    funext z
    unfold upd
    by_cases hz : z = 3
    · rw [if_pos hz, if_pos hz]
    · rw [if_neg hz, if_neg hz, if_neg hz]
  rw [eu]
  have e4 : upd I 3 (I 2) 4 + 1 = nI (t + 1) := by show I 4 + 1 = _; rw [h2, nI_1]
  rw [e4]
  by_cases hn : n < 2000
  · rw [if_pos hn]
    refine zw_call rfl (fun _ _ => rfl) (cTake sc (upd I 3 (nI (n + 1))) J (stA A n (nI q) v (nI (t + 1))) B tl n t k (n + 1) (linv_stage hL0 rfl rfl rfl) rfl (by omega) (by omega) (stA_ok ⟨q, hq, rfl⟩)) (by decide) ?_
    intro M1 r1 hp
    by_cases ht : t < 400
    · rw [if_pos ⟨ht, by omega⟩] at hp
      obtain ⟨rfl, A', rfl, p1, p2⟩ := hp
      refine zw_ret rfl (fun _ _ => rfl) ?_
      rw [if_pos ⟨ht, hn⟩]
      exact ⟨rfl, A', rfl, p1, p2⟩
    · rw [if_neg (fun z => ht z.1)] at hp
      obtain ⟨rfl, rfl⟩ := hp
      refine zw_ret rfl (fun _ _ => rfl) ?_
      rw [if_neg (fun z => ht z.1)]
      refine ⟨rfl, _, _, rfl, fun z hz => by unfold upd; rw [if_neg hz], fun a ha => ?_, fun a i hi => ?_, linv_stage hL0 rfl rfl rfl⟩
      · unfold stA va_up
        rw [if_neg (by omega), if_neg (by omega), if_neg (by omega)]
      · unfold stA va_up
        by_cases a2 : a = 2
        · subst a2; rw [if_pos rfl]; exact pk_un (by omega)
        · rw [if_neg a2]
          by_cases a1 : a = 1
          · subst a1; rw [if_pos rfl]; exact pk_un (by omega)
          · rw [if_neg a1]
            by_cases a0 : a = 0
            · subst a0; rw [if_pos rfl]; exact pk_un (by omega)
            · rw [if_neg a0]
  · rw [if_neg hn]
    have hL1 : LInv (upd I 3 (nI (n + 1))) A n t k := ⟨h1, h2, h3, h4, h5, h6, h7, h8, h9, h10⟩
    refine zw_call rfl (fun _ _ => rfl) (cTake sc (upd I 3 (nI (n + 1))) J A B tl n t k (n + 1) hL1 rfl (by omega) (by omega) (fun i g1 g2 g3 => by omega)) (by decide) ?_
    intro M1 r1 hp
    rw [if_neg (fun z => by omega)] at hp
    obtain ⟨rfl, rfl⟩ := hp
    refine zw_ret rfl (fun _ _ => rfl) ?_
    rw [if_neg (fun z => hn z.2)]
    exact ⟨rfl, _, A, rfl, fun z hz => by unfold upd; rw [if_neg hz], fun _ _ => rfl, fun _ _ _ => rfl, hL1⟩
end
section
/-! the reference: isIn, tellings, entryOf, valueOf, look -/
/-- a truth as an int -/
def bI (c : Prop) [Decidable c] : Int32 := if c then 1 else 0
theorem bI_t {c : Prop} [Decidable c] (h : c) : bI c = 1 := if_pos h
theorem bI_f {c : Prop} [Decidable c] (h : ¬ c) : bI c = 0 := if_neg h
theorem bI_0 {c : Prop} [Decidable c] : bI c = 0 ↔ ¬ c := by
  unfold bI
  by_cases h : c
  · rw [if_pos h]; exact ⟨fun z => absurd z (by decide), fun z => absurd h z⟩
  · rw [if_neg h]; exact ⟨fun _ => h, fun _ => rfl⟩
theorem bI_cong {c d : Prop} [Decidable c] [Decidable d] (h : c ↔ d) : bI c = bI d := by
  by_cases hc : c
  · rw [bI_t hc, bI_t (h.mp hc)]
  · rw [bI_f hc, bI_f (fun z => hc (h.mpr z))]
theorem bI_01 (c : Prop) [Decidable c] : bI c = 0 ∨ bI c = 1 := by
  unfold bI
  by_cases h : c
  · rw [if_pos h]; exact Or.inr rfl
  · rw [if_neg h]; exact Or.inl rfl
/-- a place below n -/
def inR (x : Int32) (n : Nat) : Prop := 0 ≤ x ∧ x < nI n
theorem inR_of {x : Int32} {n : Nat} (h : inR x n) (hn : n < 2 ^ 31) : ∃ j, j < n ∧ x = nI j := by
  obtain ⟨j, hj, rfl⟩ := nI_of (Int32.not_lt.mpr h.1)
  exact ⟨j, (nI_ltI hj hn).mp h.2, rfl⟩
theorem inR_nI {j n : Nat} (h : j < n) (hn : n < 2 ^ 31) : inR (nI j) n := ⟨nI_pos' (by omega), nI_lt h hn⟩
set_option maxHeartbeats 4000000 in
set_option maxRecDepth 20000 in
theorem mIsIn (sc : sm_S) (M : sm_M) (v a b : Int32) : zC 1 sc 163 [.int v, .int a, .int b] M (zR M (.int (bI (a ≤ v ∧ v ≤ b)))) := by
  refine zc_of hkX11_isIn rfl ?_
  refine zw_nx rfl (fun _ _ => rfl) ?_
  refine zw_nx rfl (fun _ _ => rfl) ?_
  refine zw_br rfl (fun _ _ => rfl) (fun (hc : v < a) => ?_) (fun (hc : ¬ (v < a)) => ?_)
  · refine zw_nx rfl (fun _ _ => rfl) ?_
    refine zw_ret rfl (fun _ _ => rfl) ?_
    exact ⟨rfl, by rw [bI_f (fun z => Int32.not_lt.mpr z.1 hc)]; rfl⟩
  · refine zw_nx rfl (fun _ _ => rfl) ?_
    refine zw_nx rfl (fun _ _ => rfl) ?_
    refine zw_br rfl (fun _ _ => rfl) (fun (hd : b < v) => ?_) (fun (hd : ¬ (b < v)) => ?_)
    · refine zw_nx rfl (fun _ _ => rfl) ?_
      refine zw_ret rfl (fun _ _ => rfl) ?_
      exact ⟨rfl, by rw [bI_f (fun z => Int32.not_lt.mpr z.2 hd)]; rfl⟩
    · refine zw_nx rfl (fun _ _ => rfl) ?_
      refine zw_nx rfl (fun _ _ => rfl) ?_
      refine zw_ret rfl (fun _ _ => rfl) ?_
      exact ⟨rfl, by rw [bI_t ⟨Int32.not_lt.mp hc, Int32.not_lt.mp hd⟩]; rfl⟩
theorem le_pred {x : Int32} {w : Nat} (h1 : 1 ≤ w) (hw : w < 2 ^ 31) : x ≤ nI w - 1 ↔ x < nI w := by
  obtain ⟨q, rfl⟩ : ∃ q, w = q + 1 := ⟨w - 1, by omega⟩
  rw [nI_pred]
  by_cases hx : x < 0
  · have h0 : x < nI q := Int32.lt_of_lt_of_le hx (nI_pos' (by omega))
    exact ⟨fun _ => Int32.lt_of_lt_of_le hx (nI_pos' (by omega)), fun _ => Int32.le_of_lt h0⟩
  · obtain ⟨j, hj, rfl⟩ := nI_of hx
    rw [nI_leI hj (by omega), nI_ltI hj hw]
    omega
set_option maxHeartbeats 4000000 in
set_option maxRecDepth 20000 in
theorem mIsEnd (sc : sm_S) (f : Nat → va_E) (I : Nat → Int32) (A : Nat → Nat → Int32) (B : Nat → Nat → Int64) (x : Int32) (w : Nat) (hI : I 0 = nI w) (h1 : 1 ≤ w) (hw : w ≤ 48) : zC 2 sc 164 [.ref 47, .int x] (mm f I A B) (zR (mm f I A B) (.int (bI (0 ≤ x ∧ x < nI w)))) := by
  refine zc_of hkX11_isEnd rfl ?_
  refine zw_nx rfl (fun _ _ => rfl) ?_
  refine zw_nx rfl (fun _ _ => rfl) ?_
  refine zw_nx rfl (fun _ _ => rfl) ?_
  refine zw_nx rfl (fun _ _ => rfl) ?_
  refine zw_nx rfl (fun _ _ => rfl) ?_
  refine zw_nx rfl (fun _ _ => rfl) ?_
  refine zw_call rfl (fun _ _ => rfl) (mIsIn sc (mm f I A B) x 0 (I 0 - 1)) (by decide) ?_
  rintro M1 r1 ⟨rfl, rfl⟩
  have e : bI (0 ≤ x ∧ x ≤ I 0 - 1) = bI (0 ≤ x ∧ x < nI w) := bI_cong (by rw [hI, le_pred h1 (by omega)])
  refine zw_bret rfl rfl (bI_01 _) ?_
  exact ⟨rfl, by rw [← e]⟩
set_option maxHeartbeats 4000000 in
set_option maxRecDepth 20000 in
theorem mIsPick (sc : sm_S) (f : Nat → va_E) (I : Nat → Int32) (A : Nat → Nat → Int32) (B : Nat → Nat → Int64) (x : Int32) (w : Nat) (hI : I 1 = nI w) (h1 : 1 ≤ w) (hw : w ≤ 48) : zC 2 sc 165 [.ref 47, .int x] (mm f I A B) (zR (mm f I A B) (.int (bI (0 ≤ x ∧ x < nI w)))) := by
  refine zc_of hkX11_isPick rfl ?_
  refine zw_nx rfl (fun _ _ => rfl) ?_
  refine zw_nx rfl (fun _ _ => rfl) ?_
  refine zw_nx rfl (fun _ _ => rfl) ?_
  refine zw_nx rfl (fun _ _ => rfl) ?_
  refine zw_nx rfl (fun _ _ => rfl) ?_
  refine zw_nx rfl (fun _ _ => rfl) ?_
  refine zw_call rfl (fun _ _ => rfl) (mIsIn sc (mm f I A B) x 0 (I 1 - 1)) (by decide) ?_
  rintro M1 r1 ⟨rfl, rfl⟩
  have e : bI (0 ≤ x ∧ x ≤ I 1 - 1) = bI (0 ≤ x ∧ x < nI w) := bI_cong (by rw [hI, le_pred h1 (by omega)])
  refine zw_bret rfl rfl (bI_01 _) ?_
  exact ⟨rfl, by rw [← e]⟩
/-- n entries, time t, look k of the reference; kinds and places in range -/
def ksz : Nat → Nat
  | 1 => 16
  | _ => 48
def MInv (I : Nat → Int32) (A : Nat → Nat → Int32) (n t k : Nat) : Prop := I 4 = nI n ∧ I 2 = nI t ∧ I 3 = nI k ∧ n ≤ 2000 ∧ t ≤ 400 ∧ k ≤ t ∧ ∀ i, i < n → ∃ a b, a ≤ 4 ∧ b < ksz a ∧ A 0 i = nI a ∧ A 1 i = nI b
def mtI (I : Nat → Int32) (n t : Nat) : Nat → Int32 := upd (upd (upd I 4 (nI (n + 1))) 2 (nI (t + 1))) 3 (nI (t + 1))
def mtA (A : Nat → Nat → Int32) (n : Nat) (a b v t : Int32) : Nat → Nat → Int32 := va_up (va_up (va_up (va_up A 0 (upd (A 0) n a)) 1 (upd (A 1) n b)) 2 (upd (A 2) n v)) 3 (upd (A 3) n t)
set_option maxHeartbeats 4000000 in
set_option maxRecDepth 20000 in
theorem mEnter (sc : sm_S) (f : Nat → va_E) (I : Nat → Int32) (A : Nat → Nat → Int32) (B : Nat → Nat → Int64) (a b v : Int32) (n t : Nat) (hn : I 4 = nI n) (hnb : n < 2000) (ht : I 2 = nI t) : zC 1 sc 166 [.ref 47, .int a, .int b, .int v] (mm f I A B) (fun M r => r = none ∧ M = mm f (upd I 4 (nI (n + 1))) (mtA A n a b v (nI (t + 1))) B) := by
  have hin : vp_in (I 4) 2000 := by rw [hn]; exact vp_in_nI hnb (by decide)
  have ec : (I 4).toNatClampNeg = n := by rw [hn, nI_clamp (by omega)]
  have e4 : I 4 + 1 = nI (n + 1) := by rw [hn, nI_1]
  have e2 : I 2 + 1 = nI (t + 1) := by rw [ht, nI_1]
  refine zc_of hkX11_enter rfl ?_
  repeat (refine zw_nx rfl (fun _ _ => rfl) ?_)
  refine zw_ix rfl (fun _ _ => rfl) (hin) ?_
  repeat (refine zw_nx rfl (fun _ _ => rfl) ?_)
  refine zw_ix rfl (fun _ _ => rfl) (hin) ?_
  repeat (refine zw_nx rfl (fun _ _ => rfl) ?_)
  refine zw_ix rfl (fun _ _ => rfl) (hin) ?_
  repeat (refine zw_nx rfl (fun _ _ => rfl) ?_)
  refine zw_ix rfl (fun _ _ => rfl) (hin) ?_
  repeat (refine zw_nx rfl (fun _ _ => rfl) ?_)
  refine zw_ret rfl (fun _ _ => rfl) ?_
  refine ⟨rfl, ?_⟩
  rw [← e4, ← e2, ← ec]
  rfl
set_option maxHeartbeats 4000000 in
set_option maxRecDepth 20000 in
theorem mPasses (sc : sm_S) (f : Nat → va_E) (I : Nat → Int32) (A : Nat → Nat → Int32) (B : Nat → Nat → Int64) (t : Nat) (ht : I 2 = nI t) : zC 1 sc 168 [.ref 47] (mm f I A B) (fun M r => r = some (.int (nI (t + 1))) ∧ M = mm f (upd (upd I 2 (nI (t + 1))) 3 (nI (t + 1))) A B) := by
  have e2 : I 2 + 1 = nI (t + 1) := by rw [ht, nI_1]
  refine zc_of hkX11_passes rfl ?_
  repeat (refine zw_nx rfl (fun _ _ => rfl) ?_)
  refine zw_ret rfl (fun _ _ => rfl) ?_
  refine ⟨?_, ?_⟩
  · rw [← e2]; rfl
  · rw [← e2]; rfl
/-- what a telling of the reference does -/
def mtPost (f : Nat → va_E) (I : Nat → Int32) (A : Nat → Nat → Int32) (B : Nat → Nat → Int64) (n t : Nat) (g : Prop) (a b v : Int32) : sm_M → Option Value → Prop := fun M r => (g ∧ t < 400 ∧ n < 2000 → r = some (.int (nI (t + 1))) ∧ M = mm f (mtI I n t) (mtA A n a b v (nI (t + 1))) B) ∧ (¬ (g ∧ t < 400 ∧ n < 2000) → r = some (.int (-1)) ∧ M = mm f I A B)
set_option maxHeartbeats 4000000 in
set_option maxRecDepth 20000 in
theorem mTelling (sc : sm_S) (f : Nat → va_E) (I : Nat → Int32) (A : Nat → Nat → Int32) (B : Nat → Nat → Int64) (a b v : Int32) (n t : Nat) (g : Prop) [Decidable g] (hn : I 4 = nI n) (hnb : n ≤ 2000) (ht : I 2 = nI t) (htb : t ≤ 400) : zC 2 sc 167 [.ref 47, .int (bI g), .int a, .int b, .int v] (mm f I A B) (mtPost f I A B n t g a b v) := by
  refine zc_of hkX11_telling rfl ?_
  refine zw_nx rfl (fun _ _ => rfl) ?_
  refine zw_br rfl (fun _ _ => rfl) (fun (hc : bI g = 0) => ?_) (fun (hc : ¬ (bI g = 0)) => ?_)
  · have hg := bI_0.mp hc
    refine zw_nx rfl (fun _ _ => rfl) ?_
    refine zw_ret rfl (fun _ _ => rfl) ?_
    exact ⟨fun z => absurd z.1 hg, fun _ => ⟨rfl, rfl⟩⟩
  · have hg : g := by
      by_cases h : g
      · exact h
      · exact absurd (bI_0.mpr h) hc
    refine zw_nx rfl (fun _ _ => rfl) ?_
    refine zw_nx rfl (fun _ _ => rfl) ?_
    refine zw_nx rfl (fun _ _ => rfl) ?_
    refine zw_br rfl (fun _ _ => rfl) (fun (hd : I 2 = 400) => ?_) (fun (hd : ¬ (I 2 = 400)) => ?_)
    · have h4 : ¬ t < 400 := fun h => by
        rw [ht] at hd
        exact absurd ((nI_eq (a := t) (b := 400) (by omega) (by decide)).mp hd) (by omega)
      refine zw_nx rfl (fun _ _ => rfl) ?_
      refine zw_ret rfl (fun _ _ => rfl) ?_
      exact ⟨fun z => absurd z.2.1 h4, fun _ => ⟨rfl, rfl⟩⟩
    · have h4 : t < 400 := by
        rcases Nat.lt_or_ge t 400 with h | h
        · exact h
        · exact absurd (by rw [ht, show t = 400 by omega]; rfl) hd
      refine zw_nx rfl (fun _ _ => rfl) ?_
      refine zw_nx rfl (fun _ _ => rfl) ?_
      refine zw_nx rfl (fun _ _ => rfl) ?_
      refine zw_br rfl (fun _ _ => rfl) (fun (he : I 4 = 2000) => ?_) (fun (he : ¬ (I 4 = 2000)) => ?_)
      · have h5 : ¬ n < 2000 := fun h => by
          rw [hn] at he
          exact absurd ((nI_eq (a := n) (b := 2000) (by omega) (by decide)).mp he) (by omega)
        refine zw_nx rfl (fun _ _ => rfl) ?_
        refine zw_ret rfl (fun _ _ => rfl) ?_
        exact ⟨fun z => absurd z.2.2 h5, fun _ => ⟨rfl, rfl⟩⟩
      · have h5 : n < 2000 := by
          rcases Nat.lt_or_ge n 2000 with h | h
          · exact h
          · exact absurd (by rw [hn, show n = 2000 by omega]; rfl) he
        refine zw_nx rfl (fun _ _ => rfl) ?_
        refine zw_nx rfl (fun _ _ => rfl) ?_
        refine zw_nx rfl (fun _ _ => rfl) ?_
        refine zw_nx rfl (fun _ _ => rfl) ?_
        refine zw_call rfl (fun _ _ => rfl) (mEnter sc f I A B a b v n t hn h5 ht) (by decide) ?_
        rintro M1 r1 ⟨rfl, rfl⟩
        refine zw_nx rfl (fun _ _ => rfl) ?_
        refine zw_call rfl (fun _ _ => rfl) (mPasses sc f (upd I 4 (nI (n + 1))) (mtA A n a b v (nI (t + 1))) B t ht) (by decide) ?_
        rintro M1 r1 ⟨rfl, rfl⟩
        refine zw_ret rfl (fun _ _ => rfl) ?_
        exact ⟨fun _ => ⟨rfl, rfl⟩, fun z => absurd ⟨hg, h4, h5⟩ z⟩
/-- entryOf: the last entry of a kind and place at or ahead of the look -/
def mEnt (A : Nat → Nat → Int32) (n : Nat) (a b lk : Int32) : Option Nat := zlast (fun j => decide (A 0 j = a ∧ A 1 j = b ∧ A 3 j ≤ lk)) n
def oI : Option Nat → Int32
  | some j => nI j
  | none => -1
set_option maxHeartbeats 4000000 in
set_option maxRecDepth 20000 in
theorem mEntryOf_loop (sc : sm_S) (f : Nat → va_E) (I : Nat → Int32) (A : Nat → Nat → Int32) (B : Nat → Nat → Int64) (a b : Int32) : ∀ (n : Nat), n ≤ 2000 → zW 0 sc miX11_entryOf 7 [some (.ref 47), some (.int a), some (.int b), some (.int (nI n - 1))] [] (mm f I A B) (zR (mm f I A B) (.int (oI (mEnt A n a b (I 3))))) := by
  intro n
  induction n with
  | zero =>
    intro _
    refine zw_nx rfl (fun _ _ => rfl) ?_
    first | refine zw_br rfl (fun _ _ => rfl) (fun _ => ?_) (fun h9 => absurd (show nI 0 - 1 < (0 : Int32) by decide) h9) | refine zw_nx rfl (fun _ _ => rfl) ?_
    refine zw_nx rfl (fun _ _ => rfl) ?_
    refine zw_ret rfl (fun _ _ => rfl) ?_
    exact ⟨rfl, rfl⟩
  | succ n ih =>
    intro hn
    rw [nI_pred]
    have hin : vp_in (nI n) 2000 := vp_in_nI (by omega) (by decide)
    have ec : (nI n).toNatClampNeg = n := nI_clamp (by omega)
    have no : ¬ (A 0 n = a ∧ A 1 n = b ∧ A 3 n ≤ I 3) → mEnt A (n + 1) a b (I 3) = mEnt A n a b (I 3) := by
      intro h
      unfold mEnt
      rw [zlast, if_neg (by simpa using h)]
    have hm : nI n + Int32.ofInt (-1) = nI n - 1 := by
      rw [Int32.sub_eq_add_neg]; rfl
    refine zw_nx rfl (fun _ _ => rfl) ?_
    first | refine zw_br rfl (fun _ _ => rfl) (fun h9 => absurd h9 (show ¬ nI n < (0 : Int32) from nI_pos (by omega))) (fun _ => ?_) | refine zw_nx rfl (fun _ _ => rfl) ?_
    refine zw_nx rfl (fun _ _ => rfl) ?_
    refine zw_nx rfl (fun _ _ => rfl) ?_
    refine zw_nx rfl (fun _ _ => rfl) ?_
    refine zw_ix rfl (fun _ _ => rfl) (hin) ?_
    rw [ec]
    refine zw_nx rfl (fun _ _ => rfl) ?_
    refine zw_br rfl (fun _ _ => rfl) (fun (h0 : A 0 n = a) => ?_) (fun (h0 : ¬ (A 0 n = a)) => ?_)
    · refine zw_nx rfl (fun _ _ => rfl) ?_
      refine zw_nx rfl (fun _ _ => rfl) ?_
      refine zw_nx rfl (fun _ _ => rfl) ?_
      refine zw_ix rfl (fun _ _ => rfl) (hin) ?_
      rw [ec]
      refine zw_nx rfl (fun _ _ => rfl) ?_
      refine zw_br rfl (fun _ _ => rfl) (fun (h1 : A 1 n = b) => ?_) (fun (h1 : ¬ (A 1 n = b)) => ?_)
      · refine zw_nx rfl (fun _ _ => rfl) ?_
        refine zw_nx rfl (fun _ _ => rfl) ?_
        refine zw_nx rfl (fun _ _ => rfl) ?_
        refine zw_ix rfl (fun _ _ => rfl) (hin) ?_
        rw [ec]
        refine zw_nx rfl (fun _ _ => rfl) ?_
        refine zw_nx rfl (fun _ _ => rfl) ?_
        refine zw_br rfl (fun _ _ => rfl) (fun (h3 : I 3 < A 3 n) => ?_) (fun (h3 : ¬ (I 3 < A 3 n)) => ?_)
        · refine zw_nx rfl (fun _ _ => rfl) ?_
          refine zw_nx rfl (fun _ _ => rfl) ?_
          rw [no (fun z => Int32.not_lt.mpr z.2.2 h3), hm]
          exact ih (by omega)
        · refine zw_nx rfl (fun _ _ => rfl) ?_
          refine zw_ret rfl (fun _ _ => rfl) ?_
          refine ⟨rfl, ?_⟩
          have e : mEnt A (n + 1) a b (I 3) = some n := by
            unfold mEnt
            rw [zlast, if_pos (by simp [h0, h1]; exact Int32.not_lt.mp h3)]
          rw [e]
          rfl
      · refine zw_nx rfl (fun _ _ => rfl) ?_
        refine zw_nx rfl (fun _ _ => rfl) ?_
        rw [no (fun z => h1 z.2.1), hm]
        exact ih (by omega)
    · refine zw_nx rfl (fun _ _ => rfl) ?_
      refine zw_nx rfl (fun _ _ => rfl) ?_
      rw [no (fun z => h0 z.1), hm]
      exact ih (by omega)
set_option maxHeartbeats 4000000 in
set_option maxRecDepth 20000 in
theorem mEntryOf (sc : sm_S) (f : Nat → va_E) (I : Nat → Int32) (A : Nat → Nat → Int32) (B : Nat → Nat → Int64) (a b : Int32) (n : Nat) (hn : I 4 = nI n) (hnb : n ≤ 2000) : zC 1 sc 173 [.ref 47, .int a, .int b] (mm f I A B) (zR (mm f I A B) (.int (oI (mEnt A n a b (I 3))))) := by
  refine zc_of hkX11_entryOf rfl ?_
  refine zw_nx rfl (fun _ _ => rfl) ?_
  refine zw_nx rfl (fun _ _ => rfl) ?_
  refine zw_nx rfl (fun _ _ => rfl) ?_
  refine zw_nx rfl (fun _ _ => rfl) ?_
  refine zw_nx rfl (fun _ _ => rfl) ?_
  rw [hn]
  exact mEntryOf_loop sc f I A B a b n hnb
/-- valueOf -/
def mVal (A : Nat → Nat → Int32) (n : Nat) (a b lk : Int32) : Int32 := match mEnt A n a b lk with
  | some j => A 2 j
  | none => if a = 0 then -1 else 0
set_option maxHeartbeats 4000000 in
set_option maxRecDepth 20000 in
theorem mValueOf (sc : sm_S) (f : Nat → va_E) (I : Nat → Int32) (A : Nat → Nat → Int32) (B : Nat → Nat → Int64) (a b : Int32) (n : Nat) (hn : I 4 = nI n) (hnb : n ≤ 2000) : zC 2 sc 174 [.ref 47, .int a, .int b] (mm f I A B) (zR (mm f I A B) (.int (mVal A n a b (I 3)))) := by
  refine zc_of hkX11_valueOf rfl ?_
  refine zw_nx rfl (fun _ _ => rfl) ?_
  refine zw_nx rfl (fun _ _ => rfl) ?_
  refine zw_nx rfl (fun _ _ => rfl) ?_
  refine zw_call rfl (fun _ _ => rfl) (mEntryOf sc f I A B a b n hn hnb) (by decide) ?_
  rintro M1 r1 ⟨rfl, rfl⟩
  unfold mVal
  cases he : mEnt A n a b (I 3) with
  | some j =>
    have hj : j < n := (zlast_some he).1
    refine zw_nx rfl (fun _ _ => rfl) ?_
    refine zw_nx rfl (fun _ _ => rfl) ?_
    first | refine zw_br rfl (fun _ _ => rfl) (fun h9 => absurd h9 (show ¬ nI j < (0 : Int32) from nI_pos (by omega))) (fun _ => ?_) | refine zw_nx rfl (fun _ _ => rfl) ?_
    refine zw_nx rfl (fun _ _ => rfl) ?_
    refine zw_nx rfl (fun _ _ => rfl) ?_
    refine zw_nx rfl (fun _ _ => rfl) ?_
    refine zw_ix rfl (fun _ _ => rfl) (show vp_in (nI j) 2000 from vp_in_nI (by omega) (by decide)) ?_
    refine zw_nx rfl (fun _ _ => rfl) ?_
    refine zw_ret rfl (fun _ _ => rfl) ?_
    exact ⟨rfl, by show some (Value.int (A 2 (nI j).toNatClampNeg)) = _; rw [nI_clamp (by omega)]⟩
  | none =>
    refine zw_nx rfl (fun _ _ => rfl) ?_
    refine zw_nx rfl (fun _ _ => rfl) ?_
    first | refine zw_br rfl (fun _ _ => rfl) (fun _ => ?_) (fun h9 => absurd (show (-1 : Int32) < 0 by decide) h9) | refine zw_nx rfl (fun _ _ => rfl) ?_
    refine zw_nx rfl (fun _ _ => rfl) ?_
    refine zw_br rfl (fun _ _ => rfl) (fun (h0 : a = 0) => ?_) (fun (h0 : ¬ (a = 0)) => ?_)
    · refine zw_nx rfl (fun _ _ => rfl) ?_
      refine zw_nx rfl (fun _ _ => rfl) ?_
      refine zw_ret rfl (fun _ _ => rfl) ?_
      exact ⟨rfl, by rw [if_pos h0]; rfl⟩
    · refine zw_nx rfl (fun _ _ => rfl) ?_
      refine zw_ret rfl (fun _ _ => rfl) ?_
      exact ⟨rfl, by rw [if_neg h0]; rfl⟩
set_option maxHeartbeats 4000000 in
set_option maxRecDepth 20000 in
theorem mLook (sc : sm_S) (f : Nat → va_E) (I : Nat → Int32) (A : Nat → Nat → Int32) (B : Nat → Nat → Int64) (x : Int32) : zC 2 sc 175 [.ref 47, .int x] (mm f I A B) (fun M r => (0 ≤ x ∧ x ≤ I 2 → r = some (.int 1) ∧ M = mm f (upd I 3 x) A B) ∧ (¬ (0 ≤ x ∧ x ≤ I 2) → r = some (.int 0) ∧ M = mm f I A B)) := by
  refine zc_of hkX11_look rfl ?_
  refine zw_nx rfl (fun _ _ => rfl) ?_
  refine zw_nx rfl (fun _ _ => rfl) ?_
  refine zw_nx rfl (fun _ _ => rfl) ?_
  refine zw_nx rfl (fun _ _ => rfl) ?_
  refine zw_call rfl (fun _ _ => rfl) (mIsIn sc (mm f I A B) x 0 (I 2)) (by decide) ?_
  rintro M1 r1 ⟨rfl, rfl⟩
  refine zw_br rfl (fun _ _ => rfl) (fun (hc : bI (0 ≤ x ∧ x ≤ I 2) = 0) => ?_) (fun (hc : ¬ (bI (0 ≤ x ∧ x ≤ I 2) = 0)) => ?_)
  · have h := bI_0.mp hc
    refine zw_nx rfl (fun _ _ => rfl) ?_
    refine zw_ret rfl (fun _ _ => rfl) ?_
    exact ⟨fun z => absurd z h, fun _ => ⟨rfl, rfl⟩⟩
  · have h : 0 ≤ x ∧ x ≤ I 2 := by
      by_cases h : 0 ≤ x ∧ x ≤ I 2
      · exact h
      · exact absurd (bI_0.mpr h) hc
    repeat (refine zw_nx rfl (fun _ _ => rfl) ?_)
    refine zw_ret rfl (fun _ _ => rfl) ?_
    exact ⟨fun _ => ⟨rfl, rfl⟩, fun z => absurd h z⟩
end
section
/-! the class against the reference: what was told -/
def sb : Nat → Nat
  | 0 => 0
  | 1 => 48
  | 2 => 64
  | 3 => 112
  | _ => 160
theorem sb_lt {a b : Nat} (ha : a ≤ 4) (hb : b < ksz a) : sb a + b < 208 := by
  rcases (show a = 0 ∨ a = 1 ∨ a = 2 ∨ a = 3 ∨ a = 4 by omega) with rfl | rfl | rfl | rfl | rfl <;> simp only [sb, ksz] at hb ⊢ <;> omega
theorem sb_inj {a b c d : Nat} (ha : a ≤ 4) (hb : b < ksz a) (hc : c ≤ 4) (hd : d < ksz c) (h : sb a + b = sb c + d) : a = c ∧ b = d := by
  rcases (show a = 0 ∨ a = 1 ∨ a = 2 ∨ a = 3 ∨ a = 4 by omega) with rfl | rfl | rfl | rfl | rfl <;> rcases (show c = 0 ∨ c = 1 ∨ c = 2 ∨ c = 3 ∨ c = 4 by omega) with rfl | rfl | rfl | rfl | rfl <;> simp only [sb, ksz] at hb hd h <;> omega
/-- entry by entry: the class's slot, value and time are the reference's kind and place, value and time -/
def RelE (X A : Nat → Nat → Int32) (n : Nat) : Prop := ∀ i, i < n → ∃ a b, a ≤ 4 ∧ b < ksz a ∧ A 0 i = nI a ∧ A 1 i = nI b ∧ X 0 i = nI (sb a + b) ∧ X 1 i = A 2 i ∧ X 2 i = A 3 i
theorem rel_ent {X A : Nat → Nat → Int32} {n : Nat} (h : RelE X A n) {a b : Nat} (ha : a ≤ 4) (hb : b < ksz a) (lk : Int32) : zlast (fun j => decide (X 0 j = nI (sb a + b) ∧ X 2 j ≤ lk)) n = mEnt A n (nI a) (nI b) lk := by
  refine zlast_cong (fun i hi => ?_)
  obtain ⟨c, d, hc, hd, h1, h2, h3, h4, h5⟩ := h i hi
  have l1 := sb_lt ha hb
  have l2 := sb_lt hc hd
  have k1 : b < 2 ^ 31 := by have : b < 48 := Nat.lt_of_lt_of_le hb (by rcases (show a = 1 ∨ a ≠ 1 by omega) with rfl | h <;> simp [ksz]); omega
  have k2 : d < 2 ^ 31 := by have : d < 48 := Nat.lt_of_lt_of_le hd (by rcases (show c = 1 ∨ c ≠ 1 by omega) with rfl | h <;> simp [ksz]); omega
  rw [h1, h2, h3, h5]
  have e : (nI (sb c + d) = nI (sb a + b) ∧ A 3 i ≤ lk) ↔ (nI c = nI a ∧ nI d = nI b ∧ A 3 i ≤ lk) := by
    rw [nI_eq (by omega) (by omega), nI_eq (by omega) (by omega), nI_eq k2 k1]
    constructor
    · rintro ⟨g1, g2⟩
      obtain ⟨g3, g4⟩ := sb_inj hc hd ha hb g1
      exact ⟨g3, g4, g2⟩
    · rintro ⟨g1, g2, g3⟩
      subst g1; subst g2
      exact ⟨rfl, g3⟩
  exact decide_eq_decide.mpr e
/-- the class's value of a slot is the reference's -/
theorem rel_val {I : Nat → Int32} {X A : Nat → Nat → Int32} {n t k : Nat} (hL : LInv I X n t k) (h : RelE X A n) {a b : Nat} (ha : a ≤ 4) (hb : b < ksz a) : X 3 (sb a + b) = mVal A n (nI a) (nI b) (nI k) := by
  obtain ⟨h1, h2, h3, h4, h5, h6, h7, h8, h9, h10⟩ := hL
  rw [(h10 _ (sb_lt ha hb)).1, rel_ent h ha hb]
  unfold mVal
  cases he : mEnt A n (nI a) (nI b) (nI k) with
  | some j =>
    obtain ⟨c, d, hc, hd, g1, g2, g3, g4, g5⟩ := h j (zlast_some he).1
    exact g4
  | none =>
    show (if sb a + b < 48 then (-1 : Int32) else 0) = if nI a = 0 then -1 else 0
    rcases (show a = 0 ∨ a = 1 ∨ a = 2 ∨ a = 3 ∨ a = 4 by omega) with rfl | rfl | rfl | rfl | rfl
    · rw [if_pos (show sb 0 + b < 48 by simp only [sb, ksz] at hb ⊢; omega), if_pos nI_0]
    · rw [if_neg (show ¬ sb 1 + b < 48 by simp only [sb]; omega), if_neg (by decide)]
    · rw [if_neg (show ¬ sb 2 + b < 48 by simp only [sb]; omega), if_neg (by decide)]
    · rw [if_neg (show ¬ sb 3 + b < 48 by simp only [sb]; omega), if_neg (by decide)]
    · rw [if_neg (show ¬ sb 4 + b < 48 by simp only [sb]; omega), if_neg (by decide)]
/-- the time at which a slot was told -/
def mTim (A : Nat → Nat → Int32) (n : Nat) (a b lk : Int32) : Int32 := match mEnt A n a b lk with
  | some j => A 3 j
  | none => -1
theorem rel_tim {I : Nat → Int32} {X A : Nat → Nat → Int32} {n t k : Nat} (hL : LInv I X n t k) (h : RelE X A n) {a b : Nat} (ha : a ≤ 4) (hb : b < ksz a) : X 4 (sb a + b) = mTim A n (nI a) (nI b) (nI k) := by
  obtain ⟨h1, h2, h3, h4, h5, h6, h7, h8, h9, h10⟩ := hL
  rw [(h10 _ (sb_lt ha hb)).2, rel_ent h ha hb]
  unfold mTim
  cases he : mEnt A n (nI a) (nI b) (nI k) with
  | some j =>
    obtain ⟨c, d, hc, hd, g1, g2, g3, g4, g5⟩ := h j (zlast_some he).1
    exact g5
  | none => rfl
theorem rel_add {X X' A : Nat → Nat → Int32} {n t a b : Nat} {v : Int32} (h : RelE X A n) (ha : a ≤ 4) (hb : b < ksz a) (e0 : X' 0 = upd (X 0) n (nI (sb a + b))) (e1 : X' 1 = upd (X 1) n v) (e2 : X' 2 = upd (X 2) n (nI (t + 1))) : RelE X' (mtA A n (nI a) (nI b) v (nI (t + 1))) (n + 1) := by
  intro i hi
  rw [e0, e1, e2]
  by_cases hin : i = n
  · subst hin
    exact ⟨a, b, ha, hb, pk_us, pk_us, pk_us, pk_us.trans pk_us.symm, pk_us.trans pk_us.symm⟩
  · obtain ⟨c, d, hc, hd, g1, g2, g3, g4, g5⟩ := h i (by omega)
    refine ⟨c, d, hc, hd, ?_, ?_, ?_, ?_, ?_⟩
    · show upd (A 0) n _ i = _; rw [pk_un hin]; exact g1
    · show upd (A 1) n _ i = _; rw [pk_un hin]; exact g2
    · rw [pk_un hin]; exact g3
    · rw [pk_un hin]; show _ = upd (A 2) n _ i; rw [pk_un hin]; exact g4
    · rw [pk_un hin]; show _ = upd (A 3) n _ i; rw [pk_un hin]; exact g5
theorem rel_cong {X X' A : Nat → Nat → Int32} {n : Nat} (h : RelE X A n) (e0 : ∀ i, i < n → X' 0 i = X 0 i) (e1 : ∀ i, i < n → X' 1 i = X 1 i) (e2 : ∀ i, i < n → X' 2 i = X 2 i) : RelE X' A n := by
  intro i hi
  rw [e0 i hi, e1 i hi, e2 i hi]
  exact h i hi
end
section
/-! thread, tie, tread, colour, shaft: the class's, the reference's -/
set_option maxHeartbeats 4000000 in
set_option maxRecDepth 20000 in
theorem xIsEnd (sc : sm_S) (I : Nat → Int32) (J : Nat → Int64) (A : Nat → Nat → Int32) (B : Nat → Nat → Int64) (tl : sm_M) (x : Int32) (w : Nat) (hI : I 0 = nI w) : zC 1 sc 146 [.ref 0, .int x] (xm I J A B tl) (zR (xm I J A B tl) (.int (bI (0 ≤ x ∧ x < nI w)))) := by
  refine zc_of hkX10_isEnd rfl ?_
  refine zw_nx rfl (fun _ _ => rfl) ?_
  refine zw_br rfl (fun _ _ => rfl) (fun (hc : x < 0) => ?_) (fun (hc : ¬ (x < 0)) => ?_)
  · refine zw_nx rfl (fun _ _ => rfl) ?_
    refine zw_ret rfl (fun _ _ => rfl) ?_
    exact ⟨rfl, by rw [bI_f (fun z => Int32.not_lt.mpr z.1 hc)]; rfl⟩
  · refine zw_nx rfl (fun _ _ => rfl) ?_
    refine zw_nx rfl (fun _ _ => rfl) ?_
    refine zw_nx rfl (fun _ _ => rfl) ?_
    refine zw_br rfl (fun _ _ => rfl) (fun (hd : I 0 ≤ x) => ?_) (fun (hd : ¬ (I 0 ≤ x)) => ?_)
    · refine zw_nx rfl (fun _ _ => rfl) ?_
      refine zw_ret rfl (fun _ _ => rfl) ?_
      exact ⟨rfl, by rw [bI_f (fun z => Int32.not_lt.mpr (by rw [← hI]; exact hd) z.2)]; rfl⟩
    · refine zw_nx rfl (fun _ _ => rfl) ?_
      refine zw_nx rfl (fun _ _ => rfl) ?_
      refine zw_ret rfl (fun _ _ => rfl) ?_
      exact ⟨rfl, by rw [bI_t ⟨Int32.not_lt.mp hc, by rw [← hI]; exact Int32.not_le.mp hd⟩]; rfl⟩
set_option maxHeartbeats 4000000 in
set_option maxRecDepth 20000 in
theorem xIsPick (sc : sm_S) (I : Nat → Int32) (J : Nat → Int64) (A : Nat → Nat → Int32) (B : Nat → Nat → Int64) (tl : sm_M) (x : Int32) (w : Nat) (hI : I 1 = nI w) : zC 1 sc 147 [.ref 0, .int x] (xm I J A B tl) (zR (xm I J A B tl) (.int (bI (0 ≤ x ∧ x < nI w)))) := by
  refine zc_of hkX10_isPick rfl ?_
  refine zw_nx rfl (fun _ _ => rfl) ?_
  refine zw_br rfl (fun _ _ => rfl) (fun (hc : x < 0) => ?_) (fun (hc : ¬ (x < 0)) => ?_)
  · refine zw_nx rfl (fun _ _ => rfl) ?_
    refine zw_ret rfl (fun _ _ => rfl) ?_
    exact ⟨rfl, by rw [bI_f (fun z => Int32.not_lt.mpr z.1 hc)]; rfl⟩
  · refine zw_nx rfl (fun _ _ => rfl) ?_
    refine zw_nx rfl (fun _ _ => rfl) ?_
    refine zw_nx rfl (fun _ _ => rfl) ?_
    refine zw_br rfl (fun _ _ => rfl) (fun (hd : I 1 ≤ x) => ?_) (fun (hd : ¬ (I 1 ≤ x)) => ?_)
    · refine zw_nx rfl (fun _ _ => rfl) ?_
      refine zw_ret rfl (fun _ _ => rfl) ?_
      exact ⟨rfl, by rw [bI_f (fun z => Int32.not_lt.mpr (by rw [← hI]; exact hd) z.2)]; rfl⟩
    · refine zw_nx rfl (fun _ _ => rfl) ?_
      refine zw_nx rfl (fun _ _ => rfl) ?_
      refine zw_ret rfl (fun _ _ => rfl) ?_
      exact ⟨rfl, by rw [bI_t ⟨Int32.not_lt.mp hc, by rw [← hI]; exact Int32.not_le.mp hd⟩]; rfl⟩
set_option maxHeartbeats 4000000 in
set_option maxRecDepth 20000 in
theorem xIsColour (sc : sm_S) (M : sm_M) (x : Int32) : zC 1 sc 149 [.int x] M (zR M (.int (bI (0 ≤ x ∧ x < 10)))) := by
  refine zc_of hkX10_isColour rfl ?_
  refine zw_nx rfl (fun _ _ => rfl) ?_
  refine zw_br rfl (fun _ _ => rfl) (fun (hc : x < 0) => ?_) (fun (hc : ¬ (x < 0)) => ?_)
  · refine zw_nx rfl (fun _ _ => rfl) ?_
    refine zw_ret rfl (fun _ _ => rfl) ?_
    exact ⟨rfl, by rw [bI_f (fun z => Int32.not_lt.mpr z.1 hc)]; rfl⟩
  · refine zw_nx rfl (fun _ _ => rfl) ?_
    refine zw_nx rfl (fun _ _ => rfl) ?_
    refine zw_br rfl (fun _ _ => rfl) (fun (hd : 10 ≤ x) => ?_) (fun (hd : ¬ (10 ≤ x)) => ?_)
    · refine zw_nx rfl (fun _ _ => rfl) ?_
      refine zw_ret rfl (fun _ _ => rfl) ?_
      exact ⟨rfl, by rw [bI_f (fun z => Int32.not_lt.mpr hd z.2)]; rfl⟩
    · refine zw_nx rfl (fun _ _ => rfl) ?_
      refine zw_nx rfl (fun _ _ => rfl) ?_
      refine zw_ret rfl (fun _ _ => rfl) ?_
      exact ⟨rfl, by rw [bI_t ⟨Int32.not_lt.mp hc, Int32.not_le.mp hd⟩]; rfl⟩
/-- what a telling of the class does -/
def xtPost (I : Nat → Int32) (J : Nat → Int64) (A : Nat → Nat → Int32) (B : Nat → Nat → Int64) (tl : sm_M) (n t k : Nat) (g : Prop) (q : Nat) (v : Int32) : sm_M → Option Value → Prop := fun M r =>
  (g ∧ t < 400 ∧ n < 2000 → r = some (.int (nI (t + 1))) ∧ ∃ A', M = xm (tkI (upd I 3 (nI (n + 1))) (n + 1) t) J A' B tl ∧ (∀ a, a ≠ 3 → a ≠ 4 → A' a = stA A n (nI q) v (nI (t + 1)) a) ∧ LInv (tkI (upd I 3 (nI (n + 1))) (n + 1) t) A' (n + 1) (t + 1) (t + 1)) ∧
  (¬ (g ∧ t < 400 ∧ n < 2000) → r = some (.int (-1)) ∧ ∃ I' A', M = xm I' J A' B tl ∧ (∀ z, z ≠ 3 → I' z = I z) ∧ (∀ a, 2 < a → A' a = A a) ∧ (∀ a i, i < n → A' a i = A a i) ∧ LInv I' A' n t k)
theorem xt_no {I : Nat → Int32} {J : Nat → Int64} {A : Nat → Nat → Int32} {B : Nat → Nat → Int64} {tl : sm_M} {n t k : Nat} {g : Prop} {q : Nat} {v : Int32} (hL : LInv I A n t k) (hg : ¬ g) : xtPost I J A B tl n t k g q v (xm I J A B tl) (some (.int (-1))) := ⟨fun z => absurd z.1 hg, fun _ => ⟨rfl, I, A, rfl, fun _ _ => rfl, fun _ _ => rfl, fun _ _ _ => rfl, hL⟩⟩
theorem xt_one {sc : sm_S} {I : Nat → Int32} {J : Nat → Int64} {A : Nat → Nat → Int32} {B : Nat → Nat → Int64} {tl : sm_M} {n t k : Nat} {g : Prop} {q : Nat} {v : Int32} (hL : LInv I A n t k) (hq : q < 208) (hg : g) : zC 5 sc 34 [.ref 1, .int (nI q), .int v] (xm I J A B tl) (xtPost I J A B tl n t k g q v) := by
  refine zc_post (cTellOne sc I J A B tl n t k q v hL hq) (fun M r h => ?_)
  by_cases hc : t < 400 ∧ n < 2000
  · rw [if_pos hc] at h
    exact ⟨fun _ => h, fun z => absurd ⟨hg, hc⟩ z⟩
  · rw [if_neg hc] at h
    exact ⟨fun z => absurd z.2 hc, fun _ => h⟩
theorem nI_lit (a b : Nat) : nI a + nI b = nI (a + b) := nI_add a b
/-- thread, tie, tread, colour: when they are good -/
def gThread (w : Nat) (e s : Int32) : Prop := (0 ≤ e ∧ e < nI w) ∧ (-1 ≤ s ∧ s < 16)
def gTie (a s : Int32) : Prop := (0 ≤ a ∧ a < 16) ∧ (0 ≤ s ∧ s < 65536)
def gTread (h : Nat) (p s : Int32) : Prop := (0 ≤ p ∧ p < nI h) ∧ (0 ≤ s ∧ s < 65536)
set_option maxHeartbeats 4000000 in
set_option maxRecDepth 20000 in
theorem xThread (sc : sm_S) (I : Nat → Int32) (J : Nat → Int64) (A : Nat → Nat → Int32) (B : Nat → Nat → Int64) (tl : sm_M) (e s : Int32) (n t k w : Nat) (hL : LInv I A n t k) (hI : I 0 = nI w) (hw : w ≤ 48) : zC 6 sc 116 [.ref 0, .int e, .int s] (xm I J A B tl) (xtPost I J A B tl n t k (gThread w e s) (sb 0 + e.toNatClampNeg) s) := by
  refine zc_of hkX10_thread rfl ?_
  refine zw_nx rfl (fun _ _ => rfl) ?_
  refine zw_nx rfl (fun _ _ => rfl) ?_
  refine zw_call rfl (fun _ _ => rfl) (xIsEnd sc I J A B tl e w hI) (by decide) ?_
  rintro M1 r1 ⟨rfl, rfl⟩
  refine zw_br rfl (fun _ _ => rfl) (fun (hc : bI (0 ≤ e ∧ e < nI w) = 0) => ?_) (fun (hc : ¬ (bI (0 ≤ e ∧ e < nI w) = 0)) => ?_)
  · refine zw_nx rfl (fun _ _ => rfl) ?_
    exact zw_ret rfl (fun _ _ => rfl) (xt_no hL (fun z => bI_0.mp hc z.1))
  · have he : 0 ≤ e ∧ e < nI w := by
      by_cases h : 0 ≤ e ∧ e < nI w
      · exact h
      · exact absurd (bI_0.mpr h) hc
    refine zw_nx rfl (fun _ _ => rfl) ?_
    refine zw_nx rfl (fun _ _ => rfl) ?_
    refine zw_br rfl (fun _ _ => rfl) (fun (h1 : s < -1) => ?_) (fun (h1 : ¬ (s < -1)) => ?_)
    · refine zw_nx rfl (fun _ _ => rfl) ?_
      exact zw_ret rfl (fun _ _ => rfl) (xt_no hL (fun z => Int32.not_lt.mpr z.2.1 h1))
    · refine zw_nx rfl (fun _ _ => rfl) ?_
      refine zw_nx rfl (fun _ _ => rfl) ?_
      refine zw_br rfl (fun _ _ => rfl) (fun (h2 : s < 16) => ?_) (fun (h2 : ¬ (s < 16)) => ?_)
      · obtain ⟨j, hj, rfl⟩ := inR_of he (by omega)
        have ej : (nI j).toNatClampNeg = j := nI_clamp (by omega)
        repeat (refine zw_nx rfl (fun _ _ => rfl) ?_)
        rw [show (Int32.ofInt 0) + nI j = nI (sb 0 + (nI j).toNatClampNeg) from by rw [ej]; exact nI_add 0 j]
        refine zw_call rfl (fun _ _ => rfl) (xt_one (g := gThread w (nI j) s) hL (by rw [ej]; simp only [sb]; omega) ⟨he, Int32.not_lt.mp h1, h2⟩) (by decide) ?_
        intro M1 r1 hp
        obtain ⟨z, rfl⟩ : ∃ z, r1 = some (.int z) := by
          by_cases hq : gThread w (nI j) s ∧ t < 400 ∧ n < 2000
          · exact ⟨_, (hp.1 hq).1⟩
          · exact ⟨_, (hp.2 hq).1⟩
        exact zw_ret rfl (fun _ _ => rfl) (hp)
      · refine zw_nx rfl (fun _ _ => rfl) ?_
        exact zw_ret rfl (fun _ _ => rfl) (xt_no hL (fun z => h2 z.2.2))
set_option maxHeartbeats 4000000 in
set_option maxRecDepth 20000 in
theorem xTie (sc : sm_S) (I : Nat → Int32) (J : Nat → Int64) (A : Nat → Nat → Int32) (B : Nat → Nat → Int64) (tl : sm_M) (e s : Int32) (n t k : Nat) (hL : LInv I A n t k) : zC 6 sc 117 [.ref 0, .int e, .int s] (xm I J A B tl) (xtPost I J A B tl n t k (gTie e s) (sb 1 + e.toNatClampNeg) s) := by
  refine zc_of hkX10_tie rfl ?_
  refine zw_nx rfl (fun _ _ => rfl) ?_
  refine zw_br rfl (fun _ _ => rfl) (fun (h1 : e < 0) => ?_) (fun (h1 : ¬ (e < 0)) => ?_)
  · refine zw_nx rfl (fun _ _ => rfl) ?_
    exact zw_ret rfl (fun _ _ => rfl) (xt_no hL (fun z => Int32.not_lt.mpr z.1.1 h1))
  · refine zw_nx rfl (fun _ _ => rfl) ?_
    refine zw_nx rfl (fun _ _ => rfl) ?_
    refine zw_br rfl (fun _ _ => rfl) (fun (h2 : 16 ≤ e) => ?_) (fun (h2 : ¬ (16 ≤ e)) => ?_)
    · refine zw_nx rfl (fun _ _ => rfl) ?_
      exact zw_ret rfl (fun _ _ => rfl) (xt_no hL (fun z => Int32.not_lt.mpr h2 z.1.2))
    · refine zw_nx rfl (fun _ _ => rfl) ?_
      refine zw_br rfl (fun _ _ => rfl) (fun (h3 : s < 0) => ?_) (fun (h3 : ¬ (s < 0)) => ?_)
      · refine zw_nx rfl (fun _ _ => rfl) ?_
        exact zw_ret rfl (fun _ _ => rfl) (xt_no hL (fun z => Int32.not_lt.mpr z.2.1 h3))
      · refine zw_nx rfl (fun _ _ => rfl) ?_
        refine zw_nx rfl (fun _ _ => rfl) ?_
        refine zw_br rfl (fun _ _ => rfl) (fun (h4 : s < 65536) => ?_) (fun (h4 : ¬ (s < 65536)) => ?_)
        · have he : inR e 16 := ⟨Int32.not_lt.mp h1, Int32.not_le.mp h2⟩
          have hg : gTie e s := ⟨⟨Int32.not_lt.mp h1, Int32.not_le.mp h2⟩, Int32.not_lt.mp h3, h4⟩
          obtain ⟨j, hj, rfl⟩ := inR_of he (by omega)
          have ej : (nI j).toNatClampNeg = j := nI_clamp (by omega)
          repeat (refine zw_nx rfl (fun _ _ => rfl) ?_)
          rw [show (Int8.ofInt 48).toInt32 + nI j = nI (sb 1 + (nI j).toNatClampNeg) from by rw [ej]; exact nI_add 48 j]
          refine zw_call rfl (fun _ _ => rfl) (xt_one (g := gTie (nI j) s) hL (by rw [ej]; simp only [sb]; omega) hg) (by decide) ?_
          intro M1 r1 hp
          obtain ⟨z, rfl⟩ : ∃ z, r1 = some (.int z) := by
            by_cases hq : gTie (nI j) s ∧ t < 400 ∧ n < 2000
            · exact ⟨_, (hp.1 hq).1⟩
            · exact ⟨_, (hp.2 hq).1⟩
          exact zw_ret rfl (fun _ _ => rfl) (hp)
        · refine zw_nx rfl (fun _ _ => rfl) ?_
          exact zw_ret rfl (fun _ _ => rfl) (xt_no hL (fun z => h4 z.2.2))
set_option maxHeartbeats 4000000 in
set_option maxRecDepth 20000 in
theorem xTread (sc : sm_S) (I : Nat → Int32) (J : Nat → Int64) (A : Nat → Nat → Int32) (B : Nat → Nat → Int64) (tl : sm_M) (e s : Int32) (n t k w : Nat) (hL : LInv I A n t k) (hI : I 1 = nI w) (hw : w ≤ 48) : zC 6 sc 118 [.ref 0, .int e, .int s] (xm I J A B tl) (xtPost I J A B tl n t k (gTread w e s) (sb 2 + e.toNatClampNeg) s) := by
  refine zc_of hkX10_tread rfl ?_
  refine zw_nx rfl (fun _ _ => rfl) ?_
  refine zw_nx rfl (fun _ _ => rfl) ?_
  refine zw_call rfl (fun _ _ => rfl) (xIsPick sc I J A B tl e w hI) (by decide) ?_
  rintro M1 r1 ⟨rfl, rfl⟩
  refine zw_br rfl (fun _ _ => rfl) (fun (hc : bI (0 ≤ e ∧ e < nI w) = 0) => ?_) (fun (hc : ¬ (bI (0 ≤ e ∧ e < nI w) = 0)) => ?_)
  · refine zw_nx rfl (fun _ _ => rfl) ?_
    exact zw_ret rfl (fun _ _ => rfl) (xt_no hL (fun z => bI_0.mp hc z.1))
  · have he : 0 ≤ e ∧ e < nI w := by
      by_cases h : 0 ≤ e ∧ e < nI w
      · exact h
      · exact absurd (bI_0.mpr h) hc
    refine zw_nx rfl (fun _ _ => rfl) ?_
    refine zw_br rfl (fun _ _ => rfl) (fun (h1 : s < 0) => ?_) (fun (h1 : ¬ (s < 0)) => ?_)
    · refine zw_nx rfl (fun _ _ => rfl) ?_
      exact zw_ret rfl (fun _ _ => rfl) (xt_no hL (fun z => Int32.not_lt.mpr z.2.1 h1))
    · refine zw_nx rfl (fun _ _ => rfl) ?_
      refine zw_nx rfl (fun _ _ => rfl) ?_
      refine zw_br rfl (fun _ _ => rfl) (fun (h2 : s < 65536) => ?_) (fun (h2 : ¬ (s < 65536)) => ?_)
      · obtain ⟨j, hj, rfl⟩ := inR_of he (by omega)
        have ej : (nI j).toNatClampNeg = j := nI_clamp (by omega)
        repeat (refine zw_nx rfl (fun _ _ => rfl) ?_)
        rw [show (Int8.ofInt 64).toInt32 + nI j = nI (sb 2 + (nI j).toNatClampNeg) from by rw [ej]; exact nI_add 64 j]
        refine zw_call rfl (fun _ _ => rfl) (xt_one (g := gTread w (nI j) s) hL (by rw [ej]; simp only [sb]; omega) ⟨he, Int32.not_lt.mp h1, h2⟩) (by decide) ?_
        intro M1 r1 hp
        obtain ⟨z, rfl⟩ : ∃ z, r1 = some (.int z) := by
          by_cases hq : gTread w (nI j) s ∧ t < 400 ∧ n < 2000
          · exact ⟨_, (hp.1 hq).1⟩
          · exact ⟨_, (hp.2 hq).1⟩
        exact zw_ret rfl (fun _ _ => rfl) (hp)
      · refine zw_nx rfl (fun _ _ => rfl) ?_
        exact zw_ret rfl (fun _ _ => rfl) (xt_no hL (fun z => h2 z.2.2))
end
section
/-! colour, look, shaft; the reference's tellings -/
def gCol (w : Nat) (e c : Int32) : Prop := (0 ≤ e ∧ e < nI w) ∧ (0 ≤ c ∧ c < 10)
set_option maxHeartbeats 4000000 in
set_option maxRecDepth 20000 in
theorem xColourE (sc : sm_S) (I : Nat → Int32) (J : Nat → Int64) (A : Nat → Nat → Int32) (B : Nat → Nat → Int64) (tl : sm_M) (e s : Int32) (n t k w : Nat) (hL : LInv I A n t k) (hI : I 0 = nI w) (hw : w ≤ 48) : zC 6 sc 119 [.ref 0, .int 1, .int e, .int s] (xm I J A B tl) (xtPost I J A B tl n t k (gCol w e s) (sb 3 + e.toNatClampNeg) s) := by
  refine zc_of hkX10_colour rfl ?_
  repeat (refine zw_nx rfl (fun _ _ => rfl) ?_)
  refine zw_call rfl (fun _ _ => rfl) (xIsEnd sc I J A B tl e w hI) (by decide) ?_
  rintro M1 r1 ⟨rfl, rfl⟩
  repeat (refine zw_nx rfl (fun _ _ => rfl) ?_)
  refine zw_br rfl (fun _ _ => rfl) (fun (hc : bI (0 ≤ e ∧ e < nI w) = 0) => ?_) (fun (hc : ¬ (bI (0 ≤ e ∧ e < nI w) = 0)) => ?_)
  · refine zw_nx rfl (fun _ _ => rfl) ?_
    exact zw_ret rfl (fun _ _ => rfl) (xt_no hL (fun z => bI_0.mp hc z.1))
  · have he : 0 ≤ e ∧ e < nI w := by
      by_cases h : 0 ≤ e ∧ e < nI w
      · exact h
      · exact absurd (bI_0.mpr h) hc
    repeat (refine zw_nx rfl (fun _ _ => rfl) ?_)
    refine zw_call rfl (fun _ _ => rfl) (xIsColour sc (xm I J A B tl) s) (by decide) ?_
    rintro M1 r1 ⟨rfl, rfl⟩
    refine zw_br rfl (fun _ _ => rfl) (fun (hd : bI (0 ≤ s ∧ s < 10) = 0) => ?_) (fun (hd : ¬ (bI (0 ≤ s ∧ s < 10) = 0)) => ?_)
    · refine zw_nx rfl (fun _ _ => rfl) ?_
      exact zw_ret rfl (fun _ _ => rfl) (xt_no hL (fun z => bI_0.mp hd z.2))
    · have hs : 0 ≤ s ∧ s < 10 := by
        by_cases h : 0 ≤ s ∧ s < 10
        · exact h
        · exact absurd (bI_0.mpr h) hd
      obtain ⟨j, hj, rfl⟩ := inR_of he (by omega)
      have ej : (nI j).toNatClampNeg = j := nI_clamp (by omega)
      repeat (refine zw_nx rfl (fun _ _ => rfl) ?_)
      rw [show (Int8.ofInt 112).toInt32 + nI j = nI (sb 3 + (nI j).toNatClampNeg) from by rw [ej]; exact nI_add 112 j]
      refine zw_call rfl (fun _ _ => rfl) (xt_one (g := gCol w (nI j) s) hL (by rw [ej]; simp only [sb]; omega) ⟨he, hs⟩) (by decide) ?_
      intro M1 r1 hp
      obtain ⟨z, rfl⟩ : ∃ z, r1 = some (.int z) := by
        by_cases hq : gCol w (nI j) s ∧ t < 400 ∧ n < 2000
        · exact ⟨_, (hp.1 hq).1⟩
        · exact ⟨_, (hp.2 hq).1⟩
      exact zw_ret rfl (fun _ _ => rfl) (hp)
set_option maxHeartbeats 4000000 in
set_option maxRecDepth 20000 in
theorem xColourP (sc : sm_S) (I : Nat → Int32) (J : Nat → Int64) (A : Nat → Nat → Int32) (B : Nat → Nat → Int64) (tl : sm_M) (e s : Int32) (n t k w : Nat) (hL : LInv I A n t k) (hI : I 1 = nI w) (hw : w ≤ 48) : zC 6 sc 119 [.ref 0, .int 0, .int e, .int s] (xm I J A B tl) (xtPost I J A B tl n t k (gCol w e s) (sb 4 + e.toNatClampNeg) s) := by
  refine zc_of hkX10_colour rfl ?_
  repeat (refine zw_nx rfl (fun _ _ => rfl) ?_)
  refine zw_call rfl (fun _ _ => rfl) (xIsPick sc I J A B tl e w hI) (by decide) ?_
  rintro M1 r1 ⟨rfl, rfl⟩
  repeat (refine zw_nx rfl (fun _ _ => rfl) ?_)
  refine zw_br rfl (fun _ _ => rfl) (fun (hc : bI (0 ≤ e ∧ e < nI w) = 0) => ?_) (fun (hc : ¬ (bI (0 ≤ e ∧ e < nI w) = 0)) => ?_)
  · refine zw_nx rfl (fun _ _ => rfl) ?_
    exact zw_ret rfl (fun _ _ => rfl) (xt_no hL (fun z => bI_0.mp hc z.1))
  · have he : 0 ≤ e ∧ e < nI w := by
      by_cases h : 0 ≤ e ∧ e < nI w
      · exact h
      · exact absurd (bI_0.mpr h) hc
    repeat (refine zw_nx rfl (fun _ _ => rfl) ?_)
    refine zw_call rfl (fun _ _ => rfl) (xIsColour sc (xm I J A B tl) s) (by decide) ?_
    rintro M1 r1 ⟨rfl, rfl⟩
    refine zw_br rfl (fun _ _ => rfl) (fun (hd : bI (0 ≤ s ∧ s < 10) = 0) => ?_) (fun (hd : ¬ (bI (0 ≤ s ∧ s < 10) = 0)) => ?_)
    · refine zw_nx rfl (fun _ _ => rfl) ?_
      exact zw_ret rfl (fun _ _ => rfl) (xt_no hL (fun z => bI_0.mp hd z.2))
    · have hs : 0 ≤ s ∧ s < 10 := by
        by_cases h : 0 ≤ s ∧ s < 10
        · exact h
        · exact absurd (bI_0.mpr h) hd
      obtain ⟨j, hj, rfl⟩ := inR_of he (by omega)
      have ej : (nI j).toNatClampNeg = j := nI_clamp (by omega)
      repeat (refine zw_nx rfl (fun _ _ => rfl) ?_)
      rw [show (Int16.ofInt 160).toInt32 + nI j = nI (sb 4 + (nI j).toNatClampNeg) from by rw [ej]; exact nI_add 160 j]
      refine zw_call rfl (fun _ _ => rfl) (xt_one (g := gCol w (nI j) s) hL (by rw [ej]; simp only [sb]; omega) ⟨he, hs⟩) (by decide) ?_
      intro M1 r1 hp
      obtain ⟨z, rfl⟩ : ∃ z, r1 = some (.int z) := by
        by_cases hq : gCol w (nI j) s ∧ t < 400 ∧ n < 2000
        · exact ⟨_, (hp.1 hq).1⟩
        · exact ⟨_, (hp.2 hq).1⟩
      exact zw_ret rfl (fun _ _ => rfl) (hp)
set_option maxHeartbeats 4000000 in
set_option maxRecDepth 20000 in
/-- look(x) -/
theorem xLook (sc : sm_S) (I : Nat → Int32) (J : Nat → Int64) (A : Nat → Nat → Int32) (B : Nat → Nat → Int64) (tl : sm_M) (x : Int32) (n t k : Nat) (hL : LInv I A n t k) : zC 5 sc 124 [.ref 0, .int x] (xm I J A B tl) (fun M r => (0 ≤ x ∧ x ≤ nI t → r = some (.int 1) ∧ ∃ A' q, x = nI q ∧ q ≤ t ∧ M = xm (upd (upd I 5 (nI q)) 6 (I 6 + 1)) J A' B tl ∧ (∀ a, a ≠ 3 → a ≠ 4 → A' a = A a) ∧ LInv (upd (upd I 5 (nI q)) 6 (I 6 + 1)) A' n t q) ∧ (¬ (0 ≤ x ∧ x ≤ nI t) → r = some (.int 0) ∧ M = xm I J A B tl)) := by
  have h2 : I 4 = nI t := hL.2.1
  have ht : t ≤ 400 := hL.2.2.2.2.1
  refine zc_of hkX10_look rfl ?_
  refine zw_nx rfl (fun _ _ => rfl) ?_
  refine zw_br rfl (fun _ _ => rfl) (fun (h1 : x < 0) => ?_) (fun (h1 : ¬ (x < 0)) => ?_)
  · refine zw_nx rfl (fun _ _ => rfl) ?_
    refine zw_ret rfl (fun _ _ => rfl) ?_
    exact ⟨fun z => absurd h1 (Int32.not_lt.mpr z.1), fun _ => ⟨rfl, rfl⟩⟩
  · repeat (refine zw_nx rfl (fun _ _ => rfl) ?_)
    refine zw_br rfl (fun _ _ => rfl) (fun (h3 : x ≤ I 4) => ?_) (fun (h3 : ¬ (x ≤ I 4)) => ?_)
    · rw [h2] at h3
      obtain ⟨q, hq, rfl⟩ := nI_of h1
      have hqt : q ≤ t := (nI_leI hq (by omega)).mp h3
      repeat (refine zw_nx rfl (fun _ _ => rfl) ?_)
      refine zw_call rfl (fun _ _ => rfl) (cLookAt sc I J A B tl n t k q hL hqt) (by decide) ?_
      rintro M1 r1 ⟨rfl, A', rfl, p1, p2⟩
      repeat (refine zw_nx rfl (fun _ _ => rfl) ?_)
      refine zw_ret rfl (fun _ _ => rfl) ?_
      exact ⟨fun _ => ⟨rfl, A', q, rfl, hqt, rfl, p1, p2⟩, fun z => absurd ⟨Int32.not_lt.mp h1, h3⟩ z⟩
    · rw [h2] at h3
      repeat (refine zw_nx rfl (fun _ _ => rfl) ?_)
      refine zw_ret rfl (fun _ _ => rfl) ?_
      exact ⟨fun z => absurd z.2 h3, fun _ => ⟨rfl, rfl⟩⟩
set_option maxHeartbeats 4000000 in
set_option maxRecDepth 20000 in
/-- shaft(x) -/
theorem xShaft (sc : sm_S) (I : Nat → Int32) (J : Nat → Int64) (A : Nat → Nat → Int32) (B : Nat → Nat → Int64) (tl : sm_M) (x : Int32) (w : Nat) (hI : I 0 = nI w) (hw : w ≤ 48) : zC 2 sc 125 [.ref 0, .int x] (xm I J A B tl) (zR (xm I J A B tl) (.int (if 0 ≤ x ∧ x < nI w then A 3 x.toNatClampNeg else -1))) := by
  refine zc_of hkX10_shaft rfl ?_
  refine zw_nx rfl (fun _ _ => rfl) ?_
  refine zw_nx rfl (fun _ _ => rfl) ?_
  refine zw_call rfl (fun _ _ => rfl) (xIsEnd sc I J A B tl x w hI) (by decide) ?_
  rintro M1 r1 ⟨rfl, rfl⟩
  refine zw_br rfl (fun _ _ => rfl) (fun (hc : bI (0 ≤ x ∧ x < nI w) = 0) => ?_) (fun (hc : ¬ (bI (0 ≤ x ∧ x < nI w) = 0)) => ?_)
  · repeat (refine zw_nx rfl (fun _ _ => rfl) ?_)
    exact zw_ret rfl (fun _ _ => rfl) (⟨rfl, by rw [if_neg (bI_0.mp hc)]; rfl⟩)
  · have he : 0 ≤ x ∧ x < nI w := by
      by_cases h : 0 ≤ x ∧ x < nI w
      · exact h
      · exact absurd (bI_0.mpr h) hc
    rw [if_pos he]
    obtain ⟨j, hj, rfl⟩ := inR_of he (by omega)
    have ej : (nI j).toNatClampNeg = j := nI_clamp (by omega)
    repeat (refine zw_nx rfl (fun _ _ => rfl) ?_)
    rw [show (Int32.ofInt 0) + nI j = nI j from by rw [show (Int32.ofInt 0) = nI 0 from rfl, nI_add, Nat.zero_add]]
    refine zw_call rfl (fun _ _ => rfl) (cValueOf sc I J A B tl j (by omega)) (by decide) ?_
    rintro M1 r1 ⟨rfl, rfl⟩
    repeat (refine zw_nx rfl (fun _ _ => rfl) ?_)
    exact zw_ret rfl (fun _ _ => rfl) (⟨rfl, by rw [ej]⟩)
set_option maxHeartbeats 4000000 in
set_option maxRecDepth 20000 in
theorem mThread (sc : sm_S) (f : Nat → va_E) (I : Nat → Int32) (A : Nat → Nat → Int32) (B : Nat → Nat → Int64) (e s : Int32) (n t k w : Nat) (hM : MInv I A n t k) (hI : I 0 = nI w) (h1 : 1 ≤ w) (hw : w ≤ 48) : zC 3 sc 169 [.ref 47, .int e, .int s] (mm f I A B) (mtPost f I A B n t (gThread w e s) 0 e s) := by
  obtain ⟨m1, m2, m3, m4, m5, m6, m7⟩ := hM
  have hint : ∀ M1 r1, mtPost f I A B n t (gThread w e s) 0 e s M1 r1 → ∃ z, r1 = some (.int z) := by
    intro M1 r1 hp
    by_cases hq : gThread w e s ∧ t < 400 ∧ n < 2000
    · exact ⟨_, (hp.1 hq).1⟩
    · exact ⟨_, (hp.2 hq).1⟩
  have key : ∀ g : Prop, [Decidable g] → (g ↔ gThread w e s) → zC 2 sc 167 [.ref 47, .int (bI g), .int 0, .int e, .int s] (mm f I A B) (mtPost f I A B n t (gThread w e s) 0 e s) := by
    intro g _ hg
    refine zc_post (mTelling sc f I A B 0 e s n t g m1 m4 m2 m5) (fun M r h => ?_)
    exact ⟨fun z => h.1 ⟨hg.mpr z.1, z.2⟩, fun z => h.2 (fun y => z ⟨hg.mp y.1, y.2⟩)⟩
  refine zc_of hkX11_thread rfl ?_
  repeat (refine zw_nx rfl (fun _ _ => rfl) ?_)
  refine zw_call rfl (fun _ _ => rfl) (mIsEnd sc f I A B e w hI h1 hw) (by decide) ?_
  rintro M1 r1 ⟨rfl, rfl⟩
  refine zw_br rfl (fun _ _ => rfl) (fun (hc : bI (0 ≤ e ∧ e < nI w) = 0) => ?_) (fun (hc : ¬ (bI (0 ≤ e ∧ e < nI w) = 0)) => ?_)
  · repeat (refine zw_nx rfl (fun _ _ => rfl) ?_)
    refine zw_call rfl (fun _ _ => rfl) (key False ⟨fun z => z.elim, fun z => absurd z.1 (bI_0.mp hc)⟩) (by decide) ?_
    intro M1 r1 hp
    obtain ⟨z, rfl⟩ := hint M1 r1 hp
    exact zw_ret rfl (fun _ _ => rfl) (hp)
  · have he : 0 ≤ e ∧ e < nI w := by
      by_cases h : 0 ≤ e ∧ e < nI w
      · exact h
      · exact absurd (bI_0.mpr h) hc
    repeat (refine zw_nx rfl (fun _ _ => rfl) ?_)
    refine zw_call rfl (fun _ _ => rfl) (mIsIn sc (mm f I A B) s (-1) 15) (by decide) ?_
    rintro M1 r1 ⟨rfl, rfl⟩
    have e15 : s ≤ 15 ↔ s < 16 := le_pred (x := s) (w := 16) (by decide) (by decide)
    refine zw_br rfl (fun _ _ => rfl) (fun (hd : bI (-1 ≤ s ∧ s ≤ 15) = 0) => ?_) (fun (hd : ¬ (bI (-1 ≤ s ∧ s ≤ 15) = 0)) => ?_)
    · repeat (refine zw_nx rfl (fun _ _ => rfl) ?_)
      refine zw_call rfl (fun _ _ => rfl) (key False ⟨fun z => z.elim, fun z => absurd ⟨z.2.1, e15.mpr z.2.2⟩ (bI_0.mp hd)⟩) (by decide) ?_
      intro M1 r1 hp
      obtain ⟨z, rfl⟩ := hint M1 r1 hp
      exact zw_ret rfl (fun _ _ => rfl) (hp)
    · have hs : -1 ≤ s ∧ s ≤ 15 := by
        by_cases h : -1 ≤ s ∧ s ≤ 15
        · exact h
        · exact absurd (bI_0.mpr h) hd
      repeat (refine zw_nx rfl (fun _ _ => rfl) ?_)
      refine zw_call rfl (fun _ _ => rfl) (key True ⟨fun _ => ⟨he, hs.1, e15.mp hs.2⟩, fun _ => trivial⟩) (by decide) ?_
      intro M1 r1 hp
      obtain ⟨z, rfl⟩ := hint M1 r1 hp
      exact zw_ret rfl (fun _ _ => rfl) (hp)
set_option maxHeartbeats 4000000 in
set_option maxRecDepth 20000 in
theorem mTie (sc : sm_S) (f : Nat → va_E) (I : Nat → Int32) (A : Nat → Nat → Int32) (B : Nat → Nat → Int64) (e s : Int32) (n t k : Nat) (hM : MInv I A n t k) : zC 3 sc 170 [.ref 47, .int e, .int s] (mm f I A B) (mtPost f I A B n t (gTie e s) 1 e s) := by
  obtain ⟨m1, m2, m3, m4, m5, m6, m7⟩ := hM
  have hint : ∀ M1 r1, mtPost f I A B n t (gTie e s) 1 e s M1 r1 → ∃ z, r1 = some (.int z) := by
    intro M1 r1 hp
    by_cases hq : gTie e s ∧ t < 400 ∧ n < 2000
    · exact ⟨_, (hp.1 hq).1⟩
    · exact ⟨_, (hp.2 hq).1⟩
  have key : ∀ g : Prop, [Decidable g] → (g ↔ gTie e s) → zC 2 sc 167 [.ref 47, .int (bI g), .int 1, .int e, .int s] (mm f I A B) (mtPost f I A B n t (gTie e s) 1 e s) := by
    intro g _ hg
    refine zc_post (mTelling sc f I A B 1 e s n t g m1 m4 m2 m5) (fun M r h => ?_)
    exact ⟨fun z => h.1 ⟨hg.mpr z.1, z.2⟩, fun z => h.2 (fun y => z ⟨hg.mp y.1, y.2⟩)⟩
  have e15 : e ≤ 15 ↔ e < 16 := le_pred (x := e) (w := 16) (by decide) (by decide)
  have e6 : s ≤ 65535 ↔ s < 65536 := le_pred (x := s) (w := 65536) (by decide) (by decide)
  refine zc_of hkX11_tie rfl ?_
  repeat (refine zw_nx rfl (fun _ _ => rfl) ?_)
  refine zw_call rfl (fun _ _ => rfl) (mIsIn sc (mm f I A B) e 0 15) (by decide) ?_
  rintro M1 r1 ⟨rfl, rfl⟩
  refine zw_br rfl (fun _ _ => rfl) (fun (hc : bI (0 ≤ e ∧ e ≤ 15) = 0) => ?_) (fun (hc : ¬ (bI (0 ≤ e ∧ e ≤ 15) = 0)) => ?_)
  · repeat (refine zw_nx rfl (fun _ _ => rfl) ?_)
    refine zw_call rfl (fun _ _ => rfl) (key False ⟨fun z => z.elim, fun z => absurd ⟨z.1.1, e15.mpr z.1.2⟩ (bI_0.mp hc)⟩) (by decide) ?_
    intro M1 r1 hp
    obtain ⟨z, rfl⟩ := hint M1 r1 hp
    exact zw_ret rfl (fun _ _ => rfl) (hp)
  · have he : 0 ≤ e ∧ e ≤ 15 := by
      by_cases h : 0 ≤ e ∧ e ≤ 15
      · exact h
      · exact absurd (bI_0.mpr h) hc
    repeat (refine zw_nx rfl (fun _ _ => rfl) ?_)
    refine zw_call rfl (fun _ _ => rfl) (mIsIn sc (mm f I A B) s 0 65535) (by decide) ?_
    rintro M1 r1 ⟨rfl, rfl⟩
    refine zw_br rfl (fun _ _ => rfl) (fun (hd : bI (0 ≤ s ∧ s ≤ 65535) = 0) => ?_) (fun (hd : ¬ (bI (0 ≤ s ∧ s ≤ 65535) = 0)) => ?_)
    · repeat (refine zw_nx rfl (fun _ _ => rfl) ?_)
      refine zw_call rfl (fun _ _ => rfl) (key False ⟨fun z => z.elim, fun z => absurd ⟨z.2.1, e6.mpr z.2.2⟩ (bI_0.mp hd)⟩) (by decide) ?_
      intro M1 r1 hp
      obtain ⟨z, rfl⟩ := hint M1 r1 hp
      exact zw_ret rfl (fun _ _ => rfl) (hp)
    · have hs : 0 ≤ s ∧ s ≤ 65535 := by
        by_cases h : 0 ≤ s ∧ s ≤ 65535
        · exact h
        · exact absurd (bI_0.mpr h) hd
      repeat (refine zw_nx rfl (fun _ _ => rfl) ?_)
      refine zw_call rfl (fun _ _ => rfl) (key True ⟨fun _ => ⟨⟨he.1, e15.mp he.2⟩, hs.1, e6.mp hs.2⟩, fun _ => trivial⟩) (by decide) ?_
      intro M1 r1 hp
      obtain ⟨z, rfl⟩ := hint M1 r1 hp
      exact zw_ret rfl (fun _ _ => rfl) (hp)
set_option maxHeartbeats 4000000 in
set_option maxRecDepth 20000 in
theorem mTread (sc : sm_S) (f : Nat → va_E) (I : Nat → Int32) (A : Nat → Nat → Int32) (B : Nat → Nat → Int64) (e s : Int32) (n t k w : Nat) (hM : MInv I A n t k) (hI : I 1 = nI w) (h1 : 1 ≤ w) (hw : w ≤ 48) : zC 3 sc 171 [.ref 47, .int e, .int s] (mm f I A B) (mtPost f I A B n t (gTread w e s) 2 e s) := by
  obtain ⟨m1, m2, m3, m4, m5, m6, m7⟩ := hM
  have hint : ∀ M1 r1, mtPost f I A B n t (gTread w e s) 2 e s M1 r1 → ∃ z, r1 = some (.int z) := by
    intro M1 r1 hp
    by_cases hq : gTread w e s ∧ t < 400 ∧ n < 2000
    · exact ⟨_, (hp.1 hq).1⟩
    · exact ⟨_, (hp.2 hq).1⟩
  have key : ∀ g : Prop, [Decidable g] → (g ↔ gTread w e s) → zC 2 sc 167 [.ref 47, .int (bI g), .int 2, .int e, .int s] (mm f I A B) (mtPost f I A B n t (gTread w e s) 2 e s) := by
    intro g _ hg
    refine zc_post (mTelling sc f I A B 2 e s n t g m1 m4 m2 m5) (fun M r h => ?_)
    exact ⟨fun z => h.1 ⟨hg.mpr z.1, z.2⟩, fun z => h.2 (fun y => z ⟨hg.mp y.1, y.2⟩)⟩
  have e6 : s ≤ 65535 ↔ s < 65536 := le_pred (x := s) (w := 65536) (by decide) (by decide)
  refine zc_of hkX11_tread rfl ?_
  repeat (refine zw_nx rfl (fun _ _ => rfl) ?_)
  refine zw_call rfl (fun _ _ => rfl) (mIsPick sc f I A B e w hI h1 hw) (by decide) ?_
  rintro M1 r1 ⟨rfl, rfl⟩
  refine zw_br rfl (fun _ _ => rfl) (fun (hc : bI (0 ≤ e ∧ e < nI w) = 0) => ?_) (fun (hc : ¬ (bI (0 ≤ e ∧ e < nI w) = 0)) => ?_)
  · repeat (refine zw_nx rfl (fun _ _ => rfl) ?_)
    refine zw_call rfl (fun _ _ => rfl) (key False ⟨fun z => z.elim, fun z => absurd z.1 (bI_0.mp hc)⟩) (by decide) ?_
    intro M1 r1 hp
    obtain ⟨z, rfl⟩ := hint M1 r1 hp
    exact zw_ret rfl (fun _ _ => rfl) (hp)
  · have he : 0 ≤ e ∧ e < nI w := by
      by_cases h : 0 ≤ e ∧ e < nI w
      · exact h
      · exact absurd (bI_0.mpr h) hc
    repeat (refine zw_nx rfl (fun _ _ => rfl) ?_)
    refine zw_call rfl (fun _ _ => rfl) (mIsIn sc (mm f I A B) s 0 65535) (by decide) ?_
    rintro M1 r1 ⟨rfl, rfl⟩
    refine zw_br rfl (fun _ _ => rfl) (fun (hd : bI (0 ≤ s ∧ s ≤ 65535) = 0) => ?_) (fun (hd : ¬ (bI (0 ≤ s ∧ s ≤ 65535) = 0)) => ?_)
    · repeat (refine zw_nx rfl (fun _ _ => rfl) ?_)
      refine zw_call rfl (fun _ _ => rfl) (key False ⟨fun z => z.elim, fun z => absurd ⟨z.2.1, e6.mpr z.2.2⟩ (bI_0.mp hd)⟩) (by decide) ?_
      intro M1 r1 hp
      obtain ⟨z, rfl⟩ := hint M1 r1 hp
      exact zw_ret rfl (fun _ _ => rfl) (hp)
    · have hs : 0 ≤ s ∧ s ≤ 65535 := by
        by_cases h : 0 ≤ s ∧ s ≤ 65535
        · exact h
        · exact absurd (bI_0.mpr h) hd
      repeat (refine zw_nx rfl (fun _ _ => rfl) ?_)
      refine zw_call rfl (fun _ _ => rfl) (key True ⟨fun _ => ⟨he, hs.1, e6.mp hs.2⟩, fun _ => trivial⟩) (by decide) ?_
      intro M1 r1 hp
      obtain ⟨z, rfl⟩ := hint M1 r1 hp
      exact zw_ret rfl (fun _ _ => rfl) (hp)
set_option maxHeartbeats 4000000 in
set_option maxRecDepth 20000 in
theorem mColourE (sc : sm_S) (f : Nat → va_E) (I : Nat → Int32) (A : Nat → Nat → Int32) (B : Nat → Nat → Int64) (e s : Int32) (n t k w : Nat) (hM : MInv I A n t k) (hI : I 0 = nI w) (h1 : 1 ≤ w) (hw : w ≤ 48) : zC 3 sc 172 [.ref 47, .int 1, .int e, .int s] (mm f I A B) (mtPost f I A B n t (gCol w e s) 3 e s) := by
  obtain ⟨m1, m2, m3, m4, m5, m6, m7⟩ := hM
  have hint : ∀ M1 r1, mtPost f I A B n t (gCol w e s) 3 e s M1 r1 → ∃ z, r1 = some (.int z) := by
    intro M1 r1 hp
    by_cases hq : gCol w e s ∧ t < 400 ∧ n < 2000
    · exact ⟨_, (hp.1 hq).1⟩
    · exact ⟨_, (hp.2 hq).1⟩
  have key : ∀ g : Prop, [Decidable g] → (g ↔ gCol w e s) → zC 2 sc 167 [.ref 47, .int (bI g), .int 3, .int e, .int s] (mm f I A B) (mtPost f I A B n t (gCol w e s) 3 e s) := by
    intro g _ hg
    refine zc_post (mTelling sc f I A B 3 e s n t g m1 m4 m2 m5) (fun M r h => ?_)
    exact ⟨fun z => h.1 ⟨hg.mpr z.1, z.2⟩, fun z => h.2 (fun y => z ⟨hg.mp y.1, y.2⟩)⟩
  have e6 : s ≤ 9 ↔ s < 10 := le_pred (x := s) (w := 10) (by decide) (by decide)
  refine zc_of hkX11_colour rfl ?_
  repeat (refine zw_nx rfl (fun _ _ => rfl) ?_)
  refine zw_call rfl (fun _ _ => rfl) (mIsEnd sc f I A B e w hI h1 hw) (by decide) ?_
  rintro M1 r1 ⟨rfl, rfl⟩
  refine zw_br rfl (fun _ _ => rfl) (fun (hc : bI (0 ≤ e ∧ e < nI w) = 0) => ?_) (fun (hc : ¬ (bI (0 ≤ e ∧ e < nI w) = 0)) => ?_)
  · repeat (refine zw_nx rfl (fun _ _ => rfl) ?_)
    refine zw_call rfl (fun _ _ => rfl) (key False ⟨fun z => z.elim, fun z => absurd z.1 (bI_0.mp hc)⟩) (by decide) ?_
    intro M1 r1 hp
    obtain ⟨z, rfl⟩ := hint M1 r1 hp
    exact zw_ret rfl (fun _ _ => rfl) (hp)
  · have he : 0 ≤ e ∧ e < nI w := by
      by_cases h : 0 ≤ e ∧ e < nI w
      · exact h
      · exact absurd (bI_0.mpr h) hc
    repeat (refine zw_nx rfl (fun _ _ => rfl) ?_)
    refine zw_call rfl (fun _ _ => rfl) (mIsIn sc (mm f I A B) s 0 9) (by decide) ?_
    rintro M1 r1 ⟨rfl, rfl⟩
    refine zw_br rfl (fun _ _ => rfl) (fun (hd : bI (0 ≤ s ∧ s ≤ 9) = 0) => ?_) (fun (hd : ¬ (bI (0 ≤ s ∧ s ≤ 9) = 0)) => ?_)
    · repeat (refine zw_nx rfl (fun _ _ => rfl) ?_)
      refine zw_call rfl (fun _ _ => rfl) (key False ⟨fun z => z.elim, fun z => absurd ⟨z.2.1, e6.mpr z.2.2⟩ (bI_0.mp hd)⟩) (by decide) ?_
      intro M1 r1 hp
      obtain ⟨z, rfl⟩ := hint M1 r1 hp
      exact zw_ret rfl (fun _ _ => rfl) (hp)
    · have hs : 0 ≤ s ∧ s ≤ 9 := by
        by_cases h : 0 ≤ s ∧ s ≤ 9
        · exact h
        · exact absurd (bI_0.mpr h) hd
      repeat (refine zw_nx rfl (fun _ _ => rfl) ?_)
      refine zw_call rfl (fun _ _ => rfl) (key True ⟨fun _ => ⟨he, hs.1, e6.mp hs.2⟩, fun _ => trivial⟩) (by decide) ?_
      intro M1 r1 hp
      obtain ⟨z, rfl⟩ := hint M1 r1 hp
      exact zw_ret rfl (fun _ _ => rfl) (hp)
set_option maxHeartbeats 4000000 in
set_option maxRecDepth 20000 in
theorem mColourP (sc : sm_S) (f : Nat → va_E) (I : Nat → Int32) (A : Nat → Nat → Int32) (B : Nat → Nat → Int64) (e s : Int32) (n t k w : Nat) (hM : MInv I A n t k) (hI : I 1 = nI w) (h1 : 1 ≤ w) (hw : w ≤ 48) : zC 3 sc 172 [.ref 47, .int 0, .int e, .int s] (mm f I A B) (mtPost f I A B n t (gCol w e s) 4 e s) := by
  obtain ⟨m1, m2, m3, m4, m5, m6, m7⟩ := hM
  have hint : ∀ M1 r1, mtPost f I A B n t (gCol w e s) 4 e s M1 r1 → ∃ z, r1 = some (.int z) := by
    intro M1 r1 hp
    by_cases hq : gCol w e s ∧ t < 400 ∧ n < 2000
    · exact ⟨_, (hp.1 hq).1⟩
    · exact ⟨_, (hp.2 hq).1⟩
  have key : ∀ g : Prop, [Decidable g] → (g ↔ gCol w e s) → zC 2 sc 167 [.ref 47, .int (bI g), .int 4, .int e, .int s] (mm f I A B) (mtPost f I A B n t (gCol w e s) 4 e s) := by
    intro g _ hg
    refine zc_post (mTelling sc f I A B 4 e s n t g m1 m4 m2 m5) (fun M r h => ?_)
    exact ⟨fun z => h.1 ⟨hg.mpr z.1, z.2⟩, fun z => h.2 (fun y => z ⟨hg.mp y.1, y.2⟩)⟩
  have e6 : s ≤ 9 ↔ s < 10 := le_pred (x := s) (w := 10) (by decide) (by decide)
  refine zc_of hkX11_colour rfl ?_
  repeat (refine zw_nx rfl (fun _ _ => rfl) ?_)
  refine zw_call rfl (fun _ _ => rfl) (mIsPick sc f I A B e w hI h1 hw) (by decide) ?_
  rintro M1 r1 ⟨rfl, rfl⟩
  refine zw_br rfl (fun _ _ => rfl) (fun (hc : bI (0 ≤ e ∧ e < nI w) = 0) => ?_) (fun (hc : ¬ (bI (0 ≤ e ∧ e < nI w) = 0)) => ?_)
  · repeat (refine zw_nx rfl (fun _ _ => rfl) ?_)
    refine zw_call rfl (fun _ _ => rfl) (key False ⟨fun z => z.elim, fun z => absurd z.1 (bI_0.mp hc)⟩) (by decide) ?_
    intro M1 r1 hp
    obtain ⟨z, rfl⟩ := hint M1 r1 hp
    exact zw_ret rfl (fun _ _ => rfl) (hp)
  · have he : 0 ≤ e ∧ e < nI w := by
      by_cases h : 0 ≤ e ∧ e < nI w
      · exact h
      · exact absurd (bI_0.mpr h) hc
    repeat (refine zw_nx rfl (fun _ _ => rfl) ?_)
    refine zw_call rfl (fun _ _ => rfl) (mIsIn sc (mm f I A B) s 0 9) (by decide) ?_
    rintro M1 r1 ⟨rfl, rfl⟩
    refine zw_br rfl (fun _ _ => rfl) (fun (hd : bI (0 ≤ s ∧ s ≤ 9) = 0) => ?_) (fun (hd : ¬ (bI (0 ≤ s ∧ s ≤ 9) = 0)) => ?_)
    · repeat (refine zw_nx rfl (fun _ _ => rfl) ?_)
      refine zw_call rfl (fun _ _ => rfl) (key False ⟨fun z => z.elim, fun z => absurd ⟨z.2.1, e6.mpr z.2.2⟩ (bI_0.mp hd)⟩) (by decide) ?_
      intro M1 r1 hp
      obtain ⟨z, rfl⟩ := hint M1 r1 hp
      exact zw_ret rfl (fun _ _ => rfl) (hp)
    · have hs : 0 ≤ s ∧ s ≤ 9 := by
        by_cases h : 0 ≤ s ∧ s ≤ 9
        · exact h
        · exact absurd (bI_0.mpr h) hd
      repeat (refine zw_nx rfl (fun _ _ => rfl) ?_)
      refine zw_call rfl (fun _ _ => rfl) (key True ⟨fun _ => ⟨he, hs.1, e6.mp hs.2⟩, fun _ => trivial⟩) (by decide) ?_
      intro M1 r1 hp
      obtain ⟨z, rfl⟩ := hint M1 r1 hp
      exact zw_ret rfl (fun _ _ => rfl) (hp)
set_option maxHeartbeats 4000000 in
set_option maxRecDepth 20000 in
theorem mShaft (sc : sm_S) (f : Nat → va_E) (I : Nat → Int32) (A : Nat → Nat → Int32) (B : Nat → Nat → Int64) (x : Int32) (n w : Nat) (hn : I 4 = nI n) (hnb : n ≤ 2000) (hI : I 0 = nI w) (h1 : 1 ≤ w) (hw : w ≤ 48) : zC 3 sc 178 [.ref 47, .int x] (mm f I A B) (zR (mm f I A B) (.int (if 0 ≤ x ∧ x < nI w then mVal A n 0 x (I 3) else -1))) := by
  refine zc_of hkX11_shaft rfl ?_
  repeat (refine zw_nx rfl (fun _ _ => rfl) ?_)
  refine zw_call rfl (fun _ _ => rfl) (mIsEnd sc f I A B x w hI h1 hw) (by decide) ?_
  rintro M1 r1 ⟨rfl, rfl⟩
  refine zw_br rfl (fun _ _ => rfl) (fun (hc : bI (0 ≤ x ∧ x < nI w) = 0) => ?_) (fun (hc : ¬ (bI (0 ≤ x ∧ x < nI w) = 0)) => ?_)
  · repeat (refine zw_nx rfl (fun _ _ => rfl) ?_)
    exact zw_ret rfl (fun _ _ => rfl) (⟨rfl, by rw [if_neg (bI_0.mp hc)]; rfl⟩)
  · have he : 0 ≤ x ∧ x < nI w := by
      by_cases h : 0 ≤ x ∧ x < nI w
      · exact h
      · exact absurd (bI_0.mpr h) hc
    repeat (refine zw_nx rfl (fun _ _ => rfl) ?_)
    refine zw_call rfl (fun _ _ => rfl) (mValueOf sc f I A B 0 x n hn hnb) (by decide) ?_
    rintro M1 r1 ⟨rfl, rfl⟩
    repeat (refine zw_nx rfl (fun _ _ => rfl) ?_)
    exact zw_ret rfl (fun _ _ => rfl) (⟨rfl, by rw [if_pos he]⟩)
end
section
/-! bits of words -/
theorem lb_or (x y : Int64) (i : Nat) : lb (x ||| y) i = (lb x i || lb y i) := by unfold lb; rw [Int64.toBitVec_or, BitVec.getLsbD_or]
theorem lb_and (x y : Int64) (i : Nat) : lb (x &&& y) i = (lb x i && lb y i) := by unfold lb; rw [Int64.toBitVec_and, BitVec.getLsbD_and]
theorem lb_xor (x y : Int64) (i : Nat) : lb (x ^^^ y) i = (lb x i ^^ lb y i) := by unfold lb; rw [Int64.toBitVec_xor, BitVec.getLsbD_xor]
theorem lb_ge (x : Int64) {i : Nat} (h : 64 ≤ i) : lb x i = false := BitVec.getLsbD_of_ge _ _ h
theorem lb_0 (i : Nat) : lb 0 i = false := by
  show (0#64).getLsbD i = false
  exact BitVec.getLsbD_zero
theorem lb_m1 {i : Nat} (h : i < 64) : lb (-1) i = true := by
  show (BitVec.allOnes 64).getLsbD i = true
  rw [BitVec.getLsbD_allOnes]
  exact decide_eq_true h
theorem lb_ext {x y : Int64} (h : ∀ i, i < 64 → lb x i = lb y i) : x = y := Int64.toBitVec_inj.mp (BitVec.eq_of_getLsbD_eq (fun i hi => h i hi))
theorem sh_l : ∀ i, i < 64 → (((nI i).toInt64 &&& 63).toBitVec.smod 64).toNat = i := by decide +kernel
theorem sh_u : ∀ i, i < 64 → (((nI i).toInt64.toUInt64 &&& Int64.toUInt64 63).toBitVec % 64).toNat = i := by decide +kernel
theorem sh_i : ∀ i, i < 32 → ((nI i &&& 31).toBitVec.smod 32).toNat = i := by decide +kernel
theorem lb_shl (x : Int64) {k : Nat} (hk : k < 64) (i : Nat) : lb (x <<< ((nI k).toInt64 &&& 63)) i = (decide (i < 64) && (!decide (i < k) && lb x (i - k))) := by
  unfold lb
  show (x.toBitVec <<< (((nI k).toInt64 &&& 63).toBitVec.smod 64).toNat).getLsbD i = _
  rw [sh_l k hk, BitVec.getLsbD_shiftLeft, Bool.and_assoc]
theorem lb_ushr (x : Int64) {k : Nat} (hk : k < 64) (i : Nat) : lb (x.toUInt64 >>> ((nI k).toInt64.toUInt64 &&& Int64.toUInt64 63)).toInt64 i = lb x (k + i) := by
  unfold lb
  have e : (x.toUInt64 >>> ((nI k).toInt64.toUInt64 &&& Int64.toUInt64 63)).toInt64.toBitVec = x.toBitVec >>> (((nI k).toInt64.toUInt64 &&& Int64.toUInt64 63).toBitVec % 64).toNat := UInt64.toBitVec_shiftRight _ _
  rw [e, sh_u k hk, BitVec.getLsbD_ushiftRight]
theorem lb_sshr (x : Int64) {k : Nat} (hk : k < 64) : lb (x >>> ((nI k).toInt64 &&& 63)) 0 = lb x k := by
  unfold lb
  show (x.toBitVec.sshiftRight (((nI k).toInt64 &&& 63).toBitVec.smod 64).toNat).getLsbD 0 = _
  rw [sh_l k hk, BitVec.getLsbD_sshiftRight]
  simp [hk]
/-- one bit -/
def bitL (i : Nat) : Int64 := (1 : Int64) <<< ((nI i).toInt64 &&& 63)
theorem lb_1 (i : Nat) : lb 1 i = decide (i = 0) := by
  show (1#64).getLsbD i = _
  rw [BitVec.getLsbD_one]
  simp
theorem lb_bit {k : Nat} (hk : k < 64) (i : Nat) : lb (bitL k) i = decide (i = k) := by
  unfold bitL
  rw [lb_shl _ hk, lb_1]
  by_cases h : i = k
  · subst h; simp [hk]
  · by_cases h2 : i < k
    · simp [h, h2]
    · have : ¬ i - k = 0 := by omega
      simp [h, this]
/-- the word of a set of places below n -/
def mk (p : Nat → Bool) : Nat → Int64
  | 0 => 0
  | n + 1 => if p n then mk p n ||| bitL n else mk p n
theorem lb_mk {p : Nat → Bool} : ∀ {n : Nat}, n ≤ 64 → ∀ i, lb (mk p n) i = (decide (i < n) && p i) := by
  intro n
  induction n with
  | zero => intro _ i; rw [mk, lb_0]; simp
  | succ n ih =>
    intro hn i
    unfold mk
    by_cases hp : p n
    · rw [if_pos hp, lb_or, ih (by omega), lb_bit (by omega)]
      by_cases h : i = n
      · subst h; simp [hp]
      · by_cases h2 : i < n
        · simp [h, h2, Nat.lt_succ_of_lt h2]
        · have : ¬ i < n + 1 := by omega
          simp [h, h2, this]
    · rw [if_neg hp, ih (by omega)]
      by_cases h : i = n
      · subst h; simp [hp]
      · by_cases h2 : i < n
        · simp [h2, Nat.lt_succ_of_lt h2]
        · have : ¬ i < n + 1 := by omega
          simp [h2, this]
theorem mk_cong {p q : Nat → Bool} : ∀ {n : Nat}, (∀ i, i < n → p i = q i) → mk p n = mk q n := by
  intro n
  induction n with
  | zero => intro _; rfl
  | succ n ih =>
    intro h
    unfold mk
    rw [h n (by omega), ih (fun i hi => h i (by omega))]
theorem mk_eq {p : Nat → Bool} {n : Nat} (hn : n ≤ 64) {x : Int64} (h : ∀ i, i < 64 → lb x i = (decide (i < n) && p i)) : x = mk p n := lb_ext (fun i hi => by rw [h i hi, lb_mk hn])
/-- bits of ints -/
theorem ib_or (x y : Int32) (i : Nat) : ib (x ||| y) i = (ib x i || ib y i) := by unfold ib; rw [Int32.toBitVec_or, BitVec.getLsbD_or]
theorem ib_and (x y : Int32) (i : Nat) : ib (x &&& y) i = (ib x i && ib y i) := by unfold ib; rw [Int32.toBitVec_and, BitVec.getLsbD_and]
theorem ib_0 (i : Nat) : ib 0 i = false := by
  show (0#32).getLsbD i = false
  exact BitVec.getLsbD_zero
theorem ib_ext {x y : Int32} (h : ∀ i, i < 32 → ib x i = ib y i) : x = y := Int32.toBitVec_inj.mp (BitVec.eq_of_getLsbD_eq (fun i hi => h i hi))
theorem ib_sshr (x : Int32) {k : Nat} (hk : k < 32) : ib (x >>> (nI k &&& 31)) 0 = ib x k := by
  unfold ib
  show (x.toBitVec.sshiftRight ((nI k &&& 31).toBitVec.smod 32).toNat).getLsbD 0 = _
  rw [sh_i k hk, BitVec.getLsbD_sshiftRight]
  simp [hk]
theorem ib_1 (i : Nat) : ib 1 i = decide (i = 0) := by
  show (1#32).getLsbD i = _
  rw [BitVec.getLsbD_one]
  simp
/-- the lowest bit -/
theorem ib_low (x : Int32) : x &&& 1 = if ib x 0 then 1 else 0 := by
  refine ib_ext (fun i hi => ?_)
  rw [ib_and, ib_1]
  by_cases h : i = 0
  · subst h
    cases ib x 0
    · rw [if_neg (by simp), ib_0]; rfl
    · rw [if_pos rfl, ib_1]; rfl
  · cases ib x 0
    · rw [if_neg (by simp), ib_0]; simp [h]
    · rw [if_pos rfl, ib_1]; simp [h]
theorem lb_low (x : Int64) : x &&& 1 = if lb x 0 then 1 else 0 := by
  refine lb_ext (fun i hi => ?_)
  rw [lb_and, lb_1]
  by_cases h : i = 0
  · subst h
    cases lb x 0
    · rw [if_neg (by simp), lb_0]; rfl
    · rw [if_pos rfl, lb_1]; rfl
  · cases lb x 0
    · rw [if_neg (by simp), lb_0]; simp [h]
    · rw [if_pos rfl, lb_1]; simp [h]
/-- an int as a long: its low bits -/
theorem lb_i2l (x : Int32) {i : Nat} (hi : i < 32) : lb x.toInt64 i = ib x i := by
  unfold lb ib
  show (x.toBitVec.signExtend 64).getLsbD i = _
  rw [BitVec.getLsbD_signExtend]
  simp [hi, show i < 64 by omega]
/-- has(s, i) -/
theorem cHasN (sc : sm_S) (M : sm_M) (s : Int64) {i : Nat} (hi : i < 64) : zC 1 sc 150 [.long s, .int (nI i)] M (zR M (.int (if lb s i then 1 else 0))) := by
  refine zc_post (cHas sc M s (nI i)) ?_
  rintro M' r ⟨rfl, rfl⟩
  refine ⟨rfl, ?_⟩
  rw [lb_low, lb_ushr s hi 0, Nat.add_zero]
  cases lb s i <;> rfl
set_option maxHeartbeats 4000000 in
set_option maxRecDepth 20000 in
/-- the JDK's bit count of a long, by bits -/
theorem cFirstBitsN (sc : sm_S) (M : sm_M) {n : Nat} (hn : n < 64) : zC 1 sc 151 [.int (nI n)] M (zR M (.long (bitL n - 1))) := cFirstBits sc M (nI n)
/-- 2^n - 1: the lowest n bits -/
theorem bits_low : ∀ n, n < 64 → bitL n - 1 = mk (fun _ => true) n := by decide +kernel
theorem lb_low_n {n : Nat} (hn : n < 64) (i : Nat) : lb (bitL n - 1) i = decide (i < n) := by
  rw [bits_low n hn, lb_mk (by omega), Bool.and_true]
end
section
/-! the reference: lifts, draw -/
/-- the first k places by F, the rest as they were -/
def wr {α : Type} (F g : Nat → α) (k : Nat) : Nat → α := fun j => if j < k then F j else g j
theorem wr_0 {α : Type} (F g : Nat → α) : wr F g 0 = g := by funext j; unfold wr; rw [if_neg (by omega)]
theorem wr_in {α : Type} {F g : Nat → α} {k j : Nat} (h : j < k) : wr F g k j = F j := if_pos h
theorem wr_out {α : Type} {F g : Nat → α} {k j : Nat} (h : k ≤ j) : wr F g k j = g j := if_neg (by omega)
theorem wr_s {F g : Nat → Int32} {k : Nat} : upd (wr F g k) k (F k) = wr F g (k + 1) := by
  funext j
  unfold upd wr
  by_cases h : j = k
  · subst h; rw [if_pos rfl, if_pos (by omega)]
  · rw [if_neg h]
    by_cases h2 : j < k
    · rw [if_pos h2, if_pos (show j < k + 1 by omega)]
    · rw [if_neg h2, if_neg (show ¬ j < k + 1 by omega)]
theorem wr_sL {F g : Nat → Int64} {k : Nat} : vp_updL (wr F g k) k (F k) = wr F g (k + 1) := by
  funext j
  unfold vp_updL wr
  by_cases h : j = k
  · subst h; rw [if_pos rfl, if_pos (by omega)]
  · rw [if_neg h]
    by_cases h2 : j < k
    · rw [if_pos h2, if_pos (show j < k + 1 by omega)]
    · rw [if_neg h2, if_neg (show ¬ j < k + 1 by omega)]
theorem va_up_up {α : Type} (f : Nat → α) (k : Nat) (v w : α) : va_up (va_up f k v) k w = va_up f k w := bx_uu f k v w
theorem va_up_id {α : Type} (f : Nat → α) (k : Nat) : va_up f k (f k) = f := by
  funext j
  unfold va_up
  by_cases h : j = k
  · rw [if_pos h, h]
  · rw [if_neg h]
/-- all ints of a set of places together -/
def orI (p : Nat → Bool) (g : Nat → Int32) : Nat → Int32
  | 0 => 0
  | n + 1 => if p n then orI p g n ||| g n else orI p g n
/-- the LIFT of a PICK; a CELL is UP -/
def liF (ti tr : Nat → Int32) (p : Nat) : Int32 := orI (fun t => ib (tr p) t) ti 16
def upF (sh ti tr : Nat → Int32) (e p : Nat) : Bool := decide (0 ≤ sh e) && ib (liF ti tr p) (sh e).toNatClampNeg
theorem bit_test (x : Int32) {k : Nat} (hk : k < 32) : (x >>> (nI k &&& 31)) &&& 1 = if ib x k then 1 else 0 := by rw [ib_low, ib_sshr x hk]
set_option maxHeartbeats 4000000 in
set_option maxRecDepth 20000 in
theorem mLifts_in (sc : sm_S) (f : Nat → va_E) (I : Nat → Int32) (A : Nat → Nat → Int32) (B : Nat → Nat → Int64) (Post : sm_M → Option Value → Prop) (y : Nat) (hy : y < 48) (ti : Nat → Int32) (hti : ∀ t, t < 16 → A 5 t = ti t) (g : Nat → Int32) (hK : zW 0 sc miX11_lifts 60 [some (.ref 47), some (.int (nI y)), some (.int (nI 16))] [] (mm f I (va_up A 7 (upd g y (orI (fun t => ib (A 6 y) t) ti 16))) B) Post) : ∀ (k t : Nat), t + k = 16 → zW 0 sc miX11_lifts 19 [some (.ref 47), some (.int (nI y)), some (.int (nI t))] [] (mm f I (va_up A 7 (upd g y (orI (fun t => ib (A 6 y) t) ti t))) B) Post := by
  have hiy : vp_in (nI y) 48 := vp_in_nI hy (by decide)
  have ey : (nI y).toNatClampNeg = y := nI_clamp (by omega)
  intro k
  induction k with
  | zero =>
    intro t ht
    have e : t = 16 := by omega
    subst e
    refine zw_nx rfl (fun _ _ => rfl) ?_
    refine zw_nx rfl (fun _ _ => rfl) ?_
    refine zw_nx rfl (fun _ _ => rfl) ?_
    exact hK
  | succ k ih =>
    intro t ht
    have et : (nI t).toNatClampNeg = t := nI_clamp (by omega)
    have hit : vp_in (nI t) 16 := vp_in_nI (by omega) (by decide)
    have hn := ih (t + 1) (by omega)
    rw [nI_succ] at hn
    refine zw_nx rfl (fun _ _ => rfl) ?_
    refine zw_nx rfl (fun _ _ => rfl) ?_
    first | refine zw_br rfl (fun _ _ => rfl) (fun h9 => absurd h9 (nI_ge (a := t) (b := 16) (by omega) (by decide))) (fun _ => ?_) | refine zw_nx rfl (fun _ _ => rfl) ?_
    refine zw_nx rfl (fun _ _ => rfl) ?_
    refine zw_nx rfl (fun _ _ => rfl) ?_
    refine zw_nx rfl (fun _ _ => rfl) ?_
    refine zw_ix rfl (fun _ _ => rfl) (hiy) ?_
    rw [ey]
    refine zw_nx rfl (fun _ _ => rfl) ?_
    refine zw_nx rfl (fun _ _ => rfl) ?_
    refine zw_nx rfl (fun _ _ => rfl) ?_
    refine zw_nx rfl (fun _ _ => rfl) ?_
    refine zw_nx rfl (fun _ _ => rfl) ?_
    have eb : (A 6 y >>> (nI t &&& 31)) &&& 1 = if ib (A 6 y) t then 1 else 0 := bit_test _ (by omega)
    refine zw_br rfl (fun _ _ => rfl) (fun (hc : (A 6 y >>> (nI t &&& 31)) &&& 1 = 1) => ?_) (fun (hc : ¬ ((A 6 y >>> (nI t &&& 31)) &&& 1 = 1)) => ?_)
    · have hb : ib (A 6 y) t = true := by
        rw [eb] at hc
        cases h : ib (A 6 y) t
        · rw [h] at hc; exact absurd hc (by decide)
        · rfl
      refine zw_nx rfl (fun _ _ => rfl) ?_
      refine zw_nx rfl (fun _ _ => rfl) ?_
      refine zw_nx rfl (fun _ _ => rfl) ?_
      refine zw_nx rfl (fun _ _ => rfl) ?_
      refine zw_ix rfl (fun _ _ => rfl) (hiy) ?_
      rw [ey]
      refine zw_nx rfl (fun _ _ => rfl) ?_
      refine zw_nx rfl (fun _ _ => rfl) ?_
      refine zw_nx rfl (fun _ _ => rfl) ?_
      refine zw_ix rfl (fun _ _ => rfl) (hit) ?_
      rw [et]
      refine zw_nx rfl (fun _ _ => rfl) ?_
      refine zw_ix rfl (fun _ _ => rfl) (hiy) ?_
      rw [ey]
      refine zw_nx rfl (fun _ _ => rfl) ?_
      refine zw_nx rfl (fun _ _ => rfl) ?_
      have e1 : upd (upd g y (orI (fun t => ib (A 6 y) t) ti t)) y (upd g y (orI (fun t => ib (A 6 y) t) ti t) y ||| A 5 t) = upd g y (orI (fun t => ib (A 6 y) t) ti (t + 1)) := by
        funext j
        unfold upd
        by_cases hj : j = y
        · rw [if_pos hj, if_pos hj, if_pos rfl, hti t (by omega), orI, if_pos hb]
        · rw [if_neg hj, if_neg hj, if_neg hj]
      rw [← e1] at hn
      exact hn
    · have hb : ib (A 6 y) t = false := by
        rw [eb] at hc
        cases h : ib (A 6 y) t
        · rfl
        · rw [h] at hc; exact absurd rfl hc
      refine zw_nx rfl (fun _ _ => rfl) ?_
      refine zw_nx rfl (fun _ _ => rfl) ?_
      have e1 : orI (fun t => ib (A 6 y) t) ti (t + 1) = orI (fun t => ib (A 6 y) t) ti t := by rw [orI, if_neg (by simp [hb])]
      rw [e1] at hn
      exact hn
set_option maxHeartbeats 4000000 in
set_option maxRecDepth 20000 in
theorem mLifts (sc : sm_S) (f : Nat → va_E) (I : Nat → Int32) (A : Nat → Nat → Int32) (B : Nat → Nat → Int64) (h : Nat) (hh : h ≤ 48) (hI : I 1 = nI h) (ti tr : Nat → Int32) (hti : ∀ t, t < 16 → A 5 t = ti t) (htr : ∀ p, p < h → A 6 p = tr p) : zC 1 sc 177 [.ref 47] (mm f I A B) (fun M r => r = none ∧ M = mm f I (va_up A 7 (wr (liF ti tr) (A 7) h)) B) := by
  refine zc_of hkX11_lifts rfl ?_
  refine zw_nx rfl (fun _ _ => rfl) ?_
  refine zw_nx rfl (fun _ _ => rfl) ?_
  have key : ∀ (k y : Nat), y + k = h → zW 0 sc miX11_lifts 2 [some (.ref 47), some (.int (nI y)), none] [] (mm f I (va_up A 7 (wr (liF ti tr) (A 7) y)) B) (fun M r => r = none ∧ M = mm f I (va_up A 7 (wr (liF ti tr) (A 7) h)) B) := by
    intro k
    induction k with
    | zero =>
      intro y hy
      have e : y = h := by omega
      subst e
      refine zw_nx rfl (fun _ _ => rfl) ?_
      refine zw_nx rfl (fun _ _ => rfl) ?_
      refine zw_nx rfl (fun _ _ => rfl) ?_
      first | refine zw_br rfl (fun _ _ => rfl) (fun _ => ?_) (fun h9 => absurd (show I 1 ≤ nI y by rw [hI]; exact Int32.le_refl _) h9) | refine zw_nx rfl (fun _ _ => rfl) ?_
      exact zw_ret rfl (fun _ _ => rfl) (⟨rfl, rfl⟩)
    | succ k ih =>
      intro y hy
      have hn := ih (y + 1) (by omega)
      rw [nI_succ] at hn
      refine zw_nx rfl (fun _ _ => rfl) ?_
      refine zw_nx rfl (fun _ _ => rfl) ?_
      refine zw_nx rfl (fun _ _ => rfl) ?_
      first | refine zw_br rfl (fun _ _ => rfl) (fun h9 => absurd h9 (show ¬ I 1 ≤ nI y by rw [hI]; exact nI_ge (by omega) (by omega))) (fun _ => ?_) | refine zw_nx rfl (fun _ _ => rfl) ?_
      refine zw_nx rfl (fun _ _ => rfl) ?_
      refine zw_nx rfl (fun _ _ => rfl) ?_
      refine zw_nx rfl (fun _ _ => rfl) ?_
      refine zw_nx rfl (fun _ _ => rfl) ?_
      refine zw_ix rfl (fun _ _ => rfl) (show vp_in (nI y) 48 from vp_in_nI (by omega) (by decide)) ?_
      rw [show (nI y).toNatClampNeg = y from nI_clamp (by omega)]
      refine zw_nx rfl (fun _ _ => rfl) ?_
      refine zw_nx rfl (fun _ _ => rfl) ?_
      refine mLifts_in sc f I A B _ y (by omega) ti hti (wr (liF ti tr) (A 7) y) ?_ 16 0 (by omega)
      refine zw_nx rfl (fun _ _ => rfl) ?_
      refine zw_nx rfl (fun _ _ => rfl) ?_
      rw [show orI (fun t => ib (A 6 y) t) ti 16 = liF ti tr y from by rw [htr y (by omega)]; rfl, wr_s]
      exact zw_kp hn
  have h0 := key h 0 (by omega)
  rw [wr_0, va_up_id] at h0
  exact zw_kp h0
end
section
/-! the reference: draw -/
/-- the memory behind draw, up to where it is -/
def drA (A : Nat → Nat → Int32) (s4 s5 s6 s7 : Nat → Int32) : Nat → Nat → Int32 := va_up (va_up (va_up (va_up A 4 s4) 5 s5) 6 s6) 7 s7
def drB (B : Nat → Nat → Int64) (b0 b1 : Nat → Int64) : Nat → Nat → Int64 := va_up (va_up B 0 b0) 1 b1
/-- rows and columns, at the CELL (x, y) -/
def roAt (up : Nat → Nat → Bool) (w : Nat) (g : Nat → Int64) (y x : Nat) : Nat → Int64 := fun j => if j < y then mk (fun e => up e j) w else if j = y then mk (fun e => up e j) x else g j
def coAt (up : Nat → Nat → Bool) (w : Nat) (g : Nat → Int64) (y x : Nat) : Nat → Int64 := fun j => if j < w then mk (fun p => up j p) (if j < x then y + 1 else y) else g j
theorem roAt_s {up : Nat → Nat → Bool} {w : Nat} {g : Nat → Int64} {y x : Nat} (h : up x y = true) : vp_updL (roAt up w g y x) y (roAt up w g y x y ||| bitL x) = roAt up w g y (x + 1) := by
  funext j
  unfold vp_updL roAt
  by_cases hj : j = y
  · subst hj
    rw [if_pos rfl, if_neg (by omega), if_pos rfl, if_neg (by omega), if_pos rfl, mk, if_pos h]
  · rw [if_neg hj]
    by_cases h2 : j < y
    · rw [if_pos h2, if_pos h2]
    · rw [if_neg h2, if_neg hj, if_neg h2, if_neg hj]
theorem roAt_n {up : Nat → Nat → Bool} {w : Nat} {g : Nat → Int64} {y x : Nat} (h : up x y = false) : roAt up w g y (x + 1) = roAt up w g y x := by
  funext j
  unfold roAt
  by_cases hj : j = y
  · subst hj
    rw [if_neg (by omega), if_pos rfl, if_neg (by omega), if_pos rfl, mk, if_neg (by simp [h])]
  · by_cases h2 : j < y
    · rw [if_pos h2, if_pos h2]
    · rw [if_neg h2, if_neg hj, if_neg h2, if_neg hj]
theorem coAt_s {up : Nat → Nat → Bool} {w : Nat} {g : Nat → Int64} {y x : Nat} (hx : x < w) (h : up x y = true) : vp_updL (coAt up w g y x) x (coAt up w g y x x ||| bitL y) = coAt up w g y (x + 1) := by
  funext j
  unfold vp_updL coAt
  by_cases hj : j = x
  · subst hj
    rw [if_pos rfl, if_pos hx, if_neg (by omega), if_pos hx, if_pos (by omega), mk, if_pos h]
  · rw [if_neg hj]
    by_cases h2 : j < w
    · rw [if_pos h2, if_pos h2]
      by_cases h3 : j < x
      · rw [if_pos h3, if_pos (by omega)]
      · rw [if_neg h3, if_neg (by omega)]
    · rw [if_neg h2, if_neg h2]
theorem coAt_n {up : Nat → Nat → Bool} {w : Nat} {g : Nat → Int64} {y x : Nat} (h : up x y = false) : coAt up w g y (x + 1) = coAt up w g y x := by
  funext j
  unfold coAt
  by_cases h2 : j < w
  · rw [if_pos h2, if_pos h2]
    by_cases hj : j = x
    · subst hj
      rw [if_pos (by omega), if_neg (by omega), mk, if_neg (by simp [h])]
    · by_cases h3 : j < x
      · rw [if_pos h3, if_pos (by omega)]
      · rw [if_neg h3, if_neg (by omega)]
  · rw [if_neg h2, if_neg h2]
theorem roAt_y {up : Nat → Nat → Bool} {w : Nat} {g : Nat → Int64} {y : Nat} : vp_updL (wr (fun p => mk (fun e => up e p) w) g y) y 0 = roAt up w g y 0 := by
  funext j
  unfold vp_updL wr roAt
  by_cases hj : j = y
  · subst hj
    rw [if_pos rfl, if_neg (by omega), if_pos rfl]
    rfl
  · rw [if_neg hj]
    by_cases h2 : j < y
    · rw [if_pos h2, if_pos h2]
    · rw [if_neg h2, if_neg h2, if_neg hj]
theorem roAt_w {up : Nat → Nat → Bool} {w : Nat} {g : Nat → Int64} {y : Nat} : roAt up w g y w = wr (fun p => mk (fun e => up e p) w) g (y + 1) := by
  funext j
  unfold wr roAt
  by_cases hj : j = y
  · subst hj
    rw [if_neg (by omega), if_pos rfl, if_pos (by omega)]
  · by_cases h2 : j < y
    · rw [if_pos h2, if_pos (by omega)]
    · rw [if_neg h2, if_neg hj, if_neg (by omega)]
theorem coAt_w {up : Nat → Nat → Bool} {w : Nat} {g : Nat → Int64} {y : Nat} : coAt up w g y w = wr (fun e => mk (fun p => up e p) (y + 1)) g w := by
  funext j
  unfold wr coAt
  by_cases h2 : j < w
  · rw [if_pos h2, if_pos h2, if_pos h2]
  · rw [if_neg h2, if_neg h2]
theorem coAt_0 {up : Nat → Nat → Bool} {w : Nat} {g : Nat → Int64} {y : Nat} : wr (fun e => mk (fun p => up e p) y) g w = coAt up w g y 0 := by
  funext j
  unfold wr coAt
  by_cases h2 : j < w
  · rw [if_pos h2, if_pos h2, if_neg (by omega)]
  · rw [if_neg h2, if_neg h2]
/-- a SHAFT, or none -/
def shOk (x : Int32) : Prop := x = -1 ∨ ∃ q, q < 16 ∧ x = nI q
set_option maxHeartbeats 4000000 in
set_option maxRecDepth 20000 in
theorem mDraw_in (sc : sm_S) (f : Nat → va_E) (I : Nat → Int32) (A : Nat → Nat → Int32) (B : Nat → Nat → Int64) (Post : sm_M → Option Value → Prop) (w : Nat) (hw : w ≤ 48) (hI0 : I 0 = nI w) (sh ti tr : Nat → Int32) (y : Nat) (hy : y < 48) (hsh : ∀ x, x < w → A 4 x = sh x ∧ shOk (sh x)) (hl : A 7 y = liF ti tr y) (g0 g1 : Nat → Int64) (hK : zW 3 sc miX11_draw 196 [some (.ref 47), some (.int (nI y)), some (.int (nI w))] [] (mm f I A (drB B (roAt (upF sh ti tr) w g0 y w) (coAt (upF sh ti tr) w g1 y w))) Post) : ∀ (k x : Nat), x + k = w → zW 3 sc miX11_draw 128 [some (.ref 47), some (.int (nI y)), some (.int (nI x))] [] (mm f I A (drB B (roAt (upF sh ti tr) w g0 y x) (coAt (upF sh ti tr) w g1 y x))) Post := by
  have hiy : vp_in (nI y) 48 := vp_in_nI hy (by decide)
  have ey : (nI y).toNatClampNeg = y := nI_clamp (by omega)
  intro k
  induction k with
  | zero =>
    intro x hx
    have e : x = w := by omega
    subst e
    refine zw_nx rfl (fun _ _ => rfl) ?_
    refine zw_nx rfl (fun _ _ => rfl) ?_
    refine zw_nx rfl (fun _ _ => rfl) ?_
    first | refine zw_br rfl (fun _ _ => rfl) (fun _ => ?_) (fun h9 => absurd (show I 0 ≤ nI x by rw [hI0]; exact Int32.le_refl _) h9) | refine zw_nx rfl (fun _ _ => rfl) ?_
    exact hK
  | succ k ih =>
    intro x hx
    have ex : (nI x).toNatClampNeg = x := nI_clamp (by omega)
    have hix : vp_in (nI x) 48 := vp_in_nI (by omega) (by decide)
    have hn := ih (x + 1) (by omega)
    rw [nI_succ] at hn
    obtain ⟨hs1, hs2⟩ := hsh x (by omega)
    refine zw_nx rfl (fun _ _ => rfl) ?_
    refine zw_nx rfl (fun _ _ => rfl) ?_
    refine zw_nx rfl (fun _ _ => rfl) ?_
    first | refine zw_br rfl (fun _ _ => rfl) (fun h9 => absurd h9 (show ¬ I 0 ≤ nI x by rw [hI0]; exact nI_ge (by omega) (by omega))) (fun _ => ?_) | refine zw_nx rfl (fun _ _ => rfl) ?_
    refine zw_nx rfl (fun _ _ => rfl) ?_
    refine zw_nx rfl (fun _ _ => rfl) ?_
    refine zw_nx rfl (fun _ _ => rfl) ?_
    refine zw_ix rfl (fun _ _ => rfl) (hix) ?_
    rw [ex, hs1]
    rcases hs2 with hs2 | ⟨q, hq, hs2⟩
    · have hu : upF sh ti tr x y = false := by unfold upF; rw [hs2]; rfl
      rw [roAt_n hu, coAt_n hu] at hn
      first | refine zw_br rfl (fun _ _ => rfl) (fun _ => ?_) (fun h9 => absurd (show sh x < 0 by rw [hs2]; decide) h9) | refine zw_nx rfl (fun _ _ => rfl) ?_
      refine zw_nx rfl (fun _ _ => rfl) ?_
      refine zw_nx rfl (fun _ _ => rfl) ?_
      exact hn
    · have hp : ¬ sh x < 0 := by rw [hs2]; exact nI_pos (by omega)
      have hu : upF sh ti tr x y = ib (liF ti tr y) q := by
        unfold upF
        rw [hs2, nI_clamp (by omega), decide_eq_true (nI_pos' (by omega))]
        rfl
      have eb : (liF ti tr y >>> (sh x &&& 31)) &&& 1 = if ib (liF ti tr y) q then 1 else 0 := by rw [hs2]; exact bit_test _ (by omega)
      first | refine zw_br rfl (fun _ _ => rfl) (fun h9 => absurd h9 (hp)) (fun _ => ?_) | refine zw_nx rfl (fun _ _ => rfl) ?_
      refine zw_nx rfl (fun _ _ => rfl) ?_
      refine zw_nx rfl (fun _ _ => rfl) ?_
      refine zw_nx rfl (fun _ _ => rfl) ?_
      refine zw_ix rfl (fun _ _ => rfl) (hiy) ?_
      rw [ey, hl]
      refine zw_nx rfl (fun _ _ => rfl) ?_
      refine zw_nx rfl (fun _ _ => rfl) ?_
      refine zw_nx rfl (fun _ _ => rfl) ?_
      refine zw_ix rfl (fun _ _ => rfl) (hix) ?_
      rw [ex, hs1]
      refine zw_nx rfl (fun _ _ => rfl) ?_
      refine zw_nx rfl (fun _ _ => rfl) ?_
      refine zw_nx rfl (fun _ _ => rfl) ?_
      refine zw_br rfl (fun _ _ => rfl) (fun (hc : (liF ti tr y >>> (sh x &&& 31)) &&& 1 = 0) => ?_) (fun (hc : ¬ ((liF ti tr y >>> (sh x &&& 31)) &&& 1 = 0)) => ?_)
      · have hb : upF sh ti tr x y = false := by
          rw [hu]
          rw [eb] at hc
          cases h : ib (liF ti tr y) q
          · rfl
          · rw [h] at hc; exact absurd hc (by decide)
        rw [roAt_n hb, coAt_n hb] at hn
        refine zw_nx rfl (fun _ _ => rfl) ?_
        refine zw_nx rfl (fun _ _ => rfl) ?_
        refine zw_nx rfl (fun _ _ => rfl) ?_
        exact hn
      · have hb : upF sh ti tr x y = true := by
          rw [hu]
          rw [eb] at hc
          cases h : ib (liF ti tr y) q
          · rw [h] at hc; exact absurd rfl hc
          · rfl
        rw [← roAt_s hb, ← coAt_s (by omega) hb] at hn
        refine zw_nx rfl (fun _ _ => rfl) ?_
        refine zw_nx rfl (fun _ _ => rfl) ?_
        refine zw_nx rfl (fun _ _ => rfl) ?_
        refine zw_nx rfl (fun _ _ => rfl) ?_
        refine zw_ix rfl (fun _ _ => rfl) (hiy) ?_
        rw [ey]
        refine zw_nx rfl (fun _ _ => rfl) ?_
        refine zw_nx rfl (fun _ _ => rfl) ?_
        refine zw_nx rfl (fun _ _ => rfl) ?_
        refine zw_nx rfl (fun _ _ => rfl) ?_
        refine zw_ix rfl (fun _ _ => rfl) (hiy) ?_
        rw [ey]
        refine zw_nx rfl (fun _ _ => rfl) ?_
        refine zw_nx rfl (fun _ _ => rfl) ?_
        refine zw_nx rfl (fun _ _ => rfl) ?_
        refine zw_nx rfl (fun _ _ => rfl) ?_
        refine zw_ix rfl (fun _ _ => rfl) (hix) ?_
        rw [ex]
        refine zw_nx rfl (fun _ _ => rfl) ?_
        refine zw_nx rfl (fun _ _ => rfl) ?_
        refine zw_nx rfl (fun _ _ => rfl) ?_
        refine zw_nx rfl (fun _ _ => rfl) ?_
        refine zw_ix rfl (fun _ _ => rfl) (hix) ?_
        rw [ex]
        refine zw_nx rfl (fun _ _ => rfl) ?_
        refine zw_nx rfl (fun _ _ => rfl) ?_
        exact hn
set_option maxHeartbeats 4000000 in
set_option maxRecDepth 20000 in
theorem mDraw_rows (sc : sm_S) (f : Nat → va_E) (I : Nat → Int32) (A : Nat → Nat → Int32) (B : Nat → Nat → Int64) (w h : Nat) (hw : w ≤ 48) (hh : h ≤ 48) (hI0 : I 0 = nI w) (hI1 : I 1 = nI h) (sh ti tr : Nat → Int32) (hsh : ∀ x, x < w → A 4 x = sh x ∧ shOk (sh x)) (hl : ∀ y, y < h → A 7 y = liF ti tr y) (g0 g1 : Nat → Int64) : ∀ (k y : Nat), y + k = h → zW 3 sc miX11_draw 111 [some (.ref 47), some (.int (nI y)), none] [] (mm f I A (drB B (wr (fun p => mk (fun e => upF sh ti tr e p) w) g0 y) (wr (fun e => mk (fun p => upF sh ti tr e p) y) g1 w))) (fun M r => r = none ∧ M = mm f I A (drB B (wr (fun p => mk (fun e => upF sh ti tr e p) w) g0 h) (wr (fun e => mk (fun p => upF sh ti tr e p) h) g1 w))) := by
  intro k
  induction k with
  | zero =>
    intro y hy
    have e : y = h := by omega
    subst e
    refine zw_nx rfl (fun _ _ => rfl) ?_
    refine zw_nx rfl (fun _ _ => rfl) ?_
    refine zw_nx rfl (fun _ _ => rfl) ?_
    first | refine zw_br rfl (fun _ _ => rfl) (fun _ => ?_) (fun h9 => absurd (show I 1 ≤ nI y by rw [hI1]; exact Int32.le_refl _) h9) | refine zw_nx rfl (fun _ _ => rfl) ?_
    exact zw_ret rfl (fun _ _ => rfl) (⟨rfl, rfl⟩)
  | succ k ih =>
    intro y hy
    have hn := ih (y + 1) (by omega)
    rw [nI_succ] at hn
    refine zw_nx rfl (fun _ _ => rfl) ?_
    refine zw_nx rfl (fun _ _ => rfl) ?_
    refine zw_nx rfl (fun _ _ => rfl) ?_
    first | refine zw_br rfl (fun _ _ => rfl) (fun h9 => absurd h9 (show ¬ I 1 ≤ nI y by rw [hI1]; exact nI_ge (by omega) (by omega))) (fun _ => ?_) | refine zw_nx rfl (fun _ _ => rfl) ?_
    refine zw_nx rfl (fun _ _ => rfl) ?_
    refine zw_nx rfl (fun _ _ => rfl) ?_
    refine zw_nx rfl (fun _ _ => rfl) ?_
    refine zw_nx rfl (fun _ _ => rfl) ?_
    refine zw_ix rfl (fun _ _ => rfl) (show vp_in (nI y) 48 from vp_in_nI (by omega) (by decide)) ?_
    rw [show (nI y).toNatClampNeg = y from nI_clamp (by omega)]
    refine zw_nx rfl (fun _ _ => rfl) ?_
    refine zw_nx rfl (fun _ _ => rfl) ?_
    have h3 := mDraw_in sc f I A B (fun M r => r = none ∧ M = mm f I A (drB B (wr (fun p => mk (fun e => upF sh ti tr e p) w) g0 h) (wr (fun e => mk (fun p => upF sh ti tr e p) h) g1 w))) w hw hI0 sh ti tr y (by omega) hsh (hl y (by omega)) g0 g1 (by
      refine zw_nx rfl (fun _ _ => rfl) ?_
      refine zw_nx rfl (fun _ _ => rfl) ?_
      rw [roAt_w, coAt_w]
      exact zw_kp hn) w 0 (by omega)
    rw [← roAt_y, ← coAt_0] at h3
    exact h3
end
section
/-! the reference: draw, whole -/
set_option maxHeartbeats 4000000 in
set_option maxRecDepth 20000 in
theorem mDraw_sh (sc : sm_S) (f : Nat → va_E) (I : Nat → Int32) (A : Nat → Nat → Int32) (B : Nat → Nat → Int64) (Post : sm_M → Option Value → Prop) (n : Nat) (hn : I 4 = nI n) (hnb : n ≤ 2000) (m : Nat) (hm : m ≤ 48) (hb : I 0 = nI m) (hK : zW 3 sc miX11_draw 28 [some (.ref 47), some (.int (nI m)), none] [] (mm f I (va_up A 4 (wr (fun x => mVal A n 0 (nI x) (I 3)) (A 4) m)) B) Post) : ∀ (k x : Nat), x + k = m → zW 3 sc miX11_draw 2 [some (.ref 47), some (.int (nI x)), none] [] (mm f I (va_up A 4 (wr (fun x => mVal A n 0 (nI x) (I 3)) (A 4) x)) B) Post := by
  intro k
  induction k with
  | zero =>
    intro x hx
    have e : x = m := by omega
    subst e
    refine zw_nx rfl (fun _ _ => rfl) ?_
    refine zw_nx rfl (fun _ _ => rfl) ?_
    refine zw_nx rfl (fun _ _ => rfl) ?_
    first | refine zw_br rfl (fun _ _ => rfl) (fun _ => ?_) (fun h9 => absurd (show I 0 ≤ nI x by rw [hb]; exact Int32.le_refl _) h9) | refine zw_nx rfl (fun _ _ => rfl) ?_
    exact hK
  | succ k ih =>
    intro x hx
    have ex : (nI x).toNatClampNeg = x := nI_clamp (by omega)
    have hn2 := ih (x + 1) (by omega)
    rw [nI_succ] at hn2
    refine zw_nx rfl (fun _ _ => rfl) ?_
    refine zw_nx rfl (fun _ _ => rfl) ?_
    refine zw_nx rfl (fun _ _ => rfl) ?_
    first | refine zw_br rfl (fun _ _ => rfl) (fun h9 => absurd h9 (show ¬ I 0 ≤ nI x by rw [hb]; exact nI_ge (by omega) (by omega))) (fun _ => ?_) | refine zw_nx rfl (fun _ _ => rfl) ?_
    refine zw_nx rfl (fun _ _ => rfl) ?_
    refine zw_nx rfl (fun _ _ => rfl) ?_
    refine zw_nx rfl (fun _ _ => rfl) ?_
    refine zw_nx rfl (fun _ _ => rfl) ?_
    refine zw_nx rfl (fun _ _ => rfl) ?_
    refine zw_nx rfl (fun _ _ => rfl) ?_
    refine zw_call rfl (fun _ _ => rfl) (mValueOf sc f I (va_up A 4 (wr (fun x => mVal A n 0 (nI x) (I 3)) (A 4) x)) B 0 (nI x) n hn hnb) (by decide) ?_
    rintro M1 r1 ⟨rfl, rfl⟩
    refine zw_ix rfl (fun _ _ => rfl) (show vp_in (nI x) 48 from vp_in_nI (by omega) (by decide)) ?_
    rw [ex]
    refine zw_nx rfl (fun _ _ => rfl) ?_
    refine zw_nx rfl (fun _ _ => rfl) ?_
    rw [← wr_s] at hn2
    exact hn2
set_option maxHeartbeats 4000000 in
set_option maxRecDepth 20000 in
theorem mDraw_ti (sc : sm_S) (f : Nat → va_E) (I : Nat → Int32) (A : Nat → Nat → Int32) (B : Nat → Nat → Int64) (Post : sm_M → Option Value → Prop) (n : Nat) (hn : I 4 = nI n) (hnb : n ≤ 2000) (hK : zW 3 sc miX11_draw 54 [some (.ref 47), some (.int (nI 16)), none] [] (mm f I (va_up A 5 (wr (fun x => mVal A n 1 (nI x) (I 3)) (A 5) 16)) B) Post) : ∀ (k x : Nat), x + k = 16 → zW 3 sc miX11_draw 30 [some (.ref 47), some (.int (nI x)), none] [] (mm f I (va_up A 5 (wr (fun x => mVal A n 1 (nI x) (I 3)) (A 5) x)) B) Post := by
  intro k
  induction k with
  | zero =>
    intro x hx
    have e : x = 16 := by omega
    subst e
    refine zw_nx rfl (fun _ _ => rfl) ?_
    refine zw_nx rfl (fun _ _ => rfl) ?_
    refine zw_nx rfl (fun _ _ => rfl) ?_
    exact hK
  | succ k ih =>
    intro x hx
    have ex : (nI x).toNatClampNeg = x := nI_clamp (by omega)
    have hn2 := ih (x + 1) (by omega)
    rw [nI_succ] at hn2
    refine zw_nx rfl (fun _ _ => rfl) ?_
    refine zw_nx rfl (fun _ _ => rfl) ?_
    first | refine zw_br rfl (fun _ _ => rfl) (fun h9 => absurd h9 (nI_ge (a := x) (b := 16) (by omega) (by decide))) (fun _ => ?_) | refine zw_nx rfl (fun _ _ => rfl) ?_
    refine zw_nx rfl (fun _ _ => rfl) ?_
    refine zw_nx rfl (fun _ _ => rfl) ?_
    refine zw_nx rfl (fun _ _ => rfl) ?_
    refine zw_nx rfl (fun _ _ => rfl) ?_
    refine zw_nx rfl (fun _ _ => rfl) ?_
    refine zw_nx rfl (fun _ _ => rfl) ?_
    refine zw_call rfl (fun _ _ => rfl) (mValueOf sc f I (va_up A 5 (wr (fun x => mVal A n 1 (nI x) (I 3)) (A 5) x)) B 1 (nI x) n hn hnb) (by decide) ?_
    rintro M1 r1 ⟨rfl, rfl⟩
    refine zw_ix rfl (fun _ _ => rfl) (show vp_in (nI x) 16 from vp_in_nI (by omega) (by decide)) ?_
    rw [ex]
    refine zw_nx rfl (fun _ _ => rfl) ?_
    refine zw_nx rfl (fun _ _ => rfl) ?_
    rw [← wr_s] at hn2
    exact hn2
set_option maxHeartbeats 4000000 in
set_option maxRecDepth 20000 in
theorem mDraw_tr (sc : sm_S) (f : Nat → va_E) (I : Nat → Int32) (A : Nat → Nat → Int32) (B : Nat → Nat → Int64) (Post : sm_M → Option Value → Prop) (n : Nat) (hn : I 4 = nI n) (hnb : n ≤ 2000) (m : Nat) (hm : m ≤ 48) (hb : I 1 = nI m) (hK : zW 3 sc miX11_draw 82 [some (.ref 47), some (.int (nI m)), none] [] (mm f I (va_up A 6 (wr (fun x => mVal A n 2 (nI x) (I 3)) (A 6) m)) B) Post) : ∀ (k x : Nat), x + k = m → zW 3 sc miX11_draw 56 [some (.ref 47), some (.int (nI x)), none] [] (mm f I (va_up A 6 (wr (fun x => mVal A n 2 (nI x) (I 3)) (A 6) x)) B) Post := by
  intro k
  induction k with
  | zero =>
    intro x hx
    have e : x = m := by omega
    subst e
    refine zw_nx rfl (fun _ _ => rfl) ?_
    refine zw_nx rfl (fun _ _ => rfl) ?_
    refine zw_nx rfl (fun _ _ => rfl) ?_
    first | refine zw_br rfl (fun _ _ => rfl) (fun _ => ?_) (fun h9 => absurd (show I 1 ≤ nI x by rw [hb]; exact Int32.le_refl _) h9) | refine zw_nx rfl (fun _ _ => rfl) ?_
    exact hK
  | succ k ih =>
    intro x hx
    have ex : (nI x).toNatClampNeg = x := nI_clamp (by omega)
    have hn2 := ih (x + 1) (by omega)
    rw [nI_succ] at hn2
    refine zw_nx rfl (fun _ _ => rfl) ?_
    refine zw_nx rfl (fun _ _ => rfl) ?_
    refine zw_nx rfl (fun _ _ => rfl) ?_
    first | refine zw_br rfl (fun _ _ => rfl) (fun h9 => absurd h9 (show ¬ I 1 ≤ nI x by rw [hb]; exact nI_ge (by omega) (by omega))) (fun _ => ?_) | refine zw_nx rfl (fun _ _ => rfl) ?_
    refine zw_nx rfl (fun _ _ => rfl) ?_
    refine zw_nx rfl (fun _ _ => rfl) ?_
    refine zw_nx rfl (fun _ _ => rfl) ?_
    refine zw_nx rfl (fun _ _ => rfl) ?_
    refine zw_nx rfl (fun _ _ => rfl) ?_
    refine zw_nx rfl (fun _ _ => rfl) ?_
    refine zw_call rfl (fun _ _ => rfl) (mValueOf sc f I (va_up A 6 (wr (fun x => mVal A n 2 (nI x) (I 3)) (A 6) x)) B 2 (nI x) n hn hnb) (by decide) ?_
    rintro M1 r1 ⟨rfl, rfl⟩
    refine zw_ix rfl (fun _ _ => rfl) (show vp_in (nI x) 48 from vp_in_nI (by omega) (by decide)) ?_
    rw [ex]
    refine zw_nx rfl (fun _ _ => rfl) ?_
    refine zw_nx rfl (fun _ _ => rfl) ?_
    rw [← wr_s] at hn2
    exact hn2
set_option maxHeartbeats 4000000 in
set_option maxRecDepth 20000 in
theorem mDraw_co (sc : sm_S) (f : Nat → va_E) (I : Nat → Int32) (A : Nat → Nat → Int32) (B : Nat → Nat → Int64) (Post : sm_M → Option Value → Prop) (m : Nat) (hm : m ≤ 48) (hb : I 0 = nI m) (hK : zW 3 sc miX11_draw 109 [some (.ref 47), some (.int (nI m)), none] [] (mm f I A (va_up B 1 (wr (fun _ => 0) (B 1) m))) Post) : ∀ (k x : Nat), x + k = m → zW 3 sc miX11_draw 88 [some (.ref 47), some (.int (nI x)), none] [] (mm f I A (va_up B 1 (wr (fun _ => 0) (B 1) x))) Post := by
  intro k
  induction k with
  | zero =>
    intro x hx
    have e : x = m := by omega
    subst e
    refine zw_nx rfl (fun _ _ => rfl) ?_
    refine zw_nx rfl (fun _ _ => rfl) ?_
    refine zw_nx rfl (fun _ _ => rfl) ?_
    first | refine zw_br rfl (fun _ _ => rfl) (fun _ => ?_) (fun h9 => absurd (show I 0 ≤ nI x by rw [hb]; exact Int32.le_refl _) h9) | refine zw_nx rfl (fun _ _ => rfl) ?_
    exact hK
  | succ k ih =>
    intro x hx
    have ex : (nI x).toNatClampNeg = x := nI_clamp (by omega)
    have hn2 := ih (x + 1) (by omega)
    rw [nI_succ] at hn2
    refine zw_nx rfl (fun _ _ => rfl) ?_
    refine zw_nx rfl (fun _ _ => rfl) ?_
    refine zw_nx rfl (fun _ _ => rfl) ?_
    first | refine zw_br rfl (fun _ _ => rfl) (fun h9 => absurd h9 (show ¬ I 0 ≤ nI x by rw [hb]; exact nI_ge (by omega) (by omega))) (fun _ => ?_) | refine zw_nx rfl (fun _ _ => rfl) ?_
    refine zw_nx rfl (fun _ _ => rfl) ?_
    refine zw_nx rfl (fun _ _ => rfl) ?_
    refine zw_nx rfl (fun _ _ => rfl) ?_
    refine zw_nx rfl (fun _ _ => rfl) ?_
    refine zw_ix rfl (fun _ _ => rfl) (show vp_in (nI x) 48 from vp_in_nI (by omega) (by decide)) ?_
    rw [ex]
    refine zw_nx rfl (fun _ _ => rfl) ?_
    refine zw_nx rfl (fun _ _ => rfl) ?_
    rw [← wr_sL] at hn2
    exact hn2
/-- what draw leaves -/
def dwA (A : Nat → Nat → Int32) (n w h : Nat) (lk : Int32) : Nat → Nat → Int32 := drA A (wr (fun x => mVal A n 0 (nI x) lk) (A 4) w) (wr (fun x => mVal A n 1 (nI x) lk) (A 5) 16) (wr (fun x => mVal A n 2 (nI x) lk) (A 6) h) (wr (liF (fun x => mVal A n 1 (nI x) lk) (fun x => mVal A n 2 (nI x) lk)) (A 7) h)
/-- a CELL of THE CLOTH, by the reference's entries -/
def mUp (A : Nat → Nat → Int32) (n : Nat) (lk : Int32) : Nat → Nat → Bool := upF (fun x => mVal A n 0 (nI x) lk) (fun x => mVal A n 1 (nI x) lk) (fun x => mVal A n 2 (nI x) lk)
def dwB (B : Nat → Nat → Int64) (A : Nat → Nat → Int32) (n w h : Nat) (lk : Int32) : Nat → Nat → Int64 := drB B (wr (fun p => mk (fun e => mUp A n lk e p) w) (B 0) h) (wr (fun e => mk (fun p => mUp A n lk e p) h) (B 1) w)
set_option maxHeartbeats 4000000 in
set_option maxRecDepth 20000 in
theorem mDraw (sc : sm_S) (f : Nat → va_E) (I : Nat → Int32) (A : Nat → Nat → Int32) (B : Nat → Nat → Int64) (n w h : Nat) (hn : I 4 = nI n) (hnb : n ≤ 2000) (hw : w ≤ 48) (hh : h ≤ 48) (hI0 : I 0 = nI w) (hI1 : I 1 = nI h) (hs : ∀ x, x < w → shOk (mVal A n 0 (nI x) (I 3))) : zC 4 sc 176 [.ref 47] (mm f I A B) (fun M r => r = none ∧ M = mm f I (dwA A n w h (I 3)) (dwB B A n w h (I 3))) := by
  refine zc_of hkX11_draw rfl ?_
  refine zw_nx rfl (fun _ _ => rfl) ?_
  refine zw_nx rfl (fun _ _ => rfl) ?_
  have h5 := mDraw_sh sc f I A B (fun M r => r = none ∧ M = mm f I (dwA A n w h (I 3)) (dwB B A n w h (I 3))) n hn hnb w hw hI0 ?_ w 0 (by omega)
  · rw [wr_0, va_up_id] at h5
    exact zw_kp h5
  refine zw_nx rfl (fun _ _ => rfl) ?_
  refine zw_nx rfl (fun _ _ => rfl) ?_
  have h6 := mDraw_ti sc f I (va_up A 4 (wr (fun x => mVal A n 0 (nI x) (I 3)) (A 4) w)) B (fun M r => r = none ∧ M = mm f I (dwA A n w h (I 3)) (dwB B A n w h (I 3))) n hn hnb ?_ 16 0 (by omega)
  · rw [wr_0, va_up_id] at h6
    exact zw_kp h6
  refine zw_nx rfl (fun _ _ => rfl) ?_
  refine zw_nx rfl (fun _ _ => rfl) ?_
  have h7 := mDraw_tr sc f I (va_up (va_up A 4 (wr (fun x => mVal A n 0 (nI x) (I 3)) (A 4) w)) 5 (wr (fun x => mVal A n 1 (nI x) (I 3)) (A 5) 16)) B (fun M r => r = none ∧ M = mm f I (dwA A n w h (I 3)) (dwB B A n w h (I 3))) n hn hnb h hh hI1 ?_ h 0 (by omega)
  · rw [wr_0, va_up_id] at h7
    exact zw_kp h7
  refine zw_nx rfl (fun _ _ => rfl) ?_
  refine zw_call rfl (fun _ _ => rfl) (mLifts sc f I (va_up (va_up (va_up A 4 (wr (fun x => mVal A n 0 (nI x) (I 3)) (A 4) w)) 5 (wr (fun x => mVal A n 1 (nI x) (I 3)) (A 5) 16)) 6 (wr (fun x => mVal A n 2 (nI x) (I 3)) (A 6) h)) B h hh hI1 (fun x => mVal A n 1 (nI x) (I 3)) (fun x => mVal A n 2 (nI x) (I 3)) (fun t ht => wr_in (F := fun x => mVal A n 1 (nI x) (I 3)) (g := A 5) ht) (fun p hp => wr_in (F := fun x => mVal A n 2 (nI x) (I 3)) (g := A 6) hp)) (by decide) ?_
  rintro M1 r1 ⟨rfl, rfl⟩
  refine zw_nx rfl (fun _ _ => rfl) ?_
  refine zw_nx rfl (fun _ _ => rfl) ?_
  have h8 := mDraw_co sc f I (dwA A n w h (I 3)) B (fun M r => r = none ∧ M = mm f I (dwA A n w h (I 3)) (dwB B A n w h (I 3))) w hw hI0 ?_ w 0 (by omega)
  · rw [wr_0, va_up_id] at h8
    exact zw_kp h8
  refine zw_nx rfl (fun _ _ => rfl) ?_
  refine zw_nx rfl (fun _ _ => rfl) ?_
  have h9 := mDraw_rows sc f I (dwA A n w h (I 3)) B w h hw hh hI0 hI1 (fun x => mVal A n 0 (nI x) (I 3)) (fun x => mVal A n 1 (nI x) (I 3)) (fun x => mVal A n 2 (nI x) (I 3)) (fun x hx => ⟨wr_in (F := fun x => mVal A n 0 (nI x) (I 3)) (g := A 4) hx, hs x hx⟩) (fun y hy => wr_in (F := liF (fun x => mVal A n 1 (nI x) (I 3)) (fun x => mVal A n 2 (nI x) (I 3))) (g := A 7) hy) (B 0) (B 1) h 0 (by omega)
  have eB : drB B (wr (fun p => mk (fun e => upF (fun x => mVal A n 0 (nI x) (I 3)) (fun x => mVal A n 1 (nI x) (I 3)) (fun x => mVal A n 2 (nI x) (I 3)) e p) w) (B 0) 0) (wr (fun e => mk (fun p => upF (fun x => mVal A n 0 (nI x) (I 3)) (fun x => mVal A n 1 (nI x) (I 3)) (fun x => mVal A n 2 (nI x) (I 3)) e p) 0) (B 1) w) = va_up B 1 (wr (fun _ => 0) (B 1) w) := by
    unfold drB
    rw [wr_0, va_up_id]
    rfl
  rw [eB] at h9
  exact zw_kp h9
end
section
/-! the class: press, raise -/
theorem coAt_all {up : Nat → Nat → Bool} {w : Nat} {g : Nat → Int64} : wr (fun _ => (0 : Int64)) g w = wr (fun e => mk (fun p => up e p) 0) g w := rfl
theorem fill_wr {α : Type} (v : α) (g : Nat → α) (n : Nat) : (fun j => if j < n then v else g j) = wr (fun _ => v) g n := rfl
set_option maxHeartbeats 4000000 in
set_option maxRecDepth 20000 in
theorem xPress_in (sc : sm_S) (I : Nat → Int32) (J : Nat → Int64) (A : Nat → Nat → Int32) (B : Nat → Nat → Int64) (tl : sm_M) (Post : sm_M → Option Value → Prop) (p : Nat) (hp : p < 48) (g : Nat → Int64) (hK : zW 2 sc miX0_press 86 [some (.ref 7), some (.int (nI p)), some (.int (A 3 (64 + p))), some (.int (orI (fun t => ib (A 3 (64 + p)) t) (fun t => A 3 (48 + t)) 16)), some (.int (nI 16))] [] (xm I J A (va_up B 4 (coAt (fun j q => ib (A 3 (64 + q)) j) 16 g p 16)) tl) Post) : ∀ (k t : Nat), t + k = 16 → zW 2 sc miX0_press 35 [some (.ref 7), some (.int (nI p)), some (.int (A 3 (64 + p))), some (.int (orI (fun t => ib (A 3 (64 + p)) t) (fun t => A 3 (48 + t)) t)), some (.int (nI t))] [] (xm I J A (va_up B 4 (coAt (fun j q => ib (A 3 (64 + q)) j) 16 g p t)) tl) Post := by
  intro k
  induction k with
  | zero =>
    intro t ht
    have e : t = 16 := by omega
    subst e
    refine zw_nx rfl (fun _ _ => rfl) ?_
    refine zw_nx rfl (fun _ _ => rfl) ?_
    refine zw_nx rfl (fun _ _ => rfl) ?_
    exact hK
  | succ k ih =>
    intro t ht
    have et : (nI t).toNatClampNeg = t := nI_clamp (by omega)
    have hit : vp_in (nI t) 16 := vp_in_nI (by omega) (by decide)
    have hn := ih (t + 1) (by omega)
    rw [nI_succ] at hn
    refine zw_nx rfl (fun _ _ => rfl) ?_
    refine zw_nx rfl (fun _ _ => rfl) ?_
    first | refine zw_br rfl (fun _ _ => rfl) (fun h9 => absurd h9 (nI_ge (a := t) (b := 16) (by omega) (by decide))) (fun _ => ?_) | refine zw_nx rfl (fun _ _ => rfl) ?_
    refine zw_nx rfl (fun _ _ => rfl) ?_
    refine zw_nx rfl (fun _ _ => rfl) ?_
    refine zw_nx rfl (fun _ _ => rfl) ?_
    refine zw_call rfl (fun _ _ => rfl) (cHasN sc (xm I J A (va_up B 4 (coAt (fun j q => ib (A 3 (64 + q)) j) 16 g p t)) tl) (A 3 (64 + p)).toInt64 (i := t) (by omega)) (by decide) ?_
    rintro M1 r1 ⟨rfl, rfl⟩
    rw [lb_i2l _ (by omega)]
    cases hb : ib (A 3 (64 + p)) t
    · rw [coAt_n (up := fun j q => ib (A 3 (64 + q)) j) hb, show orI (fun t => ib (A 3 (64 + p)) t) (fun t => A 3 (48 + t)) (t + 1) = orI (fun t => ib (A 3 (64 + p)) t) (fun t => A 3 (48 + t)) t from by rw [orI, if_neg (by simp [hb])]] at hn
      refine zw_nx rfl (fun _ _ => rfl) ?_
      refine zw_nx rfl (fun _ _ => rfl) ?_
      refine zw_nx rfl (fun _ _ => rfl) ?_
      exact hn
    · rw [← coAt_s (up := fun j q => ib (A 3 (64 + q)) j) (by omega) hb, show orI (fun t => ib (A 3 (64 + p)) t) (fun t => A 3 (48 + t)) (t + 1) = orI (fun t => ib (A 3 (64 + p)) t) (fun t => A 3 (48 + t)) t ||| A 3 (48 + t) from by rw [orI, if_pos hb]] at hn
      refine zw_nx rfl (fun _ _ => rfl) ?_
      refine zw_nx rfl (fun _ _ => rfl) ?_
      refine zw_nx rfl (fun _ _ => rfl) ?_
      refine zw_nx rfl (fun _ _ => rfl) ?_
      refine zw_nx rfl (fun _ _ => rfl) ?_
      refine zw_ix rfl (fun _ _ => rfl) (hit) ?_
      rw [et]
      refine zw_nx rfl (fun _ _ => rfl) ?_
      refine zw_nx rfl (fun _ _ => rfl) ?_
      refine zw_nx rfl (fun _ _ => rfl) ?_
      refine zw_nx rfl (fun _ _ => rfl) ?_
      refine zw_ix rfl (fun _ _ => rfl) (hit) ?_
      rw [et]
      refine zw_nx rfl (fun _ _ => rfl) ?_
      refine zw_nx rfl (fun _ _ => rfl) ?_
      refine zw_nx rfl (fun _ _ => rfl) ?_
      refine zw_nx rfl (fun _ _ => rfl) ?_
      refine zw_nx rfl (fun _ _ => rfl) ?_
      refine zw_nx rfl (fun _ _ => rfl) ?_
      rw [show (Int8.ofInt 48).toInt32 + nI t = nI (48 + t) from nI_add 48 t]
      refine zw_call rfl (fun _ _ => rfl) (cValueOf sc I J A (va_up B 4 (vp_updL (coAt (fun j q => ib (A 3 (64 + q)) j) 16 g p t) t (coAt (fun j q => ib (A 3 (64 + q)) j) 16 g p t t ||| bitL p))) tl (48 + t) (by omega)) (by decide) ?_
      rintro M1 r1 ⟨rfl, rfl⟩
      refine zw_nx rfl (fun _ _ => rfl) ?_
      refine zw_nx rfl (fun _ _ => rfl) ?_
      refine zw_nx rfl (fun _ _ => rfl) ?_
      refine zw_nx rfl (fun _ _ => rfl) ?_
      exact hn
set_option maxHeartbeats 4000000 in
set_option maxRecDepth 20000 in
theorem xPress (sc : sm_S) (I : Nat → Int32) (J : Nat → Int64) (A : Nat → Nat → Int32) (B : Nat → Nat → Int64) (tl : sm_M) (h : Nat) (hh : h ≤ 48) (hI : I 8 = nI h) : zC 3 sc 3 [.ref 7] (xm I J A B tl) (fun M r => r = none ∧ M = xm I J (va_up A 5 (wr (liF (fun t => A 3 (48 + t)) (fun p => A 3 (64 + p))) (A 5) h)) (va_up B 4 (wr (fun t => mk (fun p => ib (A 3 (64 + p)) t) h) (B 4) 16)) tl) := by
  refine zc_of hkX0_press rfl ?_
  refine zw_nx rfl (fun _ _ => rfl) ?_
  refine zw_nx rfl (fun _ _ => rfl) ?_
  refine zw_nx rfl (fun _ _ => rfl) ?_
  refine zw_call rfl (fun _ _ => rfl) (cFillL sc (xm I J A B tl) 13 16 (B 4) 0 rfl rfl (by decide)) (by decide) ?_
  rintro M1 r1 ⟨rfl, rfl⟩
  refine zw_nx rfl (fun _ _ => rfl) ?_
  refine zw_nx rfl (fun _ _ => rfl) ?_
  have key : ∀ (k p : Nat), p + k = h → zW 2 sc miX0_press 10 [some (.ref 7), some (.int (nI p)), none, none, none] [] (xm I J (va_up A 5 (wr (liF (fun t => A 3 (48 + t)) (fun p => A 3 (64 + p))) (A 5) p)) (va_up B 4 (wr (fun t => mk (fun p => ib (A 3 (64 + p)) t) p) (B 4) 16)) tl) (fun M r => r = none ∧ M = xm I J (va_up A 5 (wr (liF (fun t => A 3 (48 + t)) (fun p => A 3 (64 + p))) (A 5) h)) (va_up B 4 (wr (fun t => mk (fun p => ib (A 3 (64 + p)) t) h) (B 4) 16)) tl) := by
    intro k
    induction k with
    | zero =>
      intro p hp
      have e : p = h := by omega
      subst e
      refine zw_nx rfl (fun _ _ => rfl) ?_
      refine zw_nx rfl (fun _ _ => rfl) ?_
      refine zw_nx rfl (fun _ _ => rfl) ?_
      first | refine zw_br rfl (fun _ _ => rfl) (fun _ => ?_) (fun h9 => absurd (show I 8 ≤ nI p by rw [hI]; exact Int32.le_refl _) h9) | refine zw_nx rfl (fun _ _ => rfl) ?_
      exact zw_ret rfl (fun _ _ => rfl) (⟨rfl, rfl⟩)
    | succ k ih =>
      intro p hp
      have ep : (nI p).toNatClampNeg = p := nI_clamp (by omega)
      have hn := ih (p + 1) (by omega)
      rw [nI_succ] at hn
      refine zw_nx rfl (fun _ _ => rfl) ?_
      refine zw_nx rfl (fun _ _ => rfl) ?_
      refine zw_nx rfl (fun _ _ => rfl) ?_
      first | refine zw_br rfl (fun _ _ => rfl) (fun h9 => absurd h9 (show ¬ I 8 ≤ nI p by rw [hI]; exact nI_ge (by omega) (by omega))) (fun _ => ?_) | refine zw_nx rfl (fun _ _ => rfl) ?_
      refine zw_nx rfl (fun _ _ => rfl) ?_
      refine zw_nx rfl (fun _ _ => rfl) ?_
      refine zw_nx rfl (fun _ _ => rfl) ?_
      refine zw_nx rfl (fun _ _ => rfl) ?_
      refine zw_nx rfl (fun _ _ => rfl) ?_
      rw [show (Int8.ofInt 64).toInt32 + nI p = nI (64 + p) from nI_add 64 p]
      refine zw_call rfl (fun _ _ => rfl) (cValueOf sc I J (va_up A 5 (wr (liF (fun t => A 3 (48 + t)) (fun p => A 3 (64 + p))) (A 5) p)) (va_up B 4 (wr (fun t => mk (fun p => ib (A 3 (64 + p)) t) p) (B 4) 16)) tl (64 + p) (by omega)) (by decide) ?_
      rintro M1 r1 ⟨rfl, rfl⟩
      refine zw_nx rfl (fun _ _ => rfl) ?_
      refine zw_nx rfl (fun _ _ => rfl) ?_
      refine zw_nx rfl (fun _ _ => rfl) ?_
      refine zw_nx rfl (fun _ _ => rfl) ?_
      refine zw_nx rfl (fun _ _ => rfl) ?_
      have h3 := xPress_in sc I J (va_up A 5 (wr (liF (fun t => A 3 (48 + t)) (fun p => A 3 (64 + p))) (A 5) p)) B tl (fun M r => r = none ∧ M = xm I J (va_up A 5 (wr (liF (fun t => A 3 (48 + t)) (fun p => A 3 (64 + p))) (A 5) h)) (va_up B 4 (wr (fun t => mk (fun p => ib (A 3 (64 + p)) t) h) (B 4) 16)) tl) p (by omega) (B 4) (by
        refine zw_nx rfl (fun _ _ => rfl) ?_
        refine zw_nx rfl (fun _ _ => rfl) ?_
        refine zw_nx rfl (fun _ _ => rfl) ?_
        refine zw_nx rfl (fun _ _ => rfl) ?_
        refine zw_ix rfl (fun _ _ => rfl) (show vp_in (nI p) 48 from vp_in_nI (by omega) (by decide)) ?_
        rw [ep]
        refine zw_nx rfl (fun _ _ => rfl) ?_
        refine zw_nx rfl (fun _ _ => rfl) ?_
        rw [coAt_w]
        rw [← wr_s] at hn
        exact zw_kp hn) 16 0 (by omega)
      rw [← coAt_0] at h3
      exact h3
  have h0 := key h 0 (by omega)
  rw [wr_0, va_up_id] at h0
  exact zw_kp h0
set_option maxHeartbeats 4000000 in
set_option maxRecDepth 20000 in
theorem xRaise_in (sc : sm_S) (I : Nat → Int32) (J : Nat → Int64) (A : Nat → Nat → Int32) (B : Nat → Nat → Int64) (tl : sm_M) (Post : sm_M → Option Value → Prop) (p : Nat) (hp : p < 48) (lf : Nat → Int32) (hl : A 5 p = lf p) (g : Nat → Int64) (hK : zW 2 sc miX0_raise 58 [some (.ref 7), some (.int (nI p)), some (.int (nI 16))] [] (xm I J A (va_up B 3 (coAt (fun j q => ib (lf q) j) 16 g p 16)) tl) Post) : ∀ (k t : Nat), t + k = 16 → zW 2 sc miX0_raise 20 [some (.ref 7), some (.int (nI p)), some (.int (nI t))] [] (xm I J A (va_up B 3 (coAt (fun j q => ib (lf q) j) 16 g p t)) tl) Post := by
  have hip : vp_in (nI p) 48 := vp_in_nI hp (by decide)
  have ep : (nI p).toNatClampNeg = p := nI_clamp (by omega)
  intro k
  induction k with
  | zero =>
    intro t ht
    have e : t = 16 := by omega
    subst e
    refine zw_nx rfl (fun _ _ => rfl) ?_
    refine zw_nx rfl (fun _ _ => rfl) ?_
    refine zw_nx rfl (fun _ _ => rfl) ?_
    exact hK
  | succ k ih =>
    intro t ht
    have et : (nI t).toNatClampNeg = t := nI_clamp (by omega)
    have hit : vp_in (nI t) 16 := vp_in_nI (by omega) (by decide)
    have hn := ih (t + 1) (by omega)
    rw [nI_succ] at hn
    refine zw_nx rfl (fun _ _ => rfl) ?_
    refine zw_nx rfl (fun _ _ => rfl) ?_
    first | refine zw_br rfl (fun _ _ => rfl) (fun h9 => absurd h9 (nI_ge (a := t) (b := 16) (by omega) (by decide))) (fun _ => ?_) | refine zw_nx rfl (fun _ _ => rfl) ?_
    refine zw_nx rfl (fun _ _ => rfl) ?_
    refine zw_nx rfl (fun _ _ => rfl) ?_
    refine zw_nx rfl (fun _ _ => rfl) ?_
    refine zw_ix rfl (fun _ _ => rfl) (hip) ?_
    rw [ep, hl]
    refine zw_nx rfl (fun _ _ => rfl) ?_
    refine zw_nx rfl (fun _ _ => rfl) ?_
    refine zw_call rfl (fun _ _ => rfl) (cHasN sc (xm I J A (va_up B 3 (coAt (fun j q => ib (lf q) j) 16 g p t)) tl) (lf p).toInt64 (i := t) (by omega)) (by decide) ?_
    rintro M1 r1 ⟨rfl, rfl⟩
    rw [lb_i2l _ (by omega)]
    cases hb : ib (lf p) t
    · rw [coAt_n (up := fun j q => ib (lf q) j) hb] at hn
      refine zw_nx rfl (fun _ _ => rfl) ?_
      refine zw_nx rfl (fun _ _ => rfl) ?_
      refine zw_nx rfl (fun _ _ => rfl) ?_
      exact hn
    · rw [← coAt_s (up := fun j q => ib (lf q) j) (by omega) hb] at hn
      refine zw_nx rfl (fun _ _ => rfl) ?_
      refine zw_nx rfl (fun _ _ => rfl) ?_
      refine zw_nx rfl (fun _ _ => rfl) ?_
      refine zw_nx rfl (fun _ _ => rfl) ?_
      refine zw_nx rfl (fun _ _ => rfl) ?_
      refine zw_ix rfl (fun _ _ => rfl) (hit) ?_
      rw [et]
      refine zw_nx rfl (fun _ _ => rfl) ?_
      refine zw_nx rfl (fun _ _ => rfl) ?_
      refine zw_nx rfl (fun _ _ => rfl) ?_
      refine zw_nx rfl (fun _ _ => rfl) ?_
      refine zw_ix rfl (fun _ _ => rfl) (hit) ?_
      rw [et]
      refine zw_nx rfl (fun _ _ => rfl) ?_
      refine zw_nx rfl (fun _ _ => rfl) ?_
      exact hn
set_option maxHeartbeats 4000000 in
set_option maxRecDepth 20000 in
theorem xRaise (sc : sm_S) (I : Nat → Int32) (J : Nat → Int64) (A : Nat → Nat → Int32) (B : Nat → Nat → Int64) (tl : sm_M) (h : Nat) (hh : h ≤ 48) (hI : I 8 = nI h) (lf : Nat → Int32) (hl : ∀ p, p < h → A 5 p = lf p) : zC 3 sc 4 [.ref 7] (xm I J A B tl) (fun M r => r = none ∧ M = xm I J A (va_up B 3 (wr (fun t => mk (fun p => ib (lf p) t) h) (B 3) 16)) tl) := by
  refine zc_of hkX0_raise rfl ?_
  refine zw_nx rfl (fun _ _ => rfl) ?_
  refine zw_nx rfl (fun _ _ => rfl) ?_
  refine zw_nx rfl (fun _ _ => rfl) ?_
  refine zw_call rfl (fun _ _ => rfl) (cFillL sc (xm I J A B tl) 12 16 (B 3) 0 rfl rfl (by decide)) (by decide) ?_
  rintro M1 r1 ⟨rfl, rfl⟩
  refine zw_nx rfl (fun _ _ => rfl) ?_
  refine zw_nx rfl (fun _ _ => rfl) ?_
  have key : ∀ (k p : Nat), p + k = h → zW 2 sc miX0_raise 10 [some (.ref 7), some (.int (nI p)), none] [] (xm I J A (va_up B 3 (wr (fun t => mk (fun p => ib (lf p) t) p) (B 3) 16)) tl) (fun M r => r = none ∧ M = xm I J A (va_up B 3 (wr (fun t => mk (fun p => ib (lf p) t) h) (B 3) 16)) tl) := by
    intro k
    induction k with
    | zero =>
      intro p hp
      have e : p = h := by omega
      subst e
      refine zw_nx rfl (fun _ _ => rfl) ?_
      refine zw_nx rfl (fun _ _ => rfl) ?_
      refine zw_nx rfl (fun _ _ => rfl) ?_
      first | refine zw_br rfl (fun _ _ => rfl) (fun _ => ?_) (fun h9 => absurd (show I 8 ≤ nI p by rw [hI]; exact Int32.le_refl _) h9) | refine zw_nx rfl (fun _ _ => rfl) ?_
      exact zw_ret rfl (fun _ _ => rfl) (⟨rfl, rfl⟩)
    | succ k ih =>
      intro p hp
      have hn := ih (p + 1) (by omega)
      rw [nI_succ] at hn
      refine zw_nx rfl (fun _ _ => rfl) ?_
      refine zw_nx rfl (fun _ _ => rfl) ?_
      refine zw_nx rfl (fun _ _ => rfl) ?_
      first | refine zw_br rfl (fun _ _ => rfl) (fun h9 => absurd h9 (show ¬ I 8 ≤ nI p by rw [hI]; exact nI_ge (by omega) (by omega))) (fun _ => ?_) | refine zw_nx rfl (fun _ _ => rfl) ?_
      refine zw_nx rfl (fun _ _ => rfl) ?_
      refine zw_nx rfl (fun _ _ => rfl) ?_
      have h3 := xRaise_in sc I J A B tl (fun M r => r = none ∧ M = xm I J A (va_up B 3 (wr (fun t => mk (fun p => ib (lf p) t) h) (B 3) 16)) tl) p (by omega) lf (hl p (by omega)) (B 3) (by
        refine zw_nx rfl (fun _ _ => rfl) ?_
        refine zw_nx rfl (fun _ _ => rfl) ?_
        rw [coAt_w]
        exact zw_kp hn) 16 0 (by omega)
      rw [← coAt_0] at h3
      exact h3
  exact zw_kp (key h 0 (by omega))
end
section
/-! the class: hang, cross, weave -/
set_option maxHeartbeats 4000000 in
set_option maxRecDepth 20000 in
theorem xPicksOf (sc : sm_S) (I : Nat → Int32) (J : Nat → Int64) (A : Nat → Nat → Int32) (B : Nat → Nat → Int64) (tl : sm_M) (x : Int32) : zC 1 sc 2 [.ref 7, .int x] (xm I J A B tl) (zR (xm I J A B tl) (.long (if 0 ≤ x ∧ x < 16 then B 3 x.toNatClampNeg else 0))) := by
  refine zc_of hkX0_picksOf rfl ?_
  refine zw_nx rfl (fun _ _ => rfl) ?_
  refine zw_br rfl (fun _ _ => rfl) (fun (h1 : x < 0) => ?_) (fun (h1 : ¬ (x < 0)) => ?_)
  · refine zw_nx rfl (fun _ _ => rfl) ?_
    exact zw_ret rfl (fun _ _ => rfl) (⟨rfl, by rw [if_neg (fun z => Int32.not_lt.mpr z.1 h1)]; rfl⟩)
  · refine zw_nx rfl (fun _ _ => rfl) ?_
    refine zw_nx rfl (fun _ _ => rfl) ?_
    refine zw_br rfl (fun _ _ => rfl) (fun (h2 : 16 ≤ x) => ?_) (fun (h2 : ¬ (16 ≤ x)) => ?_)
    · refine zw_nx rfl (fun _ _ => rfl) ?_
      exact zw_ret rfl (fun _ _ => rfl) (⟨rfl, by rw [if_neg (fun z => Int32.not_lt.mpr h2 z.2)]; rfl⟩)
    · have hx : 0 ≤ x ∧ x < 16 := ⟨Int32.not_lt.mp h1, Int32.not_le.mp h2⟩
      obtain ⟨j, hj, rfl⟩ := inR_of (n := 16) hx (by omega)
      rw [if_pos hx]
      refine zw_nx rfl (fun _ _ => rfl) ?_
      refine zw_nx rfl (fun _ _ => rfl) ?_
      refine zw_nx rfl (fun _ _ => rfl) ?_
      refine zw_ix rfl (fun _ _ => rfl) (vp_in_nI hj (by decide)) ?_
      refine zw_nx rfl (fun _ _ => rfl) ?_
      exact zw_ret rfl (fun _ _ => rfl) (⟨rfl, rfl⟩)
/-- the SHAFTS that the first e ENDS have -/
def usF (sh : Nat → Int32) : Nat → Int32
  | 0 => 0
  | n + 1 => if 0 ≤ sh n then usF sh n ||| ((1 : Int32) <<< (sh n &&& 31)) else usF sh n
/-- the ENDS of each SHAFT, of the first e -/
def seF (sh : Nat → Int32) (g : Nat → Int64) (e : Nat) : Nat → Int64 := wr (fun s => mk (fun x => decide (sh x = nI s)) e) g 16
theorem seF_n {sh : Nat → Int32} {g : Nat → Int64} {e : Nat} (h : sh e = -1) : seF sh g (e + 1) = seF sh g e := by
  funext j
  unfold seF wr
  by_cases hj : j < 16
  · rw [if_pos hj, if_pos hj]
    show mk _ (e + 1) = mk _ e
    rw [mk, if_neg]
    rw [h]
    simp only [decide_eq_true_eq]
    exact fun z => absurd (by rw [z]; exact nI_pos' (by omega) : (0 : Int32) ≤ -1) (by decide)
  · rw [if_neg hj, if_neg hj]
theorem seF_s {sh : Nat → Int32} {g : Nat → Int64} {e q : Nat} (hq : q < 16) (h : sh e = nI q) : vp_updL (seF sh g e) q (seF sh g e q ||| bitL e) = seF sh g (e + 1) := by
  funext j
  unfold vp_updL seF wr
  by_cases hj : j = q
  · subst hj
    rw [if_pos rfl, if_pos hq, if_pos hq]
    show mk _ e ||| bitL e = mk _ (e + 1)
    rw [mk, if_pos (by simpa using h)]
  · rw [if_neg hj]
    by_cases h2 : j < 16
    · rw [if_pos h2, if_pos h2]
      show mk _ e = mk _ (e + 1)
      rw [mk, if_neg]
      rw [h]
      simp only [decide_eq_true_eq]
      exact fun z => hj ((nI_eq (by omega) (by omega)).mp z).symm
    · rw [if_neg h2, if_neg h2]
/-- the column by a SHAFT's PICKS -/
def cpF (sh : Nat → Int32) (sp : Nat → Int64) (e : Nat) : Int64 := if 0 ≤ sh e ∧ sh e < 16 then sp (sh e).toNatClampNeg else 0
set_option maxHeartbeats 4000000 in
set_option maxRecDepth 20000 in
theorem xHang (sc : sm_S) (I : Nat → Int32) (J : Nat → Int64) (A : Nat → Nat → Int32) (B : Nat → Nat → Int64) (tl : sm_M) (w : Nat) (hw : w ≤ 48) (hI : I 7 = nI w) (hs : ∀ e, e < w → shOk (A 3 e)) : zC 3 sc 5 [.ref 7] (xm I J A B tl) (fun M r => r = none ∧ M = xm (upd I 9 (usF (A 3) w)) J A (va_up (va_up B 1 (wr (cpF (A 3) (B 3)) (B 1) w)) 2 (seF (A 3) (B 2) w)) tl) := by
  refine zc_of hkX0_hang rfl ?_
  refine zw_nx rfl (fun _ _ => rfl) ?_
  refine zw_nx rfl (fun _ _ => rfl) ?_
  refine zw_nx rfl (fun _ _ => rfl) ?_
  refine zw_call rfl (fun _ _ => rfl) (cFillL sc (xm I J A B tl) 11 16 (B 2) 0 rfl rfl (by decide)) (by decide) ?_
  rintro M1 r1 ⟨rfl, rfl⟩
  refine zw_nx rfl (fun _ _ => rfl) ?_
  refine zw_nx rfl (fun _ _ => rfl) ?_
  refine zw_nx rfl (fun _ _ => rfl) ?_
  refine zw_nx rfl (fun _ _ => rfl) ?_
  refine zw_nx rfl (fun _ _ => rfl) ?_
  have key : ∀ (k e : Nat), e + k = w → zW 2 sc miX0_hang 15 [some (.ref 7), some (.int (nI e)), none] [] (xm (upd I 9 (usF (A 3) e)) J A (va_up (va_up B 1 (wr (cpF (A 3) (B 3)) (B 1) e)) 2 (seF (A 3) (B 2) e)) tl) (fun M r => r = none ∧ M = xm (upd I 9 (usF (A 3) w)) J A (va_up (va_up B 1 (wr (cpF (A 3) (B 3)) (B 1) w)) 2 (seF (A 3) (B 2) w)) tl) := by
    intro k
    induction k with
    | zero =>
      intro e he
      have e1 : e = w := by omega
      subst e1
      refine zw_nx rfl (fun _ _ => rfl) ?_
      refine zw_nx rfl (fun _ _ => rfl) ?_
      refine zw_nx rfl (fun _ _ => rfl) ?_
      first | refine zw_br rfl (fun _ _ => rfl) (fun _ => ?_) (fun h9 => absurd (show I 7 ≤ nI e by rw [hI]; exact Int32.le_refl _) h9) | refine zw_nx rfl (fun _ _ => rfl) ?_
      exact zw_ret rfl (fun _ _ => rfl) (⟨rfl, rfl⟩)
    | succ k ih =>
      intro e he
      have ee : (nI e).toNatClampNeg = e := nI_clamp (by omega)
      have hie : vp_in (nI e) 48 := vp_in_nI (by omega) (by decide)
      have hn := ih (e + 1) (by omega)
      rw [nI_succ, ← wr_sL] at hn
      refine zw_nx rfl (fun _ _ => rfl) ?_
      refine zw_nx rfl (fun _ _ => rfl) ?_
      refine zw_nx rfl (fun _ _ => rfl) ?_
      first | refine zw_br rfl (fun _ _ => rfl) (fun h9 => absurd h9 (show ¬ I 7 ≤ nI e by rw [hI]; exact nI_ge (by omega) (by omega))) (fun _ => ?_) | refine zw_nx rfl (fun _ _ => rfl) ?_
      refine zw_nx rfl (fun _ _ => rfl) ?_
      refine zw_nx rfl (fun _ _ => rfl) ?_
      refine zw_nx rfl (fun _ _ => rfl) ?_
      refine zw_nx rfl (fun _ _ => rfl) ?_
      refine zw_nx rfl (fun _ _ => rfl) ?_
      rw [show (Int32.ofInt 0) + nI e = nI e from by rw [show (Int32.ofInt 0) = nI 0 from rfl, nI_add, Nat.zero_add]]
      refine zw_call rfl (fun _ _ => rfl) (cValueOf sc (upd I 9 (usF (A 3) e)) J A (va_up (va_up B 1 (wr (cpF (A 3) (B 3)) (B 1) e)) 2 (seF (A 3) (B 2) e)) tl e (by omega)) (by decide) ?_
      rintro M1 r1 ⟨rfl, rfl⟩
      refine zw_nx rfl (fun _ _ => rfl) ?_
      refine zw_nx rfl (fun _ _ => rfl) ?_
      refine zw_nx rfl (fun _ _ => rfl) ?_
      refine zw_nx rfl (fun _ _ => rfl) ?_
      refine zw_nx rfl (fun _ _ => rfl) ?_
      refine zw_nx rfl (fun _ _ => rfl) ?_
      refine zw_call rfl (fun _ _ => rfl) (xPicksOf sc (upd I 9 (usF (A 3) e)) J A (va_up (va_up B 1 (wr (cpF (A 3) (B 3)) (B 1) e)) 2 (seF (A 3) (B 2) e)) tl (A 3 e)) (by decide) ?_
      rintro M1 r1 ⟨rfl, rfl⟩
      refine zw_ix rfl (fun _ _ => rfl) (hie) ?_
      rw [ee]
      refine zw_nx rfl (fun _ _ => rfl) ?_
      rcases hs e (by omega) with h1 | ⟨q, hq, h1⟩
      · rw [seF_n h1, show usF (A 3) (e + 1) = usF (A 3) e from by rw [usF, if_neg (by rw [h1]; decide)]] at hn
        first | refine zw_br rfl (fun _ _ => rfl) (fun _ => ?_) (fun h9 => absurd (show A 3 e < 0 by rw [h1]; decide) h9) | refine zw_nx rfl (fun _ _ => rfl) ?_
        refine zw_nx rfl (fun _ _ => rfl) ?_
        refine zw_nx rfl (fun _ _ => rfl) ?_
        exact zw_kp hn
      · have eq1 : (nI q).toNatClampNeg = q := nI_clamp (by omega)
        rw [← seF_s hq h1, show usF (A 3) (e + 1) = usF (A 3) e ||| ((1 : Int32) <<< (A 3 e &&& 31)) from by rw [usF, if_pos (by rw [h1]; exact nI_pos' (by omega))]] at hn
        first | refine zw_br rfl (fun _ _ => rfl) (fun h9 => absurd h9 (show ¬ A 3 e < 0 by rw [h1]; exact nI_pos (by omega))) (fun _ => ?_) | refine zw_nx rfl (fun _ _ => rfl) ?_
        refine zw_nx rfl (fun _ _ => rfl) ?_
        refine zw_nx rfl (fun _ _ => rfl) ?_
        first | refine zw_br rfl (fun _ _ => rfl) (fun h9 => absurd h9 (show ¬ (16 : Int32) ≤ A 3 e by rw [h1]; exact nI_ge (a := q) (b := 16) hq (by decide))) (fun _ => ?_) | refine zw_nx rfl (fun _ _ => rfl) ?_
        refine zw_nx rfl (fun _ _ => rfl) ?_
        refine zw_nx rfl (fun _ _ => rfl) ?_
        refine zw_nx rfl (fun _ _ => rfl) ?_
        refine zw_nx rfl (fun _ _ => rfl) ?_
        refine zw_nx rfl (fun _ _ => rfl) ?_
        refine zw_nx rfl (fun _ _ => rfl) ?_
        refine zw_nx rfl (fun _ _ => rfl) ?_
        refine zw_nx rfl (fun _ _ => rfl) ?_
        refine zw_nx rfl (fun _ _ => rfl) ?_
        refine zw_nx rfl (fun _ _ => rfl) ?_
        refine zw_nx rfl (fun _ _ => rfl) ?_
        refine zw_nx rfl (fun _ _ => rfl) ?_
        refine zw_ix rfl (fun _ _ => rfl) (show vp_in (A 3 e) 16 by rw [h1]; exact vp_in_nI hq (by decide)) ?_
        refine zw_nx rfl (fun _ _ => rfl) ?_
        refine zw_nx rfl (fun _ _ => rfl) ?_
        refine zw_nx rfl (fun _ _ => rfl) ?_
        refine zw_nx rfl (fun _ _ => rfl) ?_
        refine zw_ix rfl (fun _ _ => rfl) (show vp_in (A 3 e) 16 by rw [h1]; exact vp_in_nI hq (by decide)) ?_
        rw [show q = (A 3 e).toNatClampNeg from by rw [h1, eq1]] at hn
        refine zw_nx rfl (fun _ _ => rfl) ?_
        refine zw_nx rfl (fun _ _ => rfl) ?_
        exact zw_kp hn
  have h0 := key w 0 (by omega)
  rw [wr_0, va_up_id] at h0
  exact zw_kp h0
/-- all longs of a set of places together -/
def orL (p : Nat → Bool) (g : Nat → Int64) : Nat → Int64
  | 0 => 0
  | n + 1 => if p n then orL p g n ||| g n else orL p g n
set_option maxHeartbeats 4000000 in
set_option maxRecDepth 20000 in
theorem xCross (sc : sm_S) (I : Nat → Int32) (J : Nat → Int64) (A : Nat → Nat → Int32) (B : Nat → Nat → Int64) (tl : sm_M) (h : Nat) (hh : h ≤ 48) (hI : I 8 = nI h) (lf : Nat → Int32) (hl : ∀ p, p < h → A 5 p = lf p) : zC 2 sc 6 [.ref 7] (xm I J A B tl) (fun M r => r = none ∧ M = xm I J A (va_up B 0 (wr (fun p => orL (fun s => ib (lf p) s) (B 2) 16) (B 0) h)) tl) := by
  refine zc_of hkX0_cross rfl ?_
  refine zw_nx rfl (fun _ _ => rfl) ?_
  refine zw_nx rfl (fun _ _ => rfl) ?_
  have key : ∀ (k p : Nat), p + k = h → zW 1 sc miX0_cross 2 [some (.ref 7), some (.int (nI p)), none, none, none] [] (xm I J A (va_up B 0 (wr (fun p => orL (fun s => ib (lf p) s) (B 2) 16) (B 0) p)) tl) (fun M r => r = none ∧ M = xm I J A (va_up B 0 (wr (fun p => orL (fun s => ib (lf p) s) (B 2) 16) (B 0) h)) tl) := by
    intro k
    induction k with
    | zero =>
      intro p hp
      have e : p = h := by omega
      subst e
      refine zw_nx rfl (fun _ _ => rfl) ?_
      refine zw_nx rfl (fun _ _ => rfl) ?_
      refine zw_nx rfl (fun _ _ => rfl) ?_
      first | refine zw_br rfl (fun _ _ => rfl) (fun _ => ?_) (fun h9 => absurd (show I 8 ≤ nI p by rw [hI]; exact Int32.le_refl _) h9) | refine zw_nx rfl (fun _ _ => rfl) ?_
      exact zw_ret rfl (fun _ _ => rfl) (⟨rfl, rfl⟩)
    | succ k ih =>
      intro p hp
      have ep : (nI p).toNatClampNeg = p := nI_clamp (by omega)
      have hip : vp_in (nI p) 48 := vp_in_nI (by omega) (by decide)
      have hn := ih (p + 1) (by omega)
      rw [nI_succ, ← wr_sL] at hn
      have hlp := hl p (by omega)
      have inner : ∀ (k s : Nat), s + k = 16 → zW 1 sc miX0_cross 15 [some (.ref 7), some (.int (nI p)), some (.long (orL (fun s => ib (lf p) s) (B 2) s)), none, some (.int (nI s))] [] (xm I J A (va_up B 0 (wr (fun p => orL (fun s => ib (lf p) s) (B 2) 16) (B 0) p)) tl) (fun M r => r = none ∧ M = xm I J A (va_up B 0 (wr (fun p => orL (fun s => ib (lf p) s) (B 2) 16) (B 0) h)) tl) := by
        intro k
        induction k with
        | zero =>
          intro s hs
          have e : s = 16 := by omega
          subst e
          refine zw_nx rfl (fun _ _ => rfl) ?_
          refine zw_nx rfl (fun _ _ => rfl) ?_
          refine zw_nx rfl (fun _ _ => rfl) ?_
          refine zw_nx rfl (fun _ _ => rfl) ?_
          refine zw_nx rfl (fun _ _ => rfl) ?_
          refine zw_nx rfl (fun _ _ => rfl) ?_
          refine zw_nx rfl (fun _ _ => rfl) ?_
          refine zw_ix rfl (fun _ _ => rfl) (hip) ?_
          rw [ep]
          refine zw_nx rfl (fun _ _ => rfl) ?_
          refine zw_nx rfl (fun _ _ => rfl) ?_
          exact zw_kp hn
        | succ k ih2 =>
          intro s hs
          have es : (nI s).toNatClampNeg = s := nI_clamp (by omega)
          have hn3 := ih2 (s + 1) (by omega)
          rw [nI_succ] at hn3
          refine zw_nx rfl (fun _ _ => rfl) ?_
          refine zw_nx rfl (fun _ _ => rfl) ?_
          first | refine zw_br rfl (fun _ _ => rfl) (fun h9 => absurd h9 (nI_ge (a := s) (b := 16) (by omega) (by decide))) (fun _ => ?_) | refine zw_nx rfl (fun _ _ => rfl) ?_
          refine zw_nx rfl (fun _ _ => rfl) ?_
          refine zw_nx rfl (fun _ _ => rfl) ?_
          refine zw_nx rfl (fun _ _ => rfl) ?_
          refine zw_ix rfl (fun _ _ => rfl) (hip) ?_
          rw [ep, hlp]
          refine zw_nx rfl (fun _ _ => rfl) ?_
          refine zw_nx rfl (fun _ _ => rfl) ?_
          refine zw_call rfl (fun _ _ => rfl) (cHasN sc (xm I J A (va_up B 0 (wr (fun p => orL (fun s => ib (lf p) s) (B 2) 16) (B 0) p)) tl) (lf p).toInt64 (i := s) (by omega)) (by decide) ?_
          rintro M1 r1 ⟨rfl, rfl⟩
          rw [lb_i2l _ (by omega)]
          cases hb : ib (lf p) s
          · rw [show orL (fun s => ib (lf p) s) (B 2) (s + 1) = orL (fun s => ib (lf p) s) (B 2) s from by rw [orL, if_neg (by simp [hb])]] at hn3
            refine zw_nx rfl (fun _ _ => rfl) ?_
            refine zw_nx rfl (fun _ _ => rfl) ?_
            refine zw_nx rfl (fun _ _ => rfl) ?_
            exact hn3
          · rw [show orL (fun s => ib (lf p) s) (B 2) (s + 1) = orL (fun s => ib (lf p) s) (B 2) s ||| B 2 s from by rw [orL, if_pos hb]] at hn3
            refine zw_nx rfl (fun _ _ => rfl) ?_
            refine zw_nx rfl (fun _ _ => rfl) ?_
            refine zw_nx rfl (fun _ _ => rfl) ?_
            refine zw_nx rfl (fun _ _ => rfl) ?_
            refine zw_nx rfl (fun _ _ => rfl) ?_
            refine zw_ix rfl (fun _ _ => rfl) (show vp_in (nI s) 16 from vp_in_nI (by omega) (by decide)) ?_
            rw [es]
            refine zw_nx rfl (fun _ _ => rfl) ?_
            refine zw_nx rfl (fun _ _ => rfl) ?_
            refine zw_nx rfl (fun _ _ => rfl) ?_
            refine zw_nx rfl (fun _ _ => rfl) ?_
            exact hn3
      refine zw_nx rfl (fun _ _ => rfl) ?_
      refine zw_nx rfl (fun _ _ => rfl) ?_
      refine zw_nx rfl (fun _ _ => rfl) ?_
      first | refine zw_br rfl (fun _ _ => rfl) (fun h9 => absurd h9 (show ¬ I 8 ≤ nI p by rw [hI]; exact nI_ge (by omega) (by omega))) (fun _ => ?_) | refine zw_nx rfl (fun _ _ => rfl) ?_
      refine zw_nx rfl (fun _ _ => rfl) ?_
      refine zw_nx rfl (fun _ _ => rfl) ?_
      refine zw_nx rfl (fun _ _ => rfl) ?_
      refine zw_nx rfl (fun _ _ => rfl) ?_
      exact inner 16 0 (by omega)
  have h0 := key h 0 (by omega)
  rw [wr_0, va_up_id] at h0
  exact zw_kp h0
end
section
/-! the class: weave, and THE CLOTH -/
theorem lb_orL {p : Nat → Bool} {g : Nat → Int64} {i : Nat} : ∀ {n : Nat}, lb (orL p g n) i = true ↔ ∃ s, s < n ∧ p s = true ∧ lb (g s) i = true := by
  intro n
  induction n with
  | zero =>
    unfold orL
    rw [lb_0]
    exact ⟨fun h => absurd h (by simp), fun ⟨s, h, _⟩ => by omega⟩
  | succ n ih =>
    unfold orL
    by_cases hp : p n = true
    · rw [if_pos hp, lb_or, Bool.or_eq_true, ih]
      constructor
      · rintro (⟨s, h1, h2, h3⟩ | h)
        · exact ⟨s, by omega, h2, h3⟩
        · exact ⟨n, by omega, hp, h⟩
      · rintro ⟨s, h1, h2, h3⟩
        by_cases hs : s = n
        · subst hs; exact Or.inr h3
        · exact Or.inl ⟨s, by omega, h2, h3⟩
    · rw [if_neg hp, ih]
      constructor
      · rintro ⟨s, h1, h2, h3⟩
        exact ⟨s, by omega, h2, h3⟩
      · rintro ⟨s, h1, h2, h3⟩
        by_cases hs : s = n
        · subst hs; exact absurd h2 hp
        · exact ⟨s, by omega, h2, h3⟩
theorem up_of {sh ti tr : Nat → Int32} {e p q : Nat} (hq : q < 16) (h : sh e = nI q) : upF sh ti tr e p = ib (liF ti tr p) q := by
  unfold upF
  rw [h, nI_clamp (by omega), decide_eq_true (nI_pos' (by omega)), Bool.true_and]
theorem up_no {sh ti tr : Nat → Int32} {e p : Nat} (h : sh e = -1) : upF sh ti tr e p = false := by
  unfold upF
  rw [h]
  rfl
/-- the row, put together by SHAFTS -/
theorem row_mk {sh ti tr : Nat → Int32} {w p : Nat} (hw : w ≤ 48) (hs : ∀ e, e < w → shOk (sh e)) {se : Nat → Int64} (hse : ∀ s, s < 16 → se s = mk (fun e => decide (sh e = nI s)) w) : orL (fun s => ib (liF ti tr p) s) se 16 = mk (fun e => upF sh ti tr e p) w := by
  refine mk_eq (by omega) (fun i hi => ?_)
  rw [Bool.eq_iff_iff, lb_orL, Bool.and_eq_true, decide_eq_true_eq]
  constructor
  · rintro ⟨s, h1, h2, h3⟩
    rw [hse s h1, lb_mk (by omega), Bool.and_eq_true, decide_eq_true_eq, decide_eq_true_eq] at h3
    exact ⟨h3.1, by rw [up_of h1 h3.2]; exact h2⟩
  · rintro ⟨h1, h2⟩
    rcases hs i h1 with h3 | ⟨q, hq, h3⟩
    · rw [up_no h3] at h2
      exact absurd h2 (by simp)
    · refine ⟨q, hq, by rw [up_of hq h3] at h2; exact h2, ?_⟩
      rw [hse q hq, lb_mk (by omega), Bool.and_eq_true]
      exact ⟨decide_eq_true h1, decide_eq_true h3⟩
theorem mk_false : ∀ n, mk (fun _ => false) n = 0 := by
  intro n
  induction n with
  | zero => rfl
  | succ n ih => rw [mk, if_neg (by simp), ih]
theorem col_mk {sh ti tr : Nat → Int32} {h e : Nat} (hs : shOk (sh e)) {sp : Nat → Int64} (hsp : ∀ s, s < 16 → sp s = mk (fun p => ib (liF ti tr p) s) h) : cpF sh sp e = mk (fun p => upF sh ti tr e p) h := by
  unfold cpF
  rcases hs with h3 | ⟨q, hq, h3⟩
  · rw [if_neg (by rw [h3]; decide), mk_cong (q := fun _ => false) (fun p _ => up_no h3), mk_false]
  · have hz : 0 ≤ sh e ∧ sh e < 16 := by
      rw [h3]
      exact ⟨nI_pos' (by omega), nI_lt (b := 16) hq (by decide)⟩
    rw [if_pos hz, h3, nI_clamp (by omega), hsp q hq]
    exact mk_cong (fun p _ => (up_of hq h3).symm)
/-- the values at the look: SHAFTS of ENDS, TIES, TREADS -/
abbrev xSh (A : Nat → Nat → Int32) : Nat → Int32 := A 3
abbrev xTi (A : Nat → Nat → Int32) : Nat → Int32 := fun t => A 3 (48 + t)
abbrev xTr (A : Nat → Nat → Int32) : Nat → Int32 := fun p => A 3 (64 + p)
abbrev xUp (A : Nat → Nat → Int32) : Nat → Nat → Bool := upF (xSh A) (xTi A) (xTr A)
/-- THE CLOTH stands in its arrays -/
def ClOk (I : Nat → Int32) (A : Nat → Nat → Int32) (B : Nat → Nat → Int64) (w h : Nat) : Prop :=
  (∀ p, p < h → A 5 p = liF (xTi A) (xTr A) p) ∧ (∀ p, p < h → B 0 p = mk (fun e => xUp A e p) w) ∧ (∀ e, e < w → B 1 e = mk (fun p => xUp A e p) h) ∧ (∀ s, s < 16 → B 2 s = mk (fun e => decide (A 3 e = nI s)) w) ∧ (∀ s, s < 16 → B 3 s = mk (fun p => ib (liF (xTi A) (xTr A) p) s) h) ∧ (∀ t, t < 16 → B 4 t = mk (fun p => ib (xTr A p) t) h) ∧ I 9 = usF (A 3) w
/-- rows beyond the last PICK are empty -/
def RoZ (B : Nat → Nat → Int64) (h : Nat) : Prop := ∀ p, h ≤ p → p < 48 → B 0 p = 0
set_option maxHeartbeats 4000000 in
set_option maxRecDepth 20000 in
theorem xWeave (sc : sm_S) (I : Nat → Int32) (J : Nat → Int64) (A : Nat → Nat → Int32) (B : Nat → Nat → Int64) (tl : sm_M) (w h : Nat) (hw : w ≤ 48) (hh : h ≤ 48) (hI7 : I 7 = nI w) (hI8 : I 8 = nI h) (hs : ∀ e, e < w → shOk (A 3 e)) (hc : I 10 = I 6 → ClOk I A B w h) (hz : RoZ B h) : zC 4 sc 1 [.ref 7] (xm I J A B tl) (fun M r => r = none ∧ ∃ I' A' B', M = xm I' J A' B' tl ∧ ClOk I' A' B' w h ∧ RoZ B' h ∧ (∀ z, z ≠ 9 → z ≠ 10 → I' z = I z) ∧ I' 10 = I 6 ∧ (∀ a, a ≠ 5 → A' a = A a) ∧ (∀ b, 4 < b → B' b = B b)) := by
  refine zc_of hkX0_weave rfl ?_
  refine zw_nx rfl (fun _ _ => rfl) ?_
  refine zw_nx rfl (fun _ _ => rfl) ?_
  refine zw_nx rfl (fun _ _ => rfl) ?_
  refine zw_nx rfl (fun _ _ => rfl) ?_
  refine zw_nx rfl (fun _ _ => rfl) ?_
  refine zw_br rfl (fun _ _ => rfl) (fun (he : I 10 = I 6) => ?_) (fun (he : ¬ (I 10 = I 6)) => ?_)
  · exact zw_ret rfl (fun _ _ => rfl) (⟨rfl, I, A, B, rfl, hc he, hz, fun _ _ _ => rfl, he, fun _ _ => rfl, fun _ _ => rfl⟩)
  · refine zw_nx rfl (fun _ _ => rfl) ?_
    refine zw_nx rfl (fun _ _ => rfl) ?_
    refine zw_nx rfl (fun _ _ => rfl) ?_
    refine zw_nx rfl (fun _ _ => rfl) ?_
    refine zw_nx rfl (fun _ _ => rfl) ?_
    refine zw_nx rfl (fun _ _ => rfl) ?_
    refine zw_call rfl (fun _ _ => rfl) (xPress sc (upd I 10 (I 6)) J A B tl h hh hI8) (by decide) ?_
    rintro M1 r1 ⟨rfl, rfl⟩
    refine zw_nx rfl (fun _ _ => rfl) ?_
    refine zw_call rfl (fun _ _ => rfl) (xRaise sc (upd I 10 (I 6)) J (va_up A 5 (wr (liF (xTi A) (xTr A)) (A 5) h)) (va_up B 4 (wr (fun t => mk (fun p => ib (A 3 (64 + p)) t) h) (B 4) 16)) tl h hh hI8 (liF (xTi A) (xTr A)) (fun p hp => wr_in (F := liF (xTi A) (xTr A)) (g := A 5) hp)) (by decide) ?_
    rintro M1 r1 ⟨rfl, rfl⟩
    refine zw_nx rfl (fun _ _ => rfl) ?_
    refine zw_call rfl (fun _ _ => rfl) (xHang sc (upd I 10 (I 6)) J (va_up A 5 (wr (liF (xTi A) (xTr A)) (A 5) h)) (va_up (va_up B 4 (wr (fun t => mk (fun p => ib (A 3 (64 + p)) t) h) (B 4) 16)) 3 (wr (fun t => mk (fun p => ib (liF (xTi A) (xTr A) p) t) h) (B 3) 16)) tl w hw hI7 hs) (by decide) ?_
    rintro M1 r1 ⟨rfl, rfl⟩
    refine zw_nx rfl (fun _ _ => rfl) ?_
    refine zw_call rfl (fun _ _ => rfl) (xCross sc (upd (upd I 10 (I 6)) 9 (usF (A 3) w)) J (va_up A 5 (wr (liF (xTi A) (xTr A)) (A 5) h)) (va_up (va_up (va_up (va_up B 4 (wr (fun t => mk (fun p => ib (A 3 (64 + p)) t) h) (B 4) 16)) 3 (wr (fun t => mk (fun p => ib (liF (xTi A) (xTr A) p) t) h) (B 3) 16)) 1 (wr (cpF (A 3) (wr (fun t => mk (fun p => ib (liF (xTi A) (xTr A) p) t) h) (B 3) 16)) (B 1) w)) 2 (seF (A 3) (B 2) w)) tl h hh hI8 (liF (xTi A) (xTr A)) (fun p hp => wr_in (F := liF (xTi A) (xTr A)) (g := A 5) hp)) (by decide) ?_
    rintro M1 r1 ⟨rfl, rfl⟩
    refine zw_ret rfl (fun _ _ => rfl) ?_
    refine ⟨rfl, _, _, _, rfl, ⟨fun p hp => wr_in (F := liF (xTi A) (xTr A)) (g := A 5) hp, fun p hp => ?_, fun e he => ?_, fun s hs' => ?_, fun s hs' => ?_, fun t ht => ?_, rfl⟩, fun p hp hp2 => ?_, fun z h9 h10 => ?_, rfl, fun a ha => ?_, fun b hb => ?_⟩
    · refine (wr_in (F := fun p => orL (fun s => ib (liF (xTi A) (xTr A) p) s) (seF (A 3) (B 2) w) 16) (g := B 0) hp).trans ?_
      exact row_mk hw hs (fun s hs' => wr_in hs')
    · refine (wr_in (F := cpF (A 3) (wr (fun t => mk (fun p => ib (liF (xTi A) (xTr A) p) t) h) (B 3) 16)) (g := B 1) he).trans ?_
      exact col_mk (hs e he) (fun s hs' => wr_in hs')
    · exact wr_in (F := fun s => mk (fun x => decide (A 3 x = nI s)) w) (g := B 2) hs'
    · exact wr_in (F := fun t => mk (fun p => ib (liF (xTi A) (xTr A) p) t) h) (g := B 3) hs'
    · exact wr_in (F := fun t => mk (fun p => ib (A 3 (64 + p)) t) h) (g := B 4) ht
    · exact (wr_out (F := fun p => orL (fun s => ib (liF (xTi A) (xTr A) p) s) (seF (A 3) (B 2) w) 16) (g := B 0) hp).trans (hz p hp hp2)
    · show upd (upd I 10 (I 6)) 9 _ z = I z
      unfold upd
      rw [if_neg h9, if_neg h10]
    · show va_up A 5 _ a = A a
      unfold va_up
      rw [if_neg ha]
    · show va_up (va_up (va_up (va_up (va_up B 4 _) 3 _) 1 _) 2 _) 0 _ b = B b
      unfold va_up
      rw [if_neg (by omega), if_neg (by omega), if_neg (by omega), if_neg (by omega), if_neg (by omega)]
end
section
/-! steps up to the next loop's head; what weave and draw leave -/
theorem zw_go {D : Nat} {sc : sm_S} {mi : sm_MI} {pc : Nat} {L : sm_L} {st : List Value} {M : sm_M} {Post : sm_M → Option Value → Prop} {i : Instr} {pc' : Nat} {L' : sm_L} {st' : List Value} {M1 : sm_M} (hh : sm_fd mi.2.2.2.2.2.1 pc = none) (hi : sm_fd mi.2.2.2.2.1 pc = some i) (h : ∀ cal k, sm_ex cal sc mi k pc (sm_kp mi.2.2.2.2.2.1 pc L) st M i = k pc' L' st' M1) (hn : zW D sc mi pc' L' st' M1 Post) : zW D sc mi pc L st M Post := zw_nx hi h hn
theorem bI_of {c : Prop} [Decidable c] (h : ¬ bI c = 0) : c := by
  by_cases hc : c
  · exact hc
  · exact absurd (bI_0.mpr hc) h
/-- a set of 16 -/
def seOk (x : Int32) : Prop := ∃ q, q < 65536 ∧ x = nI q
/-- the values at the look are in their ranges -/
def VOk (V : Nat → Int32) : Prop := (∀ e, e < 48 → shOk (V e)) ∧ (∀ s, 48 ≤ s → s < 112 → seOk (V s)) ∧ (∀ s, 112 ≤ s → s < 208 → ∃ q, q < 10 ∧ V s = nI q)
/-- a LIFT, a CELL, by the values -/
abbrev vLi (V : Nat → Int32) : Nat → Int32 := liF (fun t => V (48 + t)) (fun p => V (64 + p))
abbrev vUp (V : Nat → Int32) : Nat → Nat → Bool := upF V (fun t => V (48 + t)) (fun p => V (64 + p))
/-- the class, as the cloth needs it -/
def WH (w h : Nat) (I : Nat → Int32) (J : Nat → Int64) (A : Nat → Nat → Int32) (B : Nat → Nat → Int64) : Prop := I 0 = nI w ∧ I 1 = nI h ∧ I 7 = nI w ∧ I 8 = nI h ∧ 1 ≤ w ∧ w ≤ 48 ∧ 1 ≤ h ∧ h ≤ 48 ∧ J 0 = mk (fun _ => true) w ∧ VOk (A 3) ∧ (I 10 = I 6 → ClOk I A B w h) ∧ RoZ B h
/-- what weave touches -/
def WK (I : Nat → Int32) (A : Nat → Nat → Int32) (B : Nat → Nat → Int64) (I' : Nat → Int32) (A' : Nat → Nat → Int32) (B' : Nat → Nat → Int64) : Prop := (∀ z, z ≠ 9 → z ≠ 10 → I' z = I z) ∧ I' 10 = I' 6 ∧ (∀ a, a ≠ 5 → A' a = A a) ∧ (∀ b, 4 < b → B' b = B b)
/-- THE CLOTH stands in its arrays, by the values -/
def CV (I : Nat → Int32) (A : Nat → Nat → Int32) (B : Nat → Nat → Int64) (w h : Nat) (V : Nat → Int32) : Prop :=
  (∀ p, p < h → A 5 p = vLi V p) ∧ (∀ p, p < h → B 0 p = mk (fun e => vUp V e p) w) ∧ (∀ e, e < w → B 1 e = mk (fun p => vUp V e p) h) ∧ (∀ s, s < 16 → B 2 s = mk (fun e => decide (V e = nI s)) w) ∧ (∀ s, s < 16 → B 3 s = mk (fun p => ib (vLi V p) s) h) ∧ (∀ t, t < 16 → B 4 t = mk (fun p => ib (V (64 + p)) t) h) ∧ I 9 = usF V w
section
variable (sc : sm_S) (I : Nat → Int32) (J : Nat → Int64) (A : Nat → Nat → Int32) (B : Nat → Nat → Int64) (tl : sm_M) (f : Nat → va_E) (w h n : Nat) (V : Nat → Int32)
theorem xWv (hW : WH w h I J A B) : zC 4 sc 1 [.ref 7] (xm I J A B tl) (fun M r => r = none ∧ ∃ I' A' B', M = xm I' J A' B' tl ∧ WH w h I' J A' B' ∧ CV I' A' B' w h (A 3) ∧ WK I A B I' A' B') := by
  obtain ⟨h0, h1, h7, h8, hw1, hw, hh1, hh, hJ, hV, hC, hR⟩ := hW
  refine zc_post (xWeave sc I J A B tl w h hw hh h7 h8 (fun e he => hV.1 e (by omega)) hC hR) ?_
  rintro M r ⟨rfl, I', A', B', rfl, c1, c2, c3, c4, c5, c6⟩
  have c4' : I' 10 = I' 6 := by rw [c4, c3 6 (by decide) (by decide)]
  refine ⟨rfl, I', A', B', rfl, ⟨?_, ?_, ?_, ?_, hw1, hw, hh1, hh, hJ, ?_, fun _ => c1, c2⟩, ?_, c3, c4', c5, c6⟩
  · rw [c3 0 (by decide) (by decide)]; exact h0
  · rw [c3 1 (by decide) (by decide)]; exact h1
  · rw [c3 7 (by decide) (by decide)]; exact h7
  · rw [c3 8 (by decide) (by decide)]; exact h8
  · rw [c5 3 (by decide)]; exact hV
  · rw [← c5 3 (by decide)]; exact c1
/-- the reference, as draw needs it -/
def MH (I : Nat → Int32) (A : Nat → Nat → Int32) (w h n : Nat) (V : Nat → Int32) : Prop := I 0 = nI w ∧ I 1 = nI h ∧ 1 ≤ w ∧ w ≤ 48 ∧ 1 ≤ h ∧ h ≤ 48 ∧ I 4 = nI n ∧ n ≤ 2000 ∧ (∀ a b, a ≤ 4 → b < ksz a → mVal A n (nI a) (nI b) (I 3) = V (sb a + b)) ∧ VOk V
/-- what draw leaves -/
def Dr (A : Nat → Nat → Int32) (B : Nat → Nat → Int64) (w h : Nat) (V : Nat → Int32) (A' : Nat → Nat → Int32) (B' : Nat → Nat → Int64) : Prop := (∀ x, x < w → A' 4 x = V x) ∧ (∀ t, t < 16 → A' 5 t = V (48 + t)) ∧ (∀ p, p < h → A' 6 p = V (64 + p)) ∧ (∀ p, p < h → A' 7 p = vLi V p) ∧ (∀ p, p < h → B' 0 p = mk (fun e => vUp V e p) w) ∧ (∀ e, e < w → B' 1 e = mk (fun p => vUp V e p) h) ∧ (∀ a, a ≠ 4 → a ≠ 5 → a ≠ 6 → a ≠ 7 → A' a = A a) ∧ (∀ b, 2 ≤ b → B' b = B b)
theorem liF_cong {ti tr ti' tr' : Nat → Int32} {p : Nat} (h1 : ∀ t, t < 16 → ti t = ti' t) (h2 : tr p = tr' p) : liF ti tr p = liF ti' tr' p := by
  have key : ∀ n, n ≤ 16 → orI (fun t => ib (tr p) t) ti n = orI (fun t => ib (tr' p) t) ti' n := by
    intro n
    induction n with
    | zero => intro _; rfl
    | succ n ih =>
      intro hn
      rw [orI, orI, ih (by omega), h1 n (by omega), h2]
  exact key 16 (by omega)
theorem mD (hM : MH I A w h n V) : zC 4 sc 176 [.ref 47] (mm f I A B) (fun M r => r = none ∧ ∃ A' B', M = mm f I A' B' ∧ Dr A B w h V A' B') := by
  obtain ⟨h0, h1, hw1, hw, hh1, hh, h4, hn, hv, hV⟩ := hM
  have e0 : ∀ x, x < w → mVal A n 0 (nI x) (I 3) = V x := fun x hx => by
    have := hv 0 x (by omega) (by simp only [ksz]; omega)
    simp only [sb, Nat.zero_add] at this
    exact this
  have e1 : ∀ x, x < 16 → mVal A n 1 (nI x) (I 3) = V (48 + x) := fun x hx => hv 1 x (by omega) (by simp only [ksz]; omega)
  have e2 : ∀ x, x < h → mVal A n 2 (nI x) (I 3) = V (64 + x) := fun x hx => hv 2 x (by omega) (by simp only [ksz]; omega)
  have e3 : ∀ p, p < h → liF (fun x => mVal A n 1 (nI x) (I 3)) (fun x => mVal A n 2 (nI x) (I 3)) p = vLi V p := fun p hp => liF_cong (fun t ht => e1 t ht) (e2 p hp)
  have e4 : ∀ e p, e < w → p < h → mUp A n (I 3) e p = vUp V e p := fun e p he hp => by
    unfold mUp vUp upF
    rw [e3 p hp]
    show (decide (0 ≤ mVal A n 0 (nI e) (I 3)) && ib (vLi V p) (mVal A n 0 (nI e) (I 3)).toNatClampNeg) = _
    rw [e0 e he]
  refine zc_post (mDraw sc f I A B n w h h4 hn hw hh h0 h1 (fun x hx => by rw [e0 x hx]; exact hV.1 x (by omega))) ?_
  rintro M r ⟨rfl, rfl⟩
  refine ⟨rfl, _, _, rfl, fun x hx => ?_, fun x hx => ?_, fun x hx => ?_, fun x hx => ?_, fun x hx => ?_, fun x hx => ?_, fun a g4 g5 g6 g7 => ?_, fun b hb => ?_⟩
  · exact (wr_in (F := fun x => mVal A n 0 (nI x) (I 3)) (g := A 4) hx).trans (e0 x hx)
  · exact (wr_in (F := fun x => mVal A n 1 (nI x) (I 3)) (g := A 5) hx).trans (e1 x hx)
  · exact (wr_in (F := fun x => mVal A n 2 (nI x) (I 3)) (g := A 6) hx).trans (e2 x hx)
  · exact (wr_in (F := liF (fun x => mVal A n 1 (nI x) (I 3)) (fun x => mVal A n 2 (nI x) (I 3))) (g := A 7) hx).trans (e3 x hx)
  · exact (wr_in (F := fun p => mk (fun e => mUp A n (I 3) e p) w) (g := B 0) hx).trans (mk_cong (fun e he => e4 e x he hx))
  · exact (wr_in (F := fun e => mk (fun p => mUp A n (I 3) e p) h) (g := B 1) hx).trans (mk_cong (fun p hp => e4 x p hx hp))
  · unfold dwA drA va_up
    rw [if_neg g7, if_neg g6, if_neg g5, if_neg g4]
  · unfold dwB drB va_up
    rw [if_neg (by omega), if_neg (by omega)]
/-! lift, row -/
set_option maxHeartbeats 4000000 in
set_option maxRecDepth 20000 in
theorem xLift (x : Int32) (hW : WH w h I J A B) : zC 5 sc 126 [.ref 0, .int x] (xm I J A B tl) (fun M r => r = some (.int (if 0 ≤ x ∧ x < nI h then vLi (A 3) x.toNatClampNeg else -1)) ∧ ∃ I' A' B', M = xm I' J A' B' tl ∧ WH w h I' J A' B' ∧ WK I A B I' A' B') := by
  refine zc_of hkX10_lift rfl ?_
  repeat (refine zw_go rfl rfl (fun _ _ => rfl) ?_)
  refine zw_call rfl (fun _ _ => rfl) (xWv sc I J A B tl w h hW) (by decide) ?_
  rintro M1 r1 ⟨rfl, I', A', B', rfl, hW', hC, hK⟩
  obtain ⟨h0, h1, h7, h8, hw1, hw, hh1, hh, hJ, hV, hC', hR⟩ := hW'
  repeat (refine zw_go rfl rfl (fun _ _ => rfl) ?_)
  refine zw_call rfl (fun _ _ => rfl) (xIsPick sc I' J A' B' tl x h h1) (by decide) ?_
  rintro M1 r1 ⟨rfl, rfl⟩
  repeat (refine zw_go rfl rfl (fun _ _ => rfl) ?_)
  refine zw_br rfl (fun _ _ => rfl) (fun (hc : bI (0 ≤ x ∧ x < nI h) = 0) => ?_) (fun (hc : ¬ (bI (0 ≤ x ∧ x < nI h) = 0)) => ?_)
  · repeat (refine zw_go rfl rfl (fun _ _ => rfl) ?_)
    refine zw_ret rfl (fun _ _ => rfl) ?_
    exact ⟨by rw [if_neg (bI_0.mp hc)]; try rfl, I', A', B', rfl, ⟨h0, h1, h7, h8, hw1, hw, hh1, hh, hJ, hV, hC', hR⟩, hK⟩
  · have he := bI_of hc
    rw [if_pos he]
    obtain ⟨j, hj, rfl⟩ := inR_of he (by omega)
    repeat (refine zw_go rfl rfl (fun _ _ => rfl) ?_)
    refine zw_ix rfl (fun _ _ => rfl) (show vp_in (nI (j)) _ from vp_in_nI (by omega) (by omega)) ?_
    rw [show (nI (j)).toNatClampNeg = j from nI_clamp (by omega)]
    repeat (refine zw_go rfl rfl (fun _ _ => rfl) ?_)
    refine zw_ret rfl (fun _ _ => rfl) ?_
    exact ⟨by rw [hC.1 j hj], I', A', B', rfl, ⟨h0, h1, h7, h8, hw1, hw, hh1, hh, hJ, hV, hC', hR⟩, hK⟩
set_option maxHeartbeats 4000000 in
set_option maxRecDepth 20000 in
theorem mLift (x : Int32) (hM : MH I A w h n V) : zC 5 sc 179 [.ref 47, .int x] (mm f I A B) (fun M r => r = some (.int (if 0 ≤ x ∧ x < nI h then vLi V x.toNatClampNeg else -1)) ∧ (M = mm f I A B ∨ ∃ A' B', M = mm f I A' B' ∧ Dr A B w h V A' B')) := by
  have hM' := hM
  obtain ⟨h0, h1, hw1, hw, hh1, hh, h4, hn, hv, hV⟩ := hM
  refine zc_of hkX11_lift rfl ?_
  repeat (refine zw_go rfl rfl (fun _ _ => rfl) ?_)
  refine zw_call rfl (fun _ _ => rfl) (mIsPick sc f I A B x h h1 hh1 hh) (by decide) ?_
  rintro M1 r1 ⟨rfl, rfl⟩
  repeat (refine zw_go rfl rfl (fun _ _ => rfl) ?_)
  refine zw_br rfl (fun _ _ => rfl) (fun (hc : bI (0 ≤ x ∧ x < nI h) = 0) => ?_) (fun (hc : ¬ (bI (0 ≤ x ∧ x < nI h) = 0)) => ?_)
  · repeat (refine zw_go rfl rfl (fun _ _ => rfl) ?_)
    refine zw_ret rfl (fun _ _ => rfl) ?_
    exact ⟨by rw [if_neg (bI_0.mp hc)]; try rfl, Or.inl rfl⟩
  · have he := bI_of hc
    rw [if_pos he]
    obtain ⟨j, hj, rfl⟩ := inR_of he (by omega)
    repeat (refine zw_go rfl rfl (fun _ _ => rfl) ?_)
    refine zw_call rfl (fun _ _ => rfl) (mD sc I A B f w h n V hM') (by decide) ?_
    rintro M1 r1 ⟨rfl, A', B', rfl, hD⟩
    repeat (refine zw_go rfl rfl (fun _ _ => rfl) ?_)
    refine zw_ix rfl (fun _ _ => rfl) (show vp_in (nI (j)) _ from vp_in_nI (by omega) (by omega)) ?_
    rw [show (nI (j)).toNatClampNeg = j from nI_clamp (by omega)]
    repeat (refine zw_go rfl rfl (fun _ _ => rfl) ?_)
    refine zw_ret rfl (fun _ _ => rfl) ?_
    exact ⟨by rw [hD.2.2.2.1 j hj], Or.inr ⟨A', B', rfl, hD⟩⟩
set_option maxHeartbeats 4000000 in
set_option maxRecDepth 20000 in
theorem xRow (x : Int32) (hW : WH w h I J A B) : zC 5 sc 127 [.ref 0, .int x] (xm I J A B tl) (fun M r => r = some (.long (if 0 ≤ x ∧ x < nI h then mk (fun e => vUp (A 3) e x.toNatClampNeg) w else -1)) ∧ ∃ I' A' B', M = xm I' J A' B' tl ∧ WH w h I' J A' B' ∧ WK I A B I' A' B') := by
  refine zc_of hkX10_row rfl ?_
  repeat (refine zw_go rfl rfl (fun _ _ => rfl) ?_)
  refine zw_call rfl (fun _ _ => rfl) (xWv sc I J A B tl w h hW) (by decide) ?_
  rintro M1 r1 ⟨rfl, I', A', B', rfl, hW', hC, hK⟩
  obtain ⟨h0, h1, h7, h8, hw1, hw, hh1, hh, hJ, hV, hC', hR⟩ := hW'
  repeat (refine zw_go rfl rfl (fun _ _ => rfl) ?_)
  refine zw_call rfl (fun _ _ => rfl) (xIsPick sc I' J A' B' tl x h h1) (by decide) ?_
  rintro M1 r1 ⟨rfl, rfl⟩
  repeat (refine zw_go rfl rfl (fun _ _ => rfl) ?_)
  refine zw_br rfl (fun _ _ => rfl) (fun (hc : bI (0 ≤ x ∧ x < nI h) = 0) => ?_) (fun (hc : ¬ (bI (0 ≤ x ∧ x < nI h) = 0)) => ?_)
  · repeat (refine zw_go rfl rfl (fun _ _ => rfl) ?_)
    refine zw_ret rfl (fun _ _ => rfl) ?_
    exact ⟨by rw [if_neg (bI_0.mp hc)]; try rfl, I', A', B', rfl, ⟨h0, h1, h7, h8, hw1, hw, hh1, hh, hJ, hV, hC', hR⟩, hK⟩
  · have he := bI_of hc
    rw [if_pos he]
    obtain ⟨j, hj, rfl⟩ := inR_of he (by omega)
    repeat (refine zw_go rfl rfl (fun _ _ => rfl) ?_)
    refine zw_ix rfl (fun _ _ => rfl) (show vp_in (nI (j)) _ from vp_in_nI (by omega) (by omega)) ?_
    rw [show (nI (j)).toNatClampNeg = j from nI_clamp (by omega)]
    repeat (refine zw_go rfl rfl (fun _ _ => rfl) ?_)
    refine zw_ret rfl (fun _ _ => rfl) ?_
    exact ⟨by rw [hC.2.1 j hj], I', A', B', rfl, ⟨h0, h1, h7, h8, hw1, hw, hh1, hh, hJ, hV, hC', hR⟩, hK⟩
set_option maxHeartbeats 4000000 in
set_option maxRecDepth 20000 in
theorem mRow (x : Int32) (hM : MH I A w h n V) : zC 5 sc 180 [.ref 47, .int x] (mm f I A B) (fun M r => r = some (.long (if 0 ≤ x ∧ x < nI h then mk (fun e => vUp V e x.toNatClampNeg) w else -1)) ∧ (M = mm f I A B ∨ ∃ A' B', M = mm f I A' B' ∧ Dr A B w h V A' B')) := by
  have hM' := hM
  obtain ⟨h0, h1, hw1, hw, hh1, hh, h4, hn, hv, hV⟩ := hM
  refine zc_of hkX11_row rfl ?_
  repeat (refine zw_go rfl rfl (fun _ _ => rfl) ?_)
  refine zw_call rfl (fun _ _ => rfl) (mIsPick sc f I A B x h h1 hh1 hh) (by decide) ?_
  rintro M1 r1 ⟨rfl, rfl⟩
  repeat (refine zw_go rfl rfl (fun _ _ => rfl) ?_)
  refine zw_br rfl (fun _ _ => rfl) (fun (hc : bI (0 ≤ x ∧ x < nI h) = 0) => ?_) (fun (hc : ¬ (bI (0 ≤ x ∧ x < nI h) = 0)) => ?_)
  · repeat (refine zw_go rfl rfl (fun _ _ => rfl) ?_)
    refine zw_ret rfl (fun _ _ => rfl) ?_
    exact ⟨by rw [if_neg (bI_0.mp hc)]; try rfl, Or.inl rfl⟩
  · have he := bI_of hc
    rw [if_pos he]
    obtain ⟨j, hj, rfl⟩ := inR_of he (by omega)
    repeat (refine zw_go rfl rfl (fun _ _ => rfl) ?_)
    refine zw_call rfl (fun _ _ => rfl) (mD sc I A B f w h n V hM') (by decide) ?_
    rintro M1 r1 ⟨rfl, A', B', rfl, hD⟩
    repeat (refine zw_go rfl rfl (fun _ _ => rfl) ?_)
    refine zw_ix rfl (fun _ _ => rfl) (show vp_in (nI (j)) _ from vp_in_nI (by omega) (by omega)) ?_
    rw [show (nI (j)).toNatClampNeg = j from nI_clamp (by omega)]
    repeat (refine zw_go rfl rfl (fun _ _ => rfl) ?_)
    refine zw_ret rfl (fun _ _ => rfl) ?_
    exact ⟨by rw [hD.2.2.2.2.1 j hj], Or.inr ⟨A', B', rfl, hD⟩⟩
end
end
section
/-! counting bits: the JDK's bit counts -/
/-- how many places below n -/
def cnt (p : Nat → Bool) : Nat → Nat
  | 0 => 0
  | n + 1 => cnt p n + (if p n then 1 else 0)
theorem cnt_cong {p q : Nat → Bool} : ∀ {n : Nat}, (∀ i, i < n → p i = q i) → cnt p n = cnt q n := by
  intro n
  induction n with
  | zero => intro _; rfl
  | succ n ih => intro h; rw [cnt, cnt, h n (by omega), ih (fun i hi => h i (by omega))]
theorem cnt_le {p : Nat → Bool} : ∀ {n : Nat}, cnt p n ≤ n := by
  intro n
  induction n with
  | zero => exact Nat.le_refl _
  | succ n ih => rw [cnt]; split <;> omega
theorem cnt_0 {p : Nat → Bool} : ∀ {n : Nat}, (∀ i, i < n → p i = false) → cnt p n = 0 := by
  intro n
  induction n with
  | zero => intro _; rfl
  | succ n ih => intro h; rw [cnt, h n (by omega), ih (fun i hi => h i (by omega))]; rfl
theorem cnt_app {p : Nat → Bool} {a : Nat} : ∀ {b : Nat}, cnt p (a + b) = cnt p a + cnt (fun i => p (a + i)) b := by
  intro b
  induction b with
  | zero => rfl
  | succ b ih => rw [← Nat.add_assoc, cnt, ih, cnt]; omega
theorem cnt_mk {p : Nat → Bool} {n : Nat} (hn : n ≤ 64) : cnt (lb (mk p n)) 64 = cnt p n := by
  have e : (64 : Nat) = n + (64 - n) := by omega
  rw [e, cnt_app, cnt_0 (n := 64 - n) (fun i hi => by rw [lb_mk hn, decide_eq_false (by omega), Bool.false_and]), Nat.add_zero]
  exact cnt_cong (fun i hi => by rw [lb_mk hn]; simp [hi])
/-- bytes of a number, each one's bits counted -/
def m55 : Nat → Nat
  | 0 => 0
  | k + 1 => 0x55 + 256 * m55 k
def m33 : Nat → Nat
  | 0 => 0
  | k + 1 => 0x33 + 256 * m33 k
def m0f : Nat → Nat
  | 0 => 0
  | k + 1 => 0x0f + 256 * m0f k
theorem and_split {lo hi m M : Nat} (h1 : lo < 256) (h2 : m < 256) : (lo + 256 * hi) &&& (m + 256 * M) = (lo &&& m) + 256 * (hi &&& M) := by
  have h3 : lo &&& m < 256 := Nat.lt_of_le_of_lt Nat.and_le_left h1
  refine Nat.eq_of_testBit_eq (fun j => ?_)
  rw [Nat.testBit_and, Nat.add_comm lo, Nat.add_comm m, Nat.add_comm (lo &&& m), show 256 * hi = 2 ^ 8 * hi from rfl, show 256 * M = 2 ^ 8 * M from rfl, show 256 * (hi &&& M) = 2 ^ 8 * (hi &&& M) from rfl, Nat.testBit_two_pow_mul_add _ h1, Nat.testBit_two_pow_mul_add _ h2, Nat.testBit_two_pow_mul_add _ h3]
  by_cases h : j < 8
  · simp [h]
  · simp [h]
def b1 (a : Nat) : Nat := a - ((a / 2) &&& 0x55)
def b2 (a : Nat) : Nat := (a &&& 0x33) + ((a / 4) &&& 0x33)
def b3 (a : Nat) : Nat := (a + a / 16) &&& 0x0f
def s1 (k x : Nat) : Nat := x - ((x / 2) &&& m55 k)
def s2 (k x : Nat) : Nat := (x &&& m33 k) + ((x / 4) &&& m33 k)
def s3 (k x : Nat) : Nat := (x + x / 16) &&& m0f k
theorem b1_lt : ∀ a, a < 256 → b1 a < 256 := by decide +kernel
theorem b2_lt : ∀ a, a < 256 → b2 a ≤ 102 ∧ b2 a % 16 ≤ 6 := by decide +kernel
theorem n55 : ∀ u, u < 128 → ∀ v, v < 2 → (u + 128 * v) &&& 0x55 = u &&& 0x55 := by decide +kernel
theorem n33 : ∀ u, u < 64 → ∀ v, v < 4 → (u + 64 * v) &&& 0x33 = u &&& 0x33 := by decide +kernel
theorem n0f (u v : Nat) : (u + 16 * v) &&& 0x0f = u &&& 0x0f := by
  rw [show (0x0f : Nat) = 2 ^ 4 - 1 from rfl, Nat.and_two_pow_sub_one_eq_mod, Nat.and_two_pow_sub_one_eq_mod]
  omega
theorem s1_s {k a y : Nat} (ha : a < 256) : s1 (k + 1) (a + 256 * y) = b1 a + 256 * s1 k y := by
  unfold s1 b1
  rw [m55, show (a + 256 * y) / 2 = (a / 2 + 128 * (y % 2)) + 256 * (y / 2) by omega, and_split (by omega) (by decide), n55 (a / 2) (by omega) (y % 2) (by omega)]
  have g1 : (a / 2) &&& 0x55 ≤ a / 2 := Nat.and_le_left
  have g2 : (y / 2) &&& m55 k ≤ y / 2 := Nat.and_le_left
  omega
theorem s2_s {k a y : Nat} (ha : a < 256) : s2 (k + 1) (a + 256 * y) = b2 a + 256 * s2 k y := by
  unfold s2 b2
  rw [m33, show (a + 256 * y) / 4 = (a / 4 + 64 * (y % 4)) + 256 * (y / 4) by omega, and_split (by omega) (by decide), and_split (by omega) (by decide), n33 (a / 4) (by omega) (y % 4) (by omega)]
  omega
theorem s3_s {k a y : Nat} (ha : a ≤ 102) (hy : y % 16 ≤ 6) : s3 (k + 1) (a + 256 * y) = b3 a + 256 * s3 k y := by
  unfold s3 b3
  rw [m0f, show (a + 256 * y) + (a + 256 * y) / 16 = (a + a / 16 + 16 * (y % 16)) + 256 * (y + y / 16) by omega, and_split (by omega) (by decide), n0f]
/-- the bits of each byte -/
def bs : Nat → Nat → Nat
  | 0, _ => 0
  | k + 1, x => b3 (b2 (b1 (x % 256))) + 256 * bs k (x / 256)
theorem s2_16 : ∀ {k x : Nat}, x < 256 ^ k → s2 k (s1 k x) % 16 ≤ 6 := by
  intro k
  cases k with
  | zero => intro x hx; have e : x = 0 := by rw [Nat.pow_zero] at hx; omega
            subst e; decide
  | succ k =>
    intro x hx
    have e : x = x % 256 + 256 * (x / 256) := by omega
    rw [e, s1_s (by omega), s2_s (b1_lt _ (by omega))]
    have := (b2_lt (b1 (x % 256)) (b1_lt _ (by omega))).2
    omega
theorem s_bs : ∀ {k x : Nat}, x < 256 ^ k → s3 k (s2 k (s1 k x)) = bs k x := by
  intro k
  induction k with
  | zero => intro x hx; have e : x = 0 := by rw [Nat.pow_zero] at hx; omega
            subst e; decide
  | succ k ih =>
    intro x hx
    have e : x = x % 256 + 256 * (x / 256) := by omega
    have hx2 : x / 256 < 256 ^ k := by rw [Nat.pow_succ] at hx; exact Nat.div_lt_of_lt_mul (by rw [Nat.mul_comm]; exact hx)
    have h2 := b2_lt (b1 (x % 256)) (b1_lt _ (by omega))
    rw [bs, ← ih hx2]
    rw [show s1 (k + 1) x = b1 (x % 256) + 256 * s1 k (x / 256) from by rw [← s1_s (by omega)]; exact congrArg _ e]
    rw [s2_s (b1_lt _ (by omega)), s3_s h2.1 (s2_16 hx2)]
/-- a byte's bits -/
theorem b_cnt : ∀ a, a < 256 → b3 (b2 (b1 a)) = cnt (fun i => a.testBit i) 8 := by decide +kernel
theorem cnt_byte (x j : Nat) : cnt (fun i => (x / 256 ^ j % 256).testBit i) 8 = cnt (fun i => x.testBit (8 * j + i)) 8 := by
  refine cnt_cong (fun i hi => ?_)
  rw [show (256 : Nat) = 2 ^ 8 from rfl, ← Nat.pow_mul, Nat.testBit_mod_two_pow, Nat.testBit_div_two_pow, Nat.add_comm]
  simp [hi]
/-- x >>> k of a long -/
def us (x : Int64) (k : Nat) : Int64 := (x.toUInt64 >>> ((nI k).toInt64.toUInt64 &&& Int64.toUInt64 63)).toInt64
/-- a long's word as a number -/
def tn (x : Int64) : Nat := x.toBitVec.toNat
theorem tn_lt (x : Int64) : tn x < 2 ^ 64 := x.toBitVec.isLt
theorem tn_us (x : Int64) {k : Nat} (hk : k < 64) : tn (us x k) = tn x / 2 ^ k := by
  unfold tn us
  have e : (x.toUInt64 >>> ((nI k).toInt64.toUInt64 &&& Int64.toUInt64 63)).toInt64.toBitVec = x.toBitVec >>> (((nI k).toInt64.toUInt64 &&& Int64.toUInt64 63).toBitVec % 64).toNat := UInt64.toBitVec_shiftRight _ _
  rw [e, sh_u k hk, BitVec.toNat_ushiftRight, Nat.shiftRight_eq_div_pow]
theorem tn_and (x y : Int64) : tn (x &&& y) = tn x &&& tn y := by unfold tn; rw [Int64.toBitVec_and, BitVec.toNat_and]
theorem tn_add {x y : Int64} (h : tn x + tn y < 2 ^ 64) : tn (x + y) = tn x + tn y := by
  unfold tn at h ⊢
  rw [Int64.toBitVec_add, BitVec.toNat_add, Nat.mod_eq_of_lt h]
theorem tn_sub {x y : Int64} (h : tn y ≤ tn x) : tn (x - y) = tn x - tn y := by
  unfold tn at h ⊢
  rw [Int64.toBitVec_sub, BitVec.toNat_sub_of_le (BitVec.le_def.mpr h)]
theorem cnt_tn (x : Int64) (n : Nat) : cnt (lb x) n = cnt (fun i => (tn x).testBit i) n := rfl
def bc1 (x : Int64) : Int64 := x - (us x 1 &&& 6148914691236517205)
def bc2 (x : Int64) : Int64 := (x &&& 3689348814741910323) + (us x 2 &&& 3689348814741910323)
def bc3 (x : Int64) : Int64 := (x + us x 4) &&& 1085102592571150095
def bc4 (x : Int64) : Int64 := x + us x 8
def bc5 (x : Int64) : Int64 := x + us x 16
def bc6 (x : Int64) : Int64 := x + us x 32
theorem bc_s1 (x : Int64) : tn (bc1 x) = s1 8 (tn x) := by
  unfold bc1 s1
  have e : tn (us x 1 &&& 6148914691236517205) = (tn x / 2) &&& m55 8 := by
    rw [tn_and, tn_us x (by omega), show tn 6148914691236517205 = m55 8 from by decide +kernel]
  have l : (tn x / 2) &&& m55 8 ≤ tn x / 2 := Nat.and_le_left
  rw [tn_sub (by omega), e]
theorem bc_s2 (x : Int64) : tn (bc2 x) = s2 8 (tn x) := by
  unfold bc2 s2
  have c : tn 3689348814741910323 = m33 8 := by decide +kernel
  have m : m33 8 = 3689348814741910323 := by decide +kernel
  have e1 : tn (x &&& 3689348814741910323) = tn x &&& m33 8 := by rw [tn_and, c]
  have e2 : tn (us x 2 &&& 3689348814741910323) = (tn x / 4) &&& m33 8 := by rw [tn_and, tn_us x (by omega), c]
  have l1 : tn x &&& m33 8 ≤ m33 8 := Nat.and_le_right
  have l2 : (tn x / 4) &&& m33 8 ≤ m33 8 := Nat.and_le_right
  rw [tn_add (by omega), e1, e2]
theorem bc_s3 (x : Int64) (h : tn x + tn x / 16 < 2 ^ 64) : tn (bc3 x) = s3 8 (tn x) := by
  unfold bc3 s3
  have e : tn (us x 4) = tn x / 16 := tn_us x (by omega)
  rw [tn_and, tn_add (by omega), e, show tn 1085102592571150095 = m0f 8 from by decide +kernel]
theorem dv {a b : Nat} (h : a < 256) : (a + 256 * b) / 256 = b := by omega
theorem bc_add {x : Int64} {k r : Nat} (hk : k < 64) (h1 : tn x / 2 ^ k = r) (h : tn x + r < 2 ^ 64) : tn (x + us x k) = tn x + r := by
  have e : tn (us x k) = r := (tn_us x hk).trans h1
  rw [tn_add (by rw [e]; exact h), e]
theorem bc_sum {x : Int64} {c0 c1 c2 c3 c4 c5 c6 c7 : Nat} (h : tn x = c0 + 256 * (c1 + 256 * (c2 + 256 * (c3 + 256 * (c4 + 256 * (c5 + 256 * (c6 + 256 * c7))))))) (h0 : c0 ≤ 8) (h1 : c1 ≤ 8) (h2 : c2 ≤ 8) (h3 : c3 ≤ 8) (h4 : c4 ≤ 8) (h5 : c5 ≤ 8) (h6 : c6 ≤ 8) (h7 : c7 ≤ 8) : tn (bc6 (bc5 (bc4 x))) % 128 = c0 + c1 + c2 + c3 + c4 + c5 + c6 + c7 := by
  have f4 : tn (bc4 x) = (c0 + c1) + 256 * ((c1 + c2) + 256 * ((c2 + c3) + 256 * ((c3 + c4) + 256 * ((c4 + c5) + 256 * ((c5 + c6) + 256 * ((c6 + c7) + 256 * c7)))))) := by
    have d : tn x / 2 ^ 8 = c1 + 256 * (c2 + 256 * (c3 + 256 * (c4 + 256 * (c5 + 256 * (c6 + 256 * c7))))) := by rw [h]; exact dv (by omega)
    unfold bc4
    rw [bc_add (by omega) d (by rw [h]; omega), h]
    omega
  have d5 : tn (bc4 x) / 2 ^ 16 = (c2 + c3) + 256 * ((c3 + c4) + 256 * ((c4 + c5) + 256 * ((c5 + c6) + 256 * ((c6 + c7) + 256 * c7)))) := by
    rw [f4, show (2 : Nat) ^ 16 = 256 * 256 from rfl, ← Nat.div_div_eq_div_mul, dv (by omega), dv (by omega)]
  have f5 : tn (bc5 (bc4 x)) = (c0 + c1 + c2 + c3) + 256 * ((c1 + c2 + c3 + c4) + 256 * ((c2 + c3 + c4 + c5) + 256 * ((c3 + c4 + c5 + c6) + 256 * ((c4 + c5 + c6 + c7) + 256 * ((c5 + c6 + c7) + 256 * ((c6 + c7) + 256 * c7)))))) := by
    unfold bc5
    rw [bc_add (by omega) d5 (by rw [f4]; clear d5 f4 h; omega), f4]
    clear d5 f4 h; omega
  have d6 : tn (bc5 (bc4 x)) / 2 ^ 32 = (c4 + c5 + c6 + c7) + 256 * ((c5 + c6 + c7) + 256 * ((c6 + c7) + 256 * c7)) := by
    rw [f5, show (2 : Nat) ^ 32 = 256 * 256 * 256 * 256 from rfl, ← Nat.div_div_eq_div_mul, ← Nat.div_div_eq_div_mul, ← Nat.div_div_eq_div_mul, dv (by omega), dv (by omega), dv (by omega), dv (by omega)]
  have e6 : tn (bc6 (bc5 (bc4 x))) = tn (bc5 (bc4 x)) + ((c4 + c5 + c6 + c7) + 256 * ((c5 + c6 + c7) + 256 * ((c6 + c7) + 256 * c7))) := by
    unfold bc6
    exact bc_add (by omega) d6 (by rw [f5]; clear d6 f5 d5 f4 h; omega)
  have e7 : tn (bc6 (bc5 (bc4 x))) = (c0 + c1 + c2 + c3 + c4 + c5 + c6 + c7) + 128 * (2 * (((c1 + c2 + c3 + c4) + 256 * ((c2 + c3 + c4 + c5) + 256 * ((c3 + c4 + c5 + c6) + 256 * ((c4 + c5 + c6 + c7) + 256 * ((c5 + c6 + c7) + 256 * ((c6 + c7) + 256 * c7)))))) + ((c5 + c6 + c7) + 256 * ((c6 + c7) + 256 * c7)))) := by
    rw [e6, f5]; clear e6 d6 f5 d5 f4 h; omega
  rw [e7, Nat.add_mul_mod_self_left, Nat.mod_eq_of_lt (by clear e7 e6 d6 f5 d5 f4 h; omega)]
theorem bc_all (x : Int64) : tn (bc6 (bc5 (bc4 (bc3 (bc2 (bc1 x)))))) % 128 = cnt (lb x) 64 := by
  have m : m33 8 = 3689348814741910323 := by decide +kernel
  have hb : tn (bc2 (bc1 x)) ≤ 2 * 3689348814741910323 := by
    rw [bc_s2, s2]
    have l1 : tn (bc1 x) &&& m33 8 ≤ m33 8 := Nat.and_le_right
    have l2 : (tn (bc1 x) / 4) &&& m33 8 ≤ m33 8 := Nat.and_le_right
    omega
  have e3 : tn (bc3 (bc2 (bc1 x))) = bs 8 (tn x) := by
    rw [bc_s3 _ (by omega), bc_s2, bc_s1]
    exact s_bs (Nat.lt_of_lt_of_le (tn_lt x) (by decide))
  have hby : ∀ j, b3 (b2 (b1 (tn x / 256 ^ j % 256))) = cnt (fun i => lb x (8 * j + i)) 8 := fun j => (b_cnt _ (Nat.mod_lt _ (by decide))).trans (cnt_byte (tn x) j)
  have e4 : bs 8 (tn x) = cnt (fun i => lb x (8 * 0 + i)) 8 + 256 * (cnt (fun i => lb x (8 * 1 + i)) 8 + 256 * (cnt (fun i => lb x (8 * 2 + i)) 8 + 256 * (cnt (fun i => lb x (8 * 3 + i)) 8 + 256 * (cnt (fun i => lb x (8 * 4 + i)) 8 + 256 * (cnt (fun i => lb x (8 * 5 + i)) 8 + 256 * (cnt (fun i => lb x (8 * 6 + i)) 8 + 256 * cnt (fun i => lb x (8 * 7 + i)) 8)))))) := by
    rw [← hby 0, ← hby 1, ← hby 2, ← hby 3, ← hby 4, ← hby 5, ← hby 6, ← hby 7]
    simp only [bs, Nat.div_div_eq_div_mul, Nat.pow_zero, Nat.div_one, show 256 ^ 1 = 256 from rfl, show 256 ^ 2 = 256 * 256 from rfl, show 256 ^ 3 = 256 * 256 * 256 from rfl, show 256 ^ 4 = 256 * 256 * 256 * 256 from rfl, show 256 ^ 5 = 256 * 256 * 256 * 256 * 256 from rfl, show 256 ^ 6 = 256 * 256 * 256 * 256 * 256 * 256 from rfl, show 256 ^ 7 = 256 * 256 * 256 * 256 * 256 * 256 * 256 from rfl, Nat.mul_zero, Nat.add_zero]
  rw [bc_sum (e3.trans e4) cnt_le cnt_le cnt_le cnt_le cnt_le cnt_le cnt_le cnt_le]
  have e : ∀ a, cnt (lb x) (a + 8) = cnt (lb x) a + cnt (fun i => lb x (a + i)) 8 := fun a => cnt_app
  rw [show (64 : Nat) = 56 + 8 from rfl, e 56, show (56 : Nat) = 48 + 8 from rfl, e 48, show (48 : Nat) = 40 + 8 from rfl, e 40, show (40 : Nat) = 32 + 8 from rfl, e 32, show (32 : Nat) = 24 + 8 from rfl, e 24, show (24 : Nat) = 16 + 8 from rfl, e 16, show (16 : Nat) = 8 + 8 from rfl, e 8]
  simp only [Nat.mul_zero, Nat.zero_add]
theorem and127 (x : Int64) {q : Nat} (h : tn x % 128 = q) : x.toInt32 &&& 127 = nI q := by
  refine Int32.toBitVec_inj.mp (BitVec.eq_of_toNat_eq ?_)
  have e : (x.toInt32 &&& 127).toBitVec = x.toBitVec.signExtend 32 &&& 127#32 := rfl
  have e2 : (x.toBitVec.signExtend 32) = x.toBitVec.setWidth 32 := BitVec.signExtend_eq_setWidth_of_le _ (by decide)
  rw [e, e2, BitVec.toNat_and, BitVec.toNat_setWidth]
  show (tn x % 2 ^ 32) &&& (2 ^ 7 - 1) = (BitVec.ofNat 32 q).toNat
  rw [Nat.and_two_pow_sub_one_eq_mod, BitVec.toNat_ofNat]
  omega
set_option maxHeartbeats 4000000 in
set_option maxRecDepth 20000 in
theorem cBitL (sc : sm_S) (M : sm_M) (x : Int64) : zC 1 sc 253 [.long x] M (zR M (.int (nI (cnt (lb x) 64)))) := by
  refine zc_of hkJ13_bitCount_95d88 rfl ?_
  repeat (refine zw_go rfl rfl (fun _ _ => rfl) ?_)
  refine zw_ret rfl (fun _ _ => rfl) ?_
  refine ⟨rfl, ?_⟩
  rw [← and127 _ (bc_all x)]
  rfl
end
section
/-! the JDK's bit count of an int -/
def usI (x : Int32) (k : Nat) : Int32 := (x.toUInt32 >>> ((nI k).toUInt32 &&& Int32.toUInt32 31)).toInt32
def tnI (x : Int32) : Nat := x.toBitVec.toNat
theorem tnI_lt (x : Int32) : tnI x < 2 ^ 32 := x.toBitVec.isLt
theorem sh_ui : ∀ i, i < 32 → (((nI i).toUInt32 &&& Int32.toUInt32 31).toBitVec % 32).toNat = i := by decide +kernel
theorem tnI_us (x : Int32) {k : Nat} (hk : k < 32) : tnI (usI x k) = tnI x / 2 ^ k := by
  unfold tnI usI
  have e : (x.toUInt32 >>> ((nI k).toUInt32 &&& Int32.toUInt32 31)).toInt32.toBitVec = x.toBitVec >>> (((nI k).toUInt32 &&& Int32.toUInt32 31).toBitVec % 32).toNat := UInt32.toBitVec_shiftRight _ _
  rw [e, sh_ui k hk, BitVec.toNat_ushiftRight, Nat.shiftRight_eq_div_pow]
theorem tnI_and (x y : Int32) : tnI (x &&& y) = tnI x &&& tnI y := by unfold tnI; rw [Int32.toBitVec_and, BitVec.toNat_and]
theorem tnI_add {x y : Int32} (h : tnI x + tnI y < 2 ^ 32) : tnI (x + y) = tnI x + tnI y := by
  unfold tnI at h ⊢
  rw [Int32.toBitVec_add, BitVec.toNat_add, Nat.mod_eq_of_lt h]
theorem tnI_sub {x y : Int32} (h : tnI y ≤ tnI x) : tnI (x - y) = tnI x - tnI y := by
  unfold tnI at h ⊢
  rw [Int32.toBitVec_sub, BitVec.toNat_sub_of_le (BitVec.le_def.mpr h)]
def bi1 (x : Int32) : Int32 := x - (usI x 1 &&& 1431655765)
def bi2 (x : Int32) : Int32 := (x &&& 858993459) + (usI x 2 &&& 858993459)
def bi3 (x : Int32) : Int32 := (x + usI x 4) &&& 252645135
def bi4 (x : Int32) : Int32 := x + usI x 8
def bi5 (x : Int32) : Int32 := x + usI x 16
theorem bi_s1 (x : Int32) : tnI (bi1 x) = s1 4 (tnI x) := by
  unfold bi1 s1
  have e : tnI (usI x 1 &&& 1431655765) = (tnI x / 2) &&& m55 4 := by
    rw [tnI_and, tnI_us x (by omega), show tnI 1431655765 = m55 4 from by decide +kernel]
  have l : (tnI x / 2) &&& m55 4 ≤ tnI x / 2 := Nat.and_le_left
  rw [tnI_sub (by omega), e]
theorem bi_s2 (x : Int32) : tnI (bi2 x) = s2 4 (tnI x) := by
  unfold bi2 s2
  have c : tnI 858993459 = m33 4 := by decide +kernel
  have m : m33 4 = 858993459 := by decide +kernel
  have e1 : tnI (x &&& 858993459) = tnI x &&& m33 4 := by rw [tnI_and, c]
  have e2 : tnI (usI x 2 &&& 858993459) = (tnI x / 4) &&& m33 4 := by rw [tnI_and, tnI_us x (by omega), c]
  have l1 : tnI x &&& m33 4 ≤ m33 4 := Nat.and_le_right
  have l2 : (tnI x / 4) &&& m33 4 ≤ m33 4 := Nat.and_le_right
  rw [tnI_add (by omega), e1, e2]
theorem bi_s3 (x : Int32) (h : tnI x + tnI x / 16 < 2 ^ 32) : tnI (bi3 x) = s3 4 (tnI x) := by
  unfold bi3 s3
  have e : tnI (usI x 4) = tnI x / 16 := tnI_us x (by omega)
  rw [tnI_and, tnI_add (by omega), e, show tnI 252645135 = m0f 4 from by decide +kernel]
theorem bi_add {x : Int32} {k r : Nat} (hk : k < 32) (h1 : tnI x / 2 ^ k = r) (h : tnI x + r < 2 ^ 32) : tnI (x + usI x k) = tnI x + r := by
  have e : tnI (usI x k) = r := (tnI_us x hk).trans h1
  rw [tnI_add (by rw [e]; exact h), e]
theorem bi_sum {x : Int32} {c0 c1 c2 c3 : Nat} (h : tnI x = c0 + 256 * (c1 + 256 * (c2 + 256 * c3))) (h0 : c0 ≤ 8) (h1 : c1 ≤ 8) (h2 : c2 ≤ 8) (h3 : c3 ≤ 8) : tnI (bi5 (bi4 x)) % 64 = c0 + c1 + c2 + c3 := by
  have f4 : tnI (bi4 x) = (c0 + c1) + 256 * ((c1 + c2) + 256 * ((c2 + c3) + 256 * c3)) := by
    have d : tnI x / 2 ^ 8 = c1 + 256 * (c2 + 256 * c3) := by rw [h]; exact dv (by omega)
    unfold bi4
    rw [bi_add (by omega) d (by rw [h]; omega), h]
    omega
  have d5 : tnI (bi4 x) / 2 ^ 16 = (c2 + c3) + 256 * c3 := by
    rw [f4, show (2 : Nat) ^ 16 = 256 * 256 from rfl, ← Nat.div_div_eq_div_mul, dv (by omega), dv (by omega)]
  have f5 : tnI (bi5 (bi4 x)) = (c0 + c1 + c2 + c3) + 64 * (4 * ((c1 + c2 + c3) + 256 * ((c2 + c3) + 256 * c3))) := by
    unfold bi5
    rw [bi_add (by omega) d5 (by rw [f4]; clear d5 f4 h; omega), f4]
    clear d5 f4 h; omega
  rw [f5, Nat.add_mul_mod_self_left, Nat.mod_eq_of_lt (by clear f5 d5 f4 h; omega)]
theorem bi_all (x : Int32) : tnI (bi5 (bi4 (bi3 (bi2 (bi1 x))))) % 64 = cnt (ib x) 32 := by
  have m : m33 4 = 858993459 := by decide +kernel
  have hb : tnI (bi2 (bi1 x)) ≤ 2 * 858993459 := by
    rw [bi_s2, s2]
    have l1 : tnI (bi1 x) &&& m33 4 ≤ m33 4 := Nat.and_le_right
    have l2 : (tnI (bi1 x) / 4) &&& m33 4 ≤ m33 4 := Nat.and_le_right
    omega
  have e3 : tnI (bi3 (bi2 (bi1 x))) = bs 4 (tnI x) := by
    rw [bi_s3 _ (by omega), bi_s2, bi_s1]
    exact s_bs (Nat.lt_of_lt_of_le (tnI_lt x) (by decide))
  have hby : ∀ j, b3 (b2 (b1 (tnI x / 256 ^ j % 256))) = cnt (fun i => ib x (8 * j + i)) 8 := fun j => (b_cnt _ (Nat.mod_lt _ (by decide))).trans (cnt_byte (tnI x) j)
  have e4 : bs 4 (tnI x) = cnt (fun i => ib x (8 * 0 + i)) 8 + 256 * (cnt (fun i => ib x (8 * 1 + i)) 8 + 256 * (cnt (fun i => ib x (8 * 2 + i)) 8 + 256 * cnt (fun i => ib x (8 * 3 + i)) 8)) := by
    rw [← hby 0, ← hby 1, ← hby 2, ← hby 3]
    simp only [bs, Nat.div_div_eq_div_mul, Nat.pow_zero, Nat.div_one, show 256 ^ 1 = 256 from rfl, show 256 ^ 2 = 256 * 256 from rfl, show 256 ^ 3 = 256 * 256 * 256 from rfl, Nat.mul_zero, Nat.add_zero]
  rw [bi_sum (e3.trans e4) cnt_le cnt_le cnt_le cnt_le]
  have e : ∀ a, cnt (ib x) (a + 8) = cnt (ib x) a + cnt (fun i => ib x (a + i)) 8 := fun a => cnt_app
  rw [show (32 : Nat) = 24 + 8 from rfl, e 24, show (24 : Nat) = 16 + 8 from rfl, e 16, show (16 : Nat) = 8 + 8 from rfl, e 8]
  simp only [Nat.mul_zero, Nat.zero_add]
theorem and63 (x : Int32) {q : Nat} (h : tnI x % 64 = q) : x &&& 63 = nI q := by
  refine Int32.toBitVec_inj.mp (BitVec.eq_of_toNat_eq ?_)
  have e : (x &&& 63).toBitVec = x.toBitVec &&& 63#32 := rfl
  rw [e, BitVec.toNat_and]
  show tnI x &&& (2 ^ 6 - 1) = (BitVec.ofNat 32 q).toNat
  rw [Nat.and_two_pow_sub_one_eq_mod, BitVec.toNat_ofNat]
  omega
set_option maxHeartbeats 4000000 in
set_option maxRecDepth 20000 in
theorem cBitI (sc : sm_S) (M : sm_M) (x : Int32) : zC 1 sc 251 [.int x] M (zR M (.int (nI (cnt (ib x) 32)))) := by
  refine zc_of hkJ6_bitCount_0f7a4 rfl ?_
  repeat (refine zw_go rfl rfl (fun _ _ => rfl) ?_)
  refine zw_ret rfl (fun _ _ => rfl) ?_
  refine ⟨rfl, ?_⟩
  rw [← and63 _ (bi_all x)]
  rfl
/-! the lowest bit of a word; numbers of trailing zeros; unlike -/
/-- the first place, below n, or n -/
def fst0 (p : Nat → Bool) : Nat → Nat → Nat
  | _, 0 => 0
  | i, k + 1 => if p i then 0 else fst0 p (i + 1) k + 1
theorem sub1_bits {w x z : Nat} (hx : x < 2 ^ w) (hz : x.testBit z = true) (hl : ∀ i, i < z → x.testBit i = false) (i : Nat) : (x - 1).testBit i = if i < z then true else if i = z then false else x.testBit i := by
  have e : x = 2 ^ (z + 1) * (x / 2 ^ (z + 1)) + 2 ^ z := by
    have h1 : x % 2 ^ (z + 1) = 2 ^ z := by
      refine Nat.eq_of_testBit_eq (fun j => ?_)
      rw [Nat.testBit_mod_two_pow, Nat.testBit_two_pow]
      by_cases h1 : j < z
      · rw [hl j h1]; simp; omega
      · by_cases h2 : j = z
        · subst h2; rw [hz]; simp
        · rw [decide_eq_false (show ¬ j < z + 1 by omega), decide_eq_false (show ¬ z = j by omega)]; rfl
    have h2 := Nat.div_add_mod x (2 ^ (z + 1))
    omega
  have hp : 0 < 2 ^ z := Nat.two_pow_pos z
  have hq : 2 ^ z < 2 ^ (z + 1) := by rw [Nat.pow_succ]; omega
  have e2 : x - 1 = 2 ^ (z + 1) * (x / 2 ^ (z + 1)) + (2 ^ z - 1) := by omega
  rw [e2, Nat.testBit_two_pow_mul_add _ (by omega), Nat.testBit_two_pow_sub_one]
  by_cases h1 : i < z
  · rw [if_pos (by omega), if_pos h1]; simp [h1]
  · rw [if_neg h1]
    by_cases h2 : i = z
    · rw [if_pos (by omega), if_pos h2]; simp [h2]
    · rw [if_neg (by omega), if_neg h2, Nat.testBit_div_two_pow]
      congr 1; omega
theorem lb_sub1 {x : Int64} {z : Nat} (hz : lb x z = true) (hl : ∀ i, i < z → lb x i = false) (i : Nat) : lb (x - 1) i = if i < z then true else if i = z then false else lb x i := by
  have hp : 1 ≤ tn x := by
    have := Nat.ge_two_pow_of_testBit (x := tn x) hz
    have := Nat.two_pow_pos z
    omega
  show (tn (x - 1)).testBit i = _
  rw [tn_sub (y := 1) hp]
  exact sub1_bits (tn_lt x) hz hl i
theorem ib_sub1 {x : Int32} {z : Nat} (hz : ib x z = true) (hl : ∀ i, i < z → ib x i = false) (i : Nat) : ib (x - 1) i = if i < z then true else if i = z then false else ib x i := by
  have hp : 1 ≤ tnI x := by
    have := Nat.ge_two_pow_of_testBit (x := tnI x) hz
    have := Nat.two_pow_pos z
    omega
  show (tnI (x - 1)).testBit i = _
  rw [tnI_sub (y := 1) hp]
  exact sub1_bits (tnI_lt x) hz hl i
/-- a word that isn't 0 has a lowest bit -/
theorem low_ex {p : Nat → Bool} : ∀ {n : Nat}, (∃ i, i < n ∧ p i = true) → ∃ z, z < n ∧ p z = true ∧ ∀ i, i < z → p i = false := by
  intro n
  induction n with
  | zero => rintro ⟨i, h, _⟩; omega
  | succ n ih =>
    rintro ⟨i, h, hp⟩
    by_cases h2 : ∃ i, i < n ∧ p i = true
    · obtain ⟨z, h3, h4, h5⟩ := ih h2
      exact ⟨z, by omega, h4, h5⟩
    · have e : i = n := by
        rcases Nat.lt_or_ge i n with h3 | h3
        · exact absurd ⟨i, h3, hp⟩ h2
        · omega
      subst e
      exact ⟨i, by omega, hp, fun j hj => by
        cases hj2 : p j
        · rfl
        · exact absurd ⟨j, hj, hj2⟩ h2⟩
theorem lb_ne0 {x : Int64} (h : ¬ x = 0) : ∃ z, z < 64 ∧ lb x z = true ∧ ∀ i, i < z → lb x i = false := by
  refine low_ex ?_
  by_cases h2 : ∃ i, i < 64 ∧ lb x i = true
  · exact h2
  · exact absurd (lb_ext (fun i hi => by
      rw [lb_0]
      cases h3 : lb x i
      · rfl
      · exact absurd ⟨i, hi, h3⟩ h2)) h
/-- without its lowest bit -/
theorem cnt_drop {p q : Nat → Bool} {z : Nat} (hz : p z = true) (hq : ∀ i, q i = (p i && !decide (i = z))) : ∀ {n : Nat}, z < n → cnt p n = cnt q n + 1 := by
  intro n
  induction n with
  | zero => intro h; omega
  | succ n ih =>
    intro h
    rw [cnt, cnt]
    by_cases h2 : z = n
    · subst h2
      rw [cnt_cong (q := q) (fun i hi => by rw [hq i]; simp; omega), hz, hq z]
      simp
    · rw [ih (by omega), hq n]
      have : ¬ n = z := by omega
      simp [this]
      omega
theorem cnt_clear {x : Int64} (h : ¬ x = 0) : cnt (lb x) 64 = cnt (lb (x &&& (x - 1))) 64 + 1 := by
  obtain ⟨z, h1, h2, h3⟩ := lb_ne0 h
  refine cnt_drop h2 (fun i => ?_) h1
  rw [lb_and, lb_sub1 h2 h3]
  by_cases h4 : i < z
  · rw [h3 i h4]; rfl
  · rw [if_neg h4]
    by_cases h5 : i = z
    · simp [h5]
    · simp [h5]
theorem lg_cmp_0 {x y : Int64} : lg_cmp x y = 0 ↔ x = y := by
  unfold lg_cmp
  by_cases h : x = y
  · subst h; simp
  · simp [h]
    split <;> simp
set_option maxHeartbeats 4000000 in
set_option maxRecDepth 20000 in
theorem mUnlike_loop (sc : sm_S) (M : sm_M) : ∀ (k : Nat) (x : Int64) (c : Nat), cnt (lb x) 64 = k → zW 0 sc miX11_unlike 8 [none, none, none, none, some (.int (nI c)), some (.long x), none] [] M (zR M (.int (nI (c + k)))) := by
  intro k
  induction k with
  | zero =>
    intro x c hx
    have h0 : x = 0 := by
      by_cases h : x = 0
      · exact h
      · have := cnt_clear h; omega
    refine zw_nx rfl (fun _ _ => rfl) ?_
    repeat (refine zw_go rfl rfl (fun _ _ => rfl) ?_)
    first | refine zw_br rfl (fun _ _ => rfl) (fun _ => ?_) (fun h9 => absurd (lg_cmp_0.mpr h0) h9) | refine zw_nx rfl (fun _ _ => rfl) ?_
    repeat (refine zw_go rfl rfl (fun _ _ => rfl) ?_)
    exact zw_ret rfl (fun _ _ => rfl) (⟨rfl, rfl⟩)
  | succ k ih =>
    intro x c hx
    have h0 : ¬ x = 0 := by
      intro h
      subst h
      rw [cnt_0 (fun i _ => lb_0 i)] at hx
      omega
    refine zw_nx rfl (fun _ _ => rfl) ?_
    repeat (refine zw_go rfl rfl (fun _ _ => rfl) ?_)
    first | refine zw_br rfl (fun _ _ => rfl) (fun h9 => absurd h9 (fun z => h0 (lg_cmp_0.mp z))) (fun _ => ?_) | refine zw_nx rfl (fun _ _ => rfl) ?_
    repeat (refine zw_go rfl rfl (fun _ _ => rfl) ?_)
    have h1 := ih (x &&& (x - 1)) (c + 1) (by have := cnt_clear h0; omega)
    rw [nI_succ, show c + 1 + k = c + (k + 1) by omega] at h1
    exact h1
set_option maxHeartbeats 4000000 in
set_option maxRecDepth 20000 in
theorem mUnlike (sc : sm_S) (M : sm_M) (x y : Int64) : zC 1 sc 239 [.long x, .long y] M (zR M (.int (nI (cnt (lb (x ^^^ y)) 64)))) := by
  refine zc_of hkX11_unlike rfl ?_
  repeat (refine zw_go rfl rfl (fun _ _ => rfl) ?_)
  have h := mUnlike_loop sc M _ (x ^^^ y) 0 rfl
  rw [Nat.zero_add] at h
  exact zw_kp h
end
